theorem m_1693dd83 : (.methodLink "StackHostModel" 387 y_M_checkBody : Cond) ∈ xt_tbl := xt_in (xt_t11 (List.mem_of_getElem? (i := 141) (by decide +kernel))) (by decide +kernel)
theorem m_d8460a8d : (.instanceMethod y_M_checkBody : Cond) ∈ xt_tbl := xt_in (xt_t11 (List.mem_of_getElem? (i := 143) (by decide +kernel))) (by decide +kernel)
theorem m_09d4fe2b : (.selects "StackHostModel" y_M_checkBody y_M_checkBody : Cond) ∈ xt_tbl := xt_in (xt_v11 (q := (⟨"StackHostModel", "checkBody", "(II)V"⟩, 97)) (List.mem_of_getElem? (i := 11) (by decide +kernel))) (by decide +kernel)
theorem m_b8730c5c : (.code y_M_checkBody b_M_checkBody 7 none : Cond) ∈ xt_tbl := xt_in (xt_t11 (List.mem_of_getElem? (i := 144) (by decide +kernel))) (by decide +kernel)
theorem m_08d6c6fb : (.methodLink "StackHostModel" 384 y_M_checkRows : Cond) ∈ xt_tbl := xt_in (xt_t11 (List.mem_of_getElem? (i := 137) (by decide +kernel))) (by decide +kernel)
theorem m_85271243 : (.instanceMethod y_M_checkRows : Cond) ∈ xt_tbl := xt_in (xt_t11 (List.mem_of_getElem? (i := 139) (by decide +kernel))) (by decide +kernel)
theorem m_290ca2b4 : (.selects "StackHostModel" y_M_checkRows y_M_checkRows : Cond) ∈ xt_tbl := xt_in (xt_v11 (q := (⟨"StackHostModel", "checkRows", "(I)V"⟩, 97)) (List.mem_of_getElem? (i := 10) (by decide +kernel))) (by decide +kernel)
theorem m_ce49079f : (.code y_M_checkRows b_M_checkRows 9 none : Cond) ∈ xt_tbl := xt_in (xt_t11 (List.mem_of_getElem? (i := 140) (by decide +kernel))) (by decide +kernel)
theorem m_370e1a04 : (.methodLink "StackHostModel" 381 y_M_checkStart : Cond) ∈ xt_tbl := xt_in (xt_t11 (List.mem_of_getElem? (i := 125) (by decide +kernel))) (by decide +kernel)
theorem m_3fa54e1e : (.instanceMethod y_M_checkStart : Cond) ∈ xt_tbl := xt_in (xt_t11 (List.mem_of_getElem? (i := 127) (by decide +kernel))) (by decide +kernel)
theorem m_29c617fd : (.selects "StackHostModel" y_M_checkStart y_M_checkStart : Cond) ∈ xt_tbl := xt_in (xt_v11 (q := (⟨"StackHostModel", "checkStart", "(I)V"⟩, 97)) (List.mem_of_getElem? (i := 7) (by decide +kernel))) (by decide +kernel)
theorem m_ff3b777c : (.code y_M_checkStart b_M_checkStart 7 none : Cond) ∈ xt_tbl := xt_in (xt_t11 (List.mem_of_getElem? (i := 128) (by decide +kernel))) (by decide +kernel)
theorem m_90fc0d63 : (.methodLink "StackHostModel" 378 y_M_checkExports : Cond) ∈ xt_tbl := xt_in (xt_t11 (List.mem_of_getElem? (i := 113) (by decide +kernel))) (by decide +kernel)
theorem m_e72c702c : (.instanceMethod y_M_checkExports : Cond) ∈ xt_tbl := xt_in (xt_t11 (List.mem_of_getElem? (i := 115) (by decide +kernel))) (by decide +kernel)
theorem m_414bdb82 : (.selects "StackHostModel" y_M_checkExports y_M_checkExports : Cond) ∈ xt_tbl := xt_in (xt_v11 (q := (⟨"StackHostModel", "checkExports", "(I)V"⟩, 97)) (List.mem_of_getElem? (i := 4) (by decide +kernel))) (by decide +kernel)
theorem m_6b463292 : (.code y_M_checkExports b_M_checkExports 6 none : Cond) ∈ xt_tbl := xt_in (xt_t11 (List.mem_of_getElem? (i := 116) (by decide +kernel))) (by decide +kernel)
theorem m_68992c1f : (.methodLink "StackHostModel" 375 y_M_checkImports : Cond) ∈ xt_tbl := xt_in (xt_t11 (List.mem_of_getElem? (i := 80) (by decide +kernel))) (by decide +kernel)
theorem m_19a441f2 : (.instanceMethod y_M_checkImports : Cond) ∈ xt_tbl := xt_in (xt_t11 (List.mem_of_getElem? (i := 82) (by decide +kernel))) (by decide +kernel)
theorem m_b0659508 : (.selects "StackHostModel" y_M_checkImports y_M_checkImports : Cond) ∈ xt_tbl := xt_in (xt_v10 (q := (⟨"StackHostModel", "checkImports", "(I)V"⟩, 97)) (List.mem_of_getElem? (i := 12) (by decide +kernel))) (by decide +kernel)
theorem m_266aa5ea : (.code y_M_checkImports b_M_checkImports 7 none : Cond) ∈ xt_tbl := xt_in (xt_t11 (List.mem_of_getElem? (i := 83) (by decide +kernel))) (by decide +kernel)
theorem nm_M_checkBody : xt_nm y_M_checkBody 2 := ⟨by decide +kernel, by decide +kernel⟩
theorem nm_M_checkRows : xt_nm y_M_checkRows 1 := ⟨by decide +kernel, by decide +kernel⟩
theorem nm_M_checkStart : xt_nm y_M_checkStart 1 := ⟨by decide +kernel, by decide +kernel⟩
theorem nm_M_checkExports : xt_nm y_M_checkExports 1 := ⟨by decide +kernel, by decide +kernel⟩
theorem nm_M_checkImports : xt_nm y_M_checkImports 1 := ⟨by decide +kernel, by decide +kernel⟩
set_option maxRecDepth 100000 in
def T_M_checkModule : List (Nat × Instr × Nat) := [(0, .iconst 0, 1), (1, .istore_n 2, 1), (2, .iload_n 2, 1), (3, .aload_n 0, 1), (4, .iload_n 1, 1), (5, .iconst 1, 1), (6, .invokevirtual 316, 3), (9, .if_icmp .ge 55, 3), (12, .aload_n 0, 1), (13, .getfield 193, 3), (16, .ifCond .ne 48, 3), (19, .aload_n 0, 1), (20, .iload_n 1, 1), (21, .iload_n 2, 1), (22, .invokevirtual 333, 3), (25, .istore_n 3, 1), (26, .aload_n 0, 1), (27, .aload_n 0, 1), (28, .getfield 202, 3), (31, .iload_n 3, 1), (32, .iadd, 1), (33, .putfield 202, 3), (36, .aload_n 0, 1), (37, .invokevirtual 218, 3), (40, .lconst 1, 1), (41, .lcmp, 1), (42, .ifCond .le 16, 3), (45, .aload_n 0, 1), (46, .bipush 28, 2), (48, .aload_n 0, 1), (49, .iload_n 1, 1), (50, .iconst 1, 1), (51, .iload_n 2, 1), (52, .invokevirtual 320, 3), (55, .invokevirtual 208, 3), (58, .iinc 2 1, 3), (61, .goto (-59), 3), (64, .aload_n 0, 1), (65, .getfield 193, 3), (68, .ifCond .ne 8, 3), (71, .aload_n 0, 1), (72, .iload_n 1, 1), (73, .invokevirtual 375, 3), (76, .iconst 0, 1), (77, .istore_n 2, 1), (78, .iload_n 2, 1), (79, .aload_n 0, 1), (80, .iload_n 1, 1), (81, .iconst 3, 1), (82, .invokevirtual 316, 3), (85, .if_icmp .ge 56, 3), (88, .aload_n 0, 1), (89, .getfield 193, 3), (92, .ifCond .ne 49, 3), (95, .aload_n 0, 1), (96, .iload_n 1, 1), (97, .aload_n 0, 1), (98, .iload_n 1, 1), (99, .iconst 3, 1), (100, .iload_n 2, 1), (101, .invokevirtual 320, 3), (104, .invokevirtual 324, 3), (107, .aload_n 0, 1), (108, .invokevirtual 218, 3), (111, .aload_n 0, 1), (112, .iload_n 1, 1), (113, .iconst 1, 1), (114, .invokevirtual 316, 3), (117, .i2l, 1), (118, .lcmp, 1), (119, .ifCond .lt 16, 3), (122, .aload_n 0, 1), (123, .bipush 20, 2), (125, .aload_n 0, 1), (126, .iload_n 1, 1), (127, .iconst 3, 1), (128, .iload_n 2, 1), (129, .invokevirtual 320, 3), (132, .invokevirtual 208, 3), (135, .iinc 2 1, 3), (138, .goto (-60), 3), (141, .iconst 0, 1), (142, .istore_n 2, 1), (143, .iload_n 2, 1), (144, .aload_n 0, 1), (145, .iload_n 1, 1), (146, .iconst 4, 1), (147, .invokevirtual 316, 3), (150, .if_icmp .ge 62, 3), (153, .aload_n 0, 1), (154, .getfield 193, 3), (157, .ifCond .ne 55, 3), (160, .aload_n 0, 1), (161, .iload_n 1, 1), (162, .aload_n 0, 1), (163, .iload_n 1, 1), (164, .iconst 4, 1), (165, .iload_n 2, 1), (166, .invokevirtual 320, 3), (169, .iconst 1, 1), (170, .iadd, 1), (171, .invokevirtual 324, 3), (174, .aload_n 0, 1), (175, .iconst 0, 1), (176, .aload_n 0, 1), (177, .iload_n 1, 1), (178, .iconst 4, 1), (179, .iload_n 2, 1), (180, .invokevirtual 320, 3), (183, .aload_n 0, 1), (184, .getfield 30, 3), (187, .iconst 4, 1), (188, .iload_n 1, 1), (189, .imul, 1), (190, .iconst 1, 1), (191, .iadd, 1), (192, .iaload, 1), (193, .iload_n 2, 1), (194, .iadd, 1), (195, .ifCond .le 7, 3), (198, .iconst 1, 1), (199, .goto 4, 3), (202, .iconst 0, 1), (203, .invokevirtual 354, 3), (206, .iinc 2 1, 3), (209, .goto (-66), 3), (212, .iconst 0, 1), (213, .istore_n 2, 1), (214, .iload_n 2, 1), (215, .aload_n 0, 1), (216, .iload_n 1, 1), (217, .iconst 5, 1), (218, .invokevirtual 316, 3), (221, .if_icmp .ge 60, 3), (224, .aload_n 0, 1), (225, .getfield 193, 3), (228, .ifCond .ne 53, 3), (231, .aload_n 0, 1), (232, .iload_n 1, 1), (233, .aload_n 0, 1), (234, .iload_n 1, 1), (235, .iconst 5, 1), (236, .iload_n 2, 1), (237, .invokevirtual 320, 3), (240, .invokevirtual 324, 3), (243, .aload_n 0, 1), (244, .iconst 1, 1), (245, .aload_n 0, 1), (246, .iload_n 1, 1), (247, .iconst 5, 1), (248, .iload_n 2, 1), (249, .invokevirtual 320, 3), (252, .aload_n 0, 1), (253, .getfield 30, 3), (256, .iconst 4, 1), (257, .iload_n 1, 1), (258, .imul, 1), (259, .iconst 2, 1), (260, .iadd, 1), (261, .iaload, 1), (262, .iload_n 2, 1), (263, .iadd, 1), (264, .ifCond .le 7, 3), (267, .iconst 1, 1), (268, .goto 4, 3), (271, .iconst 0, 1), (272, .invokevirtual 354, 3), (275, .iinc 2 1, 3), (278, .goto (-64), 3), (281, .iconst 0, 1), (282, .istore_n 2, 1), (283, .iload_n 2, 1), (284, .aload_n 0, 1), (285, .iload_n 1, 1), (286, .bipush 6, 2), (288, .invokevirtual 316, 3), (291, .if_icmp .ge 50, 3), (294, .aload_n 0, 1), (295, .getfield 193, 3), (298, .ifCond .ne 43, 3), (301, .aload_n 0, 1), (302, .iload_n 1, 1), (303, .aload_n 0, 1), (304, .iload_n 1, 1), (305, .bipush 6, 2), (307, .iload_n 2, 1), (308, .invokevirtual 320, 3), (311, .invokevirtual 324, 3), (314, .aload_n 0, 1), (315, .invokevirtual 212, 3), (318, .istore_n 3, 1), (319, .aload_n 0, 1), (320, .dup, 1), (321, .getfield 202, 3), (324, .iconst 1, 1), (325, .iadd, 1), (326, .putfield 202, 3), (329, .aload_n 0, 1), (330, .iload_n 1, 1), (331, .iload_n 3, 1), (332, .invokevirtual 372, 3), (335, .iinc 2 1, 3), (338, .goto (-55), 3), (341, .aload_n 0, 1), (342, .getfield 193, 3), (345, .ifCond .ne 8, 3), (348, .aload_n 0, 1), (349, .iload_n 1, 1), (350, .invokevirtual 378, 3), (353, .aload_n 0, 1), (354, .getfield 193, 3), (357, .ifCond .ne 8, 3), (360, .aload_n 0, 1), (361, .iload_n 1, 1), (362, .invokevirtual 381, 3), (365, .aload_n 0, 1), (366, .getfield 193, 3), (369, .ifCond .ne 8, 3), (372, .aload_n 0, 1), (373, .iload_n 1, 1), (374, .invokevirtual 384, 3), (377, .iconst 0, 1), (378, .istore_n 2, 1), (379, .iload_n 2, 1), (380, .aload_n 0, 1), (381, .iload_n 1, 1), (382, .bipush 10, 2), (384, .invokevirtual 316, 3), (387, .if_icmp .ge 22, 3), (390, .aload_n 0, 1), (391, .getfield 193, 3), (394, .ifCond .ne 15, 3), (397, .aload_n 0, 1), (398, .iload_n 1, 1), (399, .iload_n 2, 1), (400, .invokevirtual 387, 3), (403, .iinc 2 1, 3), (406, .goto (-27), 3), (409, .return_, 1)]
theorem D_M_checkModule : ∀ q ∈ T_M_checkModule, decode b_M_checkModule q.1 = .ok (q.2.1, q.2.2) := by decide +kernel

set_option maxHeartbeats 4000000 in
set_option maxRecDepth 100000 in
theorem am_M_checkModule_L409 (l : Launch) (hfl : l.flags = pinnedFlags ++ [noTraceFlag]) (D : va_G) (A : Nat → Prop) (σ MC MS : Nat) (h0 : xb_H) (Qr : xb_H → Prop) (h : xb_H) (hw : w_M_checkModule_L409 Qr h) : xb_am l D A σ 13 MC MS h0 (fun v h _ _ => v = none ∧ Qr h) (fun _ _ _ _ => False) y_M_checkModule.cls y_M_checkModule.name b_M_checkModule 4 ([] : List ExceptionTableEntry) none 409 [] [] h 0 0 := by
  unfold w_M_checkModule_L409 at hw
  intro p e s m args below meth c hC H locs ls k n hE hl hR hS hk hn
  obtain ⟨hx, hb, hown, hlocks, htab, hml, hr, hB, hA, hnm⟩ := id hC
  have hts := hB.1.1.at args
  exact xb_vret 0 0 hx hb hr hlocks (show k + 0 ≤ MC by omega) (show n + 0 ≤ MS by omega) hE hR hS (xb_d D_M_checkModule 238 rfl) hw

set_option maxHeartbeats 4000000 in
set_option maxRecDepth 100000 in
theorem am_M_checkModule_L379 (l : Launch) (hfl : l.flags = pinnedFlags ++ [noTraceFlag]) (D : va_G) (A : Nat → Prop) (σ MC MS : Nat) (h0 : xb_H) (Qr : xb_H → Prop) (n9 : Nat) : ∀ (x0 : Nat) (x1 : Int32) (x2 : Int32) (h : xb_H), w_M_checkModule_L379 Qr n9 x0 x1 x2 h → xb_am l D A σ 13 MC MS h0 (fun v h _ _ => v = none ∧ Qr h) (fun _ _ _ _ => False) y_M_checkModule.cls y_M_checkModule.name b_M_checkModule 4 ([] : List ExceptionTableEntry) none 379 [(0, .ref x0), (1, .int x1), (2, .int x2)] [] h 0 0 := by
  induction n9 with
  | zero => intro x0 x1 x2 h hw; exact False.elim hw
  | succ n9 ih =>
    intro x0 x1 x2 h hw
    unfold w_M_checkModule_L379 at hw
    intro p e s m args below meth c hC H locs ls k n hE hl hR hS hk hn
    obtain ⟨hx, hb, hown, hlocks, htab, hml, hr, hB, hA, hnm⟩ := id hC
    have hts := hB.1.1.at args
    refine lv_iload_n hx hb (xb_d D_M_checkModule 223 rfl) rfl (lv_at hl 2 rfl) ?_
    refine lv_aload_n hx hb (xb_d D_M_checkModule 224 rfl) rfl (lv_at hl 0 rfl) ?_
    refine lv_iload_n hx hb (xb_d D_M_checkModule 225 rfl) rfl (lv_at hl 1 rfl) ?_
    refine lv_bipush (v := 10) hx hb (xb_d D_M_checkModule 226 rfl) (by decide) ?_
    obtain ⟨hk1, hw⟩ := hw
    refine xb_call0 (D := D) (A := A) (σ := σ) (h := h) (d := 2) (maxL := 3) (rest := [.int x2]) (av := [.ref x0, .int x1, .int 10]) (fun T hT X => by obtain ⟨cb9, ra9, rb9, rc9⟩ := xb_recv (ci := 8) hR rfl hk1 (by decide); exact xt_invV X hx hown (hts _ m_b47f62c2) (hts _ m_9f071faf) (hts _ m_e1bb5c84) (xt_sigOf (hts _ m_3a6212d6)) nm_M_manyOf (by rw [hT]; exact ra9) rb9 rc9 (g := F0 m 384 ls [.int 10, .int x1, .ref x0, .int x2]) rfl (argsL := [.int x1, .int 10]) (rest := [.int x2]) rfl rfl (by rw [hb]; exact (xb_d D_M_checkModule 227 rfl))) (ok_M_manyOf l hfl D A σ x0 x1 10 h _ hw) (hml.trans hl.1.symm) (by rw [hb]; exact (xb_d D_M_checkModule 227 rfl)) (Nat.le_of_ble_eq_true rfl) (Nat.le_of_ble_eq_true rfl) (Nat.le_of_ble_eq_true rfl) (show k ≤ MC by omega) (show n ≤ MS by omega) (xt_w1 hB.1 m_3a6212d6) (xt_cdOf hB.1 m_3a6212d6) (hts _ m_d5ed7bed) hB hR hS hA (fun vv h2 H locs hq hEh2 hR hS => ?_)
    obtain ⟨r3, rfl, hw⟩ := hq
    have hw := hw hEh2
    have hE := hE.tr hEh2
    refine W.eq (g2 := F0 m 387 ls [.int r3, .int x2]) rfl ?_
    refine lv_icmp_ge (tgt := 409) hx hb (xb_d D_M_checkModule 228 rfl) rfl (fun hc4 => ?_) (fun hc4 => ?_)
    · have hw := hw.1 hc4
      exact am_M_checkModule_L409 l hfl D A σ MC MS h0 Qr h2 hw p e s m args below meth c hC H locs ls k n hE (lv_sub hl [] rfl) hR hS (by omega) (by omega)
    · have hw := hw.2 hc4
      refine lv_aload_n hx hb (xb_d D_M_checkModule 229 rfl) rfl (lv_at hl 0 rfl) ?_
      have hk1 : xb_k h2 x0 = 9 := hEh2.k hk1
      refine xb_getI (C := R_M) (T := F_M) (N := 97) hx hb 8 17 hts fin_M hown hR hk1 (by decide) rfl (by decide) rfl (hts _ m_ff69da61) (fun _ h9 => h9) (xb_d D_M_checkModule 230 rfl) ?_
      refine lv_if_ne (tgt := 409) hx hb (xb_d D_M_checkModule 231 rfl) rfl (fun hc5 => ?_) (fun hc5 => ?_)
      · have hw := hw.1 hc5
        exact am_M_checkModule_L409 l hfl D A σ MC MS h0 Qr h2 hw p e s m args below meth c hC H locs ls k n hE (lv_sub hl [] rfl) hR hS (by omega) (by omega)
      · have hw := hw.2 hc5
        refine lv_aload_n hx hb (xb_d D_M_checkModule 232 rfl) rfl (lv_at hl 0 rfl) ?_
        refine lv_iload_n hx hb (xb_d D_M_checkModule 233 rfl) rfl (lv_at hl 1 rfl) ?_
        refine lv_iload_n hx hb (xb_d D_M_checkModule 234 rfl) rfl (lv_at hl 2 rfl) ?_
        refine xb_call0 (D := D) (A := A) (σ := σ) (h := h2) (d := 12) (maxL := 7) (rest := []) (av := [.ref x0, .int x1, .int x2]) (fun T hT X => by obtain ⟨cb9, ra9, rb9, rc9⟩ := xb_recv (ci := 8) hR rfl hk1 (by decide); exact xt_invV X hx hown (hts _ m_1693dd83) (hts _ m_d8460a8d) (hts _ m_09d4fe2b) (xt_sigOf (hts _ m_b8730c5c)) nm_M_checkBody (by rw [hT]; exact ra9) rb9 rc9 (g := F0 m 400 ls [.int x2, .int x1, .ref x0]) rfl (argsL := [.int x1, .int x2]) (rest := []) rfl rfl (by rw [hb]; exact (xb_d D_M_checkModule 235 rfl))) (ok_M_checkBody l hfl D A σ x0 x1 x2 h2 _ hw) (hml.trans hl.1.symm) (by rw [hb]; exact (xb_d D_M_checkModule 235 rfl)) (Nat.le_of_ble_eq_true rfl) (Nat.le_of_ble_eq_true rfl) (Nat.le_of_ble_eq_true rfl) (show k ≤ MC by omega) (show n ≤ MS by omega) (xt_w1 hB.1 m_b8730c5c) (xt_cdOf hB.1 m_b8730c5c) (hts _ m_d5ed7bed) hB hR hS hA (fun vv h6 H locs hq hEh6 hR hS => ?_)
        obtain ⟨rfl, hw⟩ := hq
        have hw := hw hEh6
        have hE := hE.tr hEh6
        refine W.eq (g2 := F0 m 403 ls []) rfl ?_
        refine lv_iinc (v := (x2 + 1)) (k := 2) hx hb (xb_d D_M_checkModule 236 rfl) hl rfl (by first | rfl | decide) (by decide) rfl (fun ls hl => ?_)
        have hl : lv_has ls 4 [(2, .int (x2 + 1)), (0, .ref x0), (1, .int x1)] := hl
        refine lv_goto (tgt := 379) hx hb (xb_d D_M_checkModule 237 rfl) rfl ?_
        exact ih x0 x1 (x2 + 1) h6 hw p e s m args below meth c hC H locs ls k n hE (lv_sub hl [1, 2, 0] rfl) hR hS (by omega) (by omega)

set_option maxHeartbeats 4000000 in
set_option maxRecDepth 100000 in
theorem am_M_checkModule_L377 (l : Launch) (hfl : l.flags = pinnedFlags ++ [noTraceFlag]) (D : va_G) (A : Nat → Prop) (σ MC MS : Nat) (h0 : xb_H) (Qr : xb_H → Prop) (x0 : Nat) (x1 : Int32) (h : xb_H) (hw : w_M_checkModule_L377 Qr x0 x1 h) : xb_am l D A σ 13 MC MS h0 (fun v h _ _ => v = none ∧ Qr h) (fun _ _ _ _ => False) y_M_checkModule.cls y_M_checkModule.name b_M_checkModule 4 ([] : List ExceptionTableEntry) none 377 [(0, .ref x0), (1, .int x1)] [] h 0 0 := by
  unfold w_M_checkModule_L377 at hw
  intro p e s m args below meth c hC H locs ls k n hE hl hR hS hk hn
  obtain ⟨hx, hb, hown, hlocks, htab, hml, hr, hB, hA, hnm⟩ := id hC
  have hts := hB.1.1.at args
  refine lv_iconst (v := 0) hx hb (xb_d D_M_checkModule 221 rfl) (by decide) ?_
  refine lv_istore_n hx hb (xb_d D_M_checkModule 222 rfl) rfl hl (by decide) rfl (fun ls hl => ?_)
  have hl : lv_has ls 4 [(2, .int 0), (0, .ref x0), (1, .int x1)] := hl
  obtain ⟨n8, hw⟩ := hw
  exact am_M_checkModule_L379 l hfl D A σ MC MS h0 Qr n8 x0 x1 0 h hw p e s m args below meth c hC H locs ls k n hE (lv_sub hl [1, 2, 0] rfl) hR hS (by omega) (by omega)

set_option maxHeartbeats 4000000 in
set_option maxRecDepth 100000 in
theorem am_M_checkModule_L365 (l : Launch) (hfl : l.flags = pinnedFlags ++ [noTraceFlag]) (D : va_G) (A : Nat → Prop) (σ MC MS : Nat) (h0 : xb_H) (Qr : xb_H → Prop) (x0 : Nat) (x1 : Int32) (h : xb_H) (hw : w_M_checkModule_L365 Qr x0 x1 h) : xb_am l D A σ 13 MC MS h0 (fun v h _ _ => v = none ∧ Qr h) (fun _ _ _ _ => False) y_M_checkModule.cls y_M_checkModule.name b_M_checkModule 4 ([] : List ExceptionTableEntry) none 365 [(0, .ref x0), (1, .int x1)] [] h 0 0 := by
  unfold w_M_checkModule_L365 at hw
  intro p e s m args below meth c hC H locs ls k n hE hl hR hS hk hn
  obtain ⟨hx, hb, hown, hlocks, htab, hml, hr, hB, hA, hnm⟩ := id hC
  have hts := hB.1.1.at args
  refine lv_aload_n hx hb (xb_d D_M_checkModule 215 rfl) rfl (lv_at hl 0 rfl) ?_
  obtain ⟨hk1, hw⟩ := hw
  refine xb_getI (C := R_M) (T := F_M) (N := 97) hx hb 8 17 hts fin_M hown hR hk1 (by decide) rfl (by decide) rfl (hts _ m_ff69da61) (fun _ h9 => h9) (xb_d D_M_checkModule 216 rfl) ?_
  refine lv_if_ne (tgt := 377) hx hb (xb_d D_M_checkModule 217 rfl) rfl (fun hc2 => ?_) (fun hc2 => ?_)
  · have hw := hw.1 hc2
    exact am_M_checkModule_L377 l hfl D A σ MC MS h0 Qr x0 x1 h hw p e s m args below meth c hC H locs ls k n hE (lv_sub hl [0, 1] rfl) hR hS (by omega) (by omega)
  · have hw := hw.2 hc2
    refine lv_aload_n hx hb (xb_d D_M_checkModule 218 rfl) rfl (lv_at hl 0 rfl) ?_
    refine lv_iload_n hx hb (xb_d D_M_checkModule 219 rfl) rfl (lv_at hl 1 rfl) ?_
    refine xb_call0 (D := D) (A := A) (σ := σ) (h := h) (d := 11) (maxL := 9) (rest := []) (av := [.ref x0, .int x1]) (fun T hT X => by obtain ⟨cb9, ra9, rb9, rc9⟩ := xb_recv (ci := 8) hR rfl hk1 (by decide); exact xt_invV X hx hown (hts _ m_08d6c6fb) (hts _ m_85271243) (hts _ m_290ca2b4) (xt_sigOf (hts _ m_ce49079f)) nm_M_checkRows (by rw [hT]; exact ra9) rb9 rc9 (g := F0 m 374 ls [.int x1, .ref x0]) rfl (argsL := [.int x1]) (rest := []) rfl rfl (by rw [hb]; exact (xb_d D_M_checkModule 220 rfl))) (ok_M_checkRows l hfl D A σ x0 x1 h _ hw) (hml.trans hl.1.symm) (by rw [hb]; exact (xb_d D_M_checkModule 220 rfl)) (Nat.le_of_ble_eq_true rfl) (Nat.le_of_ble_eq_true rfl) (Nat.le_of_ble_eq_true rfl) (show k ≤ MC by omega) (show n ≤ MS by omega) (xt_w1 hB.1 m_ce49079f) (xt_cdOf hB.1 m_ce49079f) (hts _ m_d5ed7bed) hB hR hS hA (fun vv h3 H locs hq hEh3 hR hS => ?_)
    obtain ⟨rfl, hw⟩ := hq
    have hw := hw hEh3
    have hE := hE.tr hEh3
    refine W.eq (g2 := F0 m 377 ls []) rfl ?_
    exact am_M_checkModule_L377 l hfl D A σ MC MS h0 Qr x0 x1 h3 hw p e s m args below meth c hC H locs ls k n hE (lv_sub hl [0, 1] rfl) hR hS (by omega) (by omega)

set_option maxHeartbeats 4000000 in
set_option maxRecDepth 100000 in
theorem am_M_checkModule_L353 (l : Launch) (hfl : l.flags = pinnedFlags ++ [noTraceFlag]) (D : va_G) (A : Nat → Prop) (σ MC MS : Nat) (h0 : xb_H) (Qr : xb_H → Prop) (x0 : Nat) (x1 : Int32) (h : xb_H) (hw : w_M_checkModule_L353 Qr x0 x1 h) : xb_am l D A σ 13 MC MS h0 (fun v h _ _ => v = none ∧ Qr h) (fun _ _ _ _ => False) y_M_checkModule.cls y_M_checkModule.name b_M_checkModule 4 ([] : List ExceptionTableEntry) none 353 [(0, .ref x0), (1, .int x1)] [] h 0 0 := by
  unfold w_M_checkModule_L353 at hw
  intro p e s m args below meth c hC H locs ls k n hE hl hR hS hk hn
  obtain ⟨hx, hb, hown, hlocks, htab, hml, hr, hB, hA, hnm⟩ := id hC
  have hts := hB.1.1.at args
  refine lv_aload_n hx hb (xb_d D_M_checkModule 209 rfl) rfl (lv_at hl 0 rfl) ?_
  obtain ⟨hk1, hw⟩ := hw
  refine xb_getI (C := R_M) (T := F_M) (N := 97) hx hb 8 17 hts fin_M hown hR hk1 (by decide) rfl (by decide) rfl (hts _ m_ff69da61) (fun _ h9 => h9) (xb_d D_M_checkModule 210 rfl) ?_
  refine lv_if_ne (tgt := 365) hx hb (xb_d D_M_checkModule 211 rfl) rfl (fun hc2 => ?_) (fun hc2 => ?_)
  · have hw := hw.1 hc2
    exact am_M_checkModule_L365 l hfl D A σ MC MS h0 Qr x0 x1 h hw p e s m args below meth c hC H locs ls k n hE (lv_sub hl [0, 1] rfl) hR hS (by omega) (by omega)
  · have hw := hw.2 hc2
    refine lv_aload_n hx hb (xb_d D_M_checkModule 212 rfl) rfl (lv_at hl 0 rfl) ?_
    refine lv_iload_n hx hb (xb_d D_M_checkModule 213 rfl) rfl (lv_at hl 1 rfl) ?_
    refine xb_call0 (D := D) (A := A) (σ := σ) (h := h) (d := 9) (maxL := 7) (rest := []) (av := [.ref x0, .int x1]) (fun T hT X => by obtain ⟨cb9, ra9, rb9, rc9⟩ := xb_recv (ci := 8) hR rfl hk1 (by decide); exact xt_invV X hx hown (hts _ m_370e1a04) (hts _ m_3fa54e1e) (hts _ m_29c617fd) (xt_sigOf (hts _ m_ff3b777c)) nm_M_checkStart (by rw [hT]; exact ra9) rb9 rc9 (g := F0 m 362 ls [.int x1, .ref x0]) rfl (argsL := [.int x1]) (rest := []) rfl rfl (by rw [hb]; exact (xb_d D_M_checkModule 214 rfl))) (ok_M_checkStart l hfl D A σ x0 x1 h _ hw) (hml.trans hl.1.symm) (by rw [hb]; exact (xb_d D_M_checkModule 214 rfl)) (Nat.le_of_ble_eq_true rfl) (Nat.le_of_ble_eq_true rfl) (Nat.le_of_ble_eq_true rfl) (show k ≤ MC by omega) (show n ≤ MS by omega) (xt_w1 hB.1 m_ff3b777c) (xt_cdOf hB.1 m_ff3b777c) (hts _ m_d5ed7bed) hB hR hS hA (fun vv h3 H locs hq hEh3 hR hS => ?_)
    obtain ⟨rfl, hw⟩ := hq
    have hw := hw hEh3
    have hE := hE.tr hEh3
    refine W.eq (g2 := F0 m 365 ls []) rfl ?_
    exact am_M_checkModule_L365 l hfl D A σ MC MS h0 Qr x0 x1 h3 hw p e s m args below meth c hC H locs ls k n hE (lv_sub hl [0, 1] rfl) hR hS (by omega) (by omega)

set_option maxHeartbeats 4000000 in
set_option maxRecDepth 100000 in
theorem am_M_checkModule_L341 (l : Launch) (hfl : l.flags = pinnedFlags ++ [noTraceFlag]) (D : va_G) (A : Nat → Prop) (σ MC MS : Nat) (h0 : xb_H) (Qr : xb_H → Prop) (x0 : Nat) (x1 : Int32) (h : xb_H) (hw : w_M_checkModule_L341 Qr x0 x1 h) : xb_am l D A σ 13 MC MS h0 (fun v h _ _ => v = none ∧ Qr h) (fun _ _ _ _ => False) y_M_checkModule.cls y_M_checkModule.name b_M_checkModule 4 ([] : List ExceptionTableEntry) none 341 [(0, .ref x0), (1, .int x1)] [] h 0 0 := by
  unfold w_M_checkModule_L341 at hw
  intro p e s m args below meth c hC H locs ls k n hE hl hR hS hk hn
  obtain ⟨hx, hb, hown, hlocks, htab, hml, hr, hB, hA, hnm⟩ := id hC
  have hts := hB.1.1.at args
  refine lv_aload_n hx hb (xb_d D_M_checkModule 203 rfl) rfl (lv_at hl 0 rfl) ?_
  obtain ⟨hk1, hw⟩ := hw
  refine xb_getI (C := R_M) (T := F_M) (N := 97) hx hb 8 17 hts fin_M hown hR hk1 (by decide) rfl (by decide) rfl (hts _ m_ff69da61) (fun _ h9 => h9) (xb_d D_M_checkModule 204 rfl) ?_
  refine lv_if_ne (tgt := 353) hx hb (xb_d D_M_checkModule 205 rfl) rfl (fun hc2 => ?_) (fun hc2 => ?_)
  · have hw := hw.1 hc2
    exact am_M_checkModule_L353 l hfl D A σ MC MS h0 Qr x0 x1 h hw p e s m args below meth c hC H locs ls k n hE (lv_sub hl [0, 1] rfl) hR hS (by omega) (by omega)
  · have hw := hw.2 hc2
    refine lv_aload_n hx hb (xb_d D_M_checkModule 206 rfl) rfl (lv_at hl 0 rfl) ?_
    refine lv_iload_n hx hb (xb_d D_M_checkModule 207 rfl) rfl (lv_at hl 1 rfl) ?_
    refine xb_call0 (D := D) (A := A) (σ := σ) (h := h) (d := 6) (maxL := 6) (rest := []) (av := [.ref x0, .int x1]) (fun T hT X => by obtain ⟨cb9, ra9, rb9, rc9⟩ := xb_recv (ci := 8) hR rfl hk1 (by decide); exact xt_invV X hx hown (hts _ m_90fc0d63) (hts _ m_e72c702c) (hts _ m_414bdb82) (xt_sigOf (hts _ m_6b463292)) nm_M_checkExports (by rw [hT]; exact ra9) rb9 rc9 (g := F0 m 350 ls [.int x1, .ref x0]) rfl (argsL := [.int x1]) (rest := []) rfl rfl (by rw [hb]; exact (xb_d D_M_checkModule 208 rfl))) (ok_M_checkExports l hfl D A σ x0 x1 h _ hw) (hml.trans hl.1.symm) (by rw [hb]; exact (xb_d D_M_checkModule 208 rfl)) (Nat.le_of_ble_eq_true rfl) (Nat.le_of_ble_eq_true rfl) (Nat.le_of_ble_eq_true rfl) (show k ≤ MC by omega) (show n ≤ MS by omega) (xt_w1 hB.1 m_6b463292) (xt_cdOf hB.1 m_6b463292) (hts _ m_d5ed7bed) hB hR hS hA (fun vv h3 H locs hq hEh3 hR hS => ?_)
    obtain ⟨rfl, hw⟩ := hq
    have hw := hw hEh3
    have hE := hE.tr hEh3
    refine W.eq (g2 := F0 m 353 ls []) rfl ?_
    exact am_M_checkModule_L353 l hfl D A σ MC MS h0 Qr x0 x1 h3 hw p e s m args below meth c hC H locs ls k n hE (lv_sub hl [0, 1] rfl) hR hS (by omega) (by omega)

set_option maxHeartbeats 4000000 in
set_option maxRecDepth 100000 in
theorem am_M_checkModule_L283 (l : Launch) (hfl : l.flags = pinnedFlags ++ [noTraceFlag]) (D : va_G) (A : Nat → Prop) (σ MC MS : Nat) (h0 : xb_H) (Qr : xb_H → Prop) (n9 : Nat) : ∀ (x0 : Nat) (x1 : Int32) (x2 : Int32) (h : xb_H), w_M_checkModule_L283 Qr n9 x0 x1 x2 h → xb_am l D A σ 13 MC MS h0 (fun v h _ _ => v = none ∧ Qr h) (fun _ _ _ _ => False) y_M_checkModule.cls y_M_checkModule.name b_M_checkModule 4 ([] : List ExceptionTableEntry) none 283 [(0, .ref x0), (1, .int x1), (2, .int x2)] [] h 0 0 := by
  induction n9 with
  | zero => intro x0 x1 x2 h hw; exact False.elim hw
  | succ n9 ih =>
    intro x0 x1 x2 h hw
    unfold w_M_checkModule_L283 at hw
    intro p e s m args below meth c hC H locs ls k n hE hl hR hS hk hn
    obtain ⟨hx, hb, hown, hlocks, htab, hml, hr, hB, hA, hnm⟩ := id hC
    have hts := hB.1.1.at args
    refine lv_iload_n hx hb (xb_d D_M_checkModule 171 rfl) rfl (lv_at hl 2 rfl) ?_
    refine lv_aload_n hx hb (xb_d D_M_checkModule 172 rfl) rfl (lv_at hl 0 rfl) ?_
    refine lv_iload_n hx hb (xb_d D_M_checkModule 173 rfl) rfl (lv_at hl 1 rfl) ?_
    refine lv_bipush (v := 6) hx hb (xb_d D_M_checkModule 174 rfl) (by decide) ?_
    obtain ⟨hk1, hw⟩ := hw
    refine xb_call0 (D := D) (A := A) (σ := σ) (h := h) (d := 2) (maxL := 3) (rest := [.int x2]) (av := [.ref x0, .int x1, .int 6]) (fun T hT X => by obtain ⟨cb9, ra9, rb9, rc9⟩ := xb_recv (ci := 8) hR rfl hk1 (by decide); exact xt_invV X hx hown (hts _ m_b47f62c2) (hts _ m_9f071faf) (hts _ m_e1bb5c84) (xt_sigOf (hts _ m_3a6212d6)) nm_M_manyOf (by rw [hT]; exact ra9) rb9 rc9 (g := F0 m 288 ls [.int 6, .int x1, .ref x0, .int x2]) rfl (argsL := [.int x1, .int 6]) (rest := [.int x2]) rfl rfl (by rw [hb]; exact (xb_d D_M_checkModule 175 rfl))) (ok_M_manyOf l hfl D A σ x0 x1 6 h _ hw) (hml.trans hl.1.symm) (by rw [hb]; exact (xb_d D_M_checkModule 175 rfl)) (Nat.le_of_ble_eq_true rfl) (Nat.le_of_ble_eq_true rfl) (Nat.le_of_ble_eq_true rfl) (show k ≤ MC by omega) (show n ≤ MS by omega) (xt_w1 hB.1 m_3a6212d6) (xt_cdOf hB.1 m_3a6212d6) (hts _ m_d5ed7bed) hB hR hS hA (fun vv h2 H locs hq hEh2 hR hS => ?_)
    obtain ⟨r3, rfl, hw⟩ := hq
    have hw := hw hEh2
    have hE := hE.tr hEh2
    refine W.eq (g2 := F0 m 291 ls [.int r3, .int x2]) rfl ?_
    refine lv_icmp_ge (tgt := 341) hx hb (xb_d D_M_checkModule 176 rfl) rfl (fun hc4 => ?_) (fun hc4 => ?_)
    · have hw := hw.1 hc4
      exact am_M_checkModule_L341 l hfl D A σ MC MS h0 Qr x0 x1 h2 hw p e s m args below meth c hC H locs ls k n hE (lv_sub hl [0, 1] rfl) hR hS (by omega) (by omega)
    · have hw := hw.2 hc4
      refine lv_aload_n hx hb (xb_d D_M_checkModule 177 rfl) rfl (lv_at hl 0 rfl) ?_
      have hk1 : xb_k h2 x0 = 9 := hEh2.k hk1
      refine xb_getI (C := R_M) (T := F_M) (N := 97) hx hb 8 17 hts fin_M hown hR hk1 (by decide) rfl (by decide) rfl (hts _ m_ff69da61) (fun _ h9 => h9) (xb_d D_M_checkModule 178 rfl) ?_
      refine lv_if_ne (tgt := 341) hx hb (xb_d D_M_checkModule 179 rfl) rfl (fun hc5 => ?_) (fun hc5 => ?_)
      · have hw := hw.1 hc5
        exact am_M_checkModule_L341 l hfl D A σ MC MS h0 Qr x0 x1 h2 hw p e s m args below meth c hC H locs ls k n hE (lv_sub hl [0, 1] rfl) hR hS (by omega) (by omega)
      · have hw := hw.2 hc5
        refine lv_aload_n hx hb (xb_d D_M_checkModule 180 rfl) rfl (lv_at hl 0 rfl) ?_
        refine lv_iload_n hx hb (xb_d D_M_checkModule 181 rfl) rfl (lv_at hl 1 rfl) ?_
        refine lv_aload_n hx hb (xb_d D_M_checkModule 182 rfl) rfl (lv_at hl 0 rfl) ?_
        refine lv_iload_n hx hb (xb_d D_M_checkModule 183 rfl) rfl (lv_at hl 1 rfl) ?_
        refine lv_bipush (v := 6) hx hb (xb_d D_M_checkModule 184 rfl) (by decide) ?_
        refine lv_iload_n hx hb (xb_d D_M_checkModule 185 rfl) rfl (lv_at hl 2 rfl) ?_
        refine xb_call0 (D := D) (A := A) (σ := σ) (h := h2) (d := 2) (maxL := 4) (rest := [.int x1, .ref x0]) (av := [.ref x0, .int x1, .int 6, .int x2]) (fun T hT X => by obtain ⟨cb9, ra9, rb9, rc9⟩ := xb_recv (ci := 8) hR rfl hk1 (by decide); exact xt_invV X hx hown (hts _ m_7f41753e) (hts _ m_8cdd7108) (hts _ m_e228318f) (xt_sigOf (hts _ m_89667ad5)) nm_M_placeOf (by rw [hT]; exact ra9) rb9 rc9 (g := F0 m 308 ls [.int x2, .int 6, .int x1, .ref x0, .int x1, .ref x0]) rfl (argsL := [.int x1, .int 6, .int x2]) (rest := [.int x1, .ref x0]) rfl rfl (by rw [hb]; exact (xb_d D_M_checkModule 186 rfl))) (ok_M_placeOf l hfl D A σ x0 x1 6 x2 h2 _ hw) (hml.trans hl.1.symm) (by rw [hb]; exact (xb_d D_M_checkModule 186 rfl)) (Nat.le_of_ble_eq_true rfl) (Nat.le_of_ble_eq_true rfl) (Nat.le_of_ble_eq_true rfl) (show k ≤ MC by omega) (show n ≤ MS by omega) (xt_w1 hB.1 m_89667ad5) (xt_cdOf hB.1 m_89667ad5) (hts _ m_d5ed7bed) hB hR hS hA (fun vv h6 H locs hq hEh6 hR hS => ?_)
        obtain ⟨r7, rfl, hw⟩ := hq
        have hw := hw hEh6
        have hE := hE.tr hEh6
        refine W.eq (g2 := F0 m 311 ls [.int r7, .int x1, .ref x0]) rfl ?_
        have hk1 : xb_k h6 x0 = 9 := hEh6.k hk1
        refine xb_call0 (D := D) (A := A) (σ := σ) (h := h6) (d := 2) (maxL := 3) (rest := []) (av := [.ref x0, .int x1, .int r7]) (fun T hT X => by obtain ⟨cb9, ra9, rb9, rc9⟩ := xb_recv (ci := 8) hR rfl hk1 (by decide); exact xt_invV X hx hown (hts _ m_bb531879) (hts _ m_4a6cd4a0) (hts _ m_d1c31e3c) (xt_sigOf (hts _ m_48217fba)) nm_M_go (by rw [hT]; exact ra9) rb9 rc9 (g := F0 m 311 ls [.int r7, .int x1, .ref x0]) rfl (argsL := [.int x1, .int r7]) (rest := []) rfl rfl (by rw [hb]; exact (xb_d D_M_checkModule 187 rfl))) (ok_M_go l hfl D A σ x0 x1 r7 h6 _ hw) (hml.trans hl.1.symm) (by rw [hb]; exact (xb_d D_M_checkModule 187 rfl)) (Nat.le_of_ble_eq_true rfl) (Nat.le_of_ble_eq_true rfl) (Nat.le_of_ble_eq_true rfl) (show k ≤ MC by omega) (show n ≤ MS by omega) (xt_w1 hB.1 m_48217fba) (xt_cdOf hB.1 m_48217fba) (hts _ m_d5ed7bed) hB hR hS hA (fun vv h8 H locs hq hEh8 hR hS => ?_)
        obtain ⟨rfl, hw⟩ := hq
        have hw := hw hEh8
        have hE := hE.tr hEh8
        refine W.eq (g2 := F0 m 314 ls []) rfl ?_
        refine lv_aload_n hx hb (xb_d D_M_checkModule 188 rfl) rfl (lv_at hl 0 rfl) ?_
        have hk1 : xb_k h8 x0 = 9 := hEh8.k hk1
        refine xb_call0 (D := D) (A := A) (σ := σ) (h := h8) (d := 3) (maxL := 2) (rest := []) (av := [.ref x0]) (fun T hT X => by obtain ⟨cb9, ra9, rb9, rc9⟩ := xb_recv (ci := 8) hR rfl hk1 (by decide); exact xt_invV X hx hown (hts _ m_0e978570) (hts _ m_40099f98) (hts _ m_a7dbfd07) (xt_sigOf (hts _ m_0af1ec6a)) nm_M_next (by rw [hT]; exact ra9) rb9 rc9 (g := F0 m 315 ls [.ref x0]) rfl (argsL := []) (rest := []) rfl rfl (by rw [hb]; exact (xb_d D_M_checkModule 189 rfl))) (ok_M_next l hfl D A σ x0 h8 _ hw) (hml.trans hl.1.symm) (by rw [hb]; exact (xb_d D_M_checkModule 189 rfl)) (Nat.le_of_ble_eq_true rfl) (Nat.le_of_ble_eq_true rfl) (Nat.le_of_ble_eq_true rfl) (show k ≤ MC by omega) (show n ≤ MS by omega) (xt_w1 hB.1 m_0af1ec6a) (xt_cdOf hB.1 m_0af1ec6a) (hts _ m_d5ed7bed) hB hR hS hA (fun vv h10 H locs hq hEh10 hR hS => ?_)
        obtain ⟨r11, rfl, hw⟩ := hq
        have hw := hw hEh10
        have hE := hE.tr hEh10
        refine W.eq (g2 := F0 m 318 ls [.int r11]) rfl ?_
        refine lv_istore_n hx hb (xb_d D_M_checkModule 190 rfl) rfl hl (by decide) rfl (fun ls hl => ?_)
        have hl : lv_has ls 4 [(3, .int r11), (0, .ref x0), (1, .int x1), (2, .int x2)] := hl
        refine lv_aload_n hx hb (xb_d D_M_checkModule 191 rfl) rfl (lv_at hl 1 rfl) ?_
        refine lv_dup hx hb (xb_d D_M_checkModule 192 rfl) rfl ?_
        have hk1 : xb_k h10 x0 = 9 := hEh10.k hk1
        refine xb_getI (C := R_M) (T := F_M) (N := 97) hx hb 8 15 hts fin_M hown hR hk1 (by decide) rfl (by decide) rfl (hts _ m_6c2d27ad) (fun _ h9 => h9) (xb_d D_M_checkModule 193 rfl) ?_
        refine lv_iconst (v := 1) hx hb (xb_d D_M_checkModule 194 rfl) (by decide) ?_
        refine lv_iadd hx hb (xb_d D_M_checkModule 195 rfl) ?_
        refine xb_putI (C := R_M) (T := F_M) (N := 97) (ty := .int) (x := ((xb_i h10 x0 15) + 1)) hx hb 8 15 hts fin_M t_M t_M_ok n_M hown hR hS hk1 (by decide) rfl (by decide) rfl (hts _ m_6c2d27ad) (fun _ h9 => h9) rfl (by decide +kernel) rfl rfl (xb_d D_M_checkModule 196 rfl) (fun H locs hR hS => ?_)
        obtain ⟨h12, eh12⟩ : ∃ x : xb_H, x = xb_I h10 x0 15 ((xb_i h10 x0 15) + 1) := ⟨_, rfl⟩
        rw [← eh12] at hR
        have hw := hw h12 eh12
        have hE : xb_ext h0 h12 := by rw [eh12]; exact hE
        refine lv_aload_n hx hb (xb_d D_M_checkModule 197 rfl) rfl (lv_at hl 1 rfl) ?_
        refine lv_iload_n hx hb (xb_d D_M_checkModule 198 rfl) rfl (lv_at hl 2 rfl) ?_
        refine lv_iload_n hx hb (xb_d D_M_checkModule 199 rfl) rfl (lv_at hl 0 rfl) ?_
        have hk1 : xb_k h12 x0 = 9 := by rw [eh12]; exact hk1
        refine xb_call0 (D := D) (A := A) (σ := σ) (h := h12) (d := 10) (maxL := 11) (rest := []) (av := [.ref x0, .int x1, .int r11]) (fun T hT X => by obtain ⟨cb9, ra9, rb9, rc9⟩ := xb_recv (ci := 8) hR rfl hk1 (by decide); exact xt_invV X hx hown (hts _ m_3317c695) (hts _ m_a90e9b00) (hts _ m_b31c6542) (xt_sigOf (hts _ m_031701f6)) nm_M_checkConstant (by rw [hT]; exact ra9) rb9 rc9 (g := F0 m 332 ls [.int r11, .int x1, .ref x0]) rfl (argsL := [.int x1, .int r11]) (rest := []) rfl rfl (by rw [hb]; exact (xb_d D_M_checkModule 200 rfl))) (ok_M_checkConstant l hfl D A σ x0 x1 r11 h12 _ hw) (hml.trans hl.1.symm) (by rw [hb]; exact (xb_d D_M_checkModule 200 rfl)) (Nat.le_of_ble_eq_true rfl) (Nat.le_of_ble_eq_true rfl) (Nat.le_of_ble_eq_true rfl) (show k ≤ MC by omega) (show n ≤ MS by omega) (xt_w1 hB.1 m_031701f6) (xt_cdOf hB.1 m_031701f6) (hts _ m_d5ed7bed) hB hR hS hA (fun vv h13 H locs hq hEh13 hR hS => ?_)
        obtain ⟨rfl, hw⟩ := hq
        have hw := hw hEh13
        have hE := hE.tr hEh13
        refine W.eq (g2 := F0 m 335 ls []) rfl ?_
        refine lv_iinc (v := (x2 + 1)) (k := 3) hx hb (xb_d D_M_checkModule 201 rfl) hl rfl (by first | rfl | decide) (by decide) rfl (fun ls hl => ?_)
        have hl : lv_has ls 4 [(2, .int (x2 + 1)), (3, .int r11), (0, .ref x0), (1, .int x1)] := hl
        refine lv_goto (tgt := 283) hx hb (xb_d D_M_checkModule 202 rfl) rfl ?_
        exact ih x0 x1 (x2 + 1) h13 hw p e s m args below meth c hC H locs ls k n hE (lv_sub hl [2, 3, 0] rfl) hR hS (by omega) (by omega)

set_option maxHeartbeats 4000000 in
set_option maxRecDepth 100000 in
theorem am_M_checkModule_L281 (l : Launch) (hfl : l.flags = pinnedFlags ++ [noTraceFlag]) (D : va_G) (A : Nat → Prop) (σ MC MS : Nat) (h0 : xb_H) (Qr : xb_H → Prop) (x0 : Nat) (x1 : Int32) (h : xb_H) (hw : w_M_checkModule_L281 Qr x0 x1 h) : xb_am l D A σ 13 MC MS h0 (fun v h _ _ => v = none ∧ Qr h) (fun _ _ _ _ => False) y_M_checkModule.cls y_M_checkModule.name b_M_checkModule 4 ([] : List ExceptionTableEntry) none 281 [(0, .ref x0), (1, .int x1)] [] h 0 0 := by
  unfold w_M_checkModule_L281 at hw
  intro p e s m args below meth c hC H locs ls k n hE hl hR hS hk hn
  obtain ⟨hx, hb, hown, hlocks, htab, hml, hr, hB, hA, hnm⟩ := id hC
  have hts := hB.1.1.at args
  refine lv_iconst (v := 0) hx hb (xb_d D_M_checkModule 169 rfl) (by decide) ?_
  refine lv_istore_n hx hb (xb_d D_M_checkModule 170 rfl) rfl hl (by decide) rfl (fun ls hl => ?_)
  have hl : lv_has ls 4 [(2, .int 0), (0, .ref x0), (1, .int x1)] := hl
  obtain ⟨n8, hw⟩ := hw
  exact am_M_checkModule_L283 l hfl D A σ MC MS h0 Qr n8 x0 x1 0 h hw p e s m args below meth c hC H locs ls k n hE (lv_sub hl [1, 2, 0] rfl) hR hS (by omega) (by omega)

set_option maxHeartbeats 4000000 in
set_option maxRecDepth 100000 in
theorem am_M_checkModule_L272 (l : Launch) (hfl : l.flags = pinnedFlags ++ [noTraceFlag]) (D : va_G) (A : Nat → Prop) (σ MC MS : Nat) (h0 : xb_H) (Qr : xb_H → Prop) (K214 : Nat → Int32 → Int32 → xb_H → Prop) (hK214 : ∀ (x0 : Nat) (x1 : Int32) (x2 : Int32) (h : xb_H), K214 x0 x1 x2 h → xb_am l D A σ 13 MC MS h0 (fun v h _ _ => v = none ∧ Qr h) (fun _ _ _ _ => False) y_M_checkModule.cls y_M_checkModule.name b_M_checkModule 4 ([] : List ExceptionTableEntry) none 214 [(0, .ref x0), (1, .int x1), (2, .int x2)] [] h 0 0) (x0 : Nat) (x1 : Int32) (x2 : Int32) (y0 : Int32) (y1 : Int32) (y2 : Int32) (y3 : Nat) (h : xb_H) (hw : w_M_checkModule_L272 K214 Qr x0 x1 x2 y0 y1 y2 y3 h) : xb_am l D A σ 13 MC MS h0 (fun v h _ _ => v = none ∧ Qr h) (fun _ _ _ _ => False) y_M_checkModule.cls y_M_checkModule.name b_M_checkModule 4 ([] : List ExceptionTableEntry) none 272 [(0, .ref x0), (1, .int x1), (2, .int x2)] [.int y0, .int y1, .int y2, .ref y3] h 0 0 := by
  unfold w_M_checkModule_L272 at hw
  intro p e s m args below meth c hC H locs ls k n hE hl hR hS hk hn
  obtain ⟨hx, hb, hown, hlocks, htab, hml, hr, hB, hA, hnm⟩ := id hC
  have hts := hB.1.1.at args
  obtain ⟨hk1, hw⟩ := hw
  refine xb_call0 (D := D) (A := A) (σ := σ) (h := h) (d := 6) (maxL := 7) (rest := []) (av := [.ref y3, .int y2, .int y1, .int y0]) (fun T hT X => by obtain ⟨cb9, ra9, rb9, rc9⟩ := xb_recv (ci := 8) hR rfl hk1 (by decide); exact xt_invV X hx hown (hts _ m_9bc902ef) (hts _ m_d2d6a5ba) (hts _ m_f84d1ef4) (xt_sigOf (hts _ m_7cec8d21)) nm_M_limitsFault (by rw [hT]; exact ra9) rb9 rc9 (g := F0 m 272 ls [.int y0, .int y1, .int y2, .ref y3]) rfl (argsL := [.int y2, .int y1, .int y0]) (rest := []) rfl rfl (by rw [hb]; exact (xb_d D_M_checkModule 166 rfl))) (ok_M_limitsFault l hfl D A σ y3 y2 y1 y0 h _ hw) (hml.trans hl.1.symm) (by rw [hb]; exact (xb_d D_M_checkModule 166 rfl)) (Nat.le_of_ble_eq_true rfl) (Nat.le_of_ble_eq_true rfl) (Nat.le_of_ble_eq_true rfl) (show k ≤ MC by omega) (show n ≤ MS by omega) (xt_w1 hB.1 m_7cec8d21) (xt_cdOf hB.1 m_7cec8d21) (hts _ m_d5ed7bed) hB hR hS hA (fun vv h2 H locs hq hEh2 hR hS => ?_)
  obtain ⟨rfl, hw⟩ := hq
  have hw := hw hEh2
  have hE := hE.tr hEh2
  refine W.eq (g2 := F0 m 275 ls []) rfl ?_
  refine lv_iinc (v := (x2 + 1)) (k := 2) hx hb (xb_d D_M_checkModule 167 rfl) hl rfl (by first | rfl | decide) (by decide) rfl (fun ls hl => ?_)
  have hl : lv_has ls 4 [(2, .int (x2 + 1)), (0, .ref x0), (1, .int x1)] := hl
  refine lv_goto (tgt := 214) hx hb (xb_d D_M_checkModule 168 rfl) rfl ?_
  exact hK214 x0 x1 (x2 + 1) h2 hw p e s m args below meth c hC H locs ls k n hE (lv_sub hl [1, 2, 0] rfl) hR hS (by omega) (by omega)

set_option maxHeartbeats 4000000 in
set_option maxRecDepth 100000 in
theorem am_M_checkModule_L214 (l : Launch) (hfl : l.flags = pinnedFlags ++ [noTraceFlag]) (D : va_G) (A : Nat → Prop) (σ MC MS : Nat) (h0 : xb_H) (Qr : xb_H → Prop) (n9 : Nat) : ∀ (x0 : Nat) (x1 : Int32) (x2 : Int32) (h : xb_H), w_M_checkModule_L214 Qr n9 x0 x1 x2 h → xb_am l D A σ 13 MC MS h0 (fun v h _ _ => v = none ∧ Qr h) (fun _ _ _ _ => False) y_M_checkModule.cls y_M_checkModule.name b_M_checkModule 4 ([] : List ExceptionTableEntry) none 214 [(0, .ref x0), (1, .int x1), (2, .int x2)] [] h 0 0 := by
  induction n9 with
  | zero => intro x0 x1 x2 h hw; exact False.elim hw
  | succ n9 ih =>
    intro x0 x1 x2 h hw
    unfold w_M_checkModule_L214 at hw
    intro p e s m args below meth c hC H locs ls k n hE hl hR hS hk hn
    obtain ⟨hx, hb, hown, hlocks, htab, hml, hr, hB, hA, hnm⟩ := id hC
    have hts := hB.1.1.at args
    refine lv_iload_n hx hb (xb_d D_M_checkModule 128 rfl) rfl (lv_at hl 2 rfl) ?_
    refine lv_aload_n hx hb (xb_d D_M_checkModule 129 rfl) rfl (lv_at hl 0 rfl) ?_
    refine lv_iload_n hx hb (xb_d D_M_checkModule 130 rfl) rfl (lv_at hl 1 rfl) ?_
    refine lv_iconst (v := 5) hx hb (xb_d D_M_checkModule 131 rfl) (by decide) ?_
    obtain ⟨hk1, hw⟩ := hw
    refine xb_call0 (D := D) (A := A) (σ := σ) (h := h) (d := 2) (maxL := 3) (rest := [.int x2]) (av := [.ref x0, .int x1, .int 5]) (fun T hT X => by obtain ⟨cb9, ra9, rb9, rc9⟩ := xb_recv (ci := 8) hR rfl hk1 (by decide); exact xt_invV X hx hown (hts _ m_b47f62c2) (hts _ m_9f071faf) (hts _ m_e1bb5c84) (xt_sigOf (hts _ m_3a6212d6)) nm_M_manyOf (by rw [hT]; exact ra9) rb9 rc9 (g := F0 m 218 ls [.int 5, .int x1, .ref x0, .int x2]) rfl (argsL := [.int x1, .int 5]) (rest := [.int x2]) rfl rfl (by rw [hb]; exact (xb_d D_M_checkModule 132 rfl))) (ok_M_manyOf l hfl D A σ x0 x1 5 h _ hw) (hml.trans hl.1.symm) (by rw [hb]; exact (xb_d D_M_checkModule 132 rfl)) (Nat.le_of_ble_eq_true rfl) (Nat.le_of_ble_eq_true rfl) (Nat.le_of_ble_eq_true rfl) (show k ≤ MC by omega) (show n ≤ MS by omega) (xt_w1 hB.1 m_3a6212d6) (xt_cdOf hB.1 m_3a6212d6) (hts _ m_d5ed7bed) hB hR hS hA (fun vv h2 H locs hq hEh2 hR hS => ?_)
    obtain ⟨r3, rfl, hw⟩ := hq
    have hw := hw hEh2
    have hE := hE.tr hEh2
    refine W.eq (g2 := F0 m 221 ls [.int r3, .int x2]) rfl ?_
    refine lv_icmp_ge (tgt := 281) hx hb (xb_d D_M_checkModule 133 rfl) rfl (fun hc4 => ?_) (fun hc4 => ?_)
    · have hw := hw.1 hc4
      exact am_M_checkModule_L281 l hfl D A σ MC MS h0 Qr x0 x1 h2 hw p e s m args below meth c hC H locs ls k n hE (lv_sub hl [0, 1] rfl) hR hS (by omega) (by omega)
    · have hw := hw.2 hc4
      refine lv_aload_n hx hb (xb_d D_M_checkModule 134 rfl) rfl (lv_at hl 0 rfl) ?_
      have hk1 : xb_k h2 x0 = 9 := hEh2.k hk1
      refine xb_getI (C := R_M) (T := F_M) (N := 97) hx hb 8 17 hts fin_M hown hR hk1 (by decide) rfl (by decide) rfl (hts _ m_ff69da61) (fun _ h9 => h9) (xb_d D_M_checkModule 135 rfl) ?_
      refine lv_if_ne (tgt := 281) hx hb (xb_d D_M_checkModule 136 rfl) rfl (fun hc5 => ?_) (fun hc5 => ?_)
      · have hw := hw.1 hc5
        exact am_M_checkModule_L281 l hfl D A σ MC MS h0 Qr x0 x1 h2 hw p e s m args below meth c hC H locs ls k n hE (lv_sub hl [0, 1] rfl) hR hS (by omega) (by omega)
      · have hw := hw.2 hc5
        refine lv_aload_n hx hb (xb_d D_M_checkModule 137 rfl) rfl (lv_at hl 0 rfl) ?_
        refine lv_iload_n hx hb (xb_d D_M_checkModule 138 rfl) rfl (lv_at hl 1 rfl) ?_
        refine lv_aload_n hx hb (xb_d D_M_checkModule 139 rfl) rfl (lv_at hl 0 rfl) ?_
        refine lv_iload_n hx hb (xb_d D_M_checkModule 140 rfl) rfl (lv_at hl 1 rfl) ?_
        refine lv_iconst (v := 5) hx hb (xb_d D_M_checkModule 141 rfl) (by decide) ?_
        refine lv_iload_n hx hb (xb_d D_M_checkModule 142 rfl) rfl (lv_at hl 2 rfl) ?_
        refine xb_call0 (D := D) (A := A) (σ := σ) (h := h2) (d := 2) (maxL := 4) (rest := [.int x1, .ref x0]) (av := [.ref x0, .int x1, .int 5, .int x2]) (fun T hT X => by obtain ⟨cb9, ra9, rb9, rc9⟩ := xb_recv (ci := 8) hR rfl hk1 (by decide); exact xt_invV X hx hown (hts _ m_7f41753e) (hts _ m_8cdd7108) (hts _ m_e228318f) (xt_sigOf (hts _ m_89667ad5)) nm_M_placeOf (by rw [hT]; exact ra9) rb9 rc9 (g := F0 m 237 ls [.int x2, .int 5, .int x1, .ref x0, .int x1, .ref x0]) rfl (argsL := [.int x1, .int 5, .int x2]) (rest := [.int x1, .ref x0]) rfl rfl (by rw [hb]; exact (xb_d D_M_checkModule 143 rfl))) (ok_M_placeOf l hfl D A σ x0 x1 5 x2 h2 _ hw) (hml.trans hl.1.symm) (by rw [hb]; exact (xb_d D_M_checkModule 143 rfl)) (Nat.le_of_ble_eq_true rfl) (Nat.le_of_ble_eq_true rfl) (Nat.le_of_ble_eq_true rfl) (show k ≤ MC by omega) (show n ≤ MS by omega) (xt_w1 hB.1 m_89667ad5) (xt_cdOf hB.1 m_89667ad5) (hts _ m_d5ed7bed) hB hR hS hA (fun vv h6 H locs hq hEh6 hR hS => ?_)
        obtain ⟨r7, rfl, hw⟩ := hq
        have hw := hw hEh6
        have hE := hE.tr hEh6
        refine W.eq (g2 := F0 m 240 ls [.int r7, .int x1, .ref x0]) rfl ?_
        have hk1 : xb_k h6 x0 = 9 := hEh6.k hk1
        refine xb_call0 (D := D) (A := A) (σ := σ) (h := h6) (d := 2) (maxL := 3) (rest := []) (av := [.ref x0, .int x1, .int r7]) (fun T hT X => by obtain ⟨cb9, ra9, rb9, rc9⟩ := xb_recv (ci := 8) hR rfl hk1 (by decide); exact xt_invV X hx hown (hts _ m_bb531879) (hts _ m_4a6cd4a0) (hts _ m_d1c31e3c) (xt_sigOf (hts _ m_48217fba)) nm_M_go (by rw [hT]; exact ra9) rb9 rc9 (g := F0 m 240 ls [.int r7, .int x1, .ref x0]) rfl (argsL := [.int x1, .int r7]) (rest := []) rfl rfl (by rw [hb]; exact (xb_d D_M_checkModule 144 rfl))) (ok_M_go l hfl D A σ x0 x1 r7 h6 _ hw) (hml.trans hl.1.symm) (by rw [hb]; exact (xb_d D_M_checkModule 144 rfl)) (Nat.le_of_ble_eq_true rfl) (Nat.le_of_ble_eq_true rfl) (Nat.le_of_ble_eq_true rfl) (show k ≤ MC by omega) (show n ≤ MS by omega) (xt_w1 hB.1 m_48217fba) (xt_cdOf hB.1 m_48217fba) (hts _ m_d5ed7bed) hB hR hS hA (fun vv h8 H locs hq hEh8 hR hS => ?_)
        obtain ⟨rfl, hw⟩ := hq
        have hw := hw hEh8
        have hE := hE.tr hEh8
        refine W.eq (g2 := F0 m 243 ls []) rfl ?_
        refine lv_aload_n hx hb (xb_d D_M_checkModule 145 rfl) rfl (lv_at hl 0 rfl) ?_
        refine lv_iconst (v := 1) hx hb (xb_d D_M_checkModule 146 rfl) (by decide) ?_
        refine lv_aload_n hx hb (xb_d D_M_checkModule 147 rfl) rfl (lv_at hl 0 rfl) ?_
        refine lv_iload_n hx hb (xb_d D_M_checkModule 148 rfl) rfl (lv_at hl 1 rfl) ?_
        refine lv_iconst (v := 5) hx hb (xb_d D_M_checkModule 149 rfl) (by decide) ?_
        refine lv_iload_n hx hb (xb_d D_M_checkModule 150 rfl) rfl (lv_at hl 2 rfl) ?_
        have hk1 : xb_k h8 x0 = 9 := hEh8.k hk1
        refine xb_call0 (D := D) (A := A) (σ := σ) (h := h8) (d := 2) (maxL := 4) (rest := [.int 1, .ref x0]) (av := [.ref x0, .int x1, .int 5, .int x2]) (fun T hT X => by obtain ⟨cb9, ra9, rb9, rc9⟩ := xb_recv (ci := 8) hR rfl hk1 (by decide); exact xt_invV X hx hown (hts _ m_7f41753e) (hts _ m_8cdd7108) (hts _ m_e228318f) (xt_sigOf (hts _ m_89667ad5)) nm_M_placeOf (by rw [hT]; exact ra9) rb9 rc9 (g := F0 m 249 ls [.int x2, .int 5, .int x1, .ref x0, .int 1, .ref x0]) rfl (argsL := [.int x1, .int 5, .int x2]) (rest := [.int 1, .ref x0]) rfl rfl (by rw [hb]; exact (xb_d D_M_checkModule 151 rfl))) (ok_M_placeOf l hfl D A σ x0 x1 5 x2 h8 _ hw) (hml.trans hl.1.symm) (by rw [hb]; exact (xb_d D_M_checkModule 151 rfl)) (Nat.le_of_ble_eq_true rfl) (Nat.le_of_ble_eq_true rfl) (Nat.le_of_ble_eq_true rfl) (show k ≤ MC by omega) (show n ≤ MS by omega) (xt_w1 hB.1 m_89667ad5) (xt_cdOf hB.1 m_89667ad5) (hts _ m_d5ed7bed) hB hR hS hA (fun vv h10 H locs hq hEh10 hR hS => ?_)
        obtain ⟨r11, rfl, hw⟩ := hq
        have hw := hw hEh10
        have hE := hE.tr hEh10
        refine W.eq (g2 := F0 m 252 ls [.int r11, .int 1, .ref x0]) rfl ?_
        refine lv_aload_n hx hb (xb_d D_M_checkModule 152 rfl) rfl (lv_at hl 0 rfl) ?_
        have hk1 : xb_k h10 x0 = 9 := hEh10.k hk1
        refine xb_getP (C := R_M) (T := F_M) (N := 97) hx hb 8 10 hts fin_M hown hR hk1 (by decide) rfl (by decide) rfl (hts _ m_01d0d957) (fun _ h9 => h9) (xb_d D_M_checkModule 153 rfl) ?_
        obtain ⟨b12, eb12, hw⟩ := hw
        refine xb_some eb12 ?_
        refine lv_iconst (v := 4) hx hb (xb_d D_M_checkModule 154 rfl) (by decide) ?_
        refine lv_iload_n hx hb (xb_d D_M_checkModule 155 rfl) rfl (lv_at hl 1 rfl) ?_
        refine lv_imul hx hb (xb_d D_M_checkModule 156 rfl) ?_
        refine lv_iconst (v := 2) hx hb (xb_d D_M_checkModule 157 rfl) (by decide) ?_
        refine lv_iadd hx hb (xb_d D_M_checkModule 158 rfl) ?_
        obtain ⟨hk14, hw⟩ := hw
        obtain ⟨hi13, hw⟩ := hw
        refine xb_iald hx hb hR hk14 hi13 (xb_d D_M_checkModule 159 rfl) ?_
        refine lv_iload_n hx hb (xb_d D_M_checkModule 160 rfl) rfl (lv_at hl 2 rfl) ?_
        refine lv_iadd hx hb (xb_d D_M_checkModule 161 rfl) ?_
        refine lv_if_le (tgt := 271) hx hb (xb_d D_M_checkModule 162 rfl) rfl (fun hc15 => ?_) (fun hc15 => ?_)
        · have hw := hw.1 hc15
          refine lv_iconst (v := 0) hx hb (xb_d D_M_checkModule 165 rfl) (by decide) ?_
          exact am_M_checkModule_L272 l hfl D A σ MC MS h0 Qr (w_M_checkModule_L214 Qr n9) ih x0 x1 x2 0 r11 1 x0 h10 hw p e s m args below meth c hC H locs ls k n hE (lv_sub hl [0, 1, 2] rfl) hR hS (by omega) (by omega)
        · have hw := hw.2 hc15
          refine lv_iconst (v := 1) hx hb (xb_d D_M_checkModule 163 rfl) (by decide) ?_
          refine lv_goto (tgt := 272) hx hb (xb_d D_M_checkModule 164 rfl) rfl ?_
          exact am_M_checkModule_L272 l hfl D A σ MC MS h0 Qr (w_M_checkModule_L214 Qr n9) ih x0 x1 x2 1 r11 1 x0 h10 hw p e s m args below meth c hC H locs ls k n hE (lv_sub hl [0, 1, 2] rfl) hR hS (by omega) (by omega)

set_option maxHeartbeats 4000000 in
set_option maxRecDepth 100000 in
theorem am_M_checkModule_L212 (l : Launch) (hfl : l.flags = pinnedFlags ++ [noTraceFlag]) (D : va_G) (A : Nat → Prop) (σ MC MS : Nat) (h0 : xb_H) (Qr : xb_H → Prop) (x0 : Nat) (x1 : Int32) (h : xb_H) (hw : w_M_checkModule_L212 Qr x0 x1 h) : xb_am l D A σ 13 MC MS h0 (fun v h _ _ => v = none ∧ Qr h) (fun _ _ _ _ => False) y_M_checkModule.cls y_M_checkModule.name b_M_checkModule 4 ([] : List ExceptionTableEntry) none 212 [(0, .ref x0), (1, .int x1)] [] h 0 0 := by
  unfold w_M_checkModule_L212 at hw
  intro p e s m args below meth c hC H locs ls k n hE hl hR hS hk hn
  obtain ⟨hx, hb, hown, hlocks, htab, hml, hr, hB, hA, hnm⟩ := id hC
  have hts := hB.1.1.at args
  refine lv_iconst (v := 0) hx hb (xb_d D_M_checkModule 126 rfl) (by decide) ?_
  refine lv_istore_n hx hb (xb_d D_M_checkModule 127 rfl) rfl hl (by decide) rfl (fun ls hl => ?_)
  have hl : lv_has ls 4 [(2, .int 0), (0, .ref x0), (1, .int x1)] := hl
  obtain ⟨n8, hw⟩ := hw
  exact am_M_checkModule_L214 l hfl D A σ MC MS h0 Qr n8 x0 x1 0 h hw p e s m args below meth c hC H locs ls k n hE (lv_sub hl [1, 2, 0] rfl) hR hS (by omega) (by omega)

set_option maxHeartbeats 4000000 in
set_option maxRecDepth 100000 in
theorem am_M_checkModule_L203 (l : Launch) (hfl : l.flags = pinnedFlags ++ [noTraceFlag]) (D : va_G) (A : Nat → Prop) (σ MC MS : Nat) (h0 : xb_H) (Qr : xb_H → Prop) (K143 : Nat → Int32 → Int32 → xb_H → Prop) (hK143 : ∀ (x0 : Nat) (x1 : Int32) (x2 : Int32) (h : xb_H), K143 x0 x1 x2 h → xb_am l D A σ 13 MC MS h0 (fun v h _ _ => v = none ∧ Qr h) (fun _ _ _ _ => False) y_M_checkModule.cls y_M_checkModule.name b_M_checkModule 4 ([] : List ExceptionTableEntry) none 143 [(0, .ref x0), (1, .int x1), (2, .int x2)] [] h 0 0) (x0 : Nat) (x1 : Int32) (x2 : Int32) (y0 : Int32) (y1 : Int32) (y2 : Int32) (y3 : Nat) (h : xb_H) (hw : w_M_checkModule_L203 K143 Qr x0 x1 x2 y0 y1 y2 y3 h) : xb_am l D A σ 13 MC MS h0 (fun v h _ _ => v = none ∧ Qr h) (fun _ _ _ _ => False) y_M_checkModule.cls y_M_checkModule.name b_M_checkModule 4 ([] : List ExceptionTableEntry) none 203 [(0, .ref x0), (1, .int x1), (2, .int x2)] [.int y0, .int y1, .int y2, .ref y3] h 0 0 := by
  unfold w_M_checkModule_L203 at hw
  intro p e s m args below meth c hC H locs ls k n hE hl hR hS hk hn
  obtain ⟨hx, hb, hown, hlocks, htab, hml, hr, hB, hA, hnm⟩ := id hC
  have hts := hB.1.1.at args
  obtain ⟨hk1, hw⟩ := hw
  refine xb_call0 (D := D) (A := A) (σ := σ) (h := h) (d := 6) (maxL := 7) (rest := []) (av := [.ref y3, .int y2, .int y1, .int y0]) (fun T hT X => by obtain ⟨cb9, ra9, rb9, rc9⟩ := xb_recv (ci := 8) hR rfl hk1 (by decide); exact xt_invV X hx hown (hts _ m_9bc902ef) (hts _ m_d2d6a5ba) (hts _ m_f84d1ef4) (xt_sigOf (hts _ m_7cec8d21)) nm_M_limitsFault (by rw [hT]; exact ra9) rb9 rc9 (g := F0 m 203 ls [.int y0, .int y1, .int y2, .ref y3]) rfl (argsL := [.int y2, .int y1, .int y0]) (rest := []) rfl rfl (by rw [hb]; exact (xb_d D_M_checkModule 123 rfl))) (ok_M_limitsFault l hfl D A σ y3 y2 y1 y0 h _ hw) (hml.trans hl.1.symm) (by rw [hb]; exact (xb_d D_M_checkModule 123 rfl)) (Nat.le_of_ble_eq_true rfl) (Nat.le_of_ble_eq_true rfl) (Nat.le_of_ble_eq_true rfl) (show k ≤ MC by omega) (show n ≤ MS by omega) (xt_w1 hB.1 m_7cec8d21) (xt_cdOf hB.1 m_7cec8d21) (hts _ m_d5ed7bed) hB hR hS hA (fun vv h2 H locs hq hEh2 hR hS => ?_)
  obtain ⟨rfl, hw⟩ := hq
  have hw := hw hEh2
  have hE := hE.tr hEh2
  refine W.eq (g2 := F0 m 206 ls []) rfl ?_
  refine lv_iinc (v := (x2 + 1)) (k := 2) hx hb (xb_d D_M_checkModule 124 rfl) hl rfl (by first | rfl | decide) (by decide) rfl (fun ls hl => ?_)
  have hl : lv_has ls 4 [(2, .int (x2 + 1)), (0, .ref x0), (1, .int x1)] := hl
  refine lv_goto (tgt := 143) hx hb (xb_d D_M_checkModule 125 rfl) rfl ?_
  exact hK143 x0 x1 (x2 + 1) h2 hw p e s m args below meth c hC H locs ls k n hE (lv_sub hl [1, 2, 0] rfl) hR hS (by omega) (by omega)

set_option maxHeartbeats 4000000 in
set_option maxRecDepth 100000 in
theorem am_M_checkModule_L143 (l : Launch) (hfl : l.flags = pinnedFlags ++ [noTraceFlag]) (D : va_G) (A : Nat → Prop) (σ MC MS : Nat) (h0 : xb_H) (Qr : xb_H → Prop) (n9 : Nat) : ∀ (x0 : Nat) (x1 : Int32) (x2 : Int32) (h : xb_H), w_M_checkModule_L143 Qr n9 x0 x1 x2 h → xb_am l D A σ 13 MC MS h0 (fun v h _ _ => v = none ∧ Qr h) (fun _ _ _ _ => False) y_M_checkModule.cls y_M_checkModule.name b_M_checkModule 4 ([] : List ExceptionTableEntry) none 143 [(0, .ref x0), (1, .int x1), (2, .int x2)] [] h 0 0 := by
  induction n9 with
  | zero => intro x0 x1 x2 h hw; exact False.elim hw
  | succ n9 ih =>
    intro x0 x1 x2 h hw
    unfold w_M_checkModule_L143 at hw
    intro p e s m args below meth c hC H locs ls k n hE hl hR hS hk hn
    obtain ⟨hx, hb, hown, hlocks, htab, hml, hr, hB, hA, hnm⟩ := id hC
    have hts := hB.1.1.at args
    refine lv_iload_n hx hb (xb_d D_M_checkModule 83 rfl) rfl (lv_at hl 2 rfl) ?_
    refine lv_aload_n hx hb (xb_d D_M_checkModule 84 rfl) rfl (lv_at hl 0 rfl) ?_
    refine lv_iload_n hx hb (xb_d D_M_checkModule 85 rfl) rfl (lv_at hl 1 rfl) ?_
    refine lv_iconst (v := 4) hx hb (xb_d D_M_checkModule 86 rfl) (by decide) ?_
    obtain ⟨hk1, hw⟩ := hw
    refine xb_call0 (D := D) (A := A) (σ := σ) (h := h) (d := 2) (maxL := 3) (rest := [.int x2]) (av := [.ref x0, .int x1, .int 4]) (fun T hT X => by obtain ⟨cb9, ra9, rb9, rc9⟩ := xb_recv (ci := 8) hR rfl hk1 (by decide); exact xt_invV X hx hown (hts _ m_b47f62c2) (hts _ m_9f071faf) (hts _ m_e1bb5c84) (xt_sigOf (hts _ m_3a6212d6)) nm_M_manyOf (by rw [hT]; exact ra9) rb9 rc9 (g := F0 m 147 ls [.int 4, .int x1, .ref x0, .int x2]) rfl (argsL := [.int x1, .int 4]) (rest := [.int x2]) rfl rfl (by rw [hb]; exact (xb_d D_M_checkModule 87 rfl))) (ok_M_manyOf l hfl D A σ x0 x1 4 h _ hw) (hml.trans hl.1.symm) (by rw [hb]; exact (xb_d D_M_checkModule 87 rfl)) (Nat.le_of_ble_eq_true rfl) (Nat.le_of_ble_eq_true rfl) (Nat.le_of_ble_eq_true rfl) (show k ≤ MC by omega) (show n ≤ MS by omega) (xt_w1 hB.1 m_3a6212d6) (xt_cdOf hB.1 m_3a6212d6) (hts _ m_d5ed7bed) hB hR hS hA (fun vv h2 H locs hq hEh2 hR hS => ?_)
    obtain ⟨r3, rfl, hw⟩ := hq
    have hw := hw hEh2
    have hE := hE.tr hEh2
    refine W.eq (g2 := F0 m 150 ls [.int r3, .int x2]) rfl ?_
    refine lv_icmp_ge (tgt := 212) hx hb (xb_d D_M_checkModule 88 rfl) rfl (fun hc4 => ?_) (fun hc4 => ?_)
    · have hw := hw.1 hc4
      exact am_M_checkModule_L212 l hfl D A σ MC MS h0 Qr x0 x1 h2 hw p e s m args below meth c hC H locs ls k n hE (lv_sub hl [0, 1] rfl) hR hS (by omega) (by omega)
    · have hw := hw.2 hc4
      refine lv_aload_n hx hb (xb_d D_M_checkModule 89 rfl) rfl (lv_at hl 0 rfl) ?_
      have hk1 : xb_k h2 x0 = 9 := hEh2.k hk1
      refine xb_getI (C := R_M) (T := F_M) (N := 97) hx hb 8 17 hts fin_M hown hR hk1 (by decide) rfl (by decide) rfl (hts _ m_ff69da61) (fun _ h9 => h9) (xb_d D_M_checkModule 90 rfl) ?_
      refine lv_if_ne (tgt := 212) hx hb (xb_d D_M_checkModule 91 rfl) rfl (fun hc5 => ?_) (fun hc5 => ?_)
      · have hw := hw.1 hc5
        exact am_M_checkModule_L212 l hfl D A σ MC MS h0 Qr x0 x1 h2 hw p e s m args below meth c hC H locs ls k n hE (lv_sub hl [0, 1] rfl) hR hS (by omega) (by omega)
      · have hw := hw.2 hc5
        refine lv_aload_n hx hb (xb_d D_M_checkModule 92 rfl) rfl (lv_at hl 0 rfl) ?_
        refine lv_iload_n hx hb (xb_d D_M_checkModule 93 rfl) rfl (lv_at hl 1 rfl) ?_
        refine lv_aload_n hx hb (xb_d D_M_checkModule 94 rfl) rfl (lv_at hl 0 rfl) ?_
        refine lv_iload_n hx hb (xb_d D_M_checkModule 95 rfl) rfl (lv_at hl 1 rfl) ?_
        refine lv_iconst (v := 4) hx hb (xb_d D_M_checkModule 96 rfl) (by decide) ?_
        refine lv_iload_n hx hb (xb_d D_M_checkModule 97 rfl) rfl (lv_at hl 2 rfl) ?_
        refine xb_call0 (D := D) (A := A) (σ := σ) (h := h2) (d := 2) (maxL := 4) (rest := [.int x1, .ref x0]) (av := [.ref x0, .int x1, .int 4, .int x2]) (fun T hT X => by obtain ⟨cb9, ra9, rb9, rc9⟩ := xb_recv (ci := 8) hR rfl hk1 (by decide); exact xt_invV X hx hown (hts _ m_7f41753e) (hts _ m_8cdd7108) (hts _ m_e228318f) (xt_sigOf (hts _ m_89667ad5)) nm_M_placeOf (by rw [hT]; exact ra9) rb9 rc9 (g := F0 m 166 ls [.int x2, .int 4, .int x1, .ref x0, .int x1, .ref x0]) rfl (argsL := [.int x1, .int 4, .int x2]) (rest := [.int x1, .ref x0]) rfl rfl (by rw [hb]; exact (xb_d D_M_checkModule 98 rfl))) (ok_M_placeOf l hfl D A σ x0 x1 4 x2 h2 _ hw) (hml.trans hl.1.symm) (by rw [hb]; exact (xb_d D_M_checkModule 98 rfl)) (Nat.le_of_ble_eq_true rfl) (Nat.le_of_ble_eq_true rfl) (Nat.le_of_ble_eq_true rfl) (show k ≤ MC by omega) (show n ≤ MS by omega) (xt_w1 hB.1 m_89667ad5) (xt_cdOf hB.1 m_89667ad5) (hts _ m_d5ed7bed) hB hR hS hA (fun vv h6 H locs hq hEh6 hR hS => ?_)
        obtain ⟨r7, rfl, hw⟩ := hq
        have hw := hw hEh6
        have hE := hE.tr hEh6
        refine W.eq (g2 := F0 m 169 ls [.int r7, .int x1, .ref x0]) rfl ?_
        refine lv_iconst (v := 1) hx hb (xb_d D_M_checkModule 99 rfl) (by decide) ?_
        refine lv_iadd hx hb (xb_d D_M_checkModule 100 rfl) ?_
        have hk1 : xb_k h6 x0 = 9 := hEh6.k hk1
        refine xb_call0 (D := D) (A := A) (σ := σ) (h := h6) (d := 2) (maxL := 3) (rest := []) (av := [.ref x0, .int x1, .int (r7 + 1)]) (fun T hT X => by obtain ⟨cb9, ra9, rb9, rc9⟩ := xb_recv (ci := 8) hR rfl hk1 (by decide); exact xt_invV X hx hown (hts _ m_bb531879) (hts _ m_4a6cd4a0) (hts _ m_d1c31e3c) (xt_sigOf (hts _ m_48217fba)) nm_M_go (by rw [hT]; exact ra9) rb9 rc9 (g := F0 m 171 ls [.int (r7 + 1), .int x1, .ref x0]) rfl (argsL := [.int x1, .int (r7 + 1)]) (rest := []) rfl rfl (by rw [hb]; exact (xb_d D_M_checkModule 101 rfl))) (ok_M_go l hfl D A σ x0 x1 (r7 + 1) h6 _ hw) (hml.trans hl.1.symm) (by rw [hb]; exact (xb_d D_M_checkModule 101 rfl)) (Nat.le_of_ble_eq_true rfl) (Nat.le_of_ble_eq_true rfl) (Nat.le_of_ble_eq_true rfl) (show k ≤ MC by omega) (show n ≤ MS by omega) (xt_w1 hB.1 m_48217fba) (xt_cdOf hB.1 m_48217fba) (hts _ m_d5ed7bed) hB hR hS hA (fun vv h8 H locs hq hEh8 hR hS => ?_)
        obtain ⟨rfl, hw⟩ := hq
        have hw := hw hEh8
        have hE := hE.tr hEh8
        refine W.eq (g2 := F0 m 174 ls []) rfl ?_
        refine lv_aload_n hx hb (xb_d D_M_checkModule 102 rfl) rfl (lv_at hl 0 rfl) ?_
        refine lv_iconst (v := 0) hx hb (xb_d D_M_checkModule 103 rfl) (by decide) ?_
        refine lv_aload_n hx hb (xb_d D_M_checkModule 104 rfl) rfl (lv_at hl 0 rfl) ?_
        refine lv_iload_n hx hb (xb_d D_M_checkModule 105 rfl) rfl (lv_at hl 1 rfl) ?_
        refine lv_iconst (v := 4) hx hb (xb_d D_M_checkModule 106 rfl) (by decide) ?_
        refine lv_iload_n hx hb (xb_d D_M_checkModule 107 rfl) rfl (lv_at hl 2 rfl) ?_
        have hk1 : xb_k h8 x0 = 9 := hEh8.k hk1
        refine xb_call0 (D := D) (A := A) (σ := σ) (h := h8) (d := 2) (maxL := 4) (rest := [.int 0, .ref x0]) (av := [.ref x0, .int x1, .int 4, .int x2]) (fun T hT X => by obtain ⟨cb9, ra9, rb9, rc9⟩ := xb_recv (ci := 8) hR rfl hk1 (by decide); exact xt_invV X hx hown (hts _ m_7f41753e) (hts _ m_8cdd7108) (hts _ m_e228318f) (xt_sigOf (hts _ m_89667ad5)) nm_M_placeOf (by rw [hT]; exact ra9) rb9 rc9 (g := F0 m 180 ls [.int x2, .int 4, .int x1, .ref x0, .int 0, .ref x0]) rfl (argsL := [.int x1, .int 4, .int x2]) (rest := [.int 0, .ref x0]) rfl rfl (by rw [hb]; exact (xb_d D_M_checkModule 108 rfl))) (ok_M_placeOf l hfl D A σ x0 x1 4 x2 h8 _ hw) (hml.trans hl.1.symm) (by rw [hb]; exact (xb_d D_M_checkModule 108 rfl)) (Nat.le_of_ble_eq_true rfl) (Nat.le_of_ble_eq_true rfl) (Nat.le_of_ble_eq_true rfl) (show k ≤ MC by omega) (show n ≤ MS by omega) (xt_w1 hB.1 m_89667ad5) (xt_cdOf hB.1 m_89667ad5) (hts _ m_d5ed7bed) hB hR hS hA (fun vv h10 H locs hq hEh10 hR hS => ?_)
        obtain ⟨r11, rfl, hw⟩ := hq
        have hw := hw hEh10
        have hE := hE.tr hEh10
        refine W.eq (g2 := F0 m 183 ls [.int r11, .int 0, .ref x0]) rfl ?_
        refine lv_aload_n hx hb (xb_d D_M_checkModule 109 rfl) rfl (lv_at hl 0 rfl) ?_
        have hk1 : xb_k h10 x0 = 9 := hEh10.k hk1
        refine xb_getP (C := R_M) (T := F_M) (N := 97) hx hb 8 10 hts fin_M hown hR hk1 (by decide) rfl (by decide) rfl (hts _ m_01d0d957) (fun _ h9 => h9) (xb_d D_M_checkModule 110 rfl) ?_
        obtain ⟨b12, eb12, hw⟩ := hw
        refine xb_some eb12 ?_
        refine lv_iconst (v := 4) hx hb (xb_d D_M_checkModule 111 rfl) (by decide) ?_
        refine lv_iload_n hx hb (xb_d D_M_checkModule 112 rfl) rfl (lv_at hl 1 rfl) ?_
        refine lv_imul hx hb (xb_d D_M_checkModule 113 rfl) ?_
        refine lv_iconst (v := 1) hx hb (xb_d D_M_checkModule 114 rfl) (by decide) ?_
        refine lv_iadd hx hb (xb_d D_M_checkModule 115 rfl) ?_
        obtain ⟨hk14, hw⟩ := hw
        obtain ⟨hi13, hw⟩ := hw
        refine xb_iald hx hb hR hk14 hi13 (xb_d D_M_checkModule 116 rfl) ?_
        refine lv_iload_n hx hb (xb_d D_M_checkModule 117 rfl) rfl (lv_at hl 2 rfl) ?_
        refine lv_iadd hx hb (xb_d D_M_checkModule 118 rfl) ?_
        refine lv_if_le (tgt := 202) hx hb (xb_d D_M_checkModule 119 rfl) rfl (fun hc15 => ?_) (fun hc15 => ?_)
        · have hw := hw.1 hc15
          refine lv_iconst (v := 0) hx hb (xb_d D_M_checkModule 122 rfl) (by decide) ?_
          exact am_M_checkModule_L203 l hfl D A σ MC MS h0 Qr (w_M_checkModule_L143 Qr n9) ih x0 x1 x2 0 r11 0 x0 h10 hw p e s m args below meth c hC H locs ls k n hE (lv_sub hl [0, 1, 2] rfl) hR hS (by omega) (by omega)
        · have hw := hw.2 hc15
          refine lv_iconst (v := 1) hx hb (xb_d D_M_checkModule 120 rfl) (by decide) ?_
          refine lv_goto (tgt := 203) hx hb (xb_d D_M_checkModule 121 rfl) rfl ?_
          exact am_M_checkModule_L203 l hfl D A σ MC MS h0 Qr (w_M_checkModule_L143 Qr n9) ih x0 x1 x2 1 r11 0 x0 h10 hw p e s m args below meth c hC H locs ls k n hE (lv_sub hl [0, 1, 2] rfl) hR hS (by omega) (by omega)

set_option maxHeartbeats 4000000 in
set_option maxRecDepth 100000 in
theorem am_M_checkModule_L141 (l : Launch) (hfl : l.flags = pinnedFlags ++ [noTraceFlag]) (D : va_G) (A : Nat → Prop) (σ MC MS : Nat) (h0 : xb_H) (Qr : xb_H → Prop) (x0 : Nat) (x1 : Int32) (h : xb_H) (hw : w_M_checkModule_L141 Qr x0 x1 h) : xb_am l D A σ 13 MC MS h0 (fun v h _ _ => v = none ∧ Qr h) (fun _ _ _ _ => False) y_M_checkModule.cls y_M_checkModule.name b_M_checkModule 4 ([] : List ExceptionTableEntry) none 141 [(0, .ref x0), (1, .int x1)] [] h 0 0 := by
  unfold w_M_checkModule_L141 at hw
  intro p e s m args below meth c hC H locs ls k n hE hl hR hS hk hn
  obtain ⟨hx, hb, hown, hlocks, htab, hml, hr, hB, hA, hnm⟩ := id hC
  have hts := hB.1.1.at args
  refine lv_iconst (v := 0) hx hb (xb_d D_M_checkModule 81 rfl) (by decide) ?_
  refine lv_istore_n hx hb (xb_d D_M_checkModule 82 rfl) rfl hl (by decide) rfl (fun ls hl => ?_)
  have hl : lv_has ls 4 [(2, .int 0), (0, .ref x0), (1, .int x1)] := hl
  obtain ⟨n8, hw⟩ := hw
  exact am_M_checkModule_L143 l hfl D A σ MC MS h0 Qr n8 x0 x1 0 h hw p e s m args below meth c hC H locs ls k n hE (lv_sub hl [1, 2, 0] rfl) hR hS (by omega) (by omega)

set_option maxHeartbeats 4000000 in
set_option maxRecDepth 100000 in
theorem am_M_checkModule_L135 (l : Launch) (hfl : l.flags = pinnedFlags ++ [noTraceFlag]) (D : va_G) (A : Nat → Prop) (σ MC MS : Nat) (h0 : xb_H) (Qr : xb_H → Prop) (K78 : Nat → Int32 → Int32 → xb_H → Prop) (hK78 : ∀ (x0 : Nat) (x1 : Int32) (x2 : Int32) (h : xb_H), K78 x0 x1 x2 h → xb_am l D A σ 13 MC MS h0 (fun v h _ _ => v = none ∧ Qr h) (fun _ _ _ _ => False) y_M_checkModule.cls y_M_checkModule.name b_M_checkModule 4 ([] : List ExceptionTableEntry) none 78 [(0, .ref x0), (1, .int x1), (2, .int x2)] [] h 0 0) (x0 : Nat) (x1 : Int32) (x2 : Int32) (h : xb_H) (hw : w_M_checkModule_L135 K78 Qr x0 x1 x2 h) : xb_am l D A σ 13 MC MS h0 (fun v h _ _ => v = none ∧ Qr h) (fun _ _ _ _ => False) y_M_checkModule.cls y_M_checkModule.name b_M_checkModule 4 ([] : List ExceptionTableEntry) none 135 [(0, .ref x0), (1, .int x1), (2, .int x2)] [] h 0 0 := by
  unfold w_M_checkModule_L135 at hw
  intro p e s m args below meth c hC H locs ls k n hE hl hR hS hk hn
  obtain ⟨hx, hb, hown, hlocks, htab, hml, hr, hB, hA, hnm⟩ := id hC
  have hts := hB.1.1.at args
  refine lv_iinc (v := (x2 + 1)) (k := 2) hx hb (xb_d D_M_checkModule 79 rfl) hl rfl (by first | rfl | decide) (by decide) rfl (fun ls hl => ?_)
  have hl : lv_has ls 4 [(2, .int (x2 + 1)), (0, .ref x0), (1, .int x1)] := hl
  refine lv_goto (tgt := 78) hx hb (xb_d D_M_checkModule 80 rfl) rfl ?_
  exact hK78 x0 x1 (x2 + 1) h hw p e s m args below meth c hC H locs ls k n hE (lv_sub hl [1, 2, 0] rfl) hR hS (by omega) (by omega)

set_option maxHeartbeats 4000000 in
set_option maxRecDepth 100000 in
theorem am_M_checkModule_L78 (l : Launch) (hfl : l.flags = pinnedFlags ++ [noTraceFlag]) (D : va_G) (A : Nat → Prop) (σ MC MS : Nat) (h0 : xb_H) (Qr : xb_H → Prop) (n9 : Nat) : ∀ (x0 : Nat) (x1 : Int32) (x2 : Int32) (h : xb_H), w_M_checkModule_L78 Qr n9 x0 x1 x2 h → xb_am l D A σ 13 MC MS h0 (fun v h _ _ => v = none ∧ Qr h) (fun _ _ _ _ => False) y_M_checkModule.cls y_M_checkModule.name b_M_checkModule 4 ([] : List ExceptionTableEntry) none 78 [(0, .ref x0), (1, .int x1), (2, .int x2)] [] h 0 0 := by
  induction n9 with
  | zero => intro x0 x1 x2 h hw; exact False.elim hw
  | succ n9 ih =>
    intro x0 x1 x2 h hw
    unfold w_M_checkModule_L78 at hw
    intro p e s m args below meth c hC H locs ls k n hE hl hR hS hk hn
    obtain ⟨hx, hb, hown, hlocks, htab, hml, hr, hB, hA, hnm⟩ := id hC
    have hts := hB.1.1.at args
    refine lv_iload_n hx hb (xb_d D_M_checkModule 45 rfl) rfl (lv_at hl 2 rfl) ?_
    refine lv_aload_n hx hb (xb_d D_M_checkModule 46 rfl) rfl (lv_at hl 0 rfl) ?_
    refine lv_iload_n hx hb (xb_d D_M_checkModule 47 rfl) rfl (lv_at hl 1 rfl) ?_
    refine lv_iconst (v := 3) hx hb (xb_d D_M_checkModule 48 rfl) (by decide) ?_
    obtain ⟨hk1, hw⟩ := hw
    refine xb_call0 (D := D) (A := A) (σ := σ) (h := h) (d := 2) (maxL := 3) (rest := [.int x2]) (av := [.ref x0, .int x1, .int 3]) (fun T hT X => by obtain ⟨cb9, ra9, rb9, rc9⟩ := xb_recv (ci := 8) hR rfl hk1 (by decide); exact xt_invV X hx hown (hts _ m_b47f62c2) (hts _ m_9f071faf) (hts _ m_e1bb5c84) (xt_sigOf (hts _ m_3a6212d6)) nm_M_manyOf (by rw [hT]; exact ra9) rb9 rc9 (g := F0 m 82 ls [.int 3, .int x1, .ref x0, .int x2]) rfl (argsL := [.int x1, .int 3]) (rest := [.int x2]) rfl rfl (by rw [hb]; exact (xb_d D_M_checkModule 49 rfl))) (ok_M_manyOf l hfl D A σ x0 x1 3 h _ hw) (hml.trans hl.1.symm) (by rw [hb]; exact (xb_d D_M_checkModule 49 rfl)) (Nat.le_of_ble_eq_true rfl) (Nat.le_of_ble_eq_true rfl) (Nat.le_of_ble_eq_true rfl) (show k ≤ MC by omega) (show n ≤ MS by omega) (xt_w1 hB.1 m_3a6212d6) (xt_cdOf hB.1 m_3a6212d6) (hts _ m_d5ed7bed) hB hR hS hA (fun vv h2 H locs hq hEh2 hR hS => ?_)
    obtain ⟨r3, rfl, hw⟩ := hq
    have hw := hw hEh2
    have hE := hE.tr hEh2
    refine W.eq (g2 := F0 m 85 ls [.int r3, .int x2]) rfl ?_
    refine lv_icmp_ge (tgt := 141) hx hb (xb_d D_M_checkModule 50 rfl) rfl (fun hc4 => ?_) (fun hc4 => ?_)
    · have hw := hw.1 hc4
      exact am_M_checkModule_L141 l hfl D A σ MC MS h0 Qr x0 x1 h2 hw p e s m args below meth c hC H locs ls k n hE (lv_sub hl [0, 1] rfl) hR hS (by omega) (by omega)
    · have hw := hw.2 hc4
      refine lv_aload_n hx hb (xb_d D_M_checkModule 51 rfl) rfl (lv_at hl 0 rfl) ?_
      have hk1 : xb_k h2 x0 = 9 := hEh2.k hk1
      refine xb_getI (C := R_M) (T := F_M) (N := 97) hx hb 8 17 hts fin_M hown hR hk1 (by decide) rfl (by decide) rfl (hts _ m_ff69da61) (fun _ h9 => h9) (xb_d D_M_checkModule 52 rfl) ?_
      refine lv_if_ne (tgt := 141) hx hb (xb_d D_M_checkModule 53 rfl) rfl (fun hc5 => ?_) (fun hc5 => ?_)
      · have hw := hw.1 hc5
        exact am_M_checkModule_L141 l hfl D A σ MC MS h0 Qr x0 x1 h2 hw p e s m args below meth c hC H locs ls k n hE (lv_sub hl [0, 1] rfl) hR hS (by omega) (by omega)
      · have hw := hw.2 hc5
        refine lv_aload_n hx hb (xb_d D_M_checkModule 54 rfl) rfl (lv_at hl 0 rfl) ?_
        refine lv_iload_n hx hb (xb_d D_M_checkModule 55 rfl) rfl (lv_at hl 1 rfl) ?_
        refine lv_aload_n hx hb (xb_d D_M_checkModule 56 rfl) rfl (lv_at hl 0 rfl) ?_
        refine lv_iload_n hx hb (xb_d D_M_checkModule 57 rfl) rfl (lv_at hl 1 rfl) ?_
        refine lv_iconst (v := 3) hx hb (xb_d D_M_checkModule 58 rfl) (by decide) ?_
        refine lv_iload_n hx hb (xb_d D_M_checkModule 59 rfl) rfl (lv_at hl 2 rfl) ?_
        refine xb_call0 (D := D) (A := A) (σ := σ) (h := h2) (d := 2) (maxL := 4) (rest := [.int x1, .ref x0]) (av := [.ref x0, .int x1, .int 3, .int x2]) (fun T hT X => by obtain ⟨cb9, ra9, rb9, rc9⟩ := xb_recv (ci := 8) hR rfl hk1 (by decide); exact xt_invV X hx hown (hts _ m_7f41753e) (hts _ m_8cdd7108) (hts _ m_e228318f) (xt_sigOf (hts _ m_89667ad5)) nm_M_placeOf (by rw [hT]; exact ra9) rb9 rc9 (g := F0 m 101 ls [.int x2, .int 3, .int x1, .ref x0, .int x1, .ref x0]) rfl (argsL := [.int x1, .int 3, .int x2]) (rest := [.int x1, .ref x0]) rfl rfl (by rw [hb]; exact (xb_d D_M_checkModule 60 rfl))) (ok_M_placeOf l hfl D A σ x0 x1 3 x2 h2 _ hw) (hml.trans hl.1.symm) (by rw [hb]; exact (xb_d D_M_checkModule 60 rfl)) (Nat.le_of_ble_eq_true rfl) (Nat.le_of_ble_eq_true rfl) (Nat.le_of_ble_eq_true rfl) (show k ≤ MC by omega) (show n ≤ MS by omega) (xt_w1 hB.1 m_89667ad5) (xt_cdOf hB.1 m_89667ad5) (hts _ m_d5ed7bed) hB hR hS hA (fun vv h6 H locs hq hEh6 hR hS => ?_)
        obtain ⟨r7, rfl, hw⟩ := hq
        have hw := hw hEh6
        have hE := hE.tr hEh6
        refine W.eq (g2 := F0 m 104 ls [.int r7, .int x1, .ref x0]) rfl ?_
        have hk1 : xb_k h6 x0 = 9 := hEh6.k hk1
        refine xb_call0 (D := D) (A := A) (σ := σ) (h := h6) (d := 2) (maxL := 3) (rest := []) (av := [.ref x0, .int x1, .int r7]) (fun T hT X => by obtain ⟨cb9, ra9, rb9, rc9⟩ := xb_recv (ci := 8) hR rfl hk1 (by decide); exact xt_invV X hx hown (hts _ m_bb531879) (hts _ m_4a6cd4a0) (hts _ m_d1c31e3c) (xt_sigOf (hts _ m_48217fba)) nm_M_go (by rw [hT]; exact ra9) rb9 rc9 (g := F0 m 104 ls [.int r7, .int x1, .ref x0]) rfl (argsL := [.int x1, .int r7]) (rest := []) rfl rfl (by rw [hb]; exact (xb_d D_M_checkModule 61 rfl))) (ok_M_go l hfl D A σ x0 x1 r7 h6 _ hw) (hml.trans hl.1.symm) (by rw [hb]; exact (xb_d D_M_checkModule 61 rfl)) (Nat.le_of_ble_eq_true rfl) (Nat.le_of_ble_eq_true rfl) (Nat.le_of_ble_eq_true rfl) (show k ≤ MC by omega) (show n ≤ MS by omega) (xt_w1 hB.1 m_48217fba) (xt_cdOf hB.1 m_48217fba) (hts _ m_d5ed7bed) hB hR hS hA (fun vv h8 H locs hq hEh8 hR hS => ?_)
        obtain ⟨rfl, hw⟩ := hq
        have hw := hw hEh8
        have hE := hE.tr hEh8
        refine W.eq (g2 := F0 m 107 ls []) rfl ?_
        refine lv_aload_n hx hb (xb_d D_M_checkModule 62 rfl) rfl (lv_at hl 0 rfl) ?_
        have hk1 : xb_k h8 x0 = 9 := hEh8.k hk1
        refine xb_call0 (D := D) (A := A) (σ := σ) (h := h8) (d := 4) (maxL := 5) (rest := []) (av := [.ref x0]) (fun T hT X => by obtain ⟨cb9, ra9, rb9, rc9⟩ := xb_recv (ci := 8) hR rfl hk1 (by decide); exact xt_invV X hx hown (hts _ m_e991293f) (hts _ m_385a74b3) (hts _ m_c9fbcd02) (xt_sigOf (hts _ m_1f53f210)) nm_M_count (by rw [hT]; exact ra9) rb9 rc9 (g := F0 m 108 ls [.ref x0]) rfl (argsL := []) (rest := []) rfl rfl (by rw [hb]; exact (xb_d D_M_checkModule 63 rfl))) (ok_M_count l hfl D A σ x0 h8 _ hw) (hml.trans hl.1.symm) (by rw [hb]; exact (xb_d D_M_checkModule 63 rfl)) (Nat.le_of_ble_eq_true rfl) (Nat.le_of_ble_eq_true rfl) (Nat.le_of_ble_eq_true rfl) (show k ≤ MC by omega) (show n ≤ MS by omega) (xt_w1 hB.1 m_1f53f210) (xt_cdOf hB.1 m_1f53f210) (hts _ m_d5ed7bed) hB hR hS hA (fun vv h10 H locs hq hEh10 hR hS => ?_)
        obtain ⟨r11, rfl, hw⟩ := hq
        have hw := hw hEh10
        have hE := hE.tr hEh10
        refine W.eq (g2 := F0 m 111 ls [.long r11]) rfl ?_
        refine lv_aload_n hx hb (xb_d D_M_checkModule 64 rfl) rfl (lv_at hl 0 rfl) ?_
        refine lv_iload_n hx hb (xb_d D_M_checkModule 65 rfl) rfl (lv_at hl 1 rfl) ?_
        refine lv_iconst (v := 1) hx hb (xb_d D_M_checkModule 66 rfl) (by decide) ?_
        have hk1 : xb_k h10 x0 = 9 := hEh10.k hk1
        refine xb_call0 (D := D) (A := A) (σ := σ) (h := h10) (d := 2) (maxL := 3) (rest := [.long r11]) (av := [.ref x0, .int x1, .int 1]) (fun T hT X => by obtain ⟨cb9, ra9, rb9, rc9⟩ := xb_recv (ci := 8) hR rfl hk1 (by decide); exact xt_invV X hx hown (hts _ m_b47f62c2) (hts _ m_9f071faf) (hts _ m_e1bb5c84) (xt_sigOf (hts _ m_3a6212d6)) nm_M_manyOf (by rw [hT]; exact ra9) rb9 rc9 (g := F0 m 114 ls [.int 1, .int x1, .ref x0, .long r11]) rfl (argsL := [.int x1, .int 1]) (rest := [.long r11]) rfl rfl (by rw [hb]; exact (xb_d D_M_checkModule 67 rfl))) (ok_M_manyOf l hfl D A σ x0 x1 1 h10 _ hw) (hml.trans hl.1.symm) (by rw [hb]; exact (xb_d D_M_checkModule 67 rfl)) (Nat.le_of_ble_eq_true rfl) (Nat.le_of_ble_eq_true rfl) (Nat.le_of_ble_eq_true rfl) (show k ≤ MC by omega) (show n ≤ MS by omega) (xt_w1 hB.1 m_3a6212d6) (xt_cdOf hB.1 m_3a6212d6) (hts _ m_d5ed7bed) hB hR hS hA (fun vv h12 H locs hq hEh12 hR hS => ?_)
        obtain ⟨r13, rfl, hw⟩ := hq
        have hw := hw hEh12
        have hE := hE.tr hEh12
        refine W.eq (g2 := F0 m 117 ls [.int r13, .long r11]) rfl ?_
        refine lv_i2l hx hb (xb_d D_M_checkModule 68 rfl) rfl ?_
        refine xb_lc_lt (tgt := 135) hx hb (xb_d D_M_checkModule 69 rfl) (xb_d D_M_checkModule 70 rfl) rfl (fun hc14 => ?_) (fun hc14 => ?_)
        · have hw := hw.1 hc14
          exact am_M_checkModule_L135 l hfl D A σ MC MS h0 Qr (w_M_checkModule_L78 Qr n9) ih x0 x1 x2 h12 hw p e s m args below meth c hC H locs ls k n hE (lv_sub hl [0, 1, 2] rfl) hR hS (by omega) (by omega)
        · have hw := hw.2 hc14
          refine lv_aload_n hx hb (xb_d D_M_checkModule 71 rfl) rfl (lv_at hl 0 rfl) ?_
          refine lv_bipush (v := 20) hx hb (xb_d D_M_checkModule 72 rfl) (by decide) ?_
          refine lv_aload_n hx hb (xb_d D_M_checkModule 73 rfl) rfl (lv_at hl 0 rfl) ?_
          refine lv_iload_n hx hb (xb_d D_M_checkModule 74 rfl) rfl (lv_at hl 1 rfl) ?_
          refine lv_iconst (v := 3) hx hb (xb_d D_M_checkModule 75 rfl) (by decide) ?_
          refine lv_iload_n hx hb (xb_d D_M_checkModule 76 rfl) rfl (lv_at hl 2 rfl) ?_
          have hk1 : xb_k h12 x0 = 9 := hEh12.k hk1
          refine xb_call0 (D := D) (A := A) (σ := σ) (h := h12) (d := 2) (maxL := 4) (rest := [.int 20, .ref x0]) (av := [.ref x0, .int x1, .int 3, .int x2]) (fun T hT X => by obtain ⟨cb9, ra9, rb9, rc9⟩ := xb_recv (ci := 8) hR rfl hk1 (by decide); exact xt_invV X hx hown (hts _ m_7f41753e) (hts _ m_8cdd7108) (hts _ m_e228318f) (xt_sigOf (hts _ m_89667ad5)) nm_M_placeOf (by rw [hT]; exact ra9) rb9 rc9 (g := F0 m 129 ls [.int x2, .int 3, .int x1, .ref x0, .int 20, .ref x0]) rfl (argsL := [.int x1, .int 3, .int x2]) (rest := [.int 20, .ref x0]) rfl rfl (by rw [hb]; exact (xb_d D_M_checkModule 77 rfl))) (ok_M_placeOf l hfl D A σ x0 x1 3 x2 h12 _ hw) (hml.trans hl.1.symm) (by rw [hb]; exact (xb_d D_M_checkModule 77 rfl)) (Nat.le_of_ble_eq_true rfl) (Nat.le_of_ble_eq_true rfl) (Nat.le_of_ble_eq_true rfl) (show k ≤ MC by omega) (show n ≤ MS by omega) (xt_w1 hB.1 m_89667ad5) (xt_cdOf hB.1 m_89667ad5) (hts _ m_d5ed7bed) hB hR hS hA (fun vv h15 H locs hq hEh15 hR hS => ?_)
          obtain ⟨r16, rfl, hw⟩ := hq
          have hw := hw hEh15
          have hE := hE.tr hEh15
          refine W.eq (g2 := F0 m 132 ls [.int r16, .int 20, .ref x0]) rfl ?_
          have hk1 : xb_k h15 x0 = 9 := hEh15.k hk1
          refine xb_call0 (D := D) (A := A) (σ := σ) (h := h15) (d := 2) (maxL := 3) (rest := []) (av := [.ref x0, .int 20, .int r16]) (fun T hT X => by obtain ⟨cb9, ra9, rb9, rc9⟩ := xb_recv (ci := 8) hR rfl hk1 (by decide); exact xt_invV X hx hown (hts _ m_939052ad) (hts _ m_29cc8c73) (hts _ m_3b1ac7ab) (xt_sigOf (hts _ m_8f062ecd)) nm_M_fail (by rw [hT]; exact ra9) rb9 rc9 (g := F0 m 132 ls [.int r16, .int 20, .ref x0]) rfl (argsL := [.int 20, .int r16]) (rest := []) rfl rfl (by rw [hb]; exact (xb_d D_M_checkModule 78 rfl))) (ok_M_fail l hfl D A σ x0 20 r16 h15 _ hw) (hml.trans hl.1.symm) (by rw [hb]; exact (xb_d D_M_checkModule 78 rfl)) (Nat.le_of_ble_eq_true rfl) (Nat.le_of_ble_eq_true rfl) (Nat.le_of_ble_eq_true rfl) (show k ≤ MC by omega) (show n ≤ MS by omega) (xt_w1 hB.1 m_8f062ecd) (xt_cdOf hB.1 m_8f062ecd) (hts _ m_d5ed7bed) hB hR hS hA (fun vv h17 H locs hq hEh17 hR hS => ?_)
          obtain ⟨rfl, hw⟩ := hq
          have hw := hw hEh17
          have hE := hE.tr hEh17
          refine W.eq (g2 := F0 m 135 ls []) rfl ?_
          exact am_M_checkModule_L135 l hfl D A σ MC MS h0 Qr (w_M_checkModule_L78 Qr n9) ih x0 x1 x2 h17 hw p e s m args below meth c hC H locs ls k n hE (lv_sub hl [0, 1, 2] rfl) hR hS (by omega) (by omega)

set_option maxHeartbeats 4000000 in
set_option maxRecDepth 100000 in
theorem am_M_checkModule_L76 (l : Launch) (hfl : l.flags = pinnedFlags ++ [noTraceFlag]) (D : va_G) (A : Nat → Prop) (σ MC MS : Nat) (h0 : xb_H) (Qr : xb_H → Prop) (x0 : Nat) (x1 : Int32) (h : xb_H) (hw : w_M_checkModule_L76 Qr x0 x1 h) : xb_am l D A σ 13 MC MS h0 (fun v h _ _ => v = none ∧ Qr h) (fun _ _ _ _ => False) y_M_checkModule.cls y_M_checkModule.name b_M_checkModule 4 ([] : List ExceptionTableEntry) none 76 [(0, .ref x0), (1, .int x1)] [] h 0 0 := by
  unfold w_M_checkModule_L76 at hw
  intro p e s m args below meth c hC H locs ls k n hE hl hR hS hk hn
  obtain ⟨hx, hb, hown, hlocks, htab, hml, hr, hB, hA, hnm⟩ := id hC
  have hts := hB.1.1.at args
  refine lv_iconst (v := 0) hx hb (xb_d D_M_checkModule 43 rfl) (by decide) ?_
  refine lv_istore_n hx hb (xb_d D_M_checkModule 44 rfl) rfl hl (by decide) rfl (fun ls hl => ?_)
  have hl : lv_has ls 4 [(2, .int 0), (0, .ref x0), (1, .int x1)] := hl
  obtain ⟨n8, hw⟩ := hw
  exact am_M_checkModule_L78 l hfl D A σ MC MS h0 Qr n8 x0 x1 0 h hw p e s m args below meth c hC H locs ls k n hE (lv_sub hl [1, 2, 0] rfl) hR hS (by omega) (by omega)

set_option maxHeartbeats 4000000 in
set_option maxRecDepth 100000 in
theorem am_M_checkModule_L64 (l : Launch) (hfl : l.flags = pinnedFlags ++ [noTraceFlag]) (D : va_G) (A : Nat → Prop) (σ MC MS : Nat) (h0 : xb_H) (Qr : xb_H → Prop) (x0 : Nat) (x1 : Int32) (h : xb_H) (hw : w_M_checkModule_L64 Qr x0 x1 h) : xb_am l D A σ 13 MC MS h0 (fun v h _ _ => v = none ∧ Qr h) (fun _ _ _ _ => False) y_M_checkModule.cls y_M_checkModule.name b_M_checkModule 4 ([] : List ExceptionTableEntry) none 64 [(0, .ref x0), (1, .int x1)] [] h 0 0 := by
  unfold w_M_checkModule_L64 at hw
  intro p e s m args below meth c hC H locs ls k n hE hl hR hS hk hn
  obtain ⟨hx, hb, hown, hlocks, htab, hml, hr, hB, hA, hnm⟩ := id hC
  have hts := hB.1.1.at args
  refine lv_aload_n hx hb (xb_d D_M_checkModule 37 rfl) rfl (lv_at hl 0 rfl) ?_
  obtain ⟨hk1, hw⟩ := hw
  refine xb_getI (C := R_M) (T := F_M) (N := 97) hx hb 8 17 hts fin_M hown hR hk1 (by decide) rfl (by decide) rfl (hts _ m_ff69da61) (fun _ h9 => h9) (xb_d D_M_checkModule 38 rfl) ?_
  refine lv_if_ne (tgt := 76) hx hb (xb_d D_M_checkModule 39 rfl) rfl (fun hc2 => ?_) (fun hc2 => ?_)
  · have hw := hw.1 hc2
    exact am_M_checkModule_L76 l hfl D A σ MC MS h0 Qr x0 x1 h hw p e s m args below meth c hC H locs ls k n hE (lv_sub hl [0, 1] rfl) hR hS (by omega) (by omega)
  · have hw := hw.2 hc2
    refine lv_aload_n hx hb (xb_d D_M_checkModule 40 rfl) rfl (lv_at hl 0 rfl) ?_
    refine lv_iload_n hx hb (xb_d D_M_checkModule 41 rfl) rfl (lv_at hl 1 rfl) ?_
    refine xb_call0 (D := D) (A := A) (σ := σ) (h := h) (d := 7) (maxL := 7) (rest := []) (av := [.ref x0, .int x1]) (fun T hT X => by obtain ⟨cb9, ra9, rb9, rc9⟩ := xb_recv (ci := 8) hR rfl hk1 (by decide); exact xt_invV X hx hown (hts _ m_68992c1f) (hts _ m_19a441f2) (hts _ m_b0659508) (xt_sigOf (hts _ m_266aa5ea)) nm_M_checkImports (by rw [hT]; exact ra9) rb9 rc9 (g := F0 m 73 ls [.int x1, .ref x0]) rfl (argsL := [.int x1]) (rest := []) rfl rfl (by rw [hb]; exact (xb_d D_M_checkModule 42 rfl))) (ok_M_checkImports l hfl D A σ x0 x1 h _ hw) (hml.trans hl.1.symm) (by rw [hb]; exact (xb_d D_M_checkModule 42 rfl)) (Nat.le_of_ble_eq_true rfl) (Nat.le_of_ble_eq_true rfl) (Nat.le_of_ble_eq_true rfl) (show k ≤ MC by omega) (show n ≤ MS by omega) (xt_w1 hB.1 m_266aa5ea) (xt_cdOf hB.1 m_266aa5ea) (hts _ m_d5ed7bed) hB hR hS hA (fun vv h3 H locs hq hEh3 hR hS => ?_)
    obtain ⟨rfl, hw⟩ := hq
    have hw := hw hEh3
    have hE := hE.tr hEh3
    refine W.eq (g2 := F0 m 76 ls []) rfl ?_
    exact am_M_checkModule_L76 l hfl D A σ MC MS h0 Qr x0 x1 h3 hw p e s m args below meth c hC H locs ls k n hE (lv_sub hl [0, 1] rfl) hR hS (by omega) (by omega)

set_option maxHeartbeats 4000000 in
set_option maxRecDepth 100000 in
theorem am_M_checkModule_L58 (l : Launch) (hfl : l.flags = pinnedFlags ++ [noTraceFlag]) (D : va_G) (A : Nat → Prop) (σ MC MS : Nat) (h0 : xb_H) (Qr : xb_H → Prop) (K2 : Nat → Int32 → Int32 → xb_H → Prop) (hK2 : ∀ (x0 : Nat) (x1 : Int32) (x2 : Int32) (h : xb_H), K2 x0 x1 x2 h → xb_am l D A σ 13 MC MS h0 (fun v h _ _ => v = none ∧ Qr h) (fun _ _ _ _ => False) y_M_checkModule.cls y_M_checkModule.name b_M_checkModule 4 ([] : List ExceptionTableEntry) none 2 [(0, .ref x0), (1, .int x1), (2, .int x2)] [] h 0 0) (x0 : Nat) (x1 : Int32) (x2 : Int32) (h : xb_H) (hw : w_M_checkModule_L58 K2 Qr x0 x1 x2 h) : xb_am l D A σ 13 MC MS h0 (fun v h _ _ => v = none ∧ Qr h) (fun _ _ _ _ => False) y_M_checkModule.cls y_M_checkModule.name b_M_checkModule 4 ([] : List ExceptionTableEntry) none 58 [(0, .ref x0), (1, .int x1), (2, .int x2)] [] h 0 0 := by
  unfold w_M_checkModule_L58 at hw
  intro p e s m args below meth c hC H locs ls k n hE hl hR hS hk hn
  obtain ⟨hx, hb, hown, hlocks, htab, hml, hr, hB, hA, hnm⟩ := id hC
  have hts := hB.1.1.at args
  refine lv_iinc (v := (x2 + 1)) (k := 2) hx hb (xb_d D_M_checkModule 35 rfl) hl rfl (by first | rfl | decide) (by decide) rfl (fun ls hl => ?_)
  have hl : lv_has ls 4 [(2, .int (x2 + 1)), (0, .ref x0), (1, .int x1)] := hl
  refine lv_goto (tgt := 2) hx hb (xb_d D_M_checkModule 36 rfl) rfl ?_
  exact hK2 x0 x1 (x2 + 1) h hw p e s m args below meth c hC H locs ls k n hE (lv_sub hl [1, 2, 0] rfl) hR hS (by omega) (by omega)

set_option maxHeartbeats 4000000 in
set_option maxRecDepth 100000 in
theorem am_M_checkModule_L2 (l : Launch) (hfl : l.flags = pinnedFlags ++ [noTraceFlag]) (D : va_G) (A : Nat → Prop) (σ MC MS : Nat) (h0 : xb_H) (Qr : xb_H → Prop) (n9 : Nat) : ∀ (x0 : Nat) (x1 : Int32) (x2 : Int32) (h : xb_H), w_M_checkModule_L2 Qr n9 x0 x1 x2 h → xb_am l D A σ 13 MC MS h0 (fun v h _ _ => v = none ∧ Qr h) (fun _ _ _ _ => False) y_M_checkModule.cls y_M_checkModule.name b_M_checkModule 4 ([] : List ExceptionTableEntry) none 2 [(0, .ref x0), (1, .int x1), (2, .int x2)] [] h 0 0 := by
  induction n9 with
  | zero => intro x0 x1 x2 h hw; exact False.elim hw
  | succ n9 ih =>
    intro x0 x1 x2 h hw
    unfold w_M_checkModule_L2 at hw
    intro p e s m args below meth c hC H locs ls k n hE hl hR hS hk hn
    obtain ⟨hx, hb, hown, hlocks, htab, hml, hr, hB, hA, hnm⟩ := id hC
    have hts := hB.1.1.at args
    refine lv_iload_n hx hb (xb_d D_M_checkModule 2 rfl) rfl (lv_at hl 2 rfl) ?_
    refine lv_aload_n hx hb (xb_d D_M_checkModule 3 rfl) rfl (lv_at hl 0 rfl) ?_
    refine lv_iload_n hx hb (xb_d D_M_checkModule 4 rfl) rfl (lv_at hl 1 rfl) ?_
    refine lv_iconst (v := 1) hx hb (xb_d D_M_checkModule 5 rfl) (by decide) ?_
    obtain ⟨hk1, hw⟩ := hw
    refine xb_call0 (D := D) (A := A) (σ := σ) (h := h) (d := 2) (maxL := 3) (rest := [.int x2]) (av := [.ref x0, .int x1, .int 1]) (fun T hT X => by obtain ⟨cb9, ra9, rb9, rc9⟩ := xb_recv (ci := 8) hR rfl hk1 (by decide); exact xt_invV X hx hown (hts _ m_b47f62c2) (hts _ m_9f071faf) (hts _ m_e1bb5c84) (xt_sigOf (hts _ m_3a6212d6)) nm_M_manyOf (by rw [hT]; exact ra9) rb9 rc9 (g := F0 m 6 ls [.int 1, .int x1, .ref x0, .int x2]) rfl (argsL := [.int x1, .int 1]) (rest := [.int x2]) rfl rfl (by rw [hb]; exact (xb_d D_M_checkModule 6 rfl))) (ok_M_manyOf l hfl D A σ x0 x1 1 h _ hw) (hml.trans hl.1.symm) (by rw [hb]; exact (xb_d D_M_checkModule 6 rfl)) (Nat.le_of_ble_eq_true rfl) (Nat.le_of_ble_eq_true rfl) (Nat.le_of_ble_eq_true rfl) (show k ≤ MC by omega) (show n ≤ MS by omega) (xt_w1 hB.1 m_3a6212d6) (xt_cdOf hB.1 m_3a6212d6) (hts _ m_d5ed7bed) hB hR hS hA (fun vv h2 H locs hq hEh2 hR hS => ?_)
    obtain ⟨r3, rfl, hw⟩ := hq
    have hw := hw hEh2
    have hE := hE.tr hEh2
    refine W.eq (g2 := F0 m 9 ls [.int r3, .int x2]) rfl ?_
    refine lv_icmp_ge (tgt := 64) hx hb (xb_d D_M_checkModule 7 rfl) rfl (fun hc4 => ?_) (fun hc4 => ?_)
    · have hw := hw.1 hc4
      exact am_M_checkModule_L64 l hfl D A σ MC MS h0 Qr x0 x1 h2 hw p e s m args below meth c hC H locs ls k n hE (lv_sub hl [0, 1] rfl) hR hS (by omega) (by omega)
    · have hw := hw.2 hc4
      refine lv_aload_n hx hb (xb_d D_M_checkModule 8 rfl) rfl (lv_at hl 0 rfl) ?_
      have hk1 : xb_k h2 x0 = 9 := hEh2.k hk1
      refine xb_getI (C := R_M) (T := F_M) (N := 97) hx hb 8 17 hts fin_M hown hR hk1 (by decide) rfl (by decide) rfl (hts _ m_ff69da61) (fun _ h9 => h9) (xb_d D_M_checkModule 9 rfl) ?_
      refine lv_if_ne (tgt := 64) hx hb (xb_d D_M_checkModule 10 rfl) rfl (fun hc5 => ?_) (fun hc5 => ?_)
      · have hw := hw.1 hc5
        exact am_M_checkModule_L64 l hfl D A σ MC MS h0 Qr x0 x1 h2 hw p e s m args below meth c hC H locs ls k n hE (lv_sub hl [0, 1] rfl) hR hS (by omega) (by omega)
      · have hw := hw.2 hc5
        refine lv_aload_n hx hb (xb_d D_M_checkModule 11 rfl) rfl (lv_at hl 0 rfl) ?_
        refine lv_iload_n hx hb (xb_d D_M_checkModule 12 rfl) rfl (lv_at hl 1 rfl) ?_
        refine lv_iload_n hx hb (xb_d D_M_checkModule 13 rfl) rfl (lv_at hl 2 rfl) ?_
        refine xb_call0 (D := D) (A := A) (σ := σ) (h := h2) (d := 5) (maxL := 3) (rest := []) (av := [.ref x0, .int x1, .int x2]) (fun T hT X => by obtain ⟨cb9, ra9, rb9, rc9⟩ := xb_recv (ci := 8) hR rfl hk1 (by decide); exact xt_invV X hx hown (hts _ m_4fd64ef0) (hts _ m_2eb48211) (hts _ m_ff1f4a94) (xt_sigOf (hts _ m_2faa0c5c)) nm_M_parameters (by rw [hT]; exact ra9) rb9 rc9 (g := F0 m 22 ls [.int x2, .int x1, .ref x0]) rfl (argsL := [.int x1, .int x2]) (rest := []) rfl rfl (by rw [hb]; exact (xb_d D_M_checkModule 14 rfl))) (ok_M_parameters l hfl D A σ x0 x1 x2 h2 _ hw) (hml.trans hl.1.symm) (by rw [hb]; exact (xb_d D_M_checkModule 14 rfl)) (Nat.le_of_ble_eq_true rfl) (Nat.le_of_ble_eq_true rfl) (Nat.le_of_ble_eq_true rfl) (show k ≤ MC by omega) (show n ≤ MS by omega) (xt_w1 hB.1 m_2faa0c5c) (xt_cdOf hB.1 m_2faa0c5c) (hts _ m_d5ed7bed) hB hR hS hA (fun vv h6 H locs hq hEh6 hR hS => ?_)
        obtain ⟨r7, rfl, hw⟩ := hq
        have hw := hw hEh6
        have hE := hE.tr hEh6
        refine W.eq (g2 := F0 m 25 ls [.int r7]) rfl ?_
        refine lv_istore_n hx hb (xb_d D_M_checkModule 15 rfl) rfl hl (by decide) rfl (fun ls hl => ?_)
        have hl : lv_has ls 4 [(3, .int r7), (0, .ref x0), (1, .int x1), (2, .int x2)] := hl
        refine lv_aload_n hx hb (xb_d D_M_checkModule 16 rfl) rfl (lv_at hl 1 rfl) ?_
        refine lv_aload_n hx hb (xb_d D_M_checkModule 17 rfl) rfl (lv_at hl 1 rfl) ?_
        have hk1 : xb_k h6 x0 = 9 := hEh6.k hk1
        refine xb_getI (C := R_M) (T := F_M) (N := 97) hx hb 8 15 hts fin_M hown hR hk1 (by decide) rfl (by decide) rfl (hts _ m_6c2d27ad) (fun _ h9 => h9) (xb_d D_M_checkModule 18 rfl) ?_
        refine lv_iload_n hx hb (xb_d D_M_checkModule 19 rfl) rfl (lv_at hl 0 rfl) ?_
        refine lv_iadd hx hb (xb_d D_M_checkModule 20 rfl) ?_
        refine xb_putI (C := R_M) (T := F_M) (N := 97) (ty := .int) (x := ((xb_i h6 x0 15) + r7)) hx hb 8 15 hts fin_M t_M t_M_ok n_M hown hR hS hk1 (by decide) rfl (by decide) rfl (hts _ m_6c2d27ad) (fun _ h9 => h9) rfl (by decide +kernel) rfl rfl (xb_d D_M_checkModule 21 rfl) (fun H locs hR hS => ?_)
        obtain ⟨h8, eh8⟩ : ∃ x : xb_H, x = xb_I h6 x0 15 ((xb_i h6 x0 15) + r7) := ⟨_, rfl⟩
        rw [← eh8] at hR
        have hw := hw h8 eh8
        have hE : xb_ext h0 h8 := by rw [eh8]; exact hE
        refine lv_aload_n hx hb (xb_d D_M_checkModule 22 rfl) rfl (lv_at hl 1 rfl) ?_
        have hk1 : xb_k h8 x0 = 9 := by rw [eh8]; exact hk1
        refine xb_call0 (D := D) (A := A) (σ := σ) (h := h8) (d := 4) (maxL := 5) (rest := []) (av := [.ref x0]) (fun T hT X => by obtain ⟨cb9, ra9, rb9, rc9⟩ := xb_recv (ci := 8) hR rfl hk1 (by decide); exact xt_invV X hx hown (hts _ m_e991293f) (hts _ m_385a74b3) (hts _ m_c9fbcd02) (xt_sigOf (hts _ m_1f53f210)) nm_M_count (by rw [hT]; exact ra9) rb9 rc9 (g := F0 m 37 ls [.ref x0]) rfl (argsL := []) (rest := []) rfl rfl (by rw [hb]; exact (xb_d D_M_checkModule 23 rfl))) (ok_M_count l hfl D A σ x0 h8 _ hw) (hml.trans hl.1.symm) (by rw [hb]; exact (xb_d D_M_checkModule 23 rfl)) (Nat.le_of_ble_eq_true rfl) (Nat.le_of_ble_eq_true rfl) (Nat.le_of_ble_eq_true rfl) (show k ≤ MC by omega) (show n ≤ MS by omega) (xt_w1 hB.1 m_1f53f210) (xt_cdOf hB.1 m_1f53f210) (hts _ m_d5ed7bed) hB hR hS hA (fun vv h9 H locs hq hEh9 hR hS => ?_)
        obtain ⟨r10, rfl, hw⟩ := hq
        have hw := hw hEh9
        have hE := hE.tr hEh9
        refine W.eq (g2 := F0 m 40 ls [.long r10]) rfl ?_
        refine lv_lconst (v := 1) hx hb (xb_d D_M_checkModule 24 rfl) (by decide) ?_
        refine xb_lc_le (tgt := 58) hx hb (xb_d D_M_checkModule 25 rfl) (xb_d D_M_checkModule 26 rfl) rfl (fun hc11 => ?_) (fun hc11 => ?_)
        · have hw := hw.1 hc11
          exact am_M_checkModule_L58 l hfl D A σ MC MS h0 Qr (w_M_checkModule_L2 Qr n9) ih x0 x1 x2 h9 hw p e s m args below meth c hC H locs ls k n hE (lv_sub hl [1, 2, 3] rfl) hR hS (by omega) (by omega)
        · have hw := hw.2 hc11
          refine lv_aload_n hx hb (xb_d D_M_checkModule 27 rfl) rfl (lv_at hl 1 rfl) ?_
          refine lv_bipush (v := 28) hx hb (xb_d D_M_checkModule 28 rfl) (by decide) ?_
          refine lv_aload_n hx hb (xb_d D_M_checkModule 29 rfl) rfl (lv_at hl 1 rfl) ?_
          refine lv_iload_n hx hb (xb_d D_M_checkModule 30 rfl) rfl (lv_at hl 2 rfl) ?_
          refine lv_iconst (v := 1) hx hb (xb_d D_M_checkModule 31 rfl) (by decide) ?_
          refine lv_iload_n hx hb (xb_d D_M_checkModule 32 rfl) rfl (lv_at hl 3 rfl) ?_
          have hk1 : xb_k h9 x0 = 9 := hEh9.k hk1
          refine xb_call0 (D := D) (A := A) (σ := σ) (h := h9) (d := 2) (maxL := 4) (rest := [.int 28, .ref x0]) (av := [.ref x0, .int x1, .int 1, .int x2]) (fun T hT X => by obtain ⟨cb9, ra9, rb9, rc9⟩ := xb_recv (ci := 8) hR rfl hk1 (by decide); exact xt_invV X hx hown (hts _ m_7f41753e) (hts _ m_8cdd7108) (hts _ m_e228318f) (xt_sigOf (hts _ m_89667ad5)) nm_M_placeOf (by rw [hT]; exact ra9) rb9 rc9 (g := F0 m 52 ls [.int x2, .int 1, .int x1, .ref x0, .int 28, .ref x0]) rfl (argsL := [.int x1, .int 1, .int x2]) (rest := [.int 28, .ref x0]) rfl rfl (by rw [hb]; exact (xb_d D_M_checkModule 33 rfl))) (ok_M_placeOf l hfl D A σ x0 x1 1 x2 h9 _ hw) (hml.trans hl.1.symm) (by rw [hb]; exact (xb_d D_M_checkModule 33 rfl)) (Nat.le_of_ble_eq_true rfl) (Nat.le_of_ble_eq_true rfl) (Nat.le_of_ble_eq_true rfl) (show k ≤ MC by omega) (show n ≤ MS by omega) (xt_w1 hB.1 m_89667ad5) (xt_cdOf hB.1 m_89667ad5) (hts _ m_d5ed7bed) hB hR hS hA (fun vv h12 H locs hq hEh12 hR hS => ?_)
          obtain ⟨r13, rfl, hw⟩ := hq
          have hw := hw hEh12
          have hE := hE.tr hEh12
          refine W.eq (g2 := F0 m 55 ls [.int r13, .int 28, .ref x0]) rfl ?_
          have hk1 : xb_k h12 x0 = 9 := hEh12.k hk1
          refine xb_call0 (D := D) (A := A) (σ := σ) (h := h12) (d := 2) (maxL := 3) (rest := []) (av := [.ref x0, .int 28, .int r13]) (fun T hT X => by obtain ⟨cb9, ra9, rb9, rc9⟩ := xb_recv (ci := 8) hR rfl hk1 (by decide); exact xt_invV X hx hown (hts _ m_939052ad) (hts _ m_29cc8c73) (hts _ m_3b1ac7ab) (xt_sigOf (hts _ m_8f062ecd)) nm_M_fail (by rw [hT]; exact ra9) rb9 rc9 (g := F0 m 55 ls [.int r13, .int 28, .ref x0]) rfl (argsL := [.int 28, .int r13]) (rest := []) rfl rfl (by rw [hb]; exact (xb_d D_M_checkModule 34 rfl))) (ok_M_fail l hfl D A σ x0 28 r13 h12 _ hw) (hml.trans hl.1.symm) (by rw [hb]; exact (xb_d D_M_checkModule 34 rfl)) (Nat.le_of_ble_eq_true rfl) (Nat.le_of_ble_eq_true rfl) (Nat.le_of_ble_eq_true rfl) (show k ≤ MC by omega) (show n ≤ MS by omega) (xt_w1 hB.1 m_8f062ecd) (xt_cdOf hB.1 m_8f062ecd) (hts _ m_d5ed7bed) hB hR hS hA (fun vv h14 H locs hq hEh14 hR hS => ?_)
          obtain ⟨rfl, hw⟩ := hq
          have hw := hw hEh14
          have hE := hE.tr hEh14
          refine W.eq (g2 := F0 m 58 ls []) rfl ?_
          exact am_M_checkModule_L58 l hfl D A σ MC MS h0 Qr (w_M_checkModule_L2 Qr n9) ih x0 x1 x2 h14 hw p e s m args below meth c hC H locs ls k n hE (lv_sub hl [1, 2, 3] rfl) hR hS (by omega) (by omega)

set_option maxHeartbeats 4000000 in
set_option maxRecDepth 100000 in
theorem ok_M_checkModule (l : Launch) (hfl : l.flags = pinnedFlags ++ [noTraceFlag]) (D : va_G) (A : Nat → Prop) (σ : Nat) (x0 : Nat) (x1 : Int32) (h : xb_H) (Qr : xb_H → Prop) (hw : w_M_checkModule x0 x1 h Qr) : xb_Met l y_M_checkModule [.code y_M_checkModule b_M_checkModule 4 none] (xb_rm 13 0 0) (xb_Pc D A σ h [.ref x0, .int x1]) (xb_Qc D A h 0 0 (fun v h _ _ => v = none ∧ Qr h) (fun _ _ _ _ => False)) A := by
  refine xb_ofAm (cc := b_M_checkModule) (by decide) (Nat.le_of_ble_eq_true rfl) ?_
  unfold w_M_checkModule at hw
  show xb_am l D A σ 13 0 0 h (fun v h _ _ => v = none ∧ Qr h) (fun _ _ _ _ => False) y_M_checkModule.cls y_M_checkModule.name b_M_checkModule 4 ([] : List ExceptionTableEntry) none 0 [(0, .ref x0), (1, .int x1)] [] h 0 0
  obtain ⟨MC, hMC⟩ : ∃ x, x = 0 := ⟨_, rfl⟩
  obtain ⟨MS, hMS⟩ : ∃ x, x = 0 := ⟨_, rfl⟩
  rw [show xb_am l D A σ 13 0 0 = xb_am l D A σ 13 MC MS by rw [hMC, hMS]]
  obtain ⟨h0, hh0⟩ : ∃ x, x = h := ⟨_, rfl⟩
  rw [show xb_am l D A σ 13 MC MS h = xb_am l D A σ 13 MC MS h0 by rw [hh0]]
  intro p e s m args below meth c hC H locs ls k n hE hl hR hS hk hn
  obtain ⟨hx, hb, hown, hlocks, htab, hml, hr, hB, hA, hnm⟩ := id hC
  have hts := hB.1.1.at args
  refine lv_iconst (v := 0) hx hb (xb_d D_M_checkModule 0 rfl) (by decide) ?_
  refine lv_istore_n hx hb (xb_d D_M_checkModule 1 rfl) rfl hl (by decide) rfl (fun ls hl => ?_)
  have hl : lv_has ls 4 [(2, .int 0), (0, .ref x0), (1, .int x1)] := hl
  obtain ⟨n8, hw⟩ := hw
  exact am_M_checkModule_L2 l hfl D A σ MC MS h0 Qr n8 x0 x1 0 h hw p e s m args below meth c hC H locs ls k n hE (lv_sub hl [1, 2, 0] rfl) hR hS (by omega) (by omega)

theorem m_b2be0bfe : (.methodLink "StackHostModel" 654 y_M_noteTrap : Cond) ∈ xt_tbl := xt_in (xt_t12 (List.mem_of_getElem? (i := 174) (by decide +kernel))) (by decide +kernel)
theorem m_6a8933b7 : (.instanceMethod y_M_noteTrap : Cond) ∈ xt_tbl := xt_in (xt_t12 (List.mem_of_getElem? (i := 176) (by decide +kernel))) (by decide +kernel)
theorem m_80932e6d : (.selects "StackHostModel" y_M_noteTrap y_M_noteTrap : Cond) ∈ xt_tbl := xt_in (xt_v14 (q := (⟨"StackHostModel", "noteTrap", "(I)V"⟩, 97)) (List.mem_of_getElem? (i := 13) (by decide +kernel))) (by decide +kernel)
theorem m_cffcb64f : (.code y_M_noteTrap b_M_noteTrap 4 none : Cond) ∈ xt_tbl := xt_in (xt_t12 (List.mem_of_getElem? (i := 177) (by decide +kernel))) (by decide +kernel)
theorem m_f54dca07 : (.methodLink "StackHostModel" 660 y_M_perform : Cond) ∈ xt_tbl := xt_in (xt_t12 (List.mem_of_getElem? (i := 181) (by decide +kernel))) (by decide +kernel)
theorem m_95242c6f : (.instanceMethod y_M_perform : Cond) ∈ xt_tbl := xt_in (xt_t12 (List.mem_of_getElem? (i := 183) (by decide +kernel))) (by decide +kernel)
theorem m_b32954d3 : (.selects "StackHostModel" y_M_perform y_M_perform : Cond) ∈ xt_tbl := xt_in (xt_v14 (q := (⟨"StackHostModel", "perform", "(III)V"⟩, 97)) (List.mem_of_getElem? (i := 14) (by decide +kernel))) (by decide +kernel)
theorem m_8c4389a7 : (.code y_M_perform b_M_perform 4 none : Cond) ∈ xt_tbl := xt_in (xt_t12 (List.mem_of_getElem? (i := 184) (by decide +kernel))) (by decide +kernel)
theorem m_3693198e : (.methodLink "StackHostModel" 657 y_M_isStep : Cond) ∈ xt_tbl := xt_in (xt_t12 (List.mem_of_getElem? (i := 178) (by decide +kernel))) (by decide +kernel)
theorem m_903f0b9e : (.static y_M_isStep : Cond) ∈ xt_tbl := xt_in (xt_t12 (List.mem_of_getElem? (i := 179) (by decide +kernel))) (by decide +kernel)
theorem m_b8fa3db2 : (.code y_M_isStep b_M_isStep 1 (some .boolean) : Cond) ∈ xt_tbl := xt_in (xt_t12 (List.mem_of_getElem? (i := 180) (by decide +kernel))) (by decide +kernel)
theorem m_66e4112d : (.fieldLink "StackHostModel" 648 "StackHostModel" "left" "I" : Cond) ∈ xt_tbl := xt_in (xt_t9 (List.mem_of_getElem? (i := 233) (by decide +kernel))) (by decide +kernel)
theorem m_7dd00ccc : (.constant "StackHostModel" 647 1000000 : Cond) ∈ xt_tbl := xt_in (xt_t12 (List.mem_of_getElem? (i := 157) (by decide +kernel))) (by decide +kernel)
theorem nm_M_noteTrap : xt_nm y_M_noteTrap 1 := ⟨by decide +kernel, by decide +kernel⟩
theorem nm_M_perform : xt_nm y_M_perform 3 := ⟨by decide +kernel, by decide +kernel⟩
theorem nm_M_isStep : xt_nm y_M_isStep 1 := ⟨by decide +kernel, by decide +kernel⟩
set_option maxRecDepth 100000 in
def T_M_run : List (Nat × Instr × Nat) := [(0, .aload_n 0, 1), (1, .iload_n 1, 1), (2, .ifCond .lt 10, 3), (5, .iload_n 1, 1), (6, .ldc_w 647, 3), (9, .if_icmp .le 7, 3), (12, .iconst 1, 1), (13, .goto 15, 3), (16, .aload_n 0, 1), (17, .getfield 539, 3), (20, .ifCond .ne 7, 3), (23, .iconst 2, 1), (24, .goto 4, 3), (27, .iconst 0, 1), (28, .putfield 189, 3), (31, .aload_n 0, 1), (32, .getfield 189, 3), (35, .ifCond .le 5, 3), (38, .iconst 0, 1), (39, .ireturn, 1), (40, .aload_n 0, 1), (41, .iload_n 1, 1), (42, .putfield 648, 3), (45, .aload_n 0, 1), (46, .getfield 586, 3), (49, .ifCond .ne 76, 3), (52, .aload_n 0, 1), (53, .iconst 1, 1), (54, .putfield 586, 3), (57, .aload_n 0, 1), (58, .iconst 0, 1), (59, .putfield 625, 3), (62, .aload_n 0, 1), (63, .iconst 0, 1), (64, .putfield 607, 3), (67, .aload_n 0, 1), (68, .iconst 0, 1), (69, .putfield 610, 3), (72, .aload_n 0, 1), (73, .iconst 0, 1), (74, .putfield 616, 3), (77, .iconst 0, 1), (78, .istore_n 2, 1), (79, .iload_n 2, 1), (80, .aload_n 0, 1), (81, .getfield 589, 3), (84, .if_icmp .ge 28, 3), (87, .aload_n 0, 1), (88, .aload_n 0, 1), (89, .getfield 136, 3), (92, .iload_n 2, 1), (93, .laload, 1), (94, .aload_n 0, 1), (95, .aload_n 0, 1), (96, .getfield 583, 3), (99, .iload_n 2, 1), (100, .invokevirtual 619, 3), (103, .invokevirtual 628, 3), (106, .iinc 2 1, 3), (109, .goto (-30), 3), (112, .aload_n 0, 1), (113, .aload_n 0, 1), (114, .getfield 583, 3), (117, .invokevirtual 651, 3), (120, .aload_n 0, 1), (121, .iconst (-1), 1), (122, .invokevirtual 654, 3), (125, .aload_n 0, 1), (126, .getfield 616, 3), (129, .ifCond .le 147, 3), (132, .aload_n 0, 1), (133, .getfield 625, 3), (136, .ifCond .ne 140, 3), (139, .aload_n 0, 1), (140, .getfield 616, 3), (143, .iconst 1, 1), (144, .isub, 1), (145, .istore_n 2, 1), (146, .aload_n 0, 1), (147, .getfield 139, 3), (150, .iload_n 2, 1), (151, .iaload, 1), (152, .istore_n 3, 1), (153, .aload_n 0, 1), (154, .getfield 142, 3), (157, .iload_n 2, 1), (158, .iaload, 1), (159, .istore 4, 2), (161, .aload_n 0, 1), (162, .getfield 14, 3), (165, .iload 4, 2), (167, .baload, 1), (168, .sipush 255, 3), (171, .iand, 1), (172, .istore 5, 2), (174, .iload 5, 2), (176, .invokestatic 657, 3), (179, .ifCond .eq 22, 3), (182, .aload_n 0, 1), (183, .getfield 648, 3), (186, .ifCond .ne 5, 3), (189, .iconst 2, 1), (190, .ireturn, 1), (191, .aload_n 0, 1), (192, .dup, 1), (193, .getfield 648, 3), (196, .iconst 1, 1), (197, .isub, 1), (198, .putfield 648, 3), (201, .aload_n 0, 1), (202, .iconst 0, 1), (203, .putfield 613, 3), (206, .aload_n 0, 1), (207, .aload_n 0, 1), (208, .getfield 62, 3), (211, .aload_n 0, 1), (212, .getfield 92, 3), (215, .iload_n 3, 1), (216, .iaload, 1), (217, .iaload, 1), (218, .iload 4, 2), (220, .iconst 1, 1), (221, .iadd, 1), (222, .invokevirtual 324, 3), (225, .aload_n 0, 1), (226, .iload_n 2, 1), (227, .aload_n 0, 1), (228, .getfield 92, 3), (231, .iload_n 3, 1), (232, .iaload, 1), (233, .iload 5, 2), (235, .invokevirtual 660, 3), (238, .aload_n 0, 1), (239, .aload_n 0, 1), (240, .getfield 613, 3), (243, .ifCond .eq 12, 3), (246, .aload_n 0, 1), (247, .getfield 663, 3), (250, .iconst 1, 1), (251, .iadd, 1), (252, .goto 7, 3), (255, .aload_n 0, 1), (256, .getfield 663, 3), (259, .putfield 663, 3), (262, .aload_n 0, 1), (263, .iconst 0, 1), (264, .putfield 613, 3), (267, .aload_n 0, 1), (268, .iload 4, 2), (270, .invokevirtual 654, 3), (273, .goto (-148), 3), (276, .aload_n 0, 1), (277, .iconst 0, 1), (278, .putfield 539, 3), (281, .aload_n 0, 1), (282, .getfield 625, 3), (285, .ifCond .le 10, 3), (288, .aload_n 0, 1), (289, .iconst 0, 1), (290, .putfield 616, 3), (293, .iconst 1, 1), (294, .ireturn, 1), (295, .aload_n 0, 1), (296, .aload_n 0, 1), (297, .getfield 607, 3), (300, .ifCond .le 12, 3), (303, .aload_n 0, 1), (304, .getfield 154, 3), (307, .iconst 0, 1), (308, .laload, 1), (309, .goto 4, 3), (312, .lconst 0, 1), (313, .putfield 666, 3), (316, .iconst 0, 1), (317, .ireturn, 1)]
theorem D_M_run : ∀ q ∈ T_M_run, decode b_M_run q.1 = .ok (q.2.1, q.2.2) := by decide +kernel

set_option maxHeartbeats 4000000 in
set_option maxRecDepth 100000 in
theorem am_M_run_L313 (l : Launch) (hfl : l.flags = pinnedFlags ++ [noTraceFlag]) (D : va_G) (A : Nat → Prop) (σ MC MS : Nat) (h0 : xb_H) (Qr : Int32 → xb_H → Prop) (y0 : Int64) (y1 : Nat) (h : xb_H) (hw : w_M_run_L313 Qr y0 y1 h) : xb_am l D A σ 13 MC MS h0 (fun v h _ _ => ∃ r, v = some (.int r) ∧ Qr r h) (fun _ _ _ _ => False) y_M_run.cls y_M_run.name b_M_run 6 ([] : List ExceptionTableEntry) (some .int) 313 [] [.long y0, .ref y1] h 0 0 := by
  unfold w_M_run_L313 at hw
  intro p e s m args below meth c hC H locs ls k n hE hl hR hS hk hn
  obtain ⟨hx, hb, hown, hlocks, htab, hml, hr, hB, hA, hnm⟩ := id hC
  have hts := hB.1.1.at args
  obtain ⟨hk1, hw⟩ := hw
  refine xb_putL (C := R_M) (T := F_M) (N := 97) (ty := .long) (x := y0) hx hb 8 85 hts fin_M t_M t_M_ok n_M hown hR hS hk1 (by decide) rfl (by decide) rfl (hts _ m_4386cc76) (fun _ h9 => h9) rfl (by decide +kernel) rfl rfl (xb_d D_M_run 172 rfl) (fun H locs hR hS => ?_)
  obtain ⟨h2, eh2⟩ : ∃ x : xb_H, x = xb_L h y1 85 y0 := ⟨_, rfl⟩
  rw [← eh2] at hR
  have hw := hw h2 eh2
  have hE : xb_ext h0 h2 := by rw [eh2]; exact hE
  refine lv_iconst (v := 0) hx hb (xb_d D_M_run 173 rfl) (by decide) ?_
  exact xb_iret 0 0 hx hb hr hlocks (show k + 0 ≤ MC by omega) (show n + 0 ≤ MS by omega) hE hR hS (xb_d D_M_run 174 rfl) hw

set_option maxHeartbeats 4000000 in
set_option maxRecDepth 100000 in
theorem am_M_run_L276 (l : Launch) (hfl : l.flags = pinnedFlags ++ [noTraceFlag]) (D : va_G) (A : Nat → Prop) (σ MC MS : Nat) (h0 : xb_H) (Qr : Int32 → xb_H → Prop) (x0 : Nat) (h : xb_H) (hw : w_M_run_L276 Qr x0 h) : xb_am l D A σ 13 MC MS h0 (fun v h _ _ => ∃ r, v = some (.int r) ∧ Qr r h) (fun _ _ _ _ => False) y_M_run.cls y_M_run.name b_M_run 6 ([] : List ExceptionTableEntry) (some .int) 276 [(0, .ref x0)] [] h 0 0 := by
  unfold w_M_run_L276 at hw
  intro p e s m args below meth c hC H locs ls k n hE hl hR hS hk hn
  obtain ⟨hx, hb, hown, hlocks, htab, hml, hr, hB, hA, hnm⟩ := id hC
  have hts := hB.1.1.at args
  refine lv_aload_n hx hb (xb_d D_M_run 151 rfl) rfl (lv_at hl 0 rfl) ?_
  refine lv_iconst (v := 0) hx hb (xb_d D_M_run 152 rfl) (by decide) ?_
  obtain ⟨hk1, hw⟩ := hw
  refine xb_putI (C := R_M) (T := F_M) (N := 97) (ty := .boolean) (x := 0) hx hb 8 62 hts fin_M t_M t_M_ok n_M hown hR hS hk1 (by decide) rfl (by decide) rfl (hts _ m_71a5ca12) (fun _ h9 => h9) rfl (by decide +kernel) (by decide) (by decide) (xb_d D_M_run 153 rfl) (fun H locs hR hS => ?_)
  obtain ⟨h2, eh2⟩ : ∃ x : xb_H, x = xb_I h x0 62 0 := ⟨_, rfl⟩
  rw [← eh2] at hR
  have hw := hw h2 eh2
  have hE : xb_ext h0 h2 := by rw [eh2]; exact hE
  refine lv_aload_n hx hb (xb_d D_M_run 154 rfl) rfl (lv_at hl 0 rfl) ?_
  have hk1 : xb_k h2 x0 = 9 := by rw [eh2]; exact hk1
  refine xb_getI (C := R_M) (T := F_M) (N := 97) hx hb 8 82 hts fin_M hown hR hk1 (by decide) rfl (by decide) rfl (hts _ m_ad343437) (fun _ h9 => h9) (xb_d D_M_run 155 rfl) ?_
  refine lv_if_le (tgt := 295) hx hb (xb_d D_M_run 156 rfl) rfl (fun hc3 => ?_) (fun hc3 => ?_)
  · have hw := hw.1 hc3
    refine lv_aload_n hx hb (xb_d D_M_run 162 rfl) rfl (lv_at hl 0 rfl) ?_
    refine lv_aload_n hx hb (xb_d D_M_run 163 rfl) rfl (lv_at hl 0 rfl) ?_
    refine xb_getI (C := R_M) (T := F_M) (N := 97) hx hb 8 76 hts fin_M hown hR hk1 (by decide) rfl (by decide) rfl (hts _ m_d6ddfcd8) (fun _ h9 => h9) (xb_d D_M_run 164 rfl) ?_
    refine lv_if_le (tgt := 312) hx hb (xb_d D_M_run 165 rfl) rfl (fun hc4 => ?_) (fun hc4 => ?_)
    · have hw := hw.1 hc4
      refine lv_lconst (v := 0) hx hb (xb_d D_M_run 171 rfl) (by decide) ?_
      exact am_M_run_L313 l hfl D A σ MC MS h0 Qr 0 x0 h2 hw p e s m args below meth c hC H locs ls k n hE (lv_sub hl [] rfl) hR hS (by omega) (by omega)
    · have hw := hw.2 hc4
      refine lv_aload_n hx hb (xb_d D_M_run 166 rfl) rfl (lv_at hl 0 rfl) ?_
      refine xb_getP (C := R_M) (T := F_M) (N := 97) hx hb 8 74 hts fin_M hown hR hk1 (by decide) rfl (by decide) rfl (hts _ m_f82105f7) (fun _ h9 => h9) (xb_d D_M_run 167 rfl) ?_
      obtain ⟨b5, eb5, hw⟩ := hw
      refine xb_some eb5 ?_
      refine lv_iconst (v := 0) hx hb (xb_d D_M_run 168 rfl) (by decide) ?_
      obtain ⟨hk7, hw⟩ := hw
      obtain ⟨hi6, hw⟩ := hw
      refine xb_lald hx hb hR hk7 hi6 (xb_d D_M_run 169 rfl) ?_
      refine xt_numl (y := (xb_l h2 b5 0)) (congrArg (xb_l h2 b5) (by decide : (0 : Int32).toNatClampNeg = 0)) ?_
      refine lv_goto (tgt := 313) hx hb (xb_d D_M_run 170 rfl) rfl ?_
      exact am_M_run_L313 l hfl D A σ MC MS h0 Qr (xb_l h2 b5 0) x0 h2 hw p e s m args below meth c hC H locs ls k n hE (lv_sub hl [] rfl) hR hS (by omega) (by omega)
  · have hw := hw.2 hc3
    refine lv_aload_n hx hb (xb_d D_M_run 157 rfl) rfl (lv_at hl 0 rfl) ?_
    refine lv_iconst (v := 0) hx hb (xb_d D_M_run 158 rfl) (by decide) ?_
    refine xb_putI (C := R_M) (T := F_M) (N := 97) (ty := .int) (x := 0) hx hb 8 68 hts fin_M t_M t_M_ok n_M hown hR hS hk1 (by decide) rfl (by decide) rfl (hts _ m_11712ae1) (fun _ h9 => h9) rfl (by decide +kernel) rfl rfl (xb_d D_M_run 159 rfl) (fun H locs hR hS => ?_)
    obtain ⟨h8, eh8⟩ : ∃ x : xb_H, x = xb_I h2 x0 68 0 := ⟨_, rfl⟩
    rw [← eh8] at hR
    have hw := hw h8 eh8
    have hE : xb_ext h0 h8 := by rw [eh8]; exact hE
    refine lv_iconst (v := 1) hx hb (xb_d D_M_run 160 rfl) (by decide) ?_
    exact xb_iret 0 0 hx hb hr hlocks (show k + 0 ≤ MC by omega) (show n + 0 ≤ MS by omega) hE hR hS (xb_d D_M_run 161 rfl) hw

set_option maxHeartbeats 4000000 in
set_option maxRecDepth 100000 in
theorem am_M_run_L259 (l : Launch) (hfl : l.flags = pinnedFlags ++ [noTraceFlag]) (D : va_G) (A : Nat → Prop) (σ MC MS : Nat) (h0 : xb_H) (Qr : Int32 → xb_H → Prop) (K125 : Nat → xb_H → Prop) (hK125 : ∀ (x0 : Nat) (h : xb_H), K125 x0 h → xb_am l D A σ 13 MC MS h0 (fun v h _ _ => ∃ r, v = some (.int r) ∧ Qr r h) (fun _ _ _ _ => False) y_M_run.cls y_M_run.name b_M_run 6 ([] : List ExceptionTableEntry) (some .int) 125 [(0, .ref x0)] [] h 0 0) (x0 : Nat) (x4 : Int32) (y0 : Int32) (y1 : Nat) (h : xb_H) (hw : w_M_run_L259 K125 Qr x0 x4 y0 y1 h) : xb_am l D A σ 13 MC MS h0 (fun v h _ _ => ∃ r, v = some (.int r) ∧ Qr r h) (fun _ _ _ _ => False) y_M_run.cls y_M_run.name b_M_run 6 ([] : List ExceptionTableEntry) (some .int) 259 [(0, .ref x0), (4, .int x4)] [.int y0, .ref y1] h 0 0 := by
  unfold w_M_run_L259 at hw
  intro p e s m args below meth c hC H locs ls k n hE hl hR hS hk hn
  obtain ⟨hx, hb, hown, hlocks, htab, hml, hr, hB, hA, hnm⟩ := id hC
  have hts := hB.1.1.at args
  obtain ⟨hk1, hw⟩ := hw
  refine xb_putI (C := R_M) (T := F_M) (N := 97) (ty := .int) (x := y0) hx hb 8 84 hts fin_M t_M t_M_ok n_M hown hR hS hk1 (by decide) rfl (by decide) rfl (hts _ m_c9799996) (fun _ h9 => h9) rfl (by decide +kernel) rfl rfl (xb_d D_M_run 143 rfl) (fun H locs hR hS => ?_)
  obtain ⟨h2, eh2⟩ : ∃ x : xb_H, x = xb_I h y1 84 y0 := ⟨_, rfl⟩
  rw [← eh2] at hR
  have hw := hw h2 eh2
  have hE : xb_ext h0 h2 := by rw [eh2]; exact hE
  refine lv_aload_n hx hb (xb_d D_M_run 144 rfl) rfl (lv_at hl 0 rfl) ?_
  refine lv_iconst (v := 0) hx hb (xb_d D_M_run 145 rfl) (by decide) ?_
  obtain ⟨hk3, hw⟩ := hw
  refine xb_putI (C := R_M) (T := F_M) (N := 97) (ty := .boolean) (x := 0) hx hb 8 94 hts fin_M t_M t_M_ok n_M hown hR hS hk3 (by decide) rfl (by decide) rfl (hts _ m_8158dce5) (fun _ h9 => h9) rfl (by decide +kernel) (by decide) (by decide) (xb_d D_M_run 146 rfl) (fun H locs hR hS => ?_)
  obtain ⟨h4, eh4⟩ : ∃ x : xb_H, x = xb_I h2 x0 94 0 := ⟨_, rfl⟩
  rw [← eh4] at hR
  have hw := hw h4 eh4
  have hE : xb_ext h0 h4 := by rw [eh4]; exact hE
  refine lv_aload_n hx hb (xb_d D_M_run 147 rfl) rfl (lv_at hl 0 rfl) ?_
  refine lv_iload hx hb (xb_d D_M_run 148 rfl) (lv_at hl 1 rfl) ?_
  have hk3 : xb_k h4 x0 = 9 := by rw [eh4]; exact hk3
  refine xb_call0 (D := D) (A := A) (σ := σ) (h := h4) (d := 2) (maxL := 4) (rest := []) (av := [.ref x0, .int x4]) (fun T hT X => by obtain ⟨cb9, ra9, rb9, rc9⟩ := xb_recv (ci := 8) hR rfl hk3 (by decide); exact xt_invV X hx hown (hts _ m_b2be0bfe) (hts _ m_6a8933b7) (hts _ m_80932e6d) (xt_sigOf (hts _ m_cffcb64f)) nm_M_noteTrap (by rw [hT]; exact ra9) rb9 rc9 (g := F0 m 270 ls [.int x4, .ref x0]) rfl (argsL := [.int x4]) (rest := []) rfl rfl (by rw [hb]; exact (xb_d D_M_run 149 rfl))) (ok_M_noteTrap l hfl D A σ x0 x4 h4 _ hw) (hml.trans hl.1.symm) (by rw [hb]; exact (xb_d D_M_run 149 rfl)) (Nat.le_of_ble_eq_true rfl) (Nat.le_of_ble_eq_true rfl) (Nat.le_of_ble_eq_true rfl) (show k ≤ MC by omega) (show n ≤ MS by omega) (xt_w1 hB.1 m_cffcb64f) (xt_cdOf hB.1 m_cffcb64f) (hts _ m_d5ed7bed) hB hR hS hA (fun vv h5 H locs hq hEh5 hR hS => ?_)
  obtain ⟨rfl, hw⟩ := hq
  have hw := hw hEh5
  have hE := hE.tr hEh5
  refine W.eq (g2 := F0 m 273 ls []) rfl ?_
  refine lv_goto (tgt := 125) hx hb (xb_d D_M_run 150 rfl) rfl ?_
  exact hK125 x0 h5 hw p e s m args below meth c hC H locs ls k n hE (lv_sub hl [0] rfl) hR hS (by omega) (by omega)

set_option maxHeartbeats 4000000 in
set_option maxRecDepth 100000 in
theorem am_M_run_L201 (l : Launch) (hfl : l.flags = pinnedFlags ++ [noTraceFlag]) (D : va_G) (A : Nat → Prop) (σ MC MS : Nat) (h0 : xb_H) (Qr : Int32 → xb_H → Prop) (K125 : Nat → xb_H → Prop) (hK125 : ∀ (x0 : Nat) (h : xb_H), K125 x0 h → xb_am l D A σ 13 MC MS h0 (fun v h _ _ => ∃ r, v = some (.int r) ∧ Qr r h) (fun _ _ _ _ => False) y_M_run.cls y_M_run.name b_M_run 6 ([] : List ExceptionTableEntry) (some .int) 125 [(0, .ref x0)] [] h 0 0) (x0 : Nat) (x2 : Int32) (x3 : Int32) (x4 : Int32) (x5 : Int32) (h : xb_H) (hw : w_M_run_L201 K125 Qr x0 x2 x3 x4 x5 h) : xb_am l D A σ 13 MC MS h0 (fun v h _ _ => ∃ r, v = some (.int r) ∧ Qr r h) (fun _ _ _ _ => False) y_M_run.cls y_M_run.name b_M_run 6 ([] : List ExceptionTableEntry) (some .int) 201 [(0, .ref x0), (2, .int x2), (3, .int x3), (4, .int x4), (5, .int x5)] [] h 0 0 := by
  unfold w_M_run_L201 at hw
  intro p e s m args below meth c hC H locs ls k n hE hl hR hS hk hn
  obtain ⟨hx, hb, hown, hlocks, htab, hml, hr, hB, hA, hnm⟩ := id hC
  have hts := hB.1.1.at args
  refine lv_aload_n hx hb (xb_d D_M_run 109 rfl) rfl (lv_at hl 0 rfl) ?_
  refine lv_iconst (v := 0) hx hb (xb_d D_M_run 110 rfl) (by decide) ?_
  obtain ⟨hk1, hw⟩ := hw
  refine xb_putI (C := R_M) (T := F_M) (N := 97) (ty := .boolean) (x := 0) hx hb 8 94 hts fin_M t_M t_M_ok n_M hown hR hS hk1 (by decide) rfl (by decide) rfl (hts _ m_8158dce5) (fun _ h9 => h9) rfl (by decide +kernel) (by decide) (by decide) (xb_d D_M_run 111 rfl) (fun H locs hR hS => ?_)
  obtain ⟨h2, eh2⟩ : ∃ x : xb_H, x = xb_I h x0 94 0 := ⟨_, rfl⟩
  rw [← eh2] at hR
  have hw := hw h2 eh2
  have hE : xb_ext h0 h2 := by rw [eh2]; exact hE
  refine lv_aload_n hx hb (xb_d D_M_run 112 rfl) rfl (lv_at hl 0 rfl) ?_
  refine lv_aload_n hx hb (xb_d D_M_run 113 rfl) rfl (lv_at hl 0 rfl) ?_
  have hk1 : xb_k h2 x0 = 9 := by rw [eh2]; exact hk1
  refine xb_getP (C := R_M) (T := F_M) (N := 97) hx hb 8 31 hts fin_M hown hR hk1 (by decide) rfl (by decide) rfl (hts _ m_691d5f47) (fun _ h9 => h9) (xb_d D_M_run 114 rfl) ?_
  obtain ⟨b3, eb3, hw⟩ := hw
  refine xb_some eb3 ?_
  refine lv_aload_n hx hb (xb_d D_M_run 115 rfl) rfl (lv_at hl 0 rfl) ?_
  refine xb_getP (C := R_M) (T := F_M) (N := 97) hx hb 8 44 hts fin_M hown hR hk1 (by decide) rfl (by decide) rfl (hts _ m_ad0cc5a3) (fun _ h9 => h9) (xb_d D_M_run 116 rfl) ?_
  obtain ⟨b4, eb4, hw⟩ := hw
  refine xb_some eb4 ?_
  refine lv_iload_n hx hb (xb_d D_M_run 117 rfl) rfl (lv_at hl 2 rfl) ?_
  obtain ⟨hk6, hw⟩ := hw
  obtain ⟨hi5, hw⟩ := hw
  refine xb_iald hx hb hR hk6 hi5 (xb_d D_M_run 118 rfl) ?_
  obtain ⟨hk8, hw⟩ := hw
  obtain ⟨hi7, hw⟩ := hw
  refine xb_iald hx hb hR hk8 hi7 (xb_d D_M_run 119 rfl) ?_
  refine lv_iload hx hb (xb_d D_M_run 120 rfl) (lv_at hl 3 rfl) ?_
  refine lv_iconst (v := 1) hx hb (xb_d D_M_run 121 rfl) (by decide) ?_
  refine lv_iadd hx hb (xb_d D_M_run 122 rfl) ?_
  refine xb_call0 (D := D) (A := A) (σ := σ) (h := h2) (d := 2) (maxL := 3) (rest := []) (av := [.ref x0, .int (xb_i h2 b3 (Int32.toNatClampNeg (xb_i h2 b4 (Int32.toNatClampNeg x3)))), .int (x4 + 1)]) (fun T hT X => by obtain ⟨cb9, ra9, rb9, rc9⟩ := xb_recv (ci := 8) hR rfl hk1 (by decide); exact xt_invV X hx hown (hts _ m_bb531879) (hts _ m_4a6cd4a0) (hts _ m_d1c31e3c) (xt_sigOf (hts _ m_48217fba)) nm_M_go (by rw [hT]; exact ra9) rb9 rc9 (g := F0 m 222 ls [.int (x4 + 1), .int (xb_i h2 b3 (Int32.toNatClampNeg (xb_i h2 b4 (Int32.toNatClampNeg x3)))), .ref x0]) rfl (argsL := [.int (xb_i h2 b3 (Int32.toNatClampNeg (xb_i h2 b4 (Int32.toNatClampNeg x3)))), .int (x4 + 1)]) (rest := []) rfl rfl (by rw [hb]; exact (xb_d D_M_run 123 rfl))) (ok_M_go l hfl D A σ x0 (xb_i h2 b3 (Int32.toNatClampNeg (xb_i h2 b4 (Int32.toNatClampNeg x3)))) (x4 + 1) h2 _ hw) (hml.trans hl.1.symm) (by rw [hb]; exact (xb_d D_M_run 123 rfl)) (Nat.le_of_ble_eq_true rfl) (Nat.le_of_ble_eq_true rfl) (Nat.le_of_ble_eq_true rfl) (show k ≤ MC by omega) (show n ≤ MS by omega) (xt_w1 hB.1 m_48217fba) (xt_cdOf hB.1 m_48217fba) (hts _ m_d5ed7bed) hB hR hS hA (fun vv h9 H locs hq hEh9 hR hS => ?_)
  obtain ⟨rfl, hw⟩ := hq
  have hw := hw hEh9
  have hE := hE.tr hEh9
  refine W.eq (g2 := F0 m 225 ls []) rfl ?_
  refine lv_aload_n hx hb (xb_d D_M_run 124 rfl) rfl (lv_at hl 0 rfl) ?_
  refine lv_iload_n hx hb (xb_d D_M_run 125 rfl) rfl (lv_at hl 1 rfl) ?_
  refine lv_aload_n hx hb (xb_d D_M_run 126 rfl) rfl (lv_at hl 0 rfl) ?_
  have hk1 : xb_k h9 x0 = 9 := hEh9.k hk1
  refine xb_getP (C := R_M) (T := F_M) (N := 97) hx hb 8 44 hts fin_M hown hR hk1 (by decide) rfl (by decide) rfl (hts _ m_ad0cc5a3) (fun _ h9 => h9) (xb_d D_M_run 127 rfl) ?_
  obtain ⟨b11, eb11, hw⟩ := hw
  refine xb_some eb11 ?_
  refine lv_iload_n hx hb (xb_d D_M_run 128 rfl) rfl (lv_at hl 2 rfl) ?_
  obtain ⟨hk13, hw⟩ := hw
  obtain ⟨hi12, hw⟩ := hw
  refine xb_iald hx hb hR hk13 hi12 (xb_d D_M_run 129 rfl) ?_
  refine lv_iload hx hb (xb_d D_M_run 130 rfl) (lv_at hl 4 rfl) ?_
  refine xb_call0 (D := D) (A := A) (σ := σ) (h := h9) (d := 12) (maxL := 4) (rest := []) (av := [.ref x0, .int x2, .int (xb_i h9 b11 (Int32.toNatClampNeg x3)), .int x5]) (fun T hT X => by obtain ⟨cb9, ra9, rb9, rc9⟩ := xb_recv (ci := 8) hR rfl hk1 (by decide); exact xt_invV X hx hown (hts _ m_f54dca07) (hts _ m_95242c6f) (hts _ m_b32954d3) (xt_sigOf (hts _ m_8c4389a7)) nm_M_perform (by rw [hT]; exact ra9) rb9 rc9 (g := F0 m 235 ls [.int x5, .int (xb_i h9 b11 (Int32.toNatClampNeg x3)), .int x2, .ref x0]) rfl (argsL := [.int x2, .int (xb_i h9 b11 (Int32.toNatClampNeg x3)), .int x5]) (rest := []) rfl rfl (by rw [hb]; exact (xb_d D_M_run 131 rfl))) (ok_M_perform l hfl D A σ x0 x2 (xb_i h9 b11 (Int32.toNatClampNeg x3)) x5 h9 _ hw) (hml.trans hl.1.symm) (by rw [hb]; exact (xb_d D_M_run 131 rfl)) (Nat.le_of_ble_eq_true rfl) (Nat.le_of_ble_eq_true rfl) (Nat.le_of_ble_eq_true rfl) (show k ≤ MC by omega) (show n ≤ MS by omega) (xt_w1 hB.1 m_8c4389a7) (xt_cdOf hB.1 m_8c4389a7) (hts _ m_d5ed7bed) hB hR hS hA (fun vv h14 H locs hq hEh14 hR hS => ?_)
  obtain ⟨rfl, hw⟩ := hq
  have hw := hw hEh14
  have hE := hE.tr hEh14
  refine W.eq (g2 := F0 m 238 ls []) rfl ?_
  refine lv_aload_n hx hb (xb_d D_M_run 132 rfl) rfl (lv_at hl 0 rfl) ?_
  refine lv_aload_n hx hb (xb_d D_M_run 133 rfl) rfl (lv_at hl 0 rfl) ?_
  have hk1 : xb_k h14 x0 = 9 := hEh14.k hk1
  refine xb_getI (C := R_M) (T := F_M) (N := 97) hx hb 8 94 hts fin_M hown hR hk1 (by decide) rfl (by decide) rfl (hts _ m_8158dce5) (fun _ h9 => h9) (xb_d D_M_run 134 rfl) ?_
  refine lv_if_eq (tgt := 255) hx hb (xb_d D_M_run 135 rfl) rfl (fun hc16 => ?_) (fun hc16 => ?_)
  · have hw := hw.1 hc16
    refine lv_aload_n hx hb (xb_d D_M_run 141 rfl) rfl (lv_at hl 0 rfl) ?_
    refine xb_getI (C := R_M) (T := F_M) (N := 97) hx hb 8 84 hts fin_M hown hR hk1 (by decide) rfl (by decide) rfl (hts _ m_c9799996) (fun _ h9 => h9) (xb_d D_M_run 142 rfl) ?_
    exact am_M_run_L259 l hfl D A σ MC MS h0 Qr K125 hK125 x0 x4 (xb_i h14 x0 84) x0 h14 hw p e s m args below meth c hC H locs ls k n hE (lv_sub hl [0, 3] rfl) hR hS (by omega) (by omega)
  · have hw := hw.2 hc16
    refine lv_aload_n hx hb (xb_d D_M_run 136 rfl) rfl (lv_at hl 0 rfl) ?_
    refine xb_getI (C := R_M) (T := F_M) (N := 97) hx hb 8 84 hts fin_M hown hR hk1 (by decide) rfl (by decide) rfl (hts _ m_c9799996) (fun _ h9 => h9) (xb_d D_M_run 137 rfl) ?_
    refine lv_iconst (v := 1) hx hb (xb_d D_M_run 138 rfl) (by decide) ?_
    refine lv_iadd hx hb (xb_d D_M_run 139 rfl) ?_
    refine lv_goto (tgt := 259) hx hb (xb_d D_M_run 140 rfl) rfl ?_
    exact am_M_run_L259 l hfl D A σ MC MS h0 Qr K125 hK125 x0 x4 ((xb_i h14 x0 84) + 1) x0 h14 hw p e s m args below meth c hC H locs ls k n hE (lv_sub hl [0, 3] rfl) hR hS (by omega) (by omega)

set_option maxHeartbeats 4000000 in
set_option maxRecDepth 100000 in
theorem am_M_run_L125 (l : Launch) (hfl : l.flags = pinnedFlags ++ [noTraceFlag]) (D : va_G) (A : Nat → Prop) (σ MC MS : Nat) (h0 : xb_H) (Qr : Int32 → xb_H → Prop) (n9 : Nat) : ∀ (x0 : Nat) (h : xb_H), w_M_run_L125 Qr n9 x0 h → xb_am l D A σ 13 MC MS h0 (fun v h _ _ => ∃ r, v = some (.int r) ∧ Qr r h) (fun _ _ _ _ => False) y_M_run.cls y_M_run.name b_M_run 6 ([] : List ExceptionTableEntry) (some .int) 125 [(0, .ref x0)] [] h 0 0 := by
  induction n9 with
  | zero => intro x0 h hw; exact False.elim hw
  | succ n9 ih =>
    intro x0 h hw
    unfold w_M_run_L125 at hw
    intro p e s m args below meth c hC H locs ls k n hE hl hR hS hk hn
    obtain ⟨hx, hb, hown, hlocks, htab, hml, hr, hB, hA, hnm⟩ := id hC
    have hts := hB.1.1.at args
    refine lv_aload_n hx hb (xb_d D_M_run 67 rfl) rfl (lv_at hl 0 rfl) ?_
    obtain ⟨hk1, hw⟩ := hw
    refine xb_getI (C := R_M) (T := F_M) (N := 97) hx hb 8 68 hts fin_M hown hR hk1 (by decide) rfl (by decide) rfl (hts _ m_11712ae1) (fun _ h9 => h9) (xb_d D_M_run 68 rfl) ?_
    refine lv_if_le (tgt := 276) hx hb (xb_d D_M_run 69 rfl) rfl (fun hc2 => ?_) (fun hc2 => ?_)
    · have hw := hw.1 hc2
      exact am_M_run_L276 l hfl D A σ MC MS h0 Qr x0 h hw p e s m args below meth c hC H locs ls k n hE (lv_sub hl [0] rfl) hR hS (by omega) (by omega)
    · have hw := hw.2 hc2
      refine lv_aload_n hx hb (xb_d D_M_run 70 rfl) rfl (lv_at hl 0 rfl) ?_
      refine xb_getI (C := R_M) (T := F_M) (N := 97) hx hb 8 82 hts fin_M hown hR hk1 (by decide) rfl (by decide) rfl (hts _ m_ad343437) (fun _ h9 => h9) (xb_d D_M_run 71 rfl) ?_
      refine lv_if_ne (tgt := 276) hx hb (xb_d D_M_run 72 rfl) rfl (fun hc3 => ?_) (fun hc3 => ?_)
      · have hw := hw.1 hc3
        exact am_M_run_L276 l hfl D A σ MC MS h0 Qr x0 h hw p e s m args below meth c hC H locs ls k n hE (lv_sub hl [0] rfl) hR hS (by omega) (by omega)
      · have hw := hw.2 hc3
        refine lv_aload_n hx hb (xb_d D_M_run 73 rfl) rfl (lv_at hl 0 rfl) ?_
        refine xb_getI (C := R_M) (T := F_M) (N := 97) hx hb 8 68 hts fin_M hown hR hk1 (by decide) rfl (by decide) rfl (hts _ m_11712ae1) (fun _ h9 => h9) (xb_d D_M_run 74 rfl) ?_
        refine lv_iconst (v := 1) hx hb (xb_d D_M_run 75 rfl) (by decide) ?_
        refine lv_isub hx hb (xb_d D_M_run 76 rfl) ?_
        obtain ⟨v4, ev4⟩ : ∃ x : Int32, x = ((xb_i h x0 68) - 1) := ⟨_, rfl⟩
        have hw := hw v4 ev4
        refine xt_numi (y := v4) ev4.symm ?_
        refine lv_istore_n hx hb (xb_d D_M_run 77 rfl) rfl hl (by decide) rfl (fun ls hl => ?_)
        have hl : lv_has ls 6 [(2, .int v4), (0, .ref x0)] := hl
        refine lv_aload_n hx hb (xb_d D_M_run 78 rfl) rfl (lv_at hl 1 rfl) ?_
        refine xb_getP (C := R_M) (T := F_M) (N := 97) hx hb 8 69 hts fin_M hown hR hk1 (by decide) rfl (by decide) rfl (hts _ m_70e943ac) (fun _ h9 => h9) (xb_d D_M_run 79 rfl) ?_
        obtain ⟨b5, eb5, hw⟩ := hw
        refine xb_some eb5 ?_
        refine lv_iload_n hx hb (xb_d D_M_run 80 rfl) rfl (lv_at hl 0 rfl) ?_
        obtain ⟨hk7, hw⟩ := hw
        obtain ⟨hi6, hw⟩ := hw
        refine xb_iald hx hb hR hk7 hi6 (xb_d D_M_run 81 rfl) ?_
        obtain ⟨v8, ev8⟩ : ∃ x : Int32, x = (xb_i h b5 (Int32.toNatClampNeg v4)) := ⟨_, rfl⟩
        have hw := hw v8 ev8
        refine xt_numi (y := v8) ev8.symm ?_
        refine lv_istore_n hx hb (xb_d D_M_run 82 rfl) rfl hl (by decide) rfl (fun ls hl => ?_)
        have hl : lv_has ls 6 [(3, .int v8), (2, .int v4), (0, .ref x0)] := hl
        refine lv_aload_n hx hb (xb_d D_M_run 83 rfl) rfl (lv_at hl 2 rfl) ?_
        refine xb_getP (C := R_M) (T := F_M) (N := 97) hx hb 8 70 hts fin_M hown hR hk1 (by decide) rfl (by decide) rfl (hts _ m_ab98e9c9) (fun _ h9 => h9) (xb_d D_M_run 84 rfl) ?_
        obtain ⟨b9, eb9, hw⟩ := hw
        refine xb_some eb9 ?_
        refine lv_iload_n hx hb (xb_d D_M_run 85 rfl) rfl (lv_at hl 1 rfl) ?_
        obtain ⟨hk11, hw⟩ := hw
        obtain ⟨hi10, hw⟩ := hw
        refine xb_iald hx hb hR hk11 hi10 (xb_d D_M_run 86 rfl) ?_
        obtain ⟨v12, ev12⟩ : ∃ x : Int32, x = (xb_i h b9 (Int32.toNatClampNeg v4)) := ⟨_, rfl⟩
        have hw := hw v12 ev12
        refine xt_numi (y := v12) ev12.symm ?_
        refine lv_istore hx hb (xb_d D_M_run 87 rfl) hl (by decide) rfl (fun ls hl => ?_)
        have hl : lv_has ls 6 [(4, .int v12), (3, .int v8), (2, .int v4), (0, .ref x0)] := hl
        refine lv_aload_n hx hb (xb_d D_M_run 88 rfl) rfl (lv_at hl 3 rfl) ?_
        refine xb_getP (C := R_M) (T := F_M) (N := 97) hx hb 8 3 hts fin_M hown hR hk1 (by decide) rfl (by decide) rfl (hts _ m_4f0568af) (fun _ h9 => h9) (xb_d D_M_run 89 rfl) ?_
        obtain ⟨b13, eb13, hw⟩ := hw
        refine xb_some eb13 ?_
        refine lv_iload hx hb (xb_d D_M_run 90 rfl) (lv_at hl 0 rfl) ?_
        obtain ⟨hk15, hw⟩ := hw
        obtain ⟨hi14, hw⟩ := hw
        refine xb_bald hx hb hR hk15 hi14 (xb_d D_M_run 91 rfl) ?_
        refine lv_sipush (v := 255) hx hb (xb_d D_M_run 92 rfl) (by decide) ?_
        refine lv_iand hx hb (xb_d D_M_run 93 rfl) ?_
        obtain ⟨v16, ev16⟩ : ∃ x : Int32, x = ((xb_i h b13 (Int32.toNatClampNeg v12)) &&& 255) := ⟨_, rfl⟩
        have hw := hw v16 ev16
        refine xt_numi (y := v16) ev16.symm ?_
        refine lv_istore hx hb (xb_d D_M_run 94 rfl) hl (by decide) rfl (fun ls hl => ?_)
        have hl : lv_has ls 6 [(5, .int v16), (4, .int v12), (3, .int v8), (2, .int v4), (0, .ref x0)] := hl
        refine lv_iload hx hb (xb_d D_M_run 95 rfl) (lv_at hl 0 rfl) ?_
        refine xb_call0 (D := D) (A := A) (σ := σ) (h := h) (d := 2) (maxL := 1) (rest := []) (av := [.int v16]) (fun T hT X => xt_invS X hx hown (hts _ m_3693198e) (hts _ m_903f0b9e) (hts _ m_d5ed7bed) (xt_sgS (hts _ m_b8fa3db2)).1 (xt_sgS (hts _ m_b8fa3db2)).2 nm_M_isStep (g := F0 m 176 ls [.int v16]) rfl (argsL := [.int v16]) (rest := []) rfl rfl (by rw [hb]; exact (xb_d D_M_run 96 rfl))) (ok_M_isStep l hfl D A σ v16 h _ hw) (hml.trans hl.1.symm) (by rw [hb]; exact (xb_d D_M_run 96 rfl)) (Nat.le_of_ble_eq_true rfl) (Nat.le_of_ble_eq_true rfl) (Nat.le_of_ble_eq_true rfl) (show k ≤ MC by omega) (show n ≤ MS by omega) (xt_w1 hB.1 m_b8fa3db2) (xt_cdOf hB.1 m_b8fa3db2) (hts _ m_d5ed7bed) hB hR hS hA (fun vv h17 H locs hq hEh17 hR hS => ?_)
        obtain ⟨r18, rfl, hw⟩ := hq
        have hw := hw hEh17
        have hE := hE.tr hEh17
        refine W.eq (g2 := F0 m 179 ls [.int r18]) rfl ?_
        refine lv_if_eq (tgt := 201) hx hb (xb_d D_M_run 97 rfl) rfl (fun hc19 => ?_) (fun hc19 => ?_)
        · have hw := hw.1 hc19
          exact am_M_run_L201 l hfl D A σ MC MS h0 Qr (w_M_run_L125 Qr n9) ih x0 v4 v8 v12 v16 h17 hw p e s m args below meth c hC H locs ls k n hE (lv_sub hl [4, 3, 2, 1, 0] rfl) hR hS (by omega) (by omega)
        · have hw := hw.2 hc19
          refine lv_aload_n hx hb (xb_d D_M_run 98 rfl) rfl (lv_at hl 4 rfl) ?_
          have hk1 : xb_k h17 x0 = 9 := hEh17.k hk1
          refine xb_getI (C := R_M) (T := F_M) (N := 97) hx hb 8 95 hts fin_M hown hR hk1 (by decide) rfl (by decide) rfl (hts _ m_66e4112d) (fun _ h9 => h9) (xb_d D_M_run 99 rfl) ?_
          refine lv_if_ne (tgt := 191) hx hb (xb_d D_M_run 100 rfl) rfl (fun hc20 => ?_) (fun hc20 => ?_)
          · have hw := hw.1 hc20
            refine lv_aload_n hx hb (xb_d D_M_run 103 rfl) rfl (lv_at hl 4 rfl) ?_
            refine lv_dup hx hb (xb_d D_M_run 104 rfl) rfl ?_
            refine xb_getI (C := R_M) (T := F_M) (N := 97) hx hb 8 95 hts fin_M hown hR hk1 (by decide) rfl (by decide) rfl (hts _ m_66e4112d) (fun _ h9 => h9) (xb_d D_M_run 105 rfl) ?_
            refine lv_iconst (v := 1) hx hb (xb_d D_M_run 106 rfl) (by decide) ?_
            refine lv_isub hx hb (xb_d D_M_run 107 rfl) ?_
            refine xb_putI (C := R_M) (T := F_M) (N := 97) (ty := .int) (x := ((xb_i h17 x0 95) - 1)) hx hb 8 95 hts fin_M t_M t_M_ok n_M hown hR hS hk1 (by decide) rfl (by decide) rfl (hts _ m_66e4112d) (fun _ h9 => h9) rfl (by decide +kernel) rfl rfl (xb_d D_M_run 108 rfl) (fun H locs hR hS => ?_)
            obtain ⟨h21, eh21⟩ : ∃ x : xb_H, x = xb_I h17 x0 95 ((xb_i h17 x0 95) - 1) := ⟨_, rfl⟩
            rw [← eh21] at hR
            have hw := hw h21 eh21
            have hE : xb_ext h0 h21 := by rw [eh21]; exact hE
            exact am_M_run_L201 l hfl D A σ MC MS h0 Qr (w_M_run_L125 Qr n9) ih x0 v4 v8 v12 v16 h21 hw p e s m args below meth c hC H locs ls k n hE (lv_sub hl [4, 3, 2, 1, 0] rfl) hR hS (by omega) (by omega)
          · have hw := hw.2 hc20
            refine lv_iconst (v := 2) hx hb (xb_d D_M_run 101 rfl) (by decide) ?_
            exact xb_iret 0 0 hx hb hr hlocks (show k + 0 ≤ MC by omega) (show n + 0 ≤ MS by omega) hE hR hS (xb_d D_M_run 102 rfl) hw

set_option maxHeartbeats 4000000 in
set_option maxRecDepth 100000 in
theorem am_M_run_L79 (l : Launch) (hfl : l.flags = pinnedFlags ++ [noTraceFlag]) (D : va_G) (A : Nat → Prop) (σ MC MS : Nat) (h0 : xb_H) (Qr : Int32 → xb_H → Prop) (n9 : Nat) : ∀ (x0 : Nat) (x2 : Int32) (h : xb_H), w_M_run_L79 Qr n9 x0 x2 h → xb_am l D A σ 13 MC MS h0 (fun v h _ _ => ∃ r, v = some (.int r) ∧ Qr r h) (fun _ _ _ _ => False) y_M_run.cls y_M_run.name b_M_run 6 ([] : List ExceptionTableEntry) (some .int) 79 [(0, .ref x0), (2, .int x2)] [] h 0 0 := by
  induction n9 with
  | zero => intro x0 x2 h hw; exact False.elim hw
  | succ n9 ih =>
    intro x0 x2 h hw
    unfold w_M_run_L79 at hw
    intro p e s m args below meth c hC H locs ls k n hE hl hR hS hk hn
    obtain ⟨hx, hb, hown, hlocks, htab, hml, hr, hB, hA, hnm⟩ := id hC
    have hts := hB.1.1.at args
    refine lv_iload_n hx hb (xb_d D_M_run 43 rfl) rfl (lv_at hl 1 rfl) ?_
    refine lv_aload_n hx hb (xb_d D_M_run 44 rfl) rfl (lv_at hl 0 rfl) ?_
    obtain ⟨hk1, hw⟩ := hw
    refine xb_getI (C := R_M) (T := F_M) (N := 97) hx hb 8 93 hts fin_M hown hR hk1 (by decide) rfl (by decide) rfl (hts _ m_2f4a9320) (fun _ h9 => h9) (xb_d D_M_run 45 rfl) ?_
    refine lv_icmp_ge (tgt := 112) hx hb (xb_d D_M_run 46 rfl) rfl (fun hc2 => ?_) (fun hc2 => ?_)
    · have hw := hw.1 hc2
      refine lv_aload_n hx hb (xb_d D_M_run 60 rfl) rfl (lv_at hl 0 rfl) ?_
      refine lv_aload_n hx hb (xb_d D_M_run 61 rfl) rfl (lv_at hl 0 rfl) ?_
      refine xb_getI (C := R_M) (T := F_M) (N := 97) hx hb 8 64 hts fin_M hown hR hk1 (by decide) rfl (by decide) rfl (hts _ m_df1b4df4) (fun _ h9 => h9) (xb_d D_M_run 62 rfl) ?_
      refine xb_call0 (D := D) (A := A) (σ := σ) (h := h) (d := 10) (maxL := 10) (rest := []) (av := [.ref x0, .int (xb_i h x0 64)]) (fun T hT X => by obtain ⟨cb9, ra9, rb9, rc9⟩ := xb_recv (ci := 8) hR rfl hk1 (by decide); exact xt_invV X hx hown (hts _ m_126cb4c9) (hts _ m_811b7936) (hts _ m_879535a0) (xt_sigOf (hts _ m_650a8028)) nm_M_call (by rw [hT]; exact ra9) rb9 rc9 (g := F0 m 117 ls [.int (xb_i h x0 64), .ref x0]) rfl (argsL := [.int (xb_i h x0 64)]) (rest := []) rfl rfl (by rw [hb]; exact (xb_d D_M_run 63 rfl))) (ok_M_call l hfl D A σ x0 (xb_i h x0 64) h _ hw) (hml.trans hl.1.symm) (by rw [hb]; exact (xb_d D_M_run 63 rfl)) (Nat.le_of_ble_eq_true rfl) (Nat.le_of_ble_eq_true rfl) (Nat.le_of_ble_eq_true rfl) (show k ≤ MC by omega) (show n ≤ MS by omega) (xt_w1 hB.1 m_650a8028) (xt_cdOf hB.1 m_650a8028) (hts _ m_d5ed7bed) hB hR hS hA (fun vv h3 H locs hq hEh3 hR hS => ?_)
      obtain ⟨rfl, hw⟩ := hq
      have hw := hw hEh3
      have hE := hE.tr hEh3
      refine W.eq (g2 := F0 m 120 ls []) rfl ?_
      refine lv_aload_n hx hb (xb_d D_M_run 64 rfl) rfl (lv_at hl 0 rfl) ?_
      refine lv_iconst (v := (-1)) hx hb (xb_d D_M_run 65 rfl) (by decide) ?_
      have hk1 : xb_k h3 x0 = 9 := hEh3.k hk1
      refine xb_call0 (D := D) (A := A) (σ := σ) (h := h3) (d := 2) (maxL := 4) (rest := []) (av := [.ref x0, .int (-1)]) (fun T hT X => by obtain ⟨cb9, ra9, rb9, rc9⟩ := xb_recv (ci := 8) hR rfl hk1 (by decide); exact xt_invV X hx hown (hts _ m_b2be0bfe) (hts _ m_6a8933b7) (hts _ m_80932e6d) (xt_sigOf (hts _ m_cffcb64f)) nm_M_noteTrap (by rw [hT]; exact ra9) rb9 rc9 (g := F0 m 122 ls [.int (-1), .ref x0]) rfl (argsL := [.int (-1)]) (rest := []) rfl rfl (by rw [hb]; exact (xb_d D_M_run 66 rfl))) (ok_M_noteTrap l hfl D A σ x0 (-1) h3 _ hw) (hml.trans hl.1.symm) (by rw [hb]; exact (xb_d D_M_run 66 rfl)) (Nat.le_of_ble_eq_true rfl) (Nat.le_of_ble_eq_true rfl) (Nat.le_of_ble_eq_true rfl) (show k ≤ MC by omega) (show n ≤ MS by omega) (xt_w1 hB.1 m_cffcb64f) (xt_cdOf hB.1 m_cffcb64f) (hts _ m_d5ed7bed) hB hR hS hA (fun vv h5 H locs hq hEh5 hR hS => ?_)
      obtain ⟨rfl, hw⟩ := hq
      have hw := hw hEh5
      have hE := hE.tr hEh5
      refine W.eq (g2 := F0 m 125 ls []) rfl ?_
      obtain ⟨n8, hw⟩ := hw
      exact am_M_run_L125 l hfl D A σ MC MS h0 Qr n8 x0 h5 hw p e s m args below meth c hC H locs ls k n hE (lv_sub hl [0] rfl) hR hS (by omega) (by omega)
    · have hw := hw.2 hc2
      refine lv_aload_n hx hb (xb_d D_M_run 47 rfl) rfl (lv_at hl 0 rfl) ?_
      refine lv_aload_n hx hb (xb_d D_M_run 48 rfl) rfl (lv_at hl 0 rfl) ?_
      refine xb_getP (C := R_M) (T := F_M) (N := 97) hx hb 8 67 hts fin_M hown hR hk1 (by decide) rfl (by decide) rfl (hts _ m_8147510a) (fun _ h9 => h9) (xb_d D_M_run 49 rfl) ?_
      obtain ⟨b7, eb7, hw⟩ := hw
      refine xb_some eb7 ?_
      refine lv_iload_n hx hb (xb_d D_M_run 50 rfl) rfl (lv_at hl 1 rfl) ?_
      obtain ⟨hk9, hw⟩ := hw
      obtain ⟨hi8, hw⟩ := hw
      refine xb_lald hx hb hR hk9 hi8 (xb_d D_M_run 51 rfl) ?_
      refine lv_aload_n hx hb (xb_d D_M_run 52 rfl) rfl (lv_at hl 0 rfl) ?_
      refine lv_aload_n hx hb (xb_d D_M_run 53 rfl) rfl (lv_at hl 0 rfl) ?_
      refine xb_getI (C := R_M) (T := F_M) (N := 97) hx hb 8 64 hts fin_M hown hR hk1 (by decide) rfl (by decide) rfl (hts _ m_df1b4df4) (fun _ h9 => h9) (xb_d D_M_run 54 rfl) ?_
      refine lv_iload_n hx hb (xb_d D_M_run 55 rfl) rfl (lv_at hl 1 rfl) ?_
      refine xb_call0 (D := D) (A := A) (σ := σ) (h := h) (d := 9) (maxL := 4) (rest := [.long (xb_l h b7 (Int32.toNatClampNeg x2)), .ref x0]) (av := [.ref x0, .int (xb_i h x0 64), .int x2]) (fun T hT X => by obtain ⟨cb9, ra9, rb9, rc9⟩ := xb_recv (ci := 8) hR rfl hk1 (by decide); exact xt_invV X hx hown (hts _ m_78f2aca1) (hts _ m_b10bc8fa) (hts _ m_7dc37ff6) (xt_sigOf (hts _ m_3a048bd5)) nm_M_parameterOf (by rw [hT]; exact ra9) rb9 rc9 (g := F0 m 100 ls [.int x2, .int (xb_i h x0 64), .ref x0, .long (xb_l h b7 (Int32.toNatClampNeg x2)), .ref x0]) rfl (argsL := [.int (xb_i h x0 64), .int x2]) (rest := [.long (xb_l h b7 (Int32.toNatClampNeg x2)), .ref x0]) rfl rfl (by rw [hb]; exact (xb_d D_M_run 56 rfl))) (ok_M_parameterOf l hfl D A σ x0 (xb_i h x0 64) x2 h _ hw) (hml.trans hl.1.symm) (by rw [hb]; exact (xb_d D_M_run 56 rfl)) (Nat.le_of_ble_eq_true rfl) (Nat.le_of_ble_eq_true rfl) (Nat.le_of_ble_eq_true rfl) (show k ≤ MC by omega) (show n ≤ MS by omega) (xt_w1 hB.1 m_3a048bd5) (xt_cdOf hB.1 m_3a048bd5) (hts _ m_d5ed7bed) hB hR hS hA (fun vv h10 H locs hq hEh10 hR hS => ?_)
      obtain ⟨r11, rfl, hw⟩ := hq
      have hw := hw hEh10
      have hE := hE.tr hEh10
      refine W.eq (g2 := F0 m 103 ls [.int r11, .long (xb_l h b7 (Int32.toNatClampNeg x2)), .ref x0]) rfl ?_
      have hk1 : xb_k h10 x0 = 9 := hEh10.k hk1
      refine xb_call0 (D := D) (A := A) (σ := σ) (h := h10) (d := 2) (maxL := 4) (rest := []) (av := [.ref x0, .long (xb_l h b7 (Int32.toNatClampNeg x2)), .int r11]) (fun T hT X => by obtain ⟨cb9, ra9, rb9, rc9⟩ := xb_recv (ci := 8) hR rfl hk1 (by decide); exact xt_invV X hx hown (hts _ m_1dd22d11) (hts _ m_e8ae1713) (hts _ m_973b740a) (xt_sigOf (hts _ m_a0d5a63e)) nm_M_add (by rw [hT]; exact ra9) rb9 rc9 (g := F0 m 103 ls [.int r11, .long (xb_l h b7 (Int32.toNatClampNeg x2)), .ref x0]) rfl (argsL := [.long (xb_l h b7 (Int32.toNatClampNeg x2)), .int r11]) (rest := []) rfl rfl (by rw [hb]; exact (xb_d D_M_run 57 rfl))) (ok_M_add l hfl D A σ x0 (xb_l h b7 (Int32.toNatClampNeg x2)) r11 h10 _ hw) (hml.trans hl.1.symm) (by rw [hb]; exact (xb_d D_M_run 57 rfl)) (Nat.le_of_ble_eq_true rfl) (Nat.le_of_ble_eq_true rfl) (Nat.le_of_ble_eq_true rfl) (show k ≤ MC by omega) (show n ≤ MS by omega) (xt_w1 hB.1 m_a0d5a63e) (xt_cdOf hB.1 m_a0d5a63e) (hts _ m_d5ed7bed) hB hR hS hA (fun vv h12 H locs hq hEh12 hR hS => ?_)
      obtain ⟨rfl, hw⟩ := hq
      have hw := hw hEh12
      have hE := hE.tr hEh12
      refine W.eq (g2 := F0 m 106 ls []) rfl ?_
      refine lv_iinc (v := (x2 + 1)) (k := 1) hx hb (xb_d D_M_run 58 rfl) hl rfl (by first | rfl | decide) (by decide) rfl (fun ls hl => ?_)
      have hl : lv_has ls 6 [(2, .int (x2 + 1)), (0, .ref x0)] := hl
      refine lv_goto (tgt := 79) hx hb (xb_d D_M_run 59 rfl) rfl ?_
      exact ih x0 (x2 + 1) h12 hw p e s m args below meth c hC H locs ls k n hE (lv_sub hl [1, 0] rfl) hR hS (by omega) (by omega)

set_option maxHeartbeats 4000000 in
set_option maxRecDepth 100000 in
theorem am_M_run_L28 (l : Launch) (hfl : l.flags = pinnedFlags ++ [noTraceFlag]) (D : va_G) (A : Nat → Prop) (σ MC MS : Nat) (h0 : xb_H) (Qr : Int32 → xb_H → Prop) (x0 : Nat) (x1 : Int32) (y0 : Int32) (y1 : Nat) (h : xb_H) (hw : w_M_run_L28 Qr x0 x1 y0 y1 h) : xb_am l D A σ 13 MC MS h0 (fun v h _ _ => ∃ r, v = some (.int r) ∧ Qr r h) (fun _ _ _ _ => False) y_M_run.cls y_M_run.name b_M_run 6 ([] : List ExceptionTableEntry) (some .int) 28 [(0, .ref x0), (1, .int x1)] [.int y0, .ref y1] h 0 0 := by
  unfold w_M_run_L28 at hw
  intro p e s m args below meth c hC H locs ls k n hE hl hR hS hk hn
  obtain ⟨hx, hb, hown, hlocks, htab, hml, hr, hB, hA, hnm⟩ := id hC
  have hts := hB.1.1.at args
  obtain ⟨hk1, hw⟩ := hw
  refine xb_putI (C := R_M) (T := F_M) (N := 97) (ty := .int) (x := y0) hx hb 8 0 hts fin_M t_M t_M_ok n_M hown hR hS hk1 (by decide) rfl (by decide) rfl (hts _ m_afabd6a0) (fun _ h9 => h9) rfl (by decide +kernel) rfl rfl (xb_d D_M_run 14 rfl) (fun H locs hR hS => ?_)
  obtain ⟨h2, eh2⟩ : ∃ x : xb_H, x = xb_I h y1 0 y0 := ⟨_, rfl⟩
  rw [← eh2] at hR
  have hw := hw h2 eh2
  have hE : xb_ext h0 h2 := by rw [eh2]; exact hE
  refine lv_aload_n hx hb (xb_d D_M_run 15 rfl) rfl (lv_at hl 0 rfl) ?_
  obtain ⟨hk3, hw⟩ := hw
  refine xb_getI (C := R_M) (T := F_M) (N := 97) hx hb 8 0 hts fin_M hown hR hk3 (by decide) rfl (by decide) rfl (hts _ m_afabd6a0) (fun _ h9 => h9) (xb_d D_M_run 16 rfl) ?_
  refine lv_if_le (tgt := 40) hx hb (xb_d D_M_run 17 rfl) rfl (fun hc4 => ?_) (fun hc4 => ?_)
  · have hw := hw.1 hc4
    refine lv_aload_n hx hb (xb_d D_M_run 20 rfl) rfl (lv_at hl 0 rfl) ?_
    refine lv_iload_n hx hb (xb_d D_M_run 21 rfl) rfl (lv_at hl 1 rfl) ?_
    refine xb_putI (C := R_M) (T := F_M) (N := 97) (ty := .int) (x := x1) hx hb 8 95 hts fin_M t_M t_M_ok n_M hown hR hS hk3 (by decide) rfl (by decide) rfl (hts _ m_66e4112d) (fun _ h9 => h9) rfl (by decide +kernel) rfl rfl (xb_d D_M_run 22 rfl) (fun H locs hR hS => ?_)
    obtain ⟨h5, eh5⟩ : ∃ x : xb_H, x = xb_I h2 x0 95 x1 := ⟨_, rfl⟩
    rw [← eh5] at hR
    have hw := hw h5 eh5
    have hE : xb_ext h0 h5 := by rw [eh5]; exact hE
    refine lv_aload_n hx hb (xb_d D_M_run 23 rfl) rfl (lv_at hl 0 rfl) ?_
    have hk3 : xb_k h5 x0 = 9 := by rw [eh5]; exact hk3
    refine xb_getI (C := R_M) (T := F_M) (N := 97) hx hb 8 63 hts fin_M hown hR hk3 (by decide) rfl (by decide) rfl (hts _ m_f4296656) (fun _ h9 => h9) (xb_d D_M_run 24 rfl) ?_
    refine lv_if_ne (tgt := 125) hx hb (xb_d D_M_run 25 rfl) rfl (fun hc6 => ?_) (fun hc6 => ?_)
    · have hw := hw.1 hc6
      obtain ⟨n8, hw⟩ := hw
      exact am_M_run_L125 l hfl D A σ MC MS h0 Qr n8 x0 h5 hw p e s m args below meth c hC H locs ls k n hE (lv_sub hl [0] rfl) hR hS (by omega) (by omega)
    · have hw := hw.2 hc6
      refine lv_aload_n hx hb (xb_d D_M_run 26 rfl) rfl (lv_at hl 0 rfl) ?_
      refine lv_iconst (v := 1) hx hb (xb_d D_M_run 27 rfl) (by decide) ?_
      refine xb_putI (C := R_M) (T := F_M) (N := 97) (ty := .boolean) (x := 1) hx hb 8 63 hts fin_M t_M t_M_ok n_M hown hR hS hk3 (by decide) rfl (by decide) rfl (hts _ m_f4296656) (fun _ h9 => h9) rfl (by decide +kernel) (by decide) (by decide) (xb_d D_M_run 28 rfl) (fun H locs hR hS => ?_)
      obtain ⟨h7, eh7⟩ : ∃ x : xb_H, x = xb_I h5 x0 63 1 := ⟨_, rfl⟩
      rw [← eh7] at hR
      have hw := hw h7 eh7
      have hE : xb_ext h0 h7 := by rw [eh7]; exact hE
      refine lv_aload_n hx hb (xb_d D_M_run 29 rfl) rfl (lv_at hl 0 rfl) ?_
      refine lv_iconst (v := 0) hx hb (xb_d D_M_run 30 rfl) (by decide) ?_
      have hk3 : xb_k h7 x0 = 9 := by rw [eh7]; exact hk3
      refine xb_putI (C := R_M) (T := F_M) (N := 97) (ty := .int) (x := 0) hx hb 8 82 hts fin_M t_M t_M_ok n_M hown hR hS hk3 (by decide) rfl (by decide) rfl (hts _ m_ad343437) (fun _ h9 => h9) rfl (by decide +kernel) rfl rfl (xb_d D_M_run 31 rfl) (fun H locs hR hS => ?_)
      obtain ⟨h8, eh8⟩ : ∃ x : xb_H, x = xb_I h7 x0 82 0 := ⟨_, rfl⟩
      rw [← eh8] at hR
      have hw := hw h8 eh8
      have hE : xb_ext h0 h8 := by rw [eh8]; exact hE
      refine lv_aload_n hx hb (xb_d D_M_run 32 rfl) rfl (lv_at hl 0 rfl) ?_
      refine lv_iconst (v := 0) hx hb (xb_d D_M_run 33 rfl) (by decide) ?_
      have hk3 : xb_k h8 x0 = 9 := by rw [eh8]; exact hk3
      refine xb_putI (C := R_M) (T := F_M) (N := 97) (ty := .int) (x := 0) hx hb 8 76 hts fin_M t_M t_M_ok n_M hown hR hS hk3 (by decide) rfl (by decide) rfl (hts _ m_d6ddfcd8) (fun _ h9 => h9) rfl (by decide +kernel) rfl rfl (xb_d D_M_run 34 rfl) (fun H locs hR hS => ?_)
      obtain ⟨h9, eh9⟩ : ∃ x : xb_H, x = xb_I h8 x0 76 0 := ⟨_, rfl⟩
      rw [← eh9] at hR
      have hw := hw h9 eh9
      have hE : xb_ext h0 h9 := by rw [eh9]; exact hE
      refine lv_aload_n hx hb (xb_d D_M_run 35 rfl) rfl (lv_at hl 0 rfl) ?_
      refine lv_iconst (v := 0) hx hb (xb_d D_M_run 36 rfl) (by decide) ?_
      have hk3 : xb_k h9 x0 = 9 := by rw [eh9]; exact hk3
      refine xb_putI (C := R_M) (T := F_M) (N := 97) (ty := .int) (x := 0) hx hb 8 81 hts fin_M t_M t_M_ok n_M hown hR hS hk3 (by decide) rfl (by decide) rfl (hts _ m_65743087) (fun _ h9 => h9) rfl (by decide +kernel) rfl rfl (xb_d D_M_run 37 rfl) (fun H locs hR hS => ?_)
      obtain ⟨h10, eh10⟩ : ∃ x : xb_H, x = xb_I h9 x0 81 0 := ⟨_, rfl⟩
      rw [← eh10] at hR
      have hw := hw h10 eh10
      have hE : xb_ext h0 h10 := by rw [eh10]; exact hE
      refine lv_aload_n hx hb (xb_d D_M_run 38 rfl) rfl (lv_at hl 0 rfl) ?_
      refine lv_iconst (v := 0) hx hb (xb_d D_M_run 39 rfl) (by decide) ?_
      have hk3 : xb_k h10 x0 = 9 := by rw [eh10]; exact hk3
      refine xb_putI (C := R_M) (T := F_M) (N := 97) (ty := .int) (x := 0) hx hb 8 68 hts fin_M t_M t_M_ok n_M hown hR hS hk3 (by decide) rfl (by decide) rfl (hts _ m_11712ae1) (fun _ h9 => h9) rfl (by decide +kernel) rfl rfl (xb_d D_M_run 40 rfl) (fun H locs hR hS => ?_)
      obtain ⟨h11, eh11⟩ : ∃ x : xb_H, x = xb_I h10 x0 68 0 := ⟨_, rfl⟩
      rw [← eh11] at hR
      have hw := hw h11 eh11
      have hE : xb_ext h0 h11 := by rw [eh11]; exact hE
      refine lv_iconst (v := 0) hx hb (xb_d D_M_run 41 rfl) (by decide) ?_
      refine lv_istore_n hx hb (xb_d D_M_run 42 rfl) rfl hl (by decide) rfl (fun ls hl => ?_)
      have hl : lv_has ls 6 [(2, .int 0), (0, .ref x0), (1, .int x1)] := hl
      obtain ⟨n8, hw⟩ := hw
      exact am_M_run_L79 l hfl D A σ MC MS h0 Qr n8 x0 0 h11 hw p e s m args below meth c hC H locs ls k n hE (lv_sub hl [1, 0] rfl) hR hS (by omega) (by omega)
  · have hw := hw.2 hc4
    refine lv_iconst (v := 0) hx hb (xb_d D_M_run 18 rfl) (by decide) ?_
    exact xb_iret 0 0 hx hb hr hlocks (show k + 0 ≤ MC by omega) (show n + 0 ≤ MS by omega) hE hR hS (xb_d D_M_run 19 rfl) hw

set_option maxHeartbeats 4000000 in
set_option maxRecDepth 100000 in
theorem am_M_run_L12 (l : Launch) (hfl : l.flags = pinnedFlags ++ [noTraceFlag]) (D : va_G) (A : Nat → Prop) (σ MC MS : Nat) (h0 : xb_H) (Qr : Int32 → xb_H → Prop) (x0 : Nat) (x1 : Int32) (y0 : Nat) (h : xb_H) (hw : w_M_run_L12 Qr x0 x1 y0 h) : xb_am l D A σ 13 MC MS h0 (fun v h _ _ => ∃ r, v = some (.int r) ∧ Qr r h) (fun _ _ _ _ => False) y_M_run.cls y_M_run.name b_M_run 6 ([] : List ExceptionTableEntry) (some .int) 12 [(0, .ref x0), (1, .int x1)] [.ref y0] h 0 0 := by
  unfold w_M_run_L12 at hw
  intro p e s m args below meth c hC H locs ls k n hE hl hR hS hk hn
  obtain ⟨hx, hb, hown, hlocks, htab, hml, hr, hB, hA, hnm⟩ := id hC
  have hts := hB.1.1.at args
  refine lv_iconst (v := 1) hx hb (xb_d D_M_run 6 rfl) (by decide) ?_
  refine lv_goto (tgt := 28) hx hb (xb_d D_M_run 7 rfl) rfl ?_
  exact am_M_run_L28 l hfl D A σ MC MS h0 Qr x0 x1 1 y0 h hw p e s m args below meth c hC H locs ls k n hE (lv_sub hl [0, 1] rfl) hR hS (by omega) (by omega)

set_option maxHeartbeats 4000000 in
set_option maxRecDepth 100000 in
theorem ok_M_run (l : Launch) (hfl : l.flags = pinnedFlags ++ [noTraceFlag]) (D : va_G) (A : Nat → Prop) (σ : Nat) (x0 : Nat) (x1 : Int32) (h : xb_H) (Qr : Int32 → xb_H → Prop) (hw : w_M_run x0 x1 h Qr) : xb_Met l y_M_run [.code y_M_run b_M_run 6 (some .int)] (xb_rm 13 0 0) (xb_Pc D A σ h [.ref x0, .int x1]) (xb_Qc D A h 0 0 (fun v h _ _ => ∃ r, v = some (.int r) ∧ Qr r h) (fun _ _ _ _ => False)) A := by
  refine xb_ofAm (cc := b_M_run) (by decide) (Nat.le_of_ble_eq_true rfl) ?_
  unfold w_M_run at hw
  show xb_am l D A σ 13 0 0 h (fun v h _ _ => ∃ r, v = some (.int r) ∧ Qr r h) (fun _ _ _ _ => False) y_M_run.cls y_M_run.name b_M_run 6 ([] : List ExceptionTableEntry) (some .int) 0 [(0, .ref x0), (1, .int x1)] [] h 0 0
  obtain ⟨MC, hMC⟩ : ∃ x, x = 0 := ⟨_, rfl⟩
  obtain ⟨MS, hMS⟩ : ∃ x, x = 0 := ⟨_, rfl⟩
  rw [show xb_am l D A σ 13 0 0 = xb_am l D A σ 13 MC MS by rw [hMC, hMS]]
  obtain ⟨h0, hh0⟩ : ∃ x, x = h := ⟨_, rfl⟩
  rw [show xb_am l D A σ 13 MC MS h = xb_am l D A σ 13 MC MS h0 by rw [hh0]]
  intro p e s m args below meth c hC H locs ls k n hE hl hR hS hk hn
  obtain ⟨hx, hb, hown, hlocks, htab, hml, hr, hB, hA, hnm⟩ := id hC
  have hts := hB.1.1.at args
  refine lv_aload_n hx hb (xb_d D_M_run 0 rfl) rfl (lv_at hl 0 rfl) ?_
  refine lv_iload_n hx hb (xb_d D_M_run 1 rfl) rfl (lv_at hl 1 rfl) ?_
  refine lv_if_lt (tgt := 12) hx hb (xb_d D_M_run 2 rfl) rfl (fun hc1 => ?_) (fun hc1 => ?_)
  · have hw := hw.1 hc1
    exact am_M_run_L12 l hfl D A σ MC MS h0 Qr x0 x1 x0 h hw p e s m args below meth c hC H locs ls k n hE (lv_sub hl [0, 1] rfl) hR hS (by omega) (by omega)
  · have hw := hw.2 hc1
    refine lv_iload_n hx hb (xb_d D_M_run 3 rfl) rfl (lv_at hl 1 rfl) ?_
    refine lv_ldcw (v := 1000000) hx hb hown (hts _ m_7dd00ccc) (xb_d D_M_run 4 rfl) ?_
    refine lv_icmp_le (tgt := 16) hx hb (xb_d D_M_run 5 rfl) rfl (fun hc2 => ?_) (fun hc2 => ?_)
    · have hw := hw.1 hc2
      refine lv_aload_n hx hb (xb_d D_M_run 8 rfl) rfl (lv_at hl 0 rfl) ?_
      obtain ⟨hk3, hw⟩ := hw
      refine xb_getI (C := R_M) (T := F_M) (N := 97) hx hb 8 62 hts fin_M hown hR hk3 (by decide) rfl (by decide) rfl (hts _ m_71a5ca12) (fun _ h9 => h9) (xb_d D_M_run 9 rfl) ?_
      refine lv_if_ne (tgt := 27) hx hb (xb_d D_M_run 10 rfl) rfl (fun hc4 => ?_) (fun hc4 => ?_)
      · have hw := hw.1 hc4
        refine lv_iconst (v := 0) hx hb (xb_d D_M_run 13 rfl) (by decide) ?_
        exact am_M_run_L28 l hfl D A σ MC MS h0 Qr x0 x1 0 x0 h hw p e s m args below meth c hC H locs ls k n hE (lv_sub hl [0, 1] rfl) hR hS (by omega) (by omega)
      · have hw := hw.2 hc4
        refine lv_iconst (v := 2) hx hb (xb_d D_M_run 11 rfl) (by decide) ?_
        refine lv_goto (tgt := 28) hx hb (xb_d D_M_run 12 rfl) rfl ?_
        exact am_M_run_L28 l hfl D A σ MC MS h0 Qr x0 x1 2 x0 h hw p e s m args below meth c hC H locs ls k n hE (lv_sub hl [0, 1] rfl) hR hS (by omega) (by omega)
    · have hw := hw.2 hc2
      exact am_M_run_L12 l hfl D A σ MC MS h0 Qr x0 x1 x0 h hw p e s m args below meth c hC H locs ls k n hE (lv_sub hl [0, 1] rfl) hR hS (by omega) (by omega)

