theorem m_746eb9d6 : (.methodLink "StackHostModel" 632 y_M_open : Cond) ∈ xt_tbl := xt_in (xt_t12 (List.mem_of_getElem? (i := 170) (by decide +kernel))) (by decide +kernel)
theorem m_e9612f4e : (.instanceMethod y_M_open : Cond) ∈ xt_tbl := xt_in (xt_t12 (List.mem_of_getElem? (i := 172) (by decide +kernel))) (by decide +kernel)
theorem m_aa122190 : (.selects "StackHostModel" y_M_open y_M_open : Cond) ∈ xt_tbl := xt_in (xt_v14 (q := (⟨"StackHostModel", "open", "(II)V"⟩, 97)) (List.mem_of_getElem? (i := 12) (by decide +kernel))) (by decide +kernel)
theorem m_7c9641c8 : (.code y_M_open b_M_open 3 none : Cond) ∈ xt_tbl := xt_in (xt_t12 (List.mem_of_getElem? (i := 173) (by decide +kernel))) (by decide +kernel)
theorem m_7c6bb5af : (.methodLink "StackHostModel" 415 y_M_readLocals : Cond) ∈ xt_tbl := xt_in (xt_t11 (List.mem_of_getElem? (i := 145) (by decide +kernel))) (by decide +kernel)
theorem m_b69b5f3a : (.instanceMethod y_M_readLocals : Cond) ∈ xt_tbl := xt_in (xt_t11 (List.mem_of_getElem? (i := 147) (by decide +kernel))) (by decide +kernel)
theorem m_73be75cf : (.selects "StackHostModel" y_M_readLocals y_M_readLocals : Cond) ∈ xt_tbl := xt_in (xt_v11 (q := (⟨"StackHostModel", "readLocals", "(II)V"⟩, 97)) (List.mem_of_getElem? (i := 12) (by decide +kernel))) (by decide +kernel)
theorem m_abfe1d28 : (.code y_M_readLocals b_M_readLocals 13 none : Cond) ∈ xt_tbl := xt_in (xt_t11 (List.mem_of_getElem? (i := 148) (by decide +kernel))) (by decide +kernel)
theorem m_78f2aca1 : (.methodLink "StackHostModel" 619 y_M_parameterOf : Cond) ∈ xt_tbl := xt_in (xt_t12 (List.mem_of_getElem? (i := 158) (by decide +kernel))) (by decide +kernel)
theorem m_b10bc8fa : (.instanceMethod y_M_parameterOf : Cond) ∈ xt_tbl := xt_in (xt_t12 (List.mem_of_getElem? (i := 160) (by decide +kernel))) (by decide +kernel)
theorem m_7dc37ff6 : (.selects "StackHostModel" y_M_parameterOf y_M_parameterOf : Cond) ∈ xt_tbl := xt_in (xt_v14 (q := (⟨"StackHostModel", "parameterOf", "(II)I"⟩, 97)) (List.mem_of_getElem? (i := 9) (by decide +kernel))) (by decide +kernel)
theorem m_3a048bd5 : (.code y_M_parameterOf b_M_parameterOf 4 (some .int) : Cond) ∈ xt_tbl := xt_in (xt_t12 (List.mem_of_getElem? (i := 161) (by decide +kernel))) (by decide +kernel)
theorem m_e2ba22cc : (.methodLink "StackHostModel" 598 y_M_parametersOf : Cond) ∈ xt_tbl := xt_in (xt_t12 (List.mem_of_getElem? (i := 137) (by decide +kernel))) (by decide +kernel)
theorem m_0a57baa5 : (.instanceMethod y_M_parametersOf : Cond) ∈ xt_tbl := xt_in (xt_t12 (List.mem_of_getElem? (i := 139) (by decide +kernel))) (by decide +kernel)
theorem m_6f48d886 : (.selects "StackHostModel" y_M_parametersOf y_M_parametersOf : Cond) ∈ xt_tbl := xt_in (xt_v14 (q := (⟨"StackHostModel", "parametersOf", "(I)I"⟩, 97)) (List.mem_of_getElem? (i := 7) (by decide +kernel))) (by decide +kernel)
theorem m_14db4a29 : (.code y_M_parametersOf b_M_parametersOf 3 (some .int) : Cond) ∈ xt_tbl := xt_in (xt_t12 (List.mem_of_getElem? (i := 140) (by decide +kernel))) (by decide +kernel)
theorem nm_M_open : xt_nm y_M_open 2 := ⟨by decide +kernel, by decide +kernel⟩
theorem nm_M_readLocals : xt_nm y_M_readLocals 2 := ⟨by decide +kernel, by decide +kernel⟩
theorem nm_M_parameterOf : xt_nm y_M_parameterOf 2 := ⟨by decide +kernel, by decide +kernel⟩
theorem nm_M_parametersOf : xt_nm y_M_parametersOf 1 := ⟨by decide +kernel, by decide +kernel⟩
set_option maxRecDepth 100000 in
def T_M_call : List (Nat × Instr × Nat) := [(0, .aload_n 0, 1), (1, .iload_n 1, 1), (2, .invokevirtual 598, 3), (5, .istore_n 2, 1), (6, .aload_n 0, 1), (7, .getfield 607, 3), (10, .iload_n 2, 1), (11, .isub, 1), (12, .istore_n 3, 1), (13, .aload_n 0, 1), (14, .getfield 616, 3), (17, .ifCond .eq 18, 3), (20, .iload_n 3, 1), (21, .aload_n 0, 1), (22, .getfield 170, 3), (25, .aload_n 0, 1), (26, .getfield 610, 3), (29, .iconst 1, 1), (30, .isub, 1), (31, .iaload, 1), (32, .if_icmp .lt 7, 3), (35, .iconst 1, 1), (36, .goto 4, 3), (39, .iconst 0, 1), (40, .istore 4, 2), (42, .iconst 0, 1), (43, .istore 5, 2), (45, .iload 5, 2), (47, .iload_n 2, 1), (48, .if_icmp .ge 49, 3), (51, .iload 4, 2), (53, .ifCond .eq 44, 3), (56, .aload_n 0, 1), (57, .aload_n 0, 1), (58, .getfield 613, 3), (61, .ifCond .ne 22, 3), (64, .aload_n 0, 1), (65, .getfield 157, 3), (68, .iload_n 3, 1), (69, .iload 5, 2), (71, .iadd, 1), (72, .baload, 1), (73, .aload_n 0, 1), (74, .iload_n 1, 1), (75, .iload 5, 2), (77, .invokevirtual 619, 3), (80, .if_icmp .eq 7, 3), (83, .iconst 1, 1), (84, .goto 4, 3), (87, .iconst 0, 1), (88, .putfield 613, 3), (91, .iinc 5 1, 3), (94, .goto (-49), 3), (97, .aload_n 0, 1), (98, .aload_n 0, 1), (99, .getfield 613, 3), (102, .ifCond .ne 8, 3), (105, .iload 4, 2), (107, .ifCond .ne 7, 3), (110, .iconst 1, 1), (111, .goto 4, 3), (114, .iconst 0, 1), (115, .putfield 613, 3), (118, .iload_n 1, 1), (119, .ldc_w 489, 3), (122, .if_icmp .lt 53, 3), (125, .aload_n 0, 1), (126, .iload_n 3, 1), (127, .putfield 607, 3), (130, .aload_n 0, 1), (131, .getfield 622, 3), (134, .sipush 4096, 3), (137, .if_icmp .ne 12, 3), (140, .aload_n 0, 1), (141, .bipush 10, 2), (143, .putfield 625, 3), (146, .goto 28, 3), (149, .aload_n 0, 1), (150, .getfield 176, 3), (153, .aload_n 0, 1), (154, .getfield 622, 3), (157, .aload_n 0, 1), (158, .getfield 154, 3), (161, .iload_n 3, 1), (162, .laload, 1), (163, .lastore, 1), (164, .aload_n 0, 1), (165, .dup, 1), (166, .getfield 622, 3), (169, .iconst 1, 1), (170, .iadd, 1), (171, .putfield 622, 3), (174, .return_, 1), (175, .aload_n 0, 1), (176, .getfield 92, 3), (179, .iload_n 1, 1), (180, .iaload, 1), (181, .istore 5, 2), (183, .aload_n 0, 1), (184, .getfield 62, 3), (187, .iload 5, 2), (189, .iaload, 1), (190, .istore 6, 2), (192, .aload_n 0, 1), (193, .iload 6, 2), (195, .aload_n 0, 1), (196, .getfield 30, 3), (199, .iconst 4, 1), (200, .iload 6, 2), (202, .imul, 1), (203, .iaload, 1), (204, .aload_n 0, 1), (205, .getfield 95, 3), (208, .iload_n 1, 1), (209, .iaload, 1), (210, .iadd, 1), (211, .invokevirtual 369, 3), (214, .istore 7, 2), (216, .aload_n 0, 1), (217, .iload 6, 2), (219, .iload 7, 2), (221, .invokevirtual 336, 3), (224, .istore 8, 2), (226, .aload_n 0, 1), (227, .iload 6, 2), (229, .aload_n 0, 1), (230, .iload 6, 2), (232, .bipush 10, 2), (234, .aload_n 0, 1), (235, .getfield 95, 3), (238, .iload_n 1, 1), (239, .iaload, 1), (240, .invokevirtual 320, 3), (243, .invokevirtual 324, 3), (246, .aload_n 0, 1), (247, .invokevirtual 218, 3), (250, .pop2, 1), (251, .aload_n 0, 1), (252, .iload 6, 2), (254, .iload 7, 2), (256, .invokevirtual 415, 3), (259, .aload_n 0, 1), (260, .getfield 616, 3), (263, .sipush 200, 3), (266, .if_icmp .eq 41, 3), (269, .iload_n 3, 1), (270, .aload_n 0, 1), (271, .getfield 412, 3), (274, .iadd, 1), (275, .aload_n 0, 1), (276, .getfield 36, 3), (279, .aload_n 0, 1), (280, .getfield 24, 3), (283, .bipush 12, 2), (285, .iload 6, 2), (287, .imul, 1), (288, .bipush 10, 2), (290, .iadd, 1), (291, .iaload, 1), (292, .aload_n 0, 1), (293, .getfield 95, 3), (296, .iload_n 1, 1), (297, .iaload, 1), (298, .iadd, 1), (299, .iaload, 1), (300, .iadd, 1), (301, .sipush 16384, 3), (304, .if_icmp .le 10, 3), (307, .aload_n 0, 1), (308, .bipush 9, 2), (310, .putfield 625, 3), (313, .return_, 1), (314, .aload_n 0, 1), (315, .iload_n 3, 1), (316, .iload_n 2, 1), (317, .iadd, 1), (318, .putfield 607, 3), (321, .iload_n 2, 1), (322, .istore 9, 2), (324, .iload 9, 2), (326, .aload_n 0, 1), (327, .getfield 412, 3), (330, .if_icmp .ge 21, 3), (333, .aload_n 0, 1), (334, .lconst 0, 1), (335, .aload_n 0, 1), (336, .getfield 40, 3), (339, .iload 9, 2), (341, .baload, 1), (342, .invokevirtual 628, 3), (345, .iinc 9 1, 3), (348, .goto (-24), 3), (351, .aload_n 0, 1), (352, .getfield 139, 3), (355, .aload_n 0, 1), (356, .getfield 616, 3), (359, .iload_n 1, 1), (360, .iastore, 1), (361, .aload_n 0, 1), (362, .getfield 142, 3), (365, .aload_n 0, 1), (366, .getfield 616, 3), (369, .aload_n 0, 1), (370, .getfield 202, 3), (373, .iastore, 1), (374, .aload_n 0, 1), (375, .getfield 145, 3), (378, .aload_n 0, 1), (379, .getfield 616, 3), (382, .iload_n 3, 1), (383, .iastore, 1), (384, .aload_n 0, 1), (385, .getfield 148, 3), (388, .aload_n 0, 1), (389, .getfield 616, 3), (392, .aload_n 0, 1), (393, .getfield 412, 3), (396, .iastore, 1), (397, .aload_n 0, 1), (398, .getfield 151, 3), (401, .aload_n 0, 1), (402, .getfield 616, 3), (405, .aload_n 0, 1), (406, .getfield 610, 3), (409, .iastore, 1), (410, .aload_n 0, 1), (411, .dup, 1), (412, .getfield 616, 3), (415, .iconst 1, 1), (416, .iadd, 1), (417, .putfield 616, 3), (420, .aload_n 0, 1), (421, .iconst 0, 1), (422, .iload 8, 2), (424, .invokevirtual 632, 3), (427, .return_, 1)]
theorem D_M_call : ∀ q ∈ T_M_call, decode b_M_call q.1 = .ok (q.2.1, q.2.2) := by decide +kernel

set_option maxHeartbeats 4000000 in
set_option maxRecDepth 100000 in
theorem am_M_call_L324 (l : Launch) (hfl : l.flags = pinnedFlags ++ [noTraceFlag]) (D : va_G) (A : Nat → Prop) (σ MC MS : Nat) (h0 : xb_H) (Qr : xb_H → Prop) (n9 : Nat) : ∀ (x0 : Nat) (x1 : Int32) (x3 : Int32) (x8 : Int32) (x9 : Int32) (h : xb_H), w_M_call_L324 Qr n9 x0 x1 x3 x8 x9 h → xb_am l D A σ 10 MC MS h0 (fun v h _ _ => v = none ∧ Qr h) (fun _ _ _ _ => False) y_M_call.cls y_M_call.name b_M_call 10 ([] : List ExceptionTableEntry) none 324 [(0, .ref x0), (1, .int x1), (3, .int x3), (8, .int x8), (9, .int x9)] [] h 0 0 := by
  induction n9 with
  | zero => intro x0 x1 x3 x8 x9 h hw; exact False.elim hw
  | succ n9 ih =>
    intro x0 x1 x3 x8 x9 h hw
    unfold w_M_call_L324 at hw
    intro p e s m args below meth c hC H locs ls k n hE hl hR hS hk hn
    obtain ⟨hx, hb, hown, hlocks, htab, hml, hr, hB, hA, hnm⟩ := id hC
    have hts := hB.1.1.at args
    refine lv_iload hx hb (xb_d D_M_call 179 rfl) (lv_at hl 4 rfl) ?_
    refine lv_aload_n hx hb (xb_d D_M_call 180 rfl) rfl (lv_at hl 0 rfl) ?_
    obtain ⟨hk1, hw⟩ := hw
    refine xb_getI (C := R_M) (T := F_M) (N := 97) hx hb 8 20 hts fin_M hown hR hk1 (by decide) rfl (by decide) rfl (hts _ m_160f9bc8) (fun _ h9 => h9) (xb_d D_M_call 181 rfl) ?_
    refine lv_icmp_ge (tgt := 351) hx hb (xb_d D_M_call 182 rfl) rfl (fun hc2 => ?_) (fun hc2 => ?_)
    · have hw := hw.1 hc2
      refine lv_aload_n hx hb (xb_d D_M_call 192 rfl) rfl (lv_at hl 0 rfl) ?_
      refine xb_getP (C := R_M) (T := F_M) (N := 97) hx hb 8 69 hts fin_M hown hR hk1 (by decide) rfl (by decide) rfl (hts _ m_70e943ac) (fun _ h9 => h9) (xb_d D_M_call 193 rfl) ?_
      obtain ⟨b3, eb3, hw⟩ := hw
      refine xb_some eb3 ?_
      refine lv_aload_n hx hb (xb_d D_M_call 194 rfl) rfl (lv_at hl 0 rfl) ?_
      refine xb_getI (C := R_M) (T := F_M) (N := 97) hx hb 8 68 hts fin_M hown hR hk1 (by decide) rfl (by decide) rfl (hts _ m_11712ae1) (fun _ h9 => h9) (xb_d D_M_call 195 rfl) ?_
      refine lv_iload_n hx hb (xb_d D_M_call 196 rfl) rfl (lv_at hl 1 rfl) ?_
      obtain ⟨hk4, hw⟩ := hw
      obtain ⟨hi5, hw⟩ := hw
      refine xb_iast hx hb hR hS hk4 hi5 (xb_d D_M_call 197 rfl) (fun H locs hR hS => ?_)
      obtain ⟨h6, eh6⟩ : ∃ x : xb_H, x = xb_I h b3 (Int32.toNatClampNeg (xb_i h x0 68)) x1 := ⟨_, rfl⟩
      rw [← eh6] at hR
      have hw := hw h6 eh6
      have hE : xb_ext h0 h6 := by rw [eh6]; exact hE
      refine lv_aload_n hx hb (xb_d D_M_call 198 rfl) rfl (lv_at hl 0 rfl) ?_
      have hk1 : xb_k h6 x0 = 9 := by rw [eh6]; exact hk1
      refine xb_getP (C := R_M) (T := F_M) (N := 97) hx hb 8 70 hts fin_M hown hR hk1 (by decide) rfl (by decide) rfl (hts _ m_ab98e9c9) (fun _ h9 => h9) (xb_d D_M_call 199 rfl) ?_
      obtain ⟨b7, eb7, hw⟩ := hw
      refine xb_some eb7 ?_
      refine lv_aload_n hx hb (xb_d D_M_call 200 rfl) rfl (lv_at hl 0 rfl) ?_
      refine xb_getI (C := R_M) (T := F_M) (N := 97) hx hb 8 68 hts fin_M hown hR hk1 (by decide) rfl (by decide) rfl (hts _ m_11712ae1) (fun _ h9 => h9) (xb_d D_M_call 201 rfl) ?_
      refine lv_aload_n hx hb (xb_d D_M_call 202 rfl) rfl (lv_at hl 0 rfl) ?_
      refine xb_getI (C := R_M) (T := F_M) (N := 97) hx hb 8 15 hts fin_M hown hR hk1 (by decide) rfl (by decide) rfl (hts _ m_6c2d27ad) (fun _ h9 => h9) (xb_d D_M_call 203 rfl) ?_
      obtain ⟨hk8, hw⟩ := hw
      obtain ⟨hi9, hw⟩ := hw
      refine xb_iast hx hb hR hS hk8 hi9 (xb_d D_M_call 204 rfl) (fun H locs hR hS => ?_)
      obtain ⟨h10, eh10⟩ : ∃ x : xb_H, x = xb_I h6 b7 (Int32.toNatClampNeg (xb_i h6 x0 68)) (xb_i h6 x0 15) := ⟨_, rfl⟩
      rw [← eh10] at hR
      have hw := hw h10 eh10
      have hE : xb_ext h0 h10 := by rw [eh10]; exact hE
      refine lv_aload_n hx hb (xb_d D_M_call 205 rfl) rfl (lv_at hl 0 rfl) ?_
      have hk1 : xb_k h10 x0 = 9 := by rw [eh10]; exact hk1
      refine xb_getP (C := R_M) (T := F_M) (N := 97) hx hb 8 71 hts fin_M hown hR hk1 (by decide) rfl (by decide) rfl (hts _ m_fa00c728) (fun _ h9 => h9) (xb_d D_M_call 206 rfl) ?_
      obtain ⟨b11, eb11, hw⟩ := hw
      refine xb_some eb11 ?_
      refine lv_aload_n hx hb (xb_d D_M_call 207 rfl) rfl (lv_at hl 0 rfl) ?_
      refine xb_getI (C := R_M) (T := F_M) (N := 97) hx hb 8 68 hts fin_M hown hR hk1 (by decide) rfl (by decide) rfl (hts _ m_11712ae1) (fun _ h9 => h9) (xb_d D_M_call 208 rfl) ?_
      refine lv_iload_n hx hb (xb_d D_M_call 209 rfl) rfl (lv_at hl 2 rfl) ?_
      obtain ⟨hk12, hw⟩ := hw
      obtain ⟨hi13, hw⟩ := hw
      refine xb_iast hx hb hR hS hk12 hi13 (xb_d D_M_call 210 rfl) (fun H locs hR hS => ?_)
      obtain ⟨h14, eh14⟩ : ∃ x : xb_H, x = xb_I h10 b11 (Int32.toNatClampNeg (xb_i h10 x0 68)) x3 := ⟨_, rfl⟩
      rw [← eh14] at hR
      have hw := hw h14 eh14
      have hE : xb_ext h0 h14 := by rw [eh14]; exact hE
      refine lv_aload_n hx hb (xb_d D_M_call 211 rfl) rfl (lv_at hl 0 rfl) ?_
      have hk1 : xb_k h14 x0 = 9 := by rw [eh14]; exact hk1
      refine xb_getP (C := R_M) (T := F_M) (N := 97) hx hb 8 72 hts fin_M hown hR hk1 (by decide) rfl (by decide) rfl (hts _ m_a9102de0) (fun _ h9 => h9) (xb_d D_M_call 212 rfl) ?_
      obtain ⟨b15, eb15, hw⟩ := hw
      refine xb_some eb15 ?_
      refine lv_aload_n hx hb (xb_d D_M_call 213 rfl) rfl (lv_at hl 0 rfl) ?_
      refine xb_getI (C := R_M) (T := F_M) (N := 97) hx hb 8 68 hts fin_M hown hR hk1 (by decide) rfl (by decide) rfl (hts _ m_11712ae1) (fun _ h9 => h9) (xb_d D_M_call 214 rfl) ?_
      refine lv_aload_n hx hb (xb_d D_M_call 215 rfl) rfl (lv_at hl 0 rfl) ?_
      refine xb_getI (C := R_M) (T := F_M) (N := 97) hx hb 8 20 hts fin_M hown hR hk1 (by decide) rfl (by decide) rfl (hts _ m_160f9bc8) (fun _ h9 => h9) (xb_d D_M_call 216 rfl) ?_
      obtain ⟨hk16, hw⟩ := hw
      obtain ⟨hi17, hw⟩ := hw
      refine xb_iast hx hb hR hS hk16 hi17 (xb_d D_M_call 217 rfl) (fun H locs hR hS => ?_)
      obtain ⟨h18, eh18⟩ : ∃ x : xb_H, x = xb_I h14 b15 (Int32.toNatClampNeg (xb_i h14 x0 68)) (xb_i h14 x0 20) := ⟨_, rfl⟩
      rw [← eh18] at hR
      have hw := hw h18 eh18
      have hE : xb_ext h0 h18 := by rw [eh18]; exact hE
      refine lv_aload_n hx hb (xb_d D_M_call 218 rfl) rfl (lv_at hl 0 rfl) ?_
      have hk1 : xb_k h18 x0 = 9 := by rw [eh18]; exact hk1
      refine xb_getP (C := R_M) (T := F_M) (N := 97) hx hb 8 73 hts fin_M hown hR hk1 (by decide) rfl (by decide) rfl (hts _ m_6c9efdee) (fun _ h9 => h9) (xb_d D_M_call 219 rfl) ?_
      obtain ⟨b19, eb19, hw⟩ := hw
      refine xb_some eb19 ?_
      refine lv_aload_n hx hb (xb_d D_M_call 220 rfl) rfl (lv_at hl 0 rfl) ?_
      refine xb_getI (C := R_M) (T := F_M) (N := 97) hx hb 8 68 hts fin_M hown hR hk1 (by decide) rfl (by decide) rfl (hts _ m_11712ae1) (fun _ h9 => h9) (xb_d D_M_call 221 rfl) ?_
      refine lv_aload_n hx hb (xb_d D_M_call 222 rfl) rfl (lv_at hl 0 rfl) ?_
      refine xb_getI (C := R_M) (T := F_M) (N := 97) hx hb 8 81 hts fin_M hown hR hk1 (by decide) rfl (by decide) rfl (hts _ m_65743087) (fun _ h9 => h9) (xb_d D_M_call 223 rfl) ?_
      obtain ⟨hk20, hw⟩ := hw
      obtain ⟨hi21, hw⟩ := hw
      refine xb_iast hx hb hR hS hk20 hi21 (xb_d D_M_call 224 rfl) (fun H locs hR hS => ?_)
      obtain ⟨h22, eh22⟩ : ∃ x : xb_H, x = xb_I h18 b19 (Int32.toNatClampNeg (xb_i h18 x0 68)) (xb_i h18 x0 81) := ⟨_, rfl⟩
      rw [← eh22] at hR
      have hw := hw h22 eh22
      have hE : xb_ext h0 h22 := by rw [eh22]; exact hE
      refine lv_aload_n hx hb (xb_d D_M_call 225 rfl) rfl (lv_at hl 0 rfl) ?_
      refine lv_dup hx hb (xb_d D_M_call 226 rfl) rfl ?_
      have hk1 : xb_k h22 x0 = 9 := by rw [eh22]; exact hk1
      refine xb_getI (C := R_M) (T := F_M) (N := 97) hx hb 8 68 hts fin_M hown hR hk1 (by decide) rfl (by decide) rfl (hts _ m_11712ae1) (fun _ h9 => h9) (xb_d D_M_call 227 rfl) ?_
      refine lv_iconst (v := 1) hx hb (xb_d D_M_call 228 rfl) (by decide) ?_
      refine lv_iadd hx hb (xb_d D_M_call 229 rfl) ?_
      refine xb_putI (C := R_M) (T := F_M) (N := 97) (ty := .int) (x := ((xb_i h22 x0 68) + 1)) hx hb 8 68 hts fin_M t_M t_M_ok n_M hown hR hS hk1 (by decide) rfl (by decide) rfl (hts _ m_11712ae1) (fun _ h9 => h9) rfl (by decide +kernel) rfl rfl (xb_d D_M_call 230 rfl) (fun H locs hR hS => ?_)
      obtain ⟨h23, eh23⟩ : ∃ x : xb_H, x = xb_I h22 x0 68 ((xb_i h22 x0 68) + 1) := ⟨_, rfl⟩
      rw [← eh23] at hR
      have hw := hw h23 eh23
      have hE : xb_ext h0 h23 := by rw [eh23]; exact hE
      refine lv_aload_n hx hb (xb_d D_M_call 231 rfl) rfl (lv_at hl 0 rfl) ?_
      refine lv_iconst (v := 0) hx hb (xb_d D_M_call 232 rfl) (by decide) ?_
      refine lv_iload hx hb (xb_d D_M_call 233 rfl) (lv_at hl 3 rfl) ?_
      have hk1 : xb_k h23 x0 = 9 := by rw [eh23]; exact hk1
      refine xb_call0 (D := D) (A := A) (σ := σ) (h := h23) (d := 2) (maxL := 3) (rest := []) (av := [.ref x0, .int 0, .int x8]) (fun T hT X => by obtain ⟨cb9, ra9, rb9, rc9⟩ := xb_recv (ci := 8) hR rfl hk1 (by decide); exact xt_invV X hx hown (hts _ m_746eb9d6) (hts _ m_e9612f4e) (hts _ m_aa122190) (xt_sigOf (hts _ m_7c9641c8)) nm_M_open (by rw [hT]; exact ra9) rb9 rc9 (g := F0 m 424 ls [.int x8, .int 0, .ref x0]) rfl (argsL := [.int 0, .int x8]) (rest := []) rfl rfl (by rw [hb]; exact (xb_d D_M_call 234 rfl))) (ok_M_open l hfl D A σ x0 0 x8 h23 _ hw) (hml.trans hl.1.symm) (by rw [hb]; exact (xb_d D_M_call 234 rfl)) (Nat.le_of_ble_eq_true rfl) (Nat.le_of_ble_eq_true rfl) (Nat.le_of_ble_eq_true rfl) (show k ≤ MC by omega) (show n ≤ MS by omega) (xt_w1 hB.1 m_7c9641c8) (xt_cdOf hB.1 m_7c9641c8) (hts _ m_d5ed7bed) hB hR hS hA (fun vv h24 H locs hq hEh24 hR hS => ?_)
      obtain ⟨rfl, hw⟩ := hq
      have hw := hw hEh24
      have hE := hE.tr hEh24
      refine W.eq (g2 := F0 m 427 ls []) rfl ?_
      exact xb_vret 0 0 hx hb hr hlocks (show k + 0 ≤ MC by omega) (show n + 0 ≤ MS by omega) hE hR hS (xb_d D_M_call 235 rfl) hw
    · have hw := hw.2 hc2
      refine lv_aload_n hx hb (xb_d D_M_call 183 rfl) rfl (lv_at hl 0 rfl) ?_
      refine lv_lconst (v := 0) hx hb (xb_d D_M_call 184 rfl) (by decide) ?_
      refine lv_aload_n hx hb (xb_d D_M_call 185 rfl) rfl (lv_at hl 0 rfl) ?_
      refine xb_getP (C := R_M) (T := F_M) (N := 97) hx hb 8 19 hts fin_M hown hR hk1 (by decide) rfl (by decide) rfl (hts _ m_cede1946) (fun _ h9 => h9) (xb_d D_M_call 186 rfl) ?_
      obtain ⟨b26, eb26, hw⟩ := hw
      refine xb_some eb26 ?_
      refine lv_iload hx hb (xb_d D_M_call 187 rfl) (lv_at hl 4 rfl) ?_
      obtain ⟨hk28, hw⟩ := hw
      obtain ⟨hi27, hw⟩ := hw
      refine xb_bald hx hb hR hk28 hi27 (xb_d D_M_call 188 rfl) ?_
      refine xb_call0 (D := D) (A := A) (σ := σ) (h := h) (d := 2) (maxL := 4) (rest := []) (av := [.ref x0, .long 0, .int (xb_i h b26 (Int32.toNatClampNeg x9))]) (fun T hT X => by obtain ⟨cb9, ra9, rb9, rc9⟩ := xb_recv (ci := 8) hR rfl hk1 (by decide); exact xt_invV X hx hown (hts _ m_1dd22d11) (hts _ m_e8ae1713) (hts _ m_973b740a) (xt_sigOf (hts _ m_a0d5a63e)) nm_M_add (by rw [hT]; exact ra9) rb9 rc9 (g := F0 m 342 ls [.int (xb_i h b26 (Int32.toNatClampNeg x9)), .long 0, .ref x0]) rfl (argsL := [.long 0, .int (xb_i h b26 (Int32.toNatClampNeg x9))]) (rest := []) rfl rfl (by rw [hb]; exact (xb_d D_M_call 189 rfl))) (ok_M_add l hfl D A σ x0 0 (xb_i h b26 (Int32.toNatClampNeg x9)) h _ hw) (hml.trans hl.1.symm) (by rw [hb]; exact (xb_d D_M_call 189 rfl)) (Nat.le_of_ble_eq_true rfl) (Nat.le_of_ble_eq_true rfl) (Nat.le_of_ble_eq_true rfl) (show k ≤ MC by omega) (show n ≤ MS by omega) (xt_w1 hB.1 m_a0d5a63e) (xt_cdOf hB.1 m_a0d5a63e) (hts _ m_d5ed7bed) hB hR hS hA (fun vv h29 H locs hq hEh29 hR hS => ?_)
      obtain ⟨rfl, hw⟩ := hq
      have hw := hw hEh29
      have hE := hE.tr hEh29
      refine W.eq (g2 := F0 m 345 ls []) rfl ?_
      refine lv_iinc (v := (x9 + 1)) (k := 4) hx hb (xb_d D_M_call 190 rfl) hl rfl (by first | rfl | decide) (by decide) rfl (fun ls hl => ?_)
      have hl : lv_has ls 10 [(9, .int (x9 + 1)), (0, .ref x0), (1, .int x1), (3, .int x3), (8, .int x8)] := hl
      refine lv_goto (tgt := 324) hx hb (xb_d D_M_call 191 rfl) rfl ?_
      exact ih x0 x1 x3 x8 (x9 + 1) h29 hw p e s m args below meth c hC H locs ls k n hE (lv_sub hl [1, 2, 3, 4, 0] rfl) hR hS (by omega) (by omega)

set_option maxHeartbeats 4000000 in
set_option maxRecDepth 100000 in
theorem am_M_call_L307 (l : Launch) (hfl : l.flags = pinnedFlags ++ [noTraceFlag]) (D : va_G) (A : Nat → Prop) (σ MC MS : Nat) (h0 : xb_H) (Qr : xb_H → Prop) (x0 : Nat) (h : xb_H) (hw : w_M_call_L307 Qr x0 h) : xb_am l D A σ 10 MC MS h0 (fun v h _ _ => v = none ∧ Qr h) (fun _ _ _ _ => False) y_M_call.cls y_M_call.name b_M_call 10 ([] : List ExceptionTableEntry) none 307 [(0, .ref x0)] [] h 0 0 := by
  unfold w_M_call_L307 at hw
  intro p e s m args below meth c hC H locs ls k n hE hl hR hS hk hn
  obtain ⟨hx, hb, hown, hlocks, htab, hml, hr, hB, hA, hnm⟩ := id hC
  have hts := hB.1.1.at args
  refine lv_aload_n hx hb (xb_d D_M_call 168 rfl) rfl (lv_at hl 0 rfl) ?_
  refine lv_bipush (v := 9) hx hb (xb_d D_M_call 169 rfl) (by decide) ?_
  obtain ⟨hk1, hw⟩ := hw
  refine xb_putI (C := R_M) (T := F_M) (N := 97) (ty := .int) (x := 9) hx hb 8 82 hts fin_M t_M t_M_ok n_M hown hR hS hk1 (by decide) rfl (by decide) rfl (hts _ m_ad343437) (fun _ h9 => h9) rfl (by decide +kernel) rfl rfl (xb_d D_M_call 170 rfl) (fun H locs hR hS => ?_)
  obtain ⟨h2, eh2⟩ : ∃ x : xb_H, x = xb_I h x0 82 9 := ⟨_, rfl⟩
  rw [← eh2] at hR
  have hw := hw h2 eh2
  have hE : xb_ext h0 h2 := by rw [eh2]; exact hE
  exact xb_vret 0 0 hx hb hr hlocks (show k + 0 ≤ MC by omega) (show n + 0 ≤ MS by omega) hE hR hS (xb_d D_M_call 171 rfl) hw

set_option maxHeartbeats 4000000 in
set_option maxRecDepth 100000 in
theorem am_M_call_L174 (l : Launch) (hfl : l.flags = pinnedFlags ++ [noTraceFlag]) (D : va_G) (A : Nat → Prop) (σ MC MS : Nat) (h0 : xb_H) (Qr : xb_H → Prop) (h : xb_H) (hw : w_M_call_L174 Qr h) : xb_am l D A σ 10 MC MS h0 (fun v h _ _ => v = none ∧ Qr h) (fun _ _ _ _ => False) y_M_call.cls y_M_call.name b_M_call 10 ([] : List ExceptionTableEntry) none 174 [] [] h 0 0 := by
  unfold w_M_call_L174 at hw
  intro p e s m args below meth c hC H locs ls k n hE hl hR hS hk hn
  obtain ⟨hx, hb, hown, hlocks, htab, hml, hr, hB, hA, hnm⟩ := id hC
  have hts := hB.1.1.at args
  exact xb_vret 0 0 hx hb hr hlocks (show k + 0 ≤ MC by omega) (show n + 0 ≤ MS by omega) hE hR hS (xb_d D_M_call 92 rfl) hw

set_option maxHeartbeats 4000000 in
set_option maxRecDepth 100000 in
theorem am_M_call_L115 (l : Launch) (hfl : l.flags = pinnedFlags ++ [noTraceFlag]) (D : va_G) (A : Nat → Prop) (σ MC MS : Nat) (h0 : xb_H) (Qr : xb_H → Prop) (x0 : Nat) (x1 : Int32) (x2 : Int32) (x3 : Int32) (y0 : Int32) (y1 : Nat) (h : xb_H) (hw : w_M_call_L115 Qr x0 x1 x2 x3 y0 y1 h) : xb_am l D A σ 10 MC MS h0 (fun v h _ _ => v = none ∧ Qr h) (fun _ _ _ _ => False) y_M_call.cls y_M_call.name b_M_call 10 ([] : List ExceptionTableEntry) none 115 [(0, .ref x0), (1, .int x1), (2, .int x2), (3, .int x3)] [.int y0, .ref y1] h 0 0 := by
  unfold w_M_call_L115 at hw
  intro p e s m args below meth c hC H locs ls k n hE hl hR hS hk hn
  obtain ⟨hx, hb, hown, hlocks, htab, hml, hr, hB, hA, hnm⟩ := id hC
  have hts := hB.1.1.at args
  obtain ⟨hk1, hw⟩ := hw
  obtain ⟨hz2, hw⟩ := hw
  refine xb_putI (C := R_M) (T := F_M) (N := 97) (ty := .boolean) (x := y0) hx hb 8 94 hts fin_M t_M t_M_ok n_M hown hR hS hk1 (by decide) rfl (by decide) rfl (hts _ m_8158dce5) (fun _ h9 => h9) rfl (by decide +kernel) (xb_bn hz2).1 (xb_bn hz2).2 (xb_d D_M_call 62 rfl) (fun H locs hR hS => ?_)
  obtain ⟨h3, eh3⟩ : ∃ x : xb_H, x = xb_I h y1 94 y0 := ⟨_, rfl⟩
  rw [← eh3] at hR
  have hw := hw h3 eh3
  have hE : xb_ext h0 h3 := by rw [eh3]; exact hE
  refine lv_iload_n hx hb (xb_d D_M_call 63 rfl) rfl (lv_at hl 1 rfl) ?_
  refine lv_ldcw (v := 100000) hx hb hown (hts _ m_0517c3da) (xb_d D_M_call 64 rfl) ?_
  refine lv_icmp_lt (tgt := 175) hx hb (xb_d D_M_call 65 rfl) rfl (fun hc4 => ?_) (fun hc4 => ?_)
  · have hw := hw.1 hc4
    refine lv_aload_n hx hb (xb_d D_M_call 93 rfl) rfl (lv_at hl 0 rfl) ?_
    obtain ⟨hk5, hw⟩ := hw
    refine xb_getP (C := R_M) (T := F_M) (N := 97) hx hb 8 44 hts fin_M hown hR hk5 (by decide) rfl (by decide) rfl (hts _ m_ad0cc5a3) (fun _ h9 => h9) (xb_d D_M_call 94 rfl) ?_
    obtain ⟨b6, eb6, hw⟩ := hw
    refine xb_some eb6 ?_
    refine lv_iload_n hx hb (xb_d D_M_call 95 rfl) rfl (lv_at hl 1 rfl) ?_
    obtain ⟨hk8, hw⟩ := hw
    obtain ⟨hi7, hw⟩ := hw
    refine xb_iald hx hb hR hk8 hi7 (xb_d D_M_call 96 rfl) ?_
    obtain ⟨v9, ev9⟩ : ∃ x : Int32, x = (xb_i h3 b6 (Int32.toNatClampNeg x1)) := ⟨_, rfl⟩
    have hw := hw v9 ev9
    refine xt_numi (y := v9) ev9.symm ?_
    refine lv_istore hx hb (xb_d D_M_call 97 rfl) hl (by decide) rfl (fun ls hl => ?_)
    have hl : lv_has ls 10 [(5, .int v9), (0, .ref x0), (1, .int x1), (2, .int x2), (3, .int x3)] := hl
    refine lv_aload_n hx hb (xb_d D_M_call 98 rfl) rfl (lv_at hl 1 rfl) ?_
    refine xb_getP (C := R_M) (T := F_M) (N := 97) hx hb 8 31 hts fin_M hown hR hk5 (by decide) rfl (by decide) rfl (hts _ m_691d5f47) (fun _ h9 => h9) (xb_d D_M_call 99 rfl) ?_
    obtain ⟨b10, eb10, hw⟩ := hw
    refine xb_some eb10 ?_
    refine lv_iload hx hb (xb_d D_M_call 100 rfl) (lv_at hl 0 rfl) ?_
    obtain ⟨hk12, hw⟩ := hw
    obtain ⟨hi11, hw⟩ := hw
    refine xb_iald hx hb hR hk12 hi11 (xb_d D_M_call 101 rfl) ?_
    obtain ⟨v13, ev13⟩ : ∃ x : Int32, x = (xb_i h3 b10 (Int32.toNatClampNeg v9)) := ⟨_, rfl⟩
    have hw := hw v13 ev13
    refine xt_numi (y := v13) ev13.symm ?_
    refine lv_istore hx hb (xb_d D_M_call 102 rfl) hl (by decide) rfl (fun ls hl => ?_)
    have hl : lv_has ls 10 [(6, .int v13), (5, .int v9), (0, .ref x0), (1, .int x1), (2, .int x2), (3, .int x3)] := hl
    refine lv_aload_n hx hb (xb_d D_M_call 103 rfl) rfl (lv_at hl 2 rfl) ?_
    refine lv_iload hx hb (xb_d D_M_call 104 rfl) (lv_at hl 0 rfl) ?_
    refine lv_aload_n hx hb (xb_d D_M_call 105 rfl) rfl (lv_at hl 2 rfl) ?_
    refine xb_getP (C := R_M) (T := F_M) (N := 97) hx hb 8 10 hts fin_M hown hR hk5 (by decide) rfl (by decide) rfl (hts _ m_01d0d957) (fun _ h9 => h9) (xb_d D_M_call 106 rfl) ?_
    obtain ⟨b14, eb14, hw⟩ := hw
    refine xb_some eb14 ?_
    refine lv_iconst (v := 4) hx hb (xb_d D_M_call 107 rfl) (by decide) ?_
    refine lv_iload hx hb (xb_d D_M_call 108 rfl) (lv_at hl 0 rfl) ?_
    refine lv_imul hx hb (xb_d D_M_call 109 rfl) ?_
    obtain ⟨hk16, hw⟩ := hw
    obtain ⟨hi15, hw⟩ := hw
    refine xb_iald hx hb hR hk16 hi15 (xb_d D_M_call 110 rfl) ?_
    refine lv_aload_n hx hb (xb_d D_M_call 111 rfl) rfl (lv_at hl 2 rfl) ?_
    refine xb_getP (C := R_M) (T := F_M) (N := 97) hx hb 8 45 hts fin_M hown hR hk5 (by decide) rfl (by decide) rfl (hts _ m_4c98e665) (fun _ h9 => h9) (xb_d D_M_call 112 rfl) ?_
    obtain ⟨b17, eb17, hw⟩ := hw
    refine xb_some eb17 ?_
    refine lv_iload_n hx hb (xb_d D_M_call 113 rfl) rfl (lv_at hl 3 rfl) ?_
    obtain ⟨hk19, hw⟩ := hw
    obtain ⟨hi18, hw⟩ := hw
    refine xb_iald hx hb hR hk19 hi18 (xb_d D_M_call 114 rfl) ?_
    refine lv_iadd hx hb (xb_d D_M_call 115 rfl) ?_
    refine xb_call0 (D := D) (A := A) (σ := σ) (h := h3) (d := 8) (maxL := 4) (rest := []) (av := [.ref x0, .int v13, .int ((xb_i h3 b14 (Int32.toNatClampNeg (4 * v13))) + (xb_i h3 b17 (Int32.toNatClampNeg x1)))]) (fun T hT X => by obtain ⟨cb9, ra9, rb9, rc9⟩ := xb_recv (ci := 8) hR rfl hk5 (by decide); exact xt_invV X hx hown (hts _ m_1d203cc1) (hts _ m_0a0483ac) (hts _ m_42615324) (xt_sigOf (hts _ m_44f87caf)) nm_M_typeOf (by rw [hT]; exact ra9) rb9 rc9 (g := F0 m 211 ls [.int ((xb_i h3 b14 (Int32.toNatClampNeg (4 * v13))) + (xb_i h3 b17 (Int32.toNatClampNeg x1))), .int v13, .ref x0]) rfl (argsL := [.int v13, .int ((xb_i h3 b14 (Int32.toNatClampNeg (4 * v13))) + (xb_i h3 b17 (Int32.toNatClampNeg x1)))]) (rest := []) rfl rfl (by rw [hb]; exact (xb_d D_M_call 116 rfl))) (ok_M_typeOf l hfl D A σ x0 v13 ((xb_i h3 b14 (Int32.toNatClampNeg (4 * v13))) + (xb_i h3 b17 (Int32.toNatClampNeg x1))) h3 _ hw) (hml.trans hl.1.symm) (by rw [hb]; exact (xb_d D_M_call 116 rfl)) (Nat.le_of_ble_eq_true rfl) (Nat.le_of_ble_eq_true rfl) (Nat.le_of_ble_eq_true rfl) (show k ≤ MC by omega) (show n ≤ MS by omega) (xt_w1 hB.1 m_44f87caf) (xt_cdOf hB.1 m_44f87caf) (hts _ m_d5ed7bed) hB hR hS hA (fun vv h20 H locs hq hEh20 hR hS => ?_)
    obtain ⟨r21, rfl, hw⟩ := hq
    have hw := hw hEh20
    have hE := hE.tr hEh20
    refine W.eq (g2 := F0 m 214 ls [.int r21]) rfl ?_
    refine lv_istore hx hb (xb_d D_M_call 117 rfl) hl (by decide) rfl (fun ls hl => ?_)
    have hl : lv_has ls 10 [(7, .int r21), (6, .int v13), (5, .int v9), (0, .ref x0), (1, .int x1), (2, .int x2), (3, .int x3)] := hl
    refine lv_aload_n hx hb (xb_d D_M_call 118 rfl) rfl (lv_at hl 3 rfl) ?_
    refine lv_iload hx hb (xb_d D_M_call 119 rfl) (lv_at hl 1 rfl) ?_
    refine lv_iload hx hb (xb_d D_M_call 120 rfl) (lv_at hl 0 rfl) ?_
    have hk5 : xb_k h20 x0 = 9 := hEh20.k hk5
    refine xb_call0 (D := D) (A := A) (σ := σ) (h := h20) (d := 6) (maxL := 4) (rest := []) (av := [.ref x0, .int v13, .int r21]) (fun T hT X => by obtain ⟨cb9, ra9, rb9, rc9⟩ := xb_recv (ci := 8) hR rfl hk5 (by decide); exact xt_invV X hx hown (hts _ m_bd023100) (hts _ m_d08a9c75) (hts _ m_9ac7cfcb) (xt_sigOf (hts _ m_9dee8e5c)) nm_M_resultOf (by rw [hT]; exact ra9) rb9 rc9 (g := F0 m 221 ls [.int r21, .int v13, .ref x0]) rfl (argsL := [.int v13, .int r21]) (rest := []) rfl rfl (by rw [hb]; exact (xb_d D_M_call 121 rfl))) (ok_M_resultOf l hfl D A σ x0 v13 r21 h20 _ hw) (hml.trans hl.1.symm) (by rw [hb]; exact (xb_d D_M_call 121 rfl)) (Nat.le_of_ble_eq_true rfl) (Nat.le_of_ble_eq_true rfl) (Nat.le_of_ble_eq_true rfl) (show k ≤ MC by omega) (show n ≤ MS by omega) (xt_w1 hB.1 m_9dee8e5c) (xt_cdOf hB.1 m_9dee8e5c) (hts _ m_d5ed7bed) hB hR hS hA (fun vv h22 H locs hq hEh22 hR hS => ?_)
    obtain ⟨r23, rfl, hw⟩ := hq
    have hw := hw hEh22
    have hE := hE.tr hEh22
    refine W.eq (g2 := F0 m 224 ls [.int r23]) rfl ?_
    refine lv_istore hx hb (xb_d D_M_call 122 rfl) hl (by decide) rfl (fun ls hl => ?_)
    have hl : lv_has ls 10 [(8, .int r23), (7, .int r21), (6, .int v13), (5, .int v9), (0, .ref x0), (1, .int x1), (2, .int x2), (3, .int x3)] := hl
    refine lv_aload_n hx hb (xb_d D_M_call 123 rfl) rfl (lv_at hl 4 rfl) ?_
    refine lv_iload hx hb (xb_d D_M_call 124 rfl) (lv_at hl 2 rfl) ?_
    refine lv_aload_n hx hb (xb_d D_M_call 125 rfl) rfl (lv_at hl 4 rfl) ?_
    refine lv_iload hx hb (xb_d D_M_call 126 rfl) (lv_at hl 2 rfl) ?_
    refine lv_bipush (v := 10) hx hb (xb_d D_M_call 127 rfl) (by decide) ?_
    refine lv_aload_n hx hb (xb_d D_M_call 128 rfl) rfl (lv_at hl 4 rfl) ?_
    have hk5 : xb_k h22 x0 = 9 := hEh22.k hk5
    refine xb_getP (C := R_M) (T := F_M) (N := 97) hx hb 8 45 hts fin_M hown hR hk5 (by decide) rfl (by decide) rfl (hts _ m_4c98e665) (fun _ h9 => h9) (xb_d D_M_call 129 rfl) ?_
    obtain ⟨b24, eb24, hw⟩ := hw
    refine xb_some eb24 ?_
    refine lv_iload_n hx hb (xb_d D_M_call 130 rfl) rfl (lv_at hl 5 rfl) ?_
    obtain ⟨hk26, hw⟩ := hw
    obtain ⟨hi25, hw⟩ := hw
    refine xb_iald hx hb hR hk26 hi25 (xb_d D_M_call 131 rfl) ?_
    refine xb_call0 (D := D) (A := A) (σ := σ) (h := h22) (d := 2) (maxL := 4) (rest := [.int v13, .ref x0]) (av := [.ref x0, .int v13, .int 10, .int (xb_i h22 b24 (Int32.toNatClampNeg x1))]) (fun T hT X => by obtain ⟨cb9, ra9, rb9, rc9⟩ := xb_recv (ci := 8) hR rfl hk5 (by decide); exact xt_invV X hx hown (hts _ m_7f41753e) (hts _ m_8cdd7108) (hts _ m_e228318f) (xt_sigOf (hts _ m_89667ad5)) nm_M_placeOf (by rw [hT]; exact ra9) rb9 rc9 (g := F0 m 240 ls [.int (xb_i h22 b24 (Int32.toNatClampNeg x1)), .int 10, .int v13, .ref x0, .int v13, .ref x0]) rfl (argsL := [.int v13, .int 10, .int (xb_i h22 b24 (Int32.toNatClampNeg x1))]) (rest := [.int v13, .ref x0]) rfl rfl (by rw [hb]; exact (xb_d D_M_call 132 rfl))) (ok_M_placeOf l hfl D A σ x0 v13 10 (xb_i h22 b24 (Int32.toNatClampNeg x1)) h22 _ hw) (hml.trans hl.1.symm) (by rw [hb]; exact (xb_d D_M_call 132 rfl)) (Nat.le_of_ble_eq_true rfl) (Nat.le_of_ble_eq_true rfl) (Nat.le_of_ble_eq_true rfl) (show k ≤ MC by omega) (show n ≤ MS by omega) (xt_w1 hB.1 m_89667ad5) (xt_cdOf hB.1 m_89667ad5) (hts _ m_d5ed7bed) hB hR hS hA (fun vv h27 H locs hq hEh27 hR hS => ?_)
    obtain ⟨r28, rfl, hw⟩ := hq
    have hw := hw hEh27
    have hE := hE.tr hEh27
    refine W.eq (g2 := F0 m 243 ls [.int r28, .int v13, .ref x0]) rfl ?_
    have hk5 : xb_k h27 x0 = 9 := hEh27.k hk5
    refine xb_call0 (D := D) (A := A) (σ := σ) (h := h27) (d := 2) (maxL := 3) (rest := []) (av := [.ref x0, .int v13, .int r28]) (fun T hT X => by obtain ⟨cb9, ra9, rb9, rc9⟩ := xb_recv (ci := 8) hR rfl hk5 (by decide); exact xt_invV X hx hown (hts _ m_bb531879) (hts _ m_4a6cd4a0) (hts _ m_d1c31e3c) (xt_sigOf (hts _ m_48217fba)) nm_M_go (by rw [hT]; exact ra9) rb9 rc9 (g := F0 m 243 ls [.int r28, .int v13, .ref x0]) rfl (argsL := [.int v13, .int r28]) (rest := []) rfl rfl (by rw [hb]; exact (xb_d D_M_call 133 rfl))) (ok_M_go l hfl D A σ x0 v13 r28 h27 _ hw) (hml.trans hl.1.symm) (by rw [hb]; exact (xb_d D_M_call 133 rfl)) (Nat.le_of_ble_eq_true rfl) (Nat.le_of_ble_eq_true rfl) (Nat.le_of_ble_eq_true rfl) (show k ≤ MC by omega) (show n ≤ MS by omega) (xt_w1 hB.1 m_48217fba) (xt_cdOf hB.1 m_48217fba) (hts _ m_d5ed7bed) hB hR hS hA (fun vv h29 H locs hq hEh29 hR hS => ?_)
    obtain ⟨rfl, hw⟩ := hq
    have hw := hw hEh29
    have hE := hE.tr hEh29
    refine W.eq (g2 := F0 m 246 ls []) rfl ?_
    refine lv_aload_n hx hb (xb_d D_M_call 134 rfl) rfl (lv_at hl 4 rfl) ?_
    have hk5 : xb_k h29 x0 = 9 := hEh29.k hk5
    refine xb_call0 (D := D) (A := A) (σ := σ) (h := h29) (d := 4) (maxL := 5) (rest := []) (av := [.ref x0]) (fun T hT X => by obtain ⟨cb9, ra9, rb9, rc9⟩ := xb_recv (ci := 8) hR rfl hk5 (by decide); exact xt_invV X hx hown (hts _ m_e991293f) (hts _ m_385a74b3) (hts _ m_c9fbcd02) (xt_sigOf (hts _ m_1f53f210)) nm_M_count (by rw [hT]; exact ra9) rb9 rc9 (g := F0 m 247 ls [.ref x0]) rfl (argsL := []) (rest := []) rfl rfl (by rw [hb]; exact (xb_d D_M_call 135 rfl))) (ok_M_count l hfl D A σ x0 h29 _ hw) (hml.trans hl.1.symm) (by rw [hb]; exact (xb_d D_M_call 135 rfl)) (Nat.le_of_ble_eq_true rfl) (Nat.le_of_ble_eq_true rfl) (Nat.le_of_ble_eq_true rfl) (show k ≤ MC by omega) (show n ≤ MS by omega) (xt_w1 hB.1 m_1f53f210) (xt_cdOf hB.1 m_1f53f210) (hts _ m_d5ed7bed) hB hR hS hA (fun vv h31 H locs hq hEh31 hR hS => ?_)
    obtain ⟨r32, rfl, hw⟩ := hq
    have hw := hw hEh31
    have hE := hE.tr hEh31
    refine W.eq (g2 := F0 m 250 ls [.long r32]) rfl ?_
    refine lv_pop2_2 hx hb (xb_d D_M_call 136 rfl) rfl ?_
    refine lv_aload_n hx hb (xb_d D_M_call 137 rfl) rfl (lv_at hl 4 rfl) ?_
    refine lv_iload hx hb (xb_d D_M_call 138 rfl) (lv_at hl 2 rfl) ?_
    refine lv_iload hx hb (xb_d D_M_call 139 rfl) (lv_at hl 1 rfl) ?_
    have hk5 : xb_k h31 x0 = 9 := hEh31.k hk5
    refine xb_call0 (D := D) (A := A) (σ := σ) (h := h31) (d := 7) (maxL := 13) (rest := []) (av := [.ref x0, .int v13, .int r21]) (fun T hT X => by obtain ⟨cb9, ra9, rb9, rc9⟩ := xb_recv (ci := 8) hR rfl hk5 (by decide); exact xt_invV X hx hown (hts _ m_7c6bb5af) (hts _ m_b69b5f3a) (hts _ m_73be75cf) (xt_sigOf (hts _ m_abfe1d28)) nm_M_readLocals (by rw [hT]; exact ra9) rb9 rc9 (g := F0 m 256 ls [.int r21, .int v13, .ref x0]) rfl (argsL := [.int v13, .int r21]) (rest := []) rfl rfl (by rw [hb]; exact (xb_d D_M_call 140 rfl))) (ok_M_readLocals l hfl D A σ x0 v13 r21 h31 _ hw) (hml.trans hl.1.symm) (by rw [hb]; exact (xb_d D_M_call 140 rfl)) (Nat.le_of_ble_eq_true rfl) (Nat.le_of_ble_eq_true rfl) (Nat.le_of_ble_eq_true rfl) (show k ≤ MC by omega) (show n ≤ MS by omega) (xt_w1 hB.1 m_abfe1d28) (xt_cdOf hB.1 m_abfe1d28) (hts _ m_d5ed7bed) hB hR hS hA (fun vv h33 H locs hq hEh33 hR hS => ?_)
    obtain ⟨rfl, hw⟩ := hq
    have hw := hw hEh33
    have hE := hE.tr hEh33
    refine W.eq (g2 := F0 m 259 ls []) rfl ?_
    refine lv_aload_n hx hb (xb_d D_M_call 141 rfl) rfl (lv_at hl 4 rfl) ?_
    have hk5 : xb_k h33 x0 = 9 := hEh33.k hk5
    refine xb_getI (C := R_M) (T := F_M) (N := 97) hx hb 8 68 hts fin_M hown hR hk5 (by decide) rfl (by decide) rfl (hts _ m_11712ae1) (fun _ h9 => h9) (xb_d D_M_call 142 rfl) ?_
    refine lv_sipush (v := 200) hx hb (xb_d D_M_call 143 rfl) (by decide) ?_
    refine lv_icmp_eq (tgt := 307) hx hb (xb_d D_M_call 144 rfl) rfl (fun hc35 => ?_) (fun hc35 => ?_)
    · have hw := hw.1 hc35
      exact am_M_call_L307 l hfl D A σ MC MS h0 Qr x0 h33 hw p e s m args below meth c hC H locs ls k n hE (lv_sub hl [4] rfl) hR hS (by omega) (by omega)
    · have hw := hw.2 hc35
      refine lv_iload_n hx hb (xb_d D_M_call 145 rfl) rfl (lv_at hl 7 rfl) ?_
      refine lv_aload_n hx hb (xb_d D_M_call 146 rfl) rfl (lv_at hl 4 rfl) ?_
      refine xb_getI (C := R_M) (T := F_M) (N := 97) hx hb 8 20 hts fin_M hown hR hk5 (by decide) rfl (by decide) rfl (hts _ m_160f9bc8) (fun _ h9 => h9) (xb_d D_M_call 147 rfl) ?_
      refine lv_iadd hx hb (xb_d D_M_call 148 rfl) ?_
      refine lv_aload_n hx hb (xb_d D_M_call 149 rfl) rfl (lv_at hl 4 rfl) ?_
      refine xb_getP (C := R_M) (T := F_M) (N := 97) hx hb 8 12 hts fin_M hown hR hk5 (by decide) rfl (by decide) rfl (hts _ m_82208c1c) (fun _ h9 => h9) (xb_d D_M_call 150 rfl) ?_
      obtain ⟨b36, eb36, hw⟩ := hw
      refine xb_some eb36 ?_
      refine lv_aload_n hx hb (xb_d D_M_call 151 rfl) rfl (lv_at hl 4 rfl) ?_
      refine xb_getP (C := R_M) (T := F_M) (N := 97) hx hb 8 8 hts fin_M hown hR hk5 (by decide) rfl (by decide) rfl (hts _ m_7cc4ea11) (fun _ h9 => h9) (xb_d D_M_call 152 rfl) ?_
      obtain ⟨b37, eb37, hw⟩ := hw
      refine xb_some eb37 ?_
      refine lv_bipush (v := 12) hx hb (xb_d D_M_call 153 rfl) (by decide) ?_
      refine lv_iload hx hb (xb_d D_M_call 154 rfl) (lv_at hl 2 rfl) ?_
      refine lv_imul hx hb (xb_d D_M_call 155 rfl) ?_
      refine lv_bipush (v := 10) hx hb (xb_d D_M_call 156 rfl) (by decide) ?_
      refine lv_iadd hx hb (xb_d D_M_call 157 rfl) ?_
      obtain ⟨hk39, hw⟩ := hw
      obtain ⟨hi38, hw⟩ := hw
      refine xb_iald hx hb hR hk39 hi38 (xb_d D_M_call 158 rfl) ?_
      refine lv_aload_n hx hb (xb_d D_M_call 159 rfl) rfl (lv_at hl 4 rfl) ?_
      refine xb_getP (C := R_M) (T := F_M) (N := 97) hx hb 8 45 hts fin_M hown hR hk5 (by decide) rfl (by decide) rfl (hts _ m_4c98e665) (fun _ h9 => h9) (xb_d D_M_call 160 rfl) ?_
      obtain ⟨b40, eb40, hw⟩ := hw
      refine xb_some eb40 ?_
      refine lv_iload_n hx hb (xb_d D_M_call 161 rfl) rfl (lv_at hl 5 rfl) ?_
      obtain ⟨hk42, hw⟩ := hw
      obtain ⟨hi41, hw⟩ := hw
      refine xb_iald hx hb hR hk42 hi41 (xb_d D_M_call 162 rfl) ?_
      refine lv_iadd hx hb (xb_d D_M_call 163 rfl) ?_
      obtain ⟨hk44, hw⟩ := hw
      obtain ⟨hi43, hw⟩ := hw
      refine xb_iald hx hb hR hk44 hi43 (xb_d D_M_call 164 rfl) ?_
      refine lv_iadd hx hb (xb_d D_M_call 165 rfl) ?_
      refine lv_sipush (v := 16384) hx hb (xb_d D_M_call 166 rfl) (by decide) ?_
      refine lv_icmp_le (tgt := 314) hx hb (xb_d D_M_call 167 rfl) rfl (fun hc45 => ?_) (fun hc45 => ?_)
      · have hw := hw.1 hc45
        refine lv_aload_n hx hb (xb_d D_M_call 172 rfl) rfl (lv_at hl 4 rfl) ?_
        refine lv_iload_n hx hb (xb_d D_M_call 173 rfl) rfl (lv_at hl 7 rfl) ?_
        refine lv_iload_n hx hb (xb_d D_M_call 174 rfl) rfl (lv_at hl 6 rfl) ?_
        refine lv_iadd hx hb (xb_d D_M_call 175 rfl) ?_
        refine xb_putI (C := R_M) (T := F_M) (N := 97) (ty := .int) (x := (x3 + x2)) hx hb 8 76 hts fin_M t_M t_M_ok n_M hown hR hS hk5 (by decide) rfl (by decide) rfl (hts _ m_d6ddfcd8) (fun _ h9 => h9) rfl (by decide +kernel) rfl rfl (xb_d D_M_call 176 rfl) (fun H locs hR hS => ?_)
        obtain ⟨h46, eh46⟩ : ∃ x : xb_H, x = xb_I h33 x0 76 (x3 + x2) := ⟨_, rfl⟩
        rw [← eh46] at hR
        have hw := hw h46 eh46
        have hE : xb_ext h0 h46 := by rw [eh46]; exact hE
        refine lv_iload_n hx hb (xb_d D_M_call 177 rfl) rfl (lv_at hl 6 rfl) ?_
        refine lv_istore hx hb (xb_d D_M_call 178 rfl) hl (by decide) rfl (fun ls hl => ?_)
        have hl : lv_has ls 10 [(9, .int x2), (8, .int r23), (7, .int r21), (6, .int v13), (5, .int v9), (0, .ref x0), (1, .int x1), (2, .int x2), (3, .int x3)] := hl
        obtain ⟨n8, hw⟩ := hw
        exact am_M_call_L324 l hfl D A σ MC MS h0 Qr n8 x0 x1 x3 r23 x2 h46 hw p e s m args below meth c hC H locs ls k n hE (lv_sub hl [5, 6, 8, 1, 0] rfl) hR hS (by omega) (by omega)
      · have hw := hw.2 hc45
        exact am_M_call_L307 l hfl D A σ MC MS h0 Qr x0 h33 hw p e s m args below meth c hC H locs ls k n hE (lv_sub hl [4] rfl) hR hS (by omega) (by omega)
  · have hw := hw.2 hc4
    refine lv_aload_n hx hb (xb_d D_M_call 66 rfl) rfl (lv_at hl 0 rfl) ?_
    refine lv_iload_n hx hb (xb_d D_M_call 67 rfl) rfl (lv_at hl 3 rfl) ?_
    obtain ⟨hk47, hw⟩ := hw
    refine xb_putI (C := R_M) (T := F_M) (N := 97) (ty := .int) (x := x3) hx hb 8 76 hts fin_M t_M t_M_ok n_M hown hR hS hk47 (by decide) rfl (by decide) rfl (hts _ m_d6ddfcd8) (fun _ h9 => h9) rfl (by decide +kernel) rfl rfl (xb_d D_M_call 68 rfl) (fun H locs hR hS => ?_)
    obtain ⟨h48, eh48⟩ : ∃ x : xb_H, x = xb_I h3 x0 76 x3 := ⟨_, rfl⟩
    rw [← eh48] at hR
    have hw := hw h48 eh48
    have hE : xb_ext h0 h48 := by rw [eh48]; exact hE
    refine lv_aload_n hx hb (xb_d D_M_call 69 rfl) rfl (lv_at hl 0 rfl) ?_
    have hk47 : xb_k h48 x0 = 9 := by rw [eh48]; exact hk47
    refine xb_getI (C := R_M) (T := F_M) (N := 97) hx hb 8 88 hts fin_M hown hR hk47 (by decide) rfl (by decide) rfl (hts _ m_e2832a78) (fun _ h9 => h9) (xb_d D_M_call 70 rfl) ?_
    refine lv_sipush (v := 4096) hx hb (xb_d D_M_call 71 rfl) (by decide) ?_
    refine lv_icmp_ne (tgt := 149) hx hb (xb_d D_M_call 72 rfl) rfl (fun hc49 => ?_) (fun hc49 => ?_)
    · have hw := hw.1 hc49
      refine lv_aload_n hx hb (xb_d D_M_call 77 rfl) rfl (lv_at hl 0 rfl) ?_
      refine xb_getP (C := R_M) (T := F_M) (N := 97) hx hb 8 87 hts fin_M hown hR hk47 (by decide) rfl (by decide) rfl (hts _ m_82d42698) (fun _ h9 => h9) (xb_d D_M_call 78 rfl) ?_
      obtain ⟨b50, eb50, hw⟩ := hw
      refine xb_some eb50 ?_
      refine lv_aload_n hx hb (xb_d D_M_call 79 rfl) rfl (lv_at hl 0 rfl) ?_
      refine xb_getI (C := R_M) (T := F_M) (N := 97) hx hb 8 88 hts fin_M hown hR hk47 (by decide) rfl (by decide) rfl (hts _ m_e2832a78) (fun _ h9 => h9) (xb_d D_M_call 80 rfl) ?_
      refine lv_aload_n hx hb (xb_d D_M_call 81 rfl) rfl (lv_at hl 0 rfl) ?_
      refine xb_getP (C := R_M) (T := F_M) (N := 97) hx hb 8 74 hts fin_M hown hR hk47 (by decide) rfl (by decide) rfl (hts _ m_f82105f7) (fun _ h9 => h9) (xb_d D_M_call 82 rfl) ?_
      obtain ⟨b51, eb51, hw⟩ := hw
      refine xb_some eb51 ?_
      refine lv_iload_n hx hb (xb_d D_M_call 83 rfl) rfl (lv_at hl 3 rfl) ?_
      obtain ⟨hk53, hw⟩ := hw
      obtain ⟨hi52, hw⟩ := hw
      refine xb_lald hx hb hR hk53 hi52 (xb_d D_M_call 84 rfl) ?_
      obtain ⟨hk54, hw⟩ := hw
      obtain ⟨hi55, hw⟩ := hw
      refine xb_last hx hb hR hS hk54 hi55 (xb_d D_M_call 85 rfl) (fun H locs hR hS => ?_)
      obtain ⟨h56, eh56⟩ : ∃ x : xb_H, x = xb_L h48 b50 (Int32.toNatClampNeg (xb_i h48 x0 88)) (xb_l h48 b51 (Int32.toNatClampNeg x3)) := ⟨_, rfl⟩
      rw [← eh56] at hR
      have hw := hw h56 eh56
      have hE : xb_ext h0 h56 := by rw [eh56]; exact hE
      refine lv_aload_n hx hb (xb_d D_M_call 86 rfl) rfl (lv_at hl 0 rfl) ?_
      refine lv_dup hx hb (xb_d D_M_call 87 rfl) rfl ?_
      have hk47 : xb_k h56 x0 = 9 := by rw [eh56]; exact hk47
      refine xb_getI (C := R_M) (T := F_M) (N := 97) hx hb 8 88 hts fin_M hown hR hk47 (by decide) rfl (by decide) rfl (hts _ m_e2832a78) (fun _ h9 => h9) (xb_d D_M_call 88 rfl) ?_
      refine lv_iconst (v := 1) hx hb (xb_d D_M_call 89 rfl) (by decide) ?_
      refine lv_iadd hx hb (xb_d D_M_call 90 rfl) ?_
      refine xb_putI (C := R_M) (T := F_M) (N := 97) (ty := .int) (x := ((xb_i h56 x0 88) + 1)) hx hb 8 88 hts fin_M t_M t_M_ok n_M hown hR hS hk47 (by decide) rfl (by decide) rfl (hts _ m_e2832a78) (fun _ h9 => h9) rfl (by decide +kernel) rfl rfl (xb_d D_M_call 91 rfl) (fun H locs hR hS => ?_)
      obtain ⟨h57, eh57⟩ : ∃ x : xb_H, x = xb_I h56 x0 88 ((xb_i h56 x0 88) + 1) := ⟨_, rfl⟩
      rw [← eh57] at hR
      have hw := hw h57 eh57
      have hE : xb_ext h0 h57 := by rw [eh57]; exact hE
      exact am_M_call_L174 l hfl D A σ MC MS h0 Qr h57 hw p e s m args below meth c hC H locs ls k n hE (lv_sub hl [] rfl) hR hS (by omega) (by omega)
    · have hw := hw.2 hc49
      refine lv_aload_n hx hb (xb_d D_M_call 73 rfl) rfl (lv_at hl 0 rfl) ?_
      refine lv_bipush (v := 10) hx hb (xb_d D_M_call 74 rfl) (by decide) ?_
      refine xb_putI (C := R_M) (T := F_M) (N := 97) (ty := .int) (x := 10) hx hb 8 82 hts fin_M t_M t_M_ok n_M hown hR hS hk47 (by decide) rfl (by decide) rfl (hts _ m_ad343437) (fun _ h9 => h9) rfl (by decide +kernel) rfl rfl (xb_d D_M_call 75 rfl) (fun H locs hR hS => ?_)
      obtain ⟨h58, eh58⟩ : ∃ x : xb_H, x = xb_I h48 x0 82 10 := ⟨_, rfl⟩
      rw [← eh58] at hR
      have hw := hw h58 eh58
      have hE : xb_ext h0 h58 := by rw [eh58]; exact hE
      refine lv_goto (tgt := 174) hx hb (xb_d D_M_call 76 rfl) rfl ?_
      exact am_M_call_L174 l hfl D A σ MC MS h0 Qr h58 hw p e s m args below meth c hC H locs ls k n hE (lv_sub hl [] rfl) hR hS (by omega) (by omega)

set_option maxHeartbeats 4000000 in
set_option maxRecDepth 100000 in
theorem am_M_call_L110 (l : Launch) (hfl : l.flags = pinnedFlags ++ [noTraceFlag]) (D : va_G) (A : Nat → Prop) (σ MC MS : Nat) (h0 : xb_H) (Qr : xb_H → Prop) (x0 : Nat) (x1 : Int32) (x2 : Int32) (x3 : Int32) (y0 : Nat) (h : xb_H) (hw : w_M_call_L110 Qr x0 x1 x2 x3 y0 h) : xb_am l D A σ 10 MC MS h0 (fun v h _ _ => v = none ∧ Qr h) (fun _ _ _ _ => False) y_M_call.cls y_M_call.name b_M_call 10 ([] : List ExceptionTableEntry) none 110 [(0, .ref x0), (1, .int x1), (2, .int x2), (3, .int x3)] [.ref y0] h 0 0 := by
  unfold w_M_call_L110 at hw
  intro p e s m args below meth c hC H locs ls k n hE hl hR hS hk hn
  obtain ⟨hx, hb, hown, hlocks, htab, hml, hr, hB, hA, hnm⟩ := id hC
  have hts := hB.1.1.at args
  refine lv_iconst (v := 1) hx hb (xb_d D_M_call 59 rfl) (by decide) ?_
  refine lv_goto (tgt := 115) hx hb (xb_d D_M_call 60 rfl) rfl ?_
  exact am_M_call_L115 l hfl D A σ MC MS h0 Qr x0 x1 x2 x3 1 y0 h hw p e s m args below meth c hC H locs ls k n hE (lv_sub hl [0, 1, 2, 3] rfl) hR hS (by omega) (by omega)

set_option maxHeartbeats 4000000 in
set_option maxRecDepth 100000 in
theorem am_M_call_L97 (l : Launch) (hfl : l.flags = pinnedFlags ++ [noTraceFlag]) (D : va_G) (A : Nat → Prop) (σ MC MS : Nat) (h0 : xb_H) (Qr : xb_H → Prop) (x0 : Nat) (x1 : Int32) (x2 : Int32) (x3 : Int32) (x4 : Int32) (h : xb_H) (hw : w_M_call_L97 Qr x0 x1 x2 x3 x4 h) : xb_am l D A σ 10 MC MS h0 (fun v h _ _ => v = none ∧ Qr h) (fun _ _ _ _ => False) y_M_call.cls y_M_call.name b_M_call 10 ([] : List ExceptionTableEntry) none 97 [(0, .ref x0), (1, .int x1), (2, .int x2), (3, .int x3), (4, .int x4)] [] h 0 0 := by
  unfold w_M_call_L97 at hw
  intro p e s m args below meth c hC H locs ls k n hE hl hR hS hk hn
  obtain ⟨hx, hb, hown, hlocks, htab, hml, hr, hB, hA, hnm⟩ := id hC
  have hts := hB.1.1.at args
  refine lv_aload_n hx hb (xb_d D_M_call 53 rfl) rfl (lv_at hl 0 rfl) ?_
  refine lv_aload_n hx hb (xb_d D_M_call 54 rfl) rfl (lv_at hl 0 rfl) ?_
  obtain ⟨hk1, hw⟩ := hw
  refine xb_getI (C := R_M) (T := F_M) (N := 97) hx hb 8 94 hts fin_M hown hR hk1 (by decide) rfl (by decide) rfl (hts _ m_8158dce5) (fun _ h9 => h9) (xb_d D_M_call 55 rfl) ?_
  refine lv_if_ne (tgt := 110) hx hb (xb_d D_M_call 56 rfl) rfl (fun hc2 => ?_) (fun hc2 => ?_)
  · have hw := hw.1 hc2
    exact am_M_call_L110 l hfl D A σ MC MS h0 Qr x0 x1 x2 x3 x0 h hw p e s m args below meth c hC H locs ls k n hE (lv_sub hl [0, 1, 2, 3] rfl) hR hS (by omega) (by omega)
  · have hw := hw.2 hc2
    refine lv_iload hx hb (xb_d D_M_call 57 rfl) (lv_at hl 4 rfl) ?_
    refine lv_if_ne (tgt := 114) hx hb (xb_d D_M_call 58 rfl) rfl (fun hc3 => ?_) (fun hc3 => ?_)
    · have hw := hw.1 hc3
      refine lv_iconst (v := 0) hx hb (xb_d D_M_call 61 rfl) (by decide) ?_
      exact am_M_call_L115 l hfl D A σ MC MS h0 Qr x0 x1 x2 x3 0 x0 h hw p e s m args below meth c hC H locs ls k n hE (lv_sub hl [0, 1, 2, 3] rfl) hR hS (by omega) (by omega)
    · have hw := hw.2 hc3
      exact am_M_call_L110 l hfl D A σ MC MS h0 Qr x0 x1 x2 x3 x0 h hw p e s m args below meth c hC H locs ls k n hE (lv_sub hl [0, 1, 2, 3] rfl) hR hS (by omega) (by omega)

set_option maxHeartbeats 4000000 in
set_option maxRecDepth 100000 in
theorem am_M_call_L88 (l : Launch) (hfl : l.flags = pinnedFlags ++ [noTraceFlag]) (D : va_G) (A : Nat → Prop) (σ MC MS : Nat) (h0 : xb_H) (Qr : xb_H → Prop) (K45 : Nat → Int32 → Int32 → Int32 → Int32 → Int32 → xb_H → Prop) (hK45 : ∀ (x0 : Nat) (x1 : Int32) (x2 : Int32) (x3 : Int32) (x4 : Int32) (x5 : Int32) (h : xb_H), K45 x0 x1 x2 x3 x4 x5 h → xb_am l D A σ 10 MC MS h0 (fun v h _ _ => v = none ∧ Qr h) (fun _ _ _ _ => False) y_M_call.cls y_M_call.name b_M_call 10 ([] : List ExceptionTableEntry) none 45 [(0, .ref x0), (1, .int x1), (2, .int x2), (3, .int x3), (4, .int x4), (5, .int x5)] [] h 0 0) (x0 : Nat) (x1 : Int32) (x2 : Int32) (x3 : Int32) (x4 : Int32) (x5 : Int32) (y0 : Int32) (y1 : Nat) (h : xb_H) (hw : w_M_call_L88 K45 Qr x0 x1 x2 x3 x4 x5 y0 y1 h) : xb_am l D A σ 10 MC MS h0 (fun v h _ _ => v = none ∧ Qr h) (fun _ _ _ _ => False) y_M_call.cls y_M_call.name b_M_call 10 ([] : List ExceptionTableEntry) none 88 [(0, .ref x0), (1, .int x1), (2, .int x2), (3, .int x3), (4, .int x4), (5, .int x5)] [.int y0, .ref y1] h 0 0 := by
  unfold w_M_call_L88 at hw
  intro p e s m args below meth c hC H locs ls k n hE hl hR hS hk hn
  obtain ⟨hx, hb, hown, hlocks, htab, hml, hr, hB, hA, hnm⟩ := id hC
  have hts := hB.1.1.at args
  obtain ⟨hk1, hw⟩ := hw
  obtain ⟨hz2, hw⟩ := hw
  refine xb_putI (C := R_M) (T := F_M) (N := 97) (ty := .boolean) (x := y0) hx hb 8 94 hts fin_M t_M t_M_ok n_M hown hR hS hk1 (by decide) rfl (by decide) rfl (hts _ m_8158dce5) (fun _ h9 => h9) rfl (by decide +kernel) (xb_bn hz2).1 (xb_bn hz2).2 (xb_d D_M_call 50 rfl) (fun H locs hR hS => ?_)
  obtain ⟨h3, eh3⟩ : ∃ x : xb_H, x = xb_I h y1 94 y0 := ⟨_, rfl⟩
  rw [← eh3] at hR
  have hw := hw h3 eh3
  have hE : xb_ext h0 h3 := by rw [eh3]; exact hE
  refine lv_iinc (v := (x5 + 1)) (k := 5) hx hb (xb_d D_M_call 51 rfl) hl rfl (by first | rfl | decide) (by decide) rfl (fun ls hl => ?_)
  have hl : lv_has ls 10 [(5, .int (x5 + 1)), (0, .ref x0), (1, .int x1), (2, .int x2), (3, .int x3), (4, .int x4)] := hl
  refine lv_goto (tgt := 45) hx hb (xb_d D_M_call 52 rfl) rfl ?_
  exact hK45 x0 x1 x2 x3 x4 (x5 + 1) h3 hw p e s m args below meth c hC H locs ls k n hE (lv_sub hl [1, 2, 3, 4, 5, 0] rfl) hR hS (by omega) (by omega)

set_option maxHeartbeats 4000000 in
set_option maxRecDepth 100000 in
theorem am_M_call_L83 (l : Launch) (hfl : l.flags = pinnedFlags ++ [noTraceFlag]) (D : va_G) (A : Nat → Prop) (σ MC MS : Nat) (h0 : xb_H) (Qr : xb_H → Prop) (K45 : Nat → Int32 → Int32 → Int32 → Int32 → Int32 → xb_H → Prop) (hK45 : ∀ (x0 : Nat) (x1 : Int32) (x2 : Int32) (x3 : Int32) (x4 : Int32) (x5 : Int32) (h : xb_H), K45 x0 x1 x2 x3 x4 x5 h → xb_am l D A σ 10 MC MS h0 (fun v h _ _ => v = none ∧ Qr h) (fun _ _ _ _ => False) y_M_call.cls y_M_call.name b_M_call 10 ([] : List ExceptionTableEntry) none 45 [(0, .ref x0), (1, .int x1), (2, .int x2), (3, .int x3), (4, .int x4), (5, .int x5)] [] h 0 0) (x0 : Nat) (x1 : Int32) (x2 : Int32) (x3 : Int32) (x4 : Int32) (x5 : Int32) (y0 : Nat) (h : xb_H) (hw : w_M_call_L83 K45 Qr x0 x1 x2 x3 x4 x5 y0 h) : xb_am l D A σ 10 MC MS h0 (fun v h _ _ => v = none ∧ Qr h) (fun _ _ _ _ => False) y_M_call.cls y_M_call.name b_M_call 10 ([] : List ExceptionTableEntry) none 83 [(0, .ref x0), (1, .int x1), (2, .int x2), (3, .int x3), (4, .int x4), (5, .int x5)] [.ref y0] h 0 0 := by
  unfold w_M_call_L83 at hw
  intro p e s m args below meth c hC H locs ls k n hE hl hR hS hk hn
  obtain ⟨hx, hb, hown, hlocks, htab, hml, hr, hB, hA, hnm⟩ := id hC
  have hts := hB.1.1.at args
  refine lv_iconst (v := 1) hx hb (xb_d D_M_call 47 rfl) (by decide) ?_
  refine lv_goto (tgt := 88) hx hb (xb_d D_M_call 48 rfl) rfl ?_
  exact am_M_call_L88 l hfl D A σ MC MS h0 Qr K45 hK45 x0 x1 x2 x3 x4 x5 1 y0 h hw p e s m args below meth c hC H locs ls k n hE (lv_sub hl [0, 1, 2, 3, 4, 5] rfl) hR hS (by omega) (by omega)

set_option maxHeartbeats 4000000 in
set_option maxRecDepth 100000 in
theorem am_M_call_L45 (l : Launch) (hfl : l.flags = pinnedFlags ++ [noTraceFlag]) (D : va_G) (A : Nat → Prop) (σ MC MS : Nat) (h0 : xb_H) (Qr : xb_H → Prop) (n9 : Nat) : ∀ (x0 : Nat) (x1 : Int32) (x2 : Int32) (x3 : Int32) (x4 : Int32) (x5 : Int32) (h : xb_H), w_M_call_L45 Qr n9 x0 x1 x2 x3 x4 x5 h → xb_am l D A σ 10 MC MS h0 (fun v h _ _ => v = none ∧ Qr h) (fun _ _ _ _ => False) y_M_call.cls y_M_call.name b_M_call 10 ([] : List ExceptionTableEntry) none 45 [(0, .ref x0), (1, .int x1), (2, .int x2), (3, .int x3), (4, .int x4), (5, .int x5)] [] h 0 0 := by
  induction n9 with
  | zero => intro x0 x1 x2 x3 x4 x5 h hw; exact False.elim hw
  | succ n9 ih =>
    intro x0 x1 x2 x3 x4 x5 h hw
    unfold w_M_call_L45 at hw
    intro p e s m args below meth c hC H locs ls k n hE hl hR hS hk hn
    obtain ⟨hx, hb, hown, hlocks, htab, hml, hr, hB, hA, hnm⟩ := id hC
    have hts := hB.1.1.at args
    refine lv_iload hx hb (xb_d D_M_call 27 rfl) (lv_at hl 5 rfl) ?_
    refine lv_iload_n hx hb (xb_d D_M_call 28 rfl) rfl (lv_at hl 2 rfl) ?_
    refine lv_icmp_ge (tgt := 97) hx hb (xb_d D_M_call 29 rfl) rfl (fun hc1 => ?_) (fun hc1 => ?_)
    · have hw := hw.1 hc1
      exact am_M_call_L97 l hfl D A σ MC MS h0 Qr x0 x1 x2 x3 x4 h hw p e s m args below meth c hC H locs ls k n hE (lv_sub hl [0, 1, 2, 3, 4] rfl) hR hS (by omega) (by omega)
    · have hw := hw.2 hc1
      refine lv_iload hx hb (xb_d D_M_call 30 rfl) (lv_at hl 4 rfl) ?_
      refine lv_if_eq (tgt := 97) hx hb (xb_d D_M_call 31 rfl) rfl (fun hc2 => ?_) (fun hc2 => ?_)
      · have hw := hw.1 hc2
        exact am_M_call_L97 l hfl D A σ MC MS h0 Qr x0 x1 x2 x3 x4 h hw p e s m args below meth c hC H locs ls k n hE (lv_sub hl [0, 1, 2, 3, 4] rfl) hR hS (by omega) (by omega)
      · have hw := hw.2 hc2
        refine lv_aload_n hx hb (xb_d D_M_call 32 rfl) rfl (lv_at hl 0 rfl) ?_
        refine lv_aload_n hx hb (xb_d D_M_call 33 rfl) rfl (lv_at hl 0 rfl) ?_
        obtain ⟨hk3, hw⟩ := hw
        refine xb_getI (C := R_M) (T := F_M) (N := 97) hx hb 8 94 hts fin_M hown hR hk3 (by decide) rfl (by decide) rfl (hts _ m_8158dce5) (fun _ h9 => h9) (xb_d D_M_call 34 rfl) ?_
        refine lv_if_ne (tgt := 83) hx hb (xb_d D_M_call 35 rfl) rfl (fun hc4 => ?_) (fun hc4 => ?_)
        · have hw := hw.1 hc4
          exact am_M_call_L83 l hfl D A σ MC MS h0 Qr (w_M_call_L45 Qr n9) ih x0 x1 x2 x3 x4 x5 x0 h hw p e s m args below meth c hC H locs ls k n hE (lv_sub hl [0, 1, 2, 3, 4, 5] rfl) hR hS (by omega) (by omega)
        · have hw := hw.2 hc4
          refine lv_aload_n hx hb (xb_d D_M_call 36 rfl) rfl (lv_at hl 0 rfl) ?_
          refine xb_getP (C := R_M) (T := F_M) (N := 97) hx hb 8 75 hts fin_M hown hR hk3 (by decide) rfl (by decide) rfl (hts _ m_6b215119) (fun _ h9 => h9) (xb_d D_M_call 37 rfl) ?_
          obtain ⟨b5, eb5, hw⟩ := hw
          refine xb_some eb5 ?_
          refine lv_iload_n hx hb (xb_d D_M_call 38 rfl) rfl (lv_at hl 3 rfl) ?_
          refine lv_iload hx hb (xb_d D_M_call 39 rfl) (lv_at hl 5 rfl) ?_
          refine lv_iadd hx hb (xb_d D_M_call 40 rfl) ?_
          obtain ⟨hk7, hw⟩ := hw
          obtain ⟨hi6, hw⟩ := hw
          refine xb_bald hx hb hR hk7 hi6 (xb_d D_M_call 41 rfl) ?_
          refine lv_aload_n hx hb (xb_d D_M_call 42 rfl) rfl (lv_at hl 0 rfl) ?_
          refine lv_iload_n hx hb (xb_d D_M_call 43 rfl) rfl (lv_at hl 1 rfl) ?_
          refine lv_iload hx hb (xb_d D_M_call 44 rfl) (lv_at hl 5 rfl) ?_
          refine xb_call0 (D := D) (A := A) (σ := σ) (h := h) (d := 9) (maxL := 4) (rest := [.int (xb_i h b5 (Int32.toNatClampNeg (x3 + x5))), .ref x0]) (av := [.ref x0, .int x1, .int x5]) (fun T hT X => by obtain ⟨cb9, ra9, rb9, rc9⟩ := xb_recv (ci := 8) hR rfl hk3 (by decide); exact xt_invV X hx hown (hts _ m_78f2aca1) (hts _ m_b10bc8fa) (hts _ m_7dc37ff6) (xt_sigOf (hts _ m_3a048bd5)) nm_M_parameterOf (by rw [hT]; exact ra9) rb9 rc9 (g := F0 m 77 ls [.int x5, .int x1, .ref x0, .int (xb_i h b5 (Int32.toNatClampNeg (x3 + x5))), .ref x0]) rfl (argsL := [.int x1, .int x5]) (rest := [.int (xb_i h b5 (Int32.toNatClampNeg (x3 + x5))), .ref x0]) rfl rfl (by rw [hb]; exact (xb_d D_M_call 45 rfl))) (ok_M_parameterOf l hfl D A σ x0 x1 x5 h _ hw) (hml.trans hl.1.symm) (by rw [hb]; exact (xb_d D_M_call 45 rfl)) (Nat.le_of_ble_eq_true rfl) (Nat.le_of_ble_eq_true rfl) (Nat.le_of_ble_eq_true rfl) (show k ≤ MC by omega) (show n ≤ MS by omega) (xt_w1 hB.1 m_3a048bd5) (xt_cdOf hB.1 m_3a048bd5) (hts _ m_d5ed7bed) hB hR hS hA (fun vv h8 H locs hq hEh8 hR hS => ?_)
          obtain ⟨r9, rfl, hw⟩ := hq
          have hw := hw hEh8
          have hE := hE.tr hEh8
          refine W.eq (g2 := F0 m 80 ls [.int r9, .int (xb_i h b5 (Int32.toNatClampNeg (x3 + x5))), .ref x0]) rfl ?_
          refine lv_icmp_eq (tgt := 87) hx hb (xb_d D_M_call 46 rfl) rfl (fun hc10 => ?_) (fun hc10 => ?_)
          · have hw := hw.1 hc10
            refine lv_iconst (v := 0) hx hb (xb_d D_M_call 49 rfl) (by decide) ?_
            exact am_M_call_L88 l hfl D A σ MC MS h0 Qr (w_M_call_L45 Qr n9) ih x0 x1 x2 x3 x4 x5 0 x0 h8 hw p e s m args below meth c hC H locs ls k n hE (lv_sub hl [0, 1, 2, 3, 4, 5] rfl) hR hS (by omega) (by omega)
          · have hw := hw.2 hc10
            exact am_M_call_L83 l hfl D A σ MC MS h0 Qr (w_M_call_L45 Qr n9) ih x0 x1 x2 x3 x4 x5 x0 h8 hw p e s m args below meth c hC H locs ls k n hE (lv_sub hl [0, 1, 2, 3, 4, 5] rfl) hR hS (by omega) (by omega)

set_option maxHeartbeats 4000000 in
set_option maxRecDepth 100000 in
theorem am_M_call_L40 (l : Launch) (hfl : l.flags = pinnedFlags ++ [noTraceFlag]) (D : va_G) (A : Nat → Prop) (σ MC MS : Nat) (h0 : xb_H) (Qr : xb_H → Prop) (x0 : Nat) (x1 : Int32) (x2 : Int32) (x3 : Int32) (y0 : Int32) (h : xb_H) (hw : w_M_call_L40 Qr x0 x1 x2 x3 y0 h) : xb_am l D A σ 10 MC MS h0 (fun v h _ _ => v = none ∧ Qr h) (fun _ _ _ _ => False) y_M_call.cls y_M_call.name b_M_call 10 ([] : List ExceptionTableEntry) none 40 [(0, .ref x0), (1, .int x1), (2, .int x2), (3, .int x3)] [.int y0] h 0 0 := by
  unfold w_M_call_L40 at hw
  intro p e s m args below meth c hC H locs ls k n hE hl hR hS hk hn
  obtain ⟨hx, hb, hown, hlocks, htab, hml, hr, hB, hA, hnm⟩ := id hC
  have hts := hB.1.1.at args
  refine lv_istore hx hb (xb_d D_M_call 24 rfl) hl (by decide) rfl (fun ls hl => ?_)
  have hl : lv_has ls 10 [(4, .int y0), (0, .ref x0), (1, .int x1), (2, .int x2), (3, .int x3)] := hl
  refine lv_iconst (v := 0) hx hb (xb_d D_M_call 25 rfl) (by decide) ?_
  refine lv_istore hx hb (xb_d D_M_call 26 rfl) hl (by decide) rfl (fun ls hl => ?_)
  have hl : lv_has ls 10 [(5, .int 0), (4, .int y0), (0, .ref x0), (1, .int x1), (2, .int x2), (3, .int x3)] := hl
  obtain ⟨n8, hw⟩ := hw
  exact am_M_call_L45 l hfl D A σ MC MS h0 Qr n8 x0 x1 x2 x3 y0 0 h hw p e s m args below meth c hC H locs ls k n hE (lv_sub hl [2, 3, 4, 5, 1, 0] rfl) hR hS (by omega) (by omega)

set_option maxHeartbeats 4000000 in
set_option maxRecDepth 100000 in
theorem am_M_call_L35 (l : Launch) (hfl : l.flags = pinnedFlags ++ [noTraceFlag]) (D : va_G) (A : Nat → Prop) (σ MC MS : Nat) (h0 : xb_H) (Qr : xb_H → Prop) (x0 : Nat) (x1 : Int32) (x2 : Int32) (x3 : Int32) (h : xb_H) (hw : w_M_call_L35 Qr x0 x1 x2 x3 h) : xb_am l D A σ 10 MC MS h0 (fun v h _ _ => v = none ∧ Qr h) (fun _ _ _ _ => False) y_M_call.cls y_M_call.name b_M_call 10 ([] : List ExceptionTableEntry) none 35 [(0, .ref x0), (1, .int x1), (2, .int x2), (3, .int x3)] [] h 0 0 := by
  unfold w_M_call_L35 at hw
  intro p e s m args below meth c hC H locs ls k n hE hl hR hS hk hn
  obtain ⟨hx, hb, hown, hlocks, htab, hml, hr, hB, hA, hnm⟩ := id hC
  have hts := hB.1.1.at args
  refine lv_iconst (v := 1) hx hb (xb_d D_M_call 21 rfl) (by decide) ?_
  refine lv_goto (tgt := 40) hx hb (xb_d D_M_call 22 rfl) rfl ?_
  exact am_M_call_L40 l hfl D A σ MC MS h0 Qr x0 x1 x2 x3 1 h hw p e s m args below meth c hC H locs ls k n hE (lv_sub hl [0, 1, 2, 3] rfl) hR hS (by omega) (by omega)

set_option maxHeartbeats 4000000 in
set_option maxRecDepth 100000 in
theorem ok_M_call (l : Launch) (hfl : l.flags = pinnedFlags ++ [noTraceFlag]) (D : va_G) (A : Nat → Prop) (σ : Nat) (x0 : Nat) (x1 : Int32) (h : xb_H) (Qr : xb_H → Prop) (hw : w_M_call x0 x1 h Qr) : xb_Met l y_M_call [.code y_M_call b_M_call 10 none] (xb_rm 10 0 0) (xb_Pc D A σ h [.ref x0, .int x1]) (xb_Qc D A h 0 0 (fun v h _ _ => v = none ∧ Qr h) (fun _ _ _ _ => False)) A := by
  refine xb_ofAm (cc := b_M_call) (by decide) (Nat.le_of_ble_eq_true rfl) ?_
  unfold w_M_call at hw
  show xb_am l D A σ 10 0 0 h (fun v h _ _ => v = none ∧ Qr h) (fun _ _ _ _ => False) y_M_call.cls y_M_call.name b_M_call 10 ([] : List ExceptionTableEntry) none 0 [(0, .ref x0), (1, .int x1)] [] h 0 0
  obtain ⟨MC, hMC⟩ : ∃ x, x = 0 := ⟨_, rfl⟩
  obtain ⟨MS, hMS⟩ : ∃ x, x = 0 := ⟨_, rfl⟩
  rw [show xb_am l D A σ 10 0 0 = xb_am l D A σ 10 MC MS by rw [hMC, hMS]]
  obtain ⟨h0, hh0⟩ : ∃ x, x = h := ⟨_, rfl⟩
  rw [show xb_am l D A σ 10 MC MS h = xb_am l D A σ 10 MC MS h0 by rw [hh0]]
  intro p e s m args below meth c hC H locs ls k n hE hl hR hS hk hn
  obtain ⟨hx, hb, hown, hlocks, htab, hml, hr, hB, hA, hnm⟩ := id hC
  have hts := hB.1.1.at args
  refine lv_aload_n hx hb (xb_d D_M_call 0 rfl) rfl (lv_at hl 0 rfl) ?_
  refine lv_iload_n hx hb (xb_d D_M_call 1 rfl) rfl (lv_at hl 1 rfl) ?_
  obtain ⟨hk1, hw⟩ := hw
  refine xb_call0 (D := D) (A := A) (σ := σ) (h := h) (d := 9) (maxL := 3) (rest := []) (av := [.ref x0, .int x1]) (fun T hT X => by obtain ⟨cb9, ra9, rb9, rc9⟩ := xb_recv (ci := 8) hR rfl hk1 (by decide); exact xt_invV X hx hown (hts _ m_e2ba22cc) (hts _ m_0a57baa5) (hts _ m_6f48d886) (xt_sigOf (hts _ m_14db4a29)) nm_M_parametersOf (by rw [hT]; exact ra9) rb9 rc9 (g := F0 m 2 ls [.int x1, .ref x0]) rfl (argsL := [.int x1]) (rest := []) rfl rfl (by rw [hb]; exact (xb_d D_M_call 2 rfl))) (ok_M_parametersOf l hfl D A σ x0 x1 h _ hw) (hml.trans hl.1.symm) (by rw [hb]; exact (xb_d D_M_call 2 rfl)) (Nat.le_of_ble_eq_true rfl) (Nat.le_of_ble_eq_true rfl) (Nat.le_of_ble_eq_true rfl) (show k ≤ MC by omega) (show n ≤ MS by omega) (xt_w1 hB.1 m_14db4a29) (xt_cdOf hB.1 m_14db4a29) (hts _ m_d5ed7bed) hB hR hS hA (fun vv h2 H locs hq hEh2 hR hS => ?_)
  obtain ⟨r3, rfl, hw⟩ := hq
  have hw := hw hEh2
  have hE := hE.tr hEh2
  refine W.eq (g2 := F0 m 5 ls [.int r3]) rfl ?_
  refine lv_istore_n hx hb (xb_d D_M_call 3 rfl) rfl hl (by decide) rfl (fun ls hl => ?_)
  have hl : lv_has ls 10 [(2, .int r3), (0, .ref x0), (1, .int x1)] := hl
  refine lv_aload_n hx hb (xb_d D_M_call 4 rfl) rfl (lv_at hl 1 rfl) ?_
  have hk1 : xb_k h2 x0 = 9 := hEh2.k hk1
  refine xb_getI (C := R_M) (T := F_M) (N := 97) hx hb 8 76 hts fin_M hown hR hk1 (by decide) rfl (by decide) rfl (hts _ m_d6ddfcd8) (fun _ h9 => h9) (xb_d D_M_call 5 rfl) ?_
  refine lv_iload_n hx hb (xb_d D_M_call 6 rfl) rfl (lv_at hl 0 rfl) ?_
  refine lv_isub hx hb (xb_d D_M_call 7 rfl) ?_
  obtain ⟨v4, ev4⟩ : ∃ x : Int32, x = ((xb_i h2 x0 76) - r3) := ⟨_, rfl⟩
  have hw := hw v4 ev4
  refine xt_numi (y := v4) ev4.symm ?_
  refine lv_istore_n hx hb (xb_d D_M_call 8 rfl) rfl hl (by decide) rfl (fun ls hl => ?_)
  have hl : lv_has ls 10 [(3, .int v4), (2, .int r3), (0, .ref x0), (1, .int x1)] := hl
  refine lv_aload_n hx hb (xb_d D_M_call 9 rfl) rfl (lv_at hl 2 rfl) ?_
  refine xb_getI (C := R_M) (T := F_M) (N := 97) hx hb 8 68 hts fin_M hown hR hk1 (by decide) rfl (by decide) rfl (hts _ m_11712ae1) (fun _ h9 => h9) (xb_d D_M_call 10 rfl) ?_
  refine lv_if_eq (tgt := 35) hx hb (xb_d D_M_call 11 rfl) rfl (fun hc5 => ?_) (fun hc5 => ?_)
  · have hw := hw.1 hc5
    exact am_M_call_L35 l hfl D A σ MC MS h0 Qr x0 x1 r3 v4 h2 hw p e s m args below meth c hC H locs ls k n hE (lv_sub hl [2, 3, 1, 0] rfl) hR hS (by omega) (by omega)
  · have hw := hw.2 hc5
    refine lv_iload_n hx hb (xb_d D_M_call 12 rfl) rfl (lv_at hl 0 rfl) ?_
    refine lv_aload_n hx hb (xb_d D_M_call 13 rfl) rfl (lv_at hl 2 rfl) ?_
    refine xb_getP (C := R_M) (T := F_M) (N := 97) hx hb 8 80 hts fin_M hown hR hk1 (by decide) rfl (by decide) rfl (hts _ m_24ba043b) (fun _ h9 => h9) (xb_d D_M_call 14 rfl) ?_
    obtain ⟨b6, eb6, hw⟩ := hw
    refine xb_some eb6 ?_
    refine lv_aload_n hx hb (xb_d D_M_call 15 rfl) rfl (lv_at hl 2 rfl) ?_
    refine xb_getI (C := R_M) (T := F_M) (N := 97) hx hb 8 81 hts fin_M hown hR hk1 (by decide) rfl (by decide) rfl (hts _ m_65743087) (fun _ h9 => h9) (xb_d D_M_call 16 rfl) ?_
    refine lv_iconst (v := 1) hx hb (xb_d D_M_call 17 rfl) (by decide) ?_
    refine lv_isub hx hb (xb_d D_M_call 18 rfl) ?_
    obtain ⟨hk8, hw⟩ := hw
    obtain ⟨hi7, hw⟩ := hw
    refine xb_iald hx hb hR hk8 hi7 (xb_d D_M_call 19 rfl) ?_
    refine lv_icmp_lt (tgt := 39) hx hb (xb_d D_M_call 20 rfl) rfl (fun hc9 => ?_) (fun hc9 => ?_)
    · have hw := hw.1 hc9
      refine lv_iconst (v := 0) hx hb (xb_d D_M_call 23 rfl) (by decide) ?_
      exact am_M_call_L40 l hfl D A σ MC MS h0 Qr x0 x1 r3 v4 0 h2 hw p e s m args below meth c hC H locs ls k n hE (lv_sub hl [2, 3, 1, 0] rfl) hR hS (by omega) (by omega)
    · have hw := hw.2 hc9
      exact am_M_call_L35 l hfl D A σ MC MS h0 Qr x0 x1 r3 v4 h2 hw p e s m args below meth c hC H locs ls k n hE (lv_sub hl [2, 3, 1, 0] rfl) hR hS (by omega) (by omega)

theorem m_40324d32 : (.methodLink "StackHostModel" 358 y_M_changes : Cond) ∈ xt_tbl := xt_in (xt_t11 (List.mem_of_getElem? (i := 101) (by decide +kernel))) (by decide +kernel)
theorem m_58244a27 : (.instanceMethod y_M_changes : Cond) ∈ xt_tbl := xt_in (xt_t11 (List.mem_of_getElem? (i := 103) (by decide +kernel))) (by decide +kernel)
theorem m_041bc6eb : (.selects "StackHostModel" y_M_changes y_M_changes : Cond) ∈ xt_tbl := xt_in (xt_v11 (q := (⟨"StackHostModel", "changes", "(II)Z"⟩, 97)) (List.mem_of_getElem? (i := 1) (by decide +kernel))) (by decide +kernel)
theorem m_a97ef8c2 : (.code y_M_changes b_M_changes 3 (some .boolean) : Cond) ∈ xt_tbl := xt_in (xt_t11 (List.mem_of_getElem? (i := 104) (by decide +kernel))) (by decide +kernel)
theorem nm_M_changes : xt_nm y_M_changes 2 := ⟨by decide +kernel, by decide +kernel⟩
set_option maxRecDepth 100000 in
def T_M_checkConstant : List (Nat × Instr × Nat) := [(0, .aload_n 0, 1), (1, .getfield 202, 3), (4, .istore_n 3, 1), (5, .aload_n 0, 1), (6, .invokevirtual 212, 3), (9, .istore 4, 2), (11, .aload_n 0, 1), (12, .getfield 202, 3), (15, .istore 5, 2), (17, .iload 4, 2), (19, .bipush 35, 2), (21, .if_icmp .ne 98, 3), (24, .aload_n 0, 1), (25, .invokevirtual 218, 3), (28, .lstore 6, 2), (30, .aload_n 0, 1), (31, .getfield 202, 3), (34, .istore 8, 2), (36, .lload 6, 2), (38, .aload_n 0, 1), (39, .getfield 30, 3), (42, .iconst 4, 1), (43, .iload_n 1, 1), (44, .imul, 1), (45, .iconst 3, 1), (46, .iadd, 1), (47, .iaload, 1), (48, .i2l, 1), (49, .lcmp, 1), (50, .ifCond .lt 11, 3), (53, .aload_n 0, 1), (54, .bipush 20, 2), (56, .iload_n 3, 1), (57, .invokevirtual 208, 3), (60, .return_, 1), (61, .aload_n 0, 1), (62, .iload_n 1, 1), (63, .lload 6, 2), (65, .l2i, 1), (66, .invokevirtual 358, 3), (69, .istore 9, 2), (71, .aload_n 0, 1), (72, .iload_n 1, 1), (73, .lload 6, 2), (75, .l2i, 1), (76, .invokevirtual 342, 3), (79, .istore 10, 2), (81, .aload_n 0, 1), (82, .iload_n 1, 1), (83, .iload 8, 2), (85, .invokevirtual 324, 3), (88, .iload 9, 2), (90, .ifCond .eq 13, 3), (93, .aload_n 0, 1), (94, .bipush 26, 2), (96, .iload_n 3, 1), (97, .invokevirtual 208, 3), (100, .goto 16, 3), (103, .iload 10, 2), (105, .iload_n 2, 1), (106, .if_icmp .eq 10, 3), (109, .aload_n 0, 1), (110, .bipush 21, 2), (112, .iload_n 3, 1), (113, .invokevirtual 208, 3), (116, .goto 57, 3), (119, .iload 4, 2), (121, .bipush 65, 2), (123, .if_icmp .lt 43, 3), (126, .iload 4, 2), (128, .bipush 68, 2), (130, .if_icmp .gt 36, 3), (133, .aload_n 0, 1), (134, .iload 5, 2), (136, .putfield 202, 3), (139, .aload_n 0, 1), (140, .iload 4, 2), (142, .iload_n 3, 1), (143, .invokevirtual 259, 3), (146, .iload_n 2, 1), (147, .sipush 192, 3), (150, .iload 4, 2), (152, .isub, 1), (153, .if_icmp .eq 20, 3), (156, .aload_n 0, 1), (157, .bipush 21, 2), (159, .iload_n 3, 1), (160, .invokevirtual 208, 3), (163, .goto 10, 3), (166, .aload_n 0, 1), (167, .bipush 26, 2), (169, .iload_n 3, 1), (170, .invokevirtual 208, 3), (173, .aload_n 0, 1), (174, .getfield 193, 3), (177, .ifCond .ne 26, 3), (180, .aload_n 0, 1), (181, .getfield 202, 3), (184, .istore 6, 2), (186, .aload_n 0, 1), (187, .invokevirtual 212, 3), (190, .bipush 11, 2), (192, .if_icmp .eq 11, 3), (195, .aload_n 0, 1), (196, .bipush 26, 2), (198, .iload 6, 2), (200, .invokevirtual 208, 3), (203, .return_, 1)]
theorem D_M_checkConstant : ∀ q ∈ T_M_checkConstant, decode b_M_checkConstant q.1 = .ok (q.2.1, q.2.2) := by decide +kernel

set_option maxHeartbeats 4000000 in
set_option maxRecDepth 100000 in
theorem am_M_checkConstant_L203 (l : Launch) (hfl : l.flags = pinnedFlags ++ [noTraceFlag]) (D : va_G) (A : Nat → Prop) (σ MC MS : Nat) (h0 : xb_H) (Qr : xb_H → Prop) (h : xb_H) (hw : w_M_checkConstant_L203 Qr h) : xb_am l D A σ 10 MC MS h0 (fun v h _ _ => v = none ∧ Qr h) (fun _ _ _ _ => False) y_M_checkConstant.cls y_M_checkConstant.name b_M_checkConstant 11 ([] : List ExceptionTableEntry) none 203 [] [] h 0 0 := by
  unfold w_M_checkConstant_L203 at hw
  intro p e s m args below meth c hC H locs ls k n hE hl hR hS hk hn
  obtain ⟨hx, hb, hown, hlocks, htab, hml, hr, hB, hA, hnm⟩ := id hC
  have hts := hB.1.1.at args
  exact xb_vret 0 0 hx hb hr hlocks (show k + 0 ≤ MC by omega) (show n + 0 ≤ MS by omega) hE hR hS (xb_d D_M_checkConstant 107 rfl) hw

set_option maxHeartbeats 4000000 in
set_option maxRecDepth 100000 in
theorem am_M_checkConstant_L173 (l : Launch) (hfl : l.flags = pinnedFlags ++ [noTraceFlag]) (D : va_G) (A : Nat → Prop) (σ MC MS : Nat) (h0 : xb_H) (Qr : xb_H → Prop) (x0 : Nat) (h : xb_H) (hw : w_M_checkConstant_L173 Qr x0 h) : xb_am l D A σ 10 MC MS h0 (fun v h _ _ => v = none ∧ Qr h) (fun _ _ _ _ => False) y_M_checkConstant.cls y_M_checkConstant.name b_M_checkConstant 11 ([] : List ExceptionTableEntry) none 173 [(0, .ref x0)] [] h 0 0 := by
  unfold w_M_checkConstant_L173 at hw
  intro p e s m args below meth c hC H locs ls k n hE hl hR hS hk hn
  obtain ⟨hx, hb, hown, hlocks, htab, hml, hr, hB, hA, hnm⟩ := id hC
  have hts := hB.1.1.at args
  refine lv_aload_n hx hb (xb_d D_M_checkConstant 93 rfl) rfl (lv_at hl 0 rfl) ?_
  obtain ⟨hk1, hw⟩ := hw
  refine xb_getI (C := R_M) (T := F_M) (N := 97) hx hb 8 17 hts fin_M hown hR hk1 (by decide) rfl (by decide) rfl (hts _ m_ff69da61) (fun _ h9 => h9) (xb_d D_M_checkConstant 94 rfl) ?_
  refine lv_if_ne (tgt := 203) hx hb (xb_d D_M_checkConstant 95 rfl) rfl (fun hc2 => ?_) (fun hc2 => ?_)
  · have hw := hw.1 hc2
    exact am_M_checkConstant_L203 l hfl D A σ MC MS h0 Qr h hw p e s m args below meth c hC H locs ls k n hE (lv_sub hl [] rfl) hR hS (by omega) (by omega)
  · have hw := hw.2 hc2
    refine lv_aload_n hx hb (xb_d D_M_checkConstant 96 rfl) rfl (lv_at hl 0 rfl) ?_
    refine xb_getI (C := R_M) (T := F_M) (N := 97) hx hb 8 15 hts fin_M hown hR hk1 (by decide) rfl (by decide) rfl (hts _ m_6c2d27ad) (fun _ h9 => h9) (xb_d D_M_checkConstant 97 rfl) ?_
    obtain ⟨v3, ev3⟩ : ∃ x : Int32, x = (xb_i h x0 15) := ⟨_, rfl⟩
    have hw := hw v3 ev3
    refine xt_numi (y := v3) ev3.symm ?_
    refine lv_istore hx hb (xb_d D_M_checkConstant 98 rfl) hl (by decide) rfl (fun ls hl => ?_)
    have hl : lv_has ls 11 [(6, .int v3), (0, .ref x0)] := hl
    refine lv_aload_n hx hb (xb_d D_M_checkConstant 99 rfl) rfl (lv_at hl 1 rfl) ?_
    refine xb_call0 (D := D) (A := A) (σ := σ) (h := h) (d := 3) (maxL := 2) (rest := []) (av := [.ref x0]) (fun T hT X => by obtain ⟨cb9, ra9, rb9, rc9⟩ := xb_recv (ci := 8) hR rfl hk1 (by decide); exact xt_invV X hx hown (hts _ m_0e978570) (hts _ m_40099f98) (hts _ m_a7dbfd07) (xt_sigOf (hts _ m_0af1ec6a)) nm_M_next (by rw [hT]; exact ra9) rb9 rc9 (g := F0 m 187 ls [.ref x0]) rfl (argsL := []) (rest := []) rfl rfl (by rw [hb]; exact (xb_d D_M_checkConstant 100 rfl))) (ok_M_next l hfl D A σ x0 h _ hw) (hml.trans hl.1.symm) (by rw [hb]; exact (xb_d D_M_checkConstant 100 rfl)) (Nat.le_of_ble_eq_true rfl) (Nat.le_of_ble_eq_true rfl) (Nat.le_of_ble_eq_true rfl) (show k ≤ MC by omega) (show n ≤ MS by omega) (xt_w1 hB.1 m_0af1ec6a) (xt_cdOf hB.1 m_0af1ec6a) (hts _ m_d5ed7bed) hB hR hS hA (fun vv h4 H locs hq hEh4 hR hS => ?_)
    obtain ⟨r5, rfl, hw⟩ := hq
    have hw := hw hEh4
    have hE := hE.tr hEh4
    refine W.eq (g2 := F0 m 190 ls [.int r5]) rfl ?_
    refine lv_bipush (v := 11) hx hb (xb_d D_M_checkConstant 101 rfl) (by decide) ?_
    refine lv_icmp_eq (tgt := 203) hx hb (xb_d D_M_checkConstant 102 rfl) rfl (fun hc6 => ?_) (fun hc6 => ?_)
    · have hw := hw.1 hc6
      exact am_M_checkConstant_L203 l hfl D A σ MC MS h0 Qr h4 hw p e s m args below meth c hC H locs ls k n hE (lv_sub hl [] rfl) hR hS (by omega) (by omega)
    · have hw := hw.2 hc6
      refine lv_aload_n hx hb (xb_d D_M_checkConstant 103 rfl) rfl (lv_at hl 1 rfl) ?_
      refine lv_bipush (v := 26) hx hb (xb_d D_M_checkConstant 104 rfl) (by decide) ?_
      refine lv_iload hx hb (xb_d D_M_checkConstant 105 rfl) (lv_at hl 0 rfl) ?_
      have hk1 : xb_k h4 x0 = 9 := hEh4.k hk1
      refine xb_call0 (D := D) (A := A) (σ := σ) (h := h4) (d := 2) (maxL := 3) (rest := []) (av := [.ref x0, .int 26, .int v3]) (fun T hT X => by obtain ⟨cb9, ra9, rb9, rc9⟩ := xb_recv (ci := 8) hR rfl hk1 (by decide); exact xt_invV X hx hown (hts _ m_939052ad) (hts _ m_29cc8c73) (hts _ m_3b1ac7ab) (xt_sigOf (hts _ m_8f062ecd)) nm_M_fail (by rw [hT]; exact ra9) rb9 rc9 (g := F0 m 200 ls [.int v3, .int 26, .ref x0]) rfl (argsL := [.int 26, .int v3]) (rest := []) rfl rfl (by rw [hb]; exact (xb_d D_M_checkConstant 106 rfl))) (ok_M_fail l hfl D A σ x0 26 v3 h4 _ hw) (hml.trans hl.1.symm) (by rw [hb]; exact (xb_d D_M_checkConstant 106 rfl)) (Nat.le_of_ble_eq_true rfl) (Nat.le_of_ble_eq_true rfl) (Nat.le_of_ble_eq_true rfl) (show k ≤ MC by omega) (show n ≤ MS by omega) (xt_w1 hB.1 m_8f062ecd) (xt_cdOf hB.1 m_8f062ecd) (hts _ m_d5ed7bed) hB hR hS hA (fun vv h7 H locs hq hEh7 hR hS => ?_)
      obtain ⟨rfl, hw⟩ := hq
      have hw := hw hEh7
      have hE := hE.tr hEh7
      refine W.eq (g2 := F0 m 203 ls []) rfl ?_
      exact am_M_checkConstant_L203 l hfl D A σ MC MS h0 Qr h7 hw p e s m args below meth c hC H locs ls k n hE (lv_sub hl [] rfl) hR hS (by omega) (by omega)

set_option maxHeartbeats 4000000 in
set_option maxRecDepth 100000 in
theorem am_M_checkConstant_L166 (l : Launch) (hfl : l.flags = pinnedFlags ++ [noTraceFlag]) (D : va_G) (A : Nat → Prop) (σ MC MS : Nat) (h0 : xb_H) (Qr : xb_H → Prop) (x0 : Nat) (x3 : Int32) (h : xb_H) (hw : w_M_checkConstant_L166 Qr x0 x3 h) : xb_am l D A σ 10 MC MS h0 (fun v h _ _ => v = none ∧ Qr h) (fun _ _ _ _ => False) y_M_checkConstant.cls y_M_checkConstant.name b_M_checkConstant 11 ([] : List ExceptionTableEntry) none 166 [(0, .ref x0), (3, .int x3)] [] h 0 0 := by
  unfold w_M_checkConstant_L166 at hw
  intro p e s m args below meth c hC H locs ls k n hE hl hR hS hk hn
  obtain ⟨hx, hb, hown, hlocks, htab, hml, hr, hB, hA, hnm⟩ := id hC
  have hts := hB.1.1.at args
  refine lv_aload_n hx hb (xb_d D_M_checkConstant 89 rfl) rfl (lv_at hl 0 rfl) ?_
  refine lv_bipush (v := 26) hx hb (xb_d D_M_checkConstant 90 rfl) (by decide) ?_
  refine lv_iload_n hx hb (xb_d D_M_checkConstant 91 rfl) rfl (lv_at hl 1 rfl) ?_
  obtain ⟨hk1, hw⟩ := hw
  refine xb_call0 (D := D) (A := A) (σ := σ) (h := h) (d := 2) (maxL := 3) (rest := []) (av := [.ref x0, .int 26, .int x3]) (fun T hT X => by obtain ⟨cb9, ra9, rb9, rc9⟩ := xb_recv (ci := 8) hR rfl hk1 (by decide); exact xt_invV X hx hown (hts _ m_939052ad) (hts _ m_29cc8c73) (hts _ m_3b1ac7ab) (xt_sigOf (hts _ m_8f062ecd)) nm_M_fail (by rw [hT]; exact ra9) rb9 rc9 (g := F0 m 170 ls [.int x3, .int 26, .ref x0]) rfl (argsL := [.int 26, .int x3]) (rest := []) rfl rfl (by rw [hb]; exact (xb_d D_M_checkConstant 92 rfl))) (ok_M_fail l hfl D A σ x0 26 x3 h _ hw) (hml.trans hl.1.symm) (by rw [hb]; exact (xb_d D_M_checkConstant 92 rfl)) (Nat.le_of_ble_eq_true rfl) (Nat.le_of_ble_eq_true rfl) (Nat.le_of_ble_eq_true rfl) (show k ≤ MC by omega) (show n ≤ MS by omega) (xt_w1 hB.1 m_8f062ecd) (xt_cdOf hB.1 m_8f062ecd) (hts _ m_d5ed7bed) hB hR hS hA (fun vv h2 H locs hq hEh2 hR hS => ?_)
  obtain ⟨rfl, hw⟩ := hq
  have hw := hw hEh2
  have hE := hE.tr hEh2
  refine W.eq (g2 := F0 m 173 ls []) rfl ?_
  exact am_M_checkConstant_L173 l hfl D A σ MC MS h0 Qr x0 h2 hw p e s m args below meth c hC H locs ls k n hE (lv_sub hl [0] rfl) hR hS (by omega) (by omega)

set_option maxHeartbeats 4000000 in
set_option maxRecDepth 100000 in
theorem am_M_checkConstant_L116 (l : Launch) (hfl : l.flags = pinnedFlags ++ [noTraceFlag]) (D : va_G) (A : Nat → Prop) (σ MC MS : Nat) (h0 : xb_H) (Qr : xb_H → Prop) (x0 : Nat) (h : xb_H) (hw : w_M_checkConstant_L116 Qr x0 h) : xb_am l D A σ 10 MC MS h0 (fun v h _ _ => v = none ∧ Qr h) (fun _ _ _ _ => False) y_M_checkConstant.cls y_M_checkConstant.name b_M_checkConstant 11 ([] : List ExceptionTableEntry) none 116 [(0, .ref x0)] [] h 0 0 := by
  unfold w_M_checkConstant_L116 at hw
  intro p e s m args below meth c hC H locs ls k n hE hl hR hS hk hn
  obtain ⟨hx, hb, hown, hlocks, htab, hml, hr, hB, hA, hnm⟩ := id hC
  have hts := hB.1.1.at args
  refine lv_goto (tgt := 173) hx hb (xb_d D_M_checkConstant 65 rfl) rfl ?_
  exact am_M_checkConstant_L173 l hfl D A σ MC MS h0 Qr x0 h hw p e s m args below meth c hC H locs ls k n hE (lv_sub hl [0] rfl) hR hS (by omega) (by omega)

set_option maxHeartbeats 4000000 in
set_option maxRecDepth 100000 in
theorem ok_M_checkConstant (l : Launch) (hfl : l.flags = pinnedFlags ++ [noTraceFlag]) (D : va_G) (A : Nat → Prop) (σ : Nat) (x0 : Nat) (x1 : Int32) (x2 : Int32) (h : xb_H) (Qr : xb_H → Prop) (hw : w_M_checkConstant x0 x1 x2 h Qr) : xb_Met l y_M_checkConstant [.code y_M_checkConstant b_M_checkConstant 11 none] (xb_rm 10 0 0) (xb_Pc D A σ h [.ref x0, .int x1, .int x2]) (xb_Qc D A h 0 0 (fun v h _ _ => v = none ∧ Qr h) (fun _ _ _ _ => False)) A := by
  refine xb_ofAm (cc := b_M_checkConstant) (by decide) (Nat.le_of_ble_eq_true rfl) ?_
  unfold w_M_checkConstant at hw
  show xb_am l D A σ 10 0 0 h (fun v h _ _ => v = none ∧ Qr h) (fun _ _ _ _ => False) y_M_checkConstant.cls y_M_checkConstant.name b_M_checkConstant 11 ([] : List ExceptionTableEntry) none 0 [(0, .ref x0), (1, .int x1), (2, .int x2)] [] h 0 0
  obtain ⟨MC, hMC⟩ : ∃ x, x = 0 := ⟨_, rfl⟩
  obtain ⟨MS, hMS⟩ : ∃ x, x = 0 := ⟨_, rfl⟩
  rw [show xb_am l D A σ 10 0 0 = xb_am l D A σ 10 MC MS by rw [hMC, hMS]]
  obtain ⟨h0, hh0⟩ : ∃ x, x = h := ⟨_, rfl⟩
  rw [show xb_am l D A σ 10 MC MS h = xb_am l D A σ 10 MC MS h0 by rw [hh0]]
  intro p e s m args below meth c hC H locs ls k n hE hl hR hS hk hn
  obtain ⟨hx, hb, hown, hlocks, htab, hml, hr, hB, hA, hnm⟩ := id hC
  have hts := hB.1.1.at args
  refine lv_aload_n hx hb (xb_d D_M_checkConstant 0 rfl) rfl (lv_at hl 0 rfl) ?_
  obtain ⟨hk1, hw⟩ := hw
  refine xb_getI (C := R_M) (T := F_M) (N := 97) hx hb 8 15 hts fin_M hown hR hk1 (by decide) rfl (by decide) rfl (hts _ m_6c2d27ad) (fun _ h9 => h9) (xb_d D_M_checkConstant 1 rfl) ?_
  obtain ⟨v2, ev2⟩ : ∃ x : Int32, x = (xb_i h x0 15) := ⟨_, rfl⟩
  have hw := hw v2 ev2
  refine xt_numi (y := v2) ev2.symm ?_
  refine lv_istore_n hx hb (xb_d D_M_checkConstant 2 rfl) rfl hl (by decide) rfl (fun ls hl => ?_)
  have hl : lv_has ls 11 [(3, .int v2), (0, .ref x0), (1, .int x1), (2, .int x2)] := hl
  refine lv_aload_n hx hb (xb_d D_M_checkConstant 3 rfl) rfl (lv_at hl 1 rfl) ?_
  refine xb_call0 (D := D) (A := A) (σ := σ) (h := h) (d := 3) (maxL := 2) (rest := []) (av := [.ref x0]) (fun T hT X => by obtain ⟨cb9, ra9, rb9, rc9⟩ := xb_recv (ci := 8) hR rfl hk1 (by decide); exact xt_invV X hx hown (hts _ m_0e978570) (hts _ m_40099f98) (hts _ m_a7dbfd07) (xt_sigOf (hts _ m_0af1ec6a)) nm_M_next (by rw [hT]; exact ra9) rb9 rc9 (g := F0 m 6 ls [.ref x0]) rfl (argsL := []) (rest := []) rfl rfl (by rw [hb]; exact (xb_d D_M_checkConstant 4 rfl))) (ok_M_next l hfl D A σ x0 h _ hw) (hml.trans hl.1.symm) (by rw [hb]; exact (xb_d D_M_checkConstant 4 rfl)) (Nat.le_of_ble_eq_true rfl) (Nat.le_of_ble_eq_true rfl) (Nat.le_of_ble_eq_true rfl) (show k ≤ MC by omega) (show n ≤ MS by omega) (xt_w1 hB.1 m_0af1ec6a) (xt_cdOf hB.1 m_0af1ec6a) (hts _ m_d5ed7bed) hB hR hS hA (fun vv h3 H locs hq hEh3 hR hS => ?_)
  obtain ⟨r4, rfl, hw⟩ := hq
  have hw := hw hEh3
  have hE := hE.tr hEh3
  refine W.eq (g2 := F0 m 9 ls [.int r4]) rfl ?_
  refine lv_istore hx hb (xb_d D_M_checkConstant 5 rfl) hl (by decide) rfl (fun ls hl => ?_)
  have hl : lv_has ls 11 [(4, .int r4), (3, .int v2), (0, .ref x0), (1, .int x1), (2, .int x2)] := hl
  refine lv_aload_n hx hb (xb_d D_M_checkConstant 6 rfl) rfl (lv_at hl 2 rfl) ?_
  have hk1 : xb_k h3 x0 = 9 := hEh3.k hk1
  refine xb_getI (C := R_M) (T := F_M) (N := 97) hx hb 8 15 hts fin_M hown hR hk1 (by decide) rfl (by decide) rfl (hts _ m_6c2d27ad) (fun _ h9 => h9) (xb_d D_M_checkConstant 7 rfl) ?_
  obtain ⟨v5, ev5⟩ : ∃ x : Int32, x = (xb_i h3 x0 15) := ⟨_, rfl⟩
  have hw := hw v5 ev5
  refine xt_numi (y := v5) ev5.symm ?_
  refine lv_istore hx hb (xb_d D_M_checkConstant 8 rfl) hl (by decide) rfl (fun ls hl => ?_)
  have hl : lv_has ls 11 [(5, .int v5), (4, .int r4), (3, .int v2), (0, .ref x0), (1, .int x1), (2, .int x2)] := hl
  refine lv_iload hx hb (xb_d D_M_checkConstant 9 rfl) (lv_at hl 1 rfl) ?_
  refine lv_bipush (v := 35) hx hb (xb_d D_M_checkConstant 10 rfl) (by decide) ?_
  refine lv_icmp_ne (tgt := 119) hx hb (xb_d D_M_checkConstant 11 rfl) rfl (fun hc6 => ?_) (fun hc6 => ?_)
  · have hw := hw.1 hc6
    refine lv_iload hx hb (xb_d D_M_checkConstant 66 rfl) (lv_at hl 1 rfl) ?_
    refine lv_bipush (v := 65) hx hb (xb_d D_M_checkConstant 67 rfl) (by decide) ?_
    refine lv_icmp_lt (tgt := 166) hx hb (xb_d D_M_checkConstant 68 rfl) rfl (fun hc7 => ?_) (fun hc7 => ?_)
    · have hw := hw.1 hc7
      exact am_M_checkConstant_L166 l hfl D A σ MC MS h0 Qr x0 v2 h3 hw p e s m args below meth c hC H locs ls k n hE (lv_sub hl [3, 2] rfl) hR hS (by omega) (by omega)
    · have hw := hw.2 hc7
      refine lv_iload hx hb (xb_d D_M_checkConstant 69 rfl) (lv_at hl 1 rfl) ?_
      refine lv_bipush (v := 68) hx hb (xb_d D_M_checkConstant 70 rfl) (by decide) ?_
      refine lv_icmp_gt (tgt := 166) hx hb (xb_d D_M_checkConstant 71 rfl) rfl (fun hc8 => ?_) (fun hc8 => ?_)
      · have hw := hw.1 hc8
        exact am_M_checkConstant_L166 l hfl D A σ MC MS h0 Qr x0 v2 h3 hw p e s m args below meth c hC H locs ls k n hE (lv_sub hl [3, 2] rfl) hR hS (by omega) (by omega)
      · have hw := hw.2 hc8
        refine lv_aload_n hx hb (xb_d D_M_checkConstant 72 rfl) rfl (lv_at hl 3 rfl) ?_
        refine lv_iload hx hb (xb_d D_M_checkConstant 73 rfl) (lv_at hl 0 rfl) ?_
        refine xb_putI (C := R_M) (T := F_M) (N := 97) (ty := .int) (x := v5) hx hb 8 15 hts fin_M t_M t_M_ok n_M hown hR hS hk1 (by decide) rfl (by decide) rfl (hts _ m_6c2d27ad) (fun _ h9 => h9) rfl (by decide +kernel) rfl rfl (xb_d D_M_checkConstant 74 rfl) (fun H locs hR hS => ?_)
        obtain ⟨h9, eh9⟩ : ∃ x : xb_H, x = xb_I h3 x0 15 v5 := ⟨_, rfl⟩
        rw [← eh9] at hR
        have hw := hw h9 eh9
        have hE : xb_ext h0 h9 := by rw [eh9]; exact hE
        refine lv_aload_n hx hb (xb_d D_M_checkConstant 75 rfl) rfl (lv_at hl 3 rfl) ?_
        refine lv_iload hx hb (xb_d D_M_checkConstant 76 rfl) (lv_at hl 1 rfl) ?_
        refine lv_iload_n hx hb (xb_d D_M_checkConstant 77 rfl) rfl (lv_at hl 2 rfl) ?_
        have hk1 : xb_k h9 x0 = 9 := by rw [eh9]; exact hk1
        refine xb_call0 (D := D) (A := A) (σ := σ) (h := h9) (d := 6) (maxL := 4) (rest := []) (av := [.ref x0, .int r4, .int v2]) (fun T hT X => by obtain ⟨cb9, ra9, rb9, rc9⟩ := xb_recv (ci := 8) hR rfl hk1 (by decide); exact xt_invV X hx hown (hts _ m_9a2ddc48) (hts _ m_7986a93e) (hts _ m_abba4888) (xt_sigOf (hts _ m_a433953a)) nm_M_written (by rw [hT]; exact ra9) rb9 rc9 (g := F0 m 143 ls [.int v2, .int r4, .ref x0]) rfl (argsL := [.int r4, .int v2]) (rest := []) rfl rfl (by rw [hb]; exact (xb_d D_M_checkConstant 78 rfl))) (ok_M_written l hfl D A σ x0 r4 v2 h9 _ hw) (hml.trans hl.1.symm) (by rw [hb]; exact (xb_d D_M_checkConstant 78 rfl)) (Nat.le_of_ble_eq_true rfl) (Nat.le_of_ble_eq_true rfl) (Nat.le_of_ble_eq_true rfl) (show k ≤ MC by omega) (show n ≤ MS by omega) (xt_w1 hB.1 m_a433953a) (xt_cdOf hB.1 m_a433953a) (hts _ m_d5ed7bed) hB hR hS hA (fun vv h10 H locs hq hEh10 hR hS => ?_)
        obtain ⟨rfl, hw⟩ := hq
        have hw := hw hEh10
        have hE := hE.tr hEh10
        refine W.eq (g2 := F0 m 146 ls []) rfl ?_
        refine lv_iload_n hx hb (xb_d D_M_checkConstant 79 rfl) rfl (lv_at hl 5 rfl) ?_
        refine lv_sipush (v := 192) hx hb (xb_d D_M_checkConstant 80 rfl) (by decide) ?_
        refine lv_iload hx hb (xb_d D_M_checkConstant 81 rfl) (lv_at hl 1 rfl) ?_
        refine lv_isub hx hb (xb_d D_M_checkConstant 82 rfl) ?_
        refine lv_icmp_eq (tgt := 173) hx hb (xb_d D_M_checkConstant 83 rfl) rfl (fun hc12 => ?_) (fun hc12 => ?_)
        · have hw := hw.1 hc12
          exact am_M_checkConstant_L173 l hfl D A σ MC MS h0 Qr x0 h10 hw p e s m args below meth c hC H locs ls k n hE (lv_sub hl [3] rfl) hR hS (by omega) (by omega)
        · have hw := hw.2 hc12
          refine lv_aload_n hx hb (xb_d D_M_checkConstant 84 rfl) rfl (lv_at hl 3 rfl) ?_
          refine lv_bipush (v := 21) hx hb (xb_d D_M_checkConstant 85 rfl) (by decide) ?_
          refine lv_iload_n hx hb (xb_d D_M_checkConstant 86 rfl) rfl (lv_at hl 2 rfl) ?_
          have hk1 : xb_k h10 x0 = 9 := hEh10.k hk1
          refine xb_call0 (D := D) (A := A) (σ := σ) (h := h10) (d := 2) (maxL := 3) (rest := []) (av := [.ref x0, .int 21, .int v2]) (fun T hT X => by obtain ⟨cb9, ra9, rb9, rc9⟩ := xb_recv (ci := 8) hR rfl hk1 (by decide); exact xt_invV X hx hown (hts _ m_939052ad) (hts _ m_29cc8c73) (hts _ m_3b1ac7ab) (xt_sigOf (hts _ m_8f062ecd)) nm_M_fail (by rw [hT]; exact ra9) rb9 rc9 (g := F0 m 160 ls [.int v2, .int 21, .ref x0]) rfl (argsL := [.int 21, .int v2]) (rest := []) rfl rfl (by rw [hb]; exact (xb_d D_M_checkConstant 87 rfl))) (ok_M_fail l hfl D A σ x0 21 v2 h10 _ hw) (hml.trans hl.1.symm) (by rw [hb]; exact (xb_d D_M_checkConstant 87 rfl)) (Nat.le_of_ble_eq_true rfl) (Nat.le_of_ble_eq_true rfl) (Nat.le_of_ble_eq_true rfl) (show k ≤ MC by omega) (show n ≤ MS by omega) (xt_w1 hB.1 m_8f062ecd) (xt_cdOf hB.1 m_8f062ecd) (hts _ m_d5ed7bed) hB hR hS hA (fun vv h13 H locs hq hEh13 hR hS => ?_)
          obtain ⟨rfl, hw⟩ := hq
          have hw := hw hEh13
          have hE := hE.tr hEh13
          refine W.eq (g2 := F0 m 163 ls []) rfl ?_
          refine lv_goto (tgt := 173) hx hb (xb_d D_M_checkConstant 88 rfl) rfl ?_
          exact am_M_checkConstant_L173 l hfl D A σ MC MS h0 Qr x0 h13 hw p e s m args below meth c hC H locs ls k n hE (lv_sub hl [3] rfl) hR hS (by omega) (by omega)
  · have hw := hw.2 hc6
    refine lv_aload_n hx hb (xb_d D_M_checkConstant 12 rfl) rfl (lv_at hl 3 rfl) ?_
    refine xb_call0 (D := D) (A := A) (σ := σ) (h := h3) (d := 4) (maxL := 5) (rest := []) (av := [.ref x0]) (fun T hT X => by obtain ⟨cb9, ra9, rb9, rc9⟩ := xb_recv (ci := 8) hR rfl hk1 (by decide); exact xt_invV X hx hown (hts _ m_e991293f) (hts _ m_385a74b3) (hts _ m_c9fbcd02) (xt_sigOf (hts _ m_1f53f210)) nm_M_count (by rw [hT]; exact ra9) rb9 rc9 (g := F0 m 25 ls [.ref x0]) rfl (argsL := []) (rest := []) rfl rfl (by rw [hb]; exact (xb_d D_M_checkConstant 13 rfl))) (ok_M_count l hfl D A σ x0 h3 _ hw) (hml.trans hl.1.symm) (by rw [hb]; exact (xb_d D_M_checkConstant 13 rfl)) (Nat.le_of_ble_eq_true rfl) (Nat.le_of_ble_eq_true rfl) (Nat.le_of_ble_eq_true rfl) (show k ≤ MC by omega) (show n ≤ MS by omega) (xt_w1 hB.1 m_1f53f210) (xt_cdOf hB.1 m_1f53f210) (hts _ m_d5ed7bed) hB hR hS hA (fun vv h15 H locs hq hEh15 hR hS => ?_)
    obtain ⟨r16, rfl, hw⟩ := hq
    have hw := hw hEh15
    have hE := hE.tr hEh15
    refine W.eq (g2 := F0 m 28 ls [.long r16]) rfl ?_
    refine lv_lstore hx hb (xb_d D_M_checkConstant 14 rfl) hl (by decide) rfl (fun ls hl => ?_)
    have hl : lv_has ls 11 [(6, .long r16), (5, .int v5), (4, .int r4), (3, .int v2), (0, .ref x0), (1, .int x1), (2, .int x2)] := hl
    refine lv_aload_n hx hb (xb_d D_M_checkConstant 15 rfl) rfl (lv_at hl 4 rfl) ?_
    have hk1 : xb_k h15 x0 = 9 := hEh15.k hk1
    refine xb_getI (C := R_M) (T := F_M) (N := 97) hx hb 8 15 hts fin_M hown hR hk1 (by decide) rfl (by decide) rfl (hts _ m_6c2d27ad) (fun _ h9 => h9) (xb_d D_M_checkConstant 16 rfl) ?_
    obtain ⟨v17, ev17⟩ : ∃ x : Int32, x = (xb_i h15 x0 15) := ⟨_, rfl⟩
    have hw := hw v17 ev17
    refine xt_numi (y := v17) ev17.symm ?_
    refine lv_istore hx hb (xb_d D_M_checkConstant 17 rfl) hl (by decide) rfl (fun ls hl => ?_)
    have hl : lv_has ls 11 [(8, .int v17), (6, .long r16), (5, .int v5), (4, .int r4), (3, .int v2), (0, .ref x0), (1, .int x1), (2, .int x2)] := hl
    refine lv_lload hx hb (xb_d D_M_checkConstant 18 rfl) (lv_at hl 1 rfl) ?_
    refine lv_aload_n hx hb (xb_d D_M_checkConstant 19 rfl) rfl (lv_at hl 5 rfl) ?_
    refine xb_getP (C := R_M) (T := F_M) (N := 97) hx hb 8 10 hts fin_M hown hR hk1 (by decide) rfl (by decide) rfl (hts _ m_01d0d957) (fun _ h9 => h9) (xb_d D_M_checkConstant 20 rfl) ?_
    obtain ⟨b18, eb18, hw⟩ := hw
    refine xb_some eb18 ?_
    refine lv_iconst (v := 4) hx hb (xb_d D_M_checkConstant 21 rfl) (by decide) ?_
    refine lv_iload_n hx hb (xb_d D_M_checkConstant 22 rfl) rfl (lv_at hl 6 rfl) ?_
    refine lv_imul hx hb (xb_d D_M_checkConstant 23 rfl) ?_
    refine lv_iconst (v := 3) hx hb (xb_d D_M_checkConstant 24 rfl) (by decide) ?_
    refine lv_iadd hx hb (xb_d D_M_checkConstant 25 rfl) ?_
    obtain ⟨hk20, hw⟩ := hw
    obtain ⟨hi19, hw⟩ := hw
    refine xb_iald hx hb hR hk20 hi19 (xb_d D_M_checkConstant 26 rfl) ?_
    refine lv_i2l hx hb (xb_d D_M_checkConstant 27 rfl) rfl ?_
    refine xb_lc_lt (tgt := 61) hx hb (xb_d D_M_checkConstant 28 rfl) (xb_d D_M_checkConstant 29 rfl) rfl (fun hc21 => ?_) (fun hc21 => ?_)
    · have hw := hw.1 hc21
      refine lv_aload_n hx hb (xb_d D_M_checkConstant 35 rfl) rfl (lv_at hl 5 rfl) ?_
      refine lv_iload_n hx hb (xb_d D_M_checkConstant 36 rfl) rfl (lv_at hl 6 rfl) ?_
      refine lv_lload hx hb (xb_d D_M_checkConstant 37 rfl) (lv_at hl 1 rfl) ?_
      refine lv_l2i hx hb (xb_d D_M_checkConstant 38 rfl) rfl ?_
      refine xb_call0 (D := D) (A := A) (σ := σ) (h := h15) (d := 9) (maxL := 3) (rest := []) (av := [.ref x0, .int x1, .int (Int64.toInt32 r16)]) (fun T hT X => by obtain ⟨cb9, ra9, rb9, rc9⟩ := xb_recv (ci := 8) hR rfl hk1 (by decide); exact xt_invV X hx hown (hts _ m_40324d32) (hts _ m_58244a27) (hts _ m_041bc6eb) (xt_sigOf (hts _ m_a97ef8c2)) nm_M_changes (by rw [hT]; exact ra9) rb9 rc9 (g := F0 m 66 ls [.int (Int64.toInt32 r16), .int x1, .ref x0]) rfl (argsL := [.int x1, .int (Int64.toInt32 r16)]) (rest := []) rfl rfl (by rw [hb]; exact (xb_d D_M_checkConstant 39 rfl))) (ok_M_changes l hfl D A σ x0 x1 (Int64.toInt32 r16) h15 _ hw) (hml.trans hl.1.symm) (by rw [hb]; exact (xb_d D_M_checkConstant 39 rfl)) (Nat.le_of_ble_eq_true rfl) (Nat.le_of_ble_eq_true rfl) (Nat.le_of_ble_eq_true rfl) (show k ≤ MC by omega) (show n ≤ MS by omega) (xt_w1 hB.1 m_a97ef8c2) (xt_cdOf hB.1 m_a97ef8c2) (hts _ m_d5ed7bed) hB hR hS hA (fun vv h22 H locs hq hEh22 hR hS => ?_)
      obtain ⟨r23, rfl, hw⟩ := hq
      have hw := hw hEh22
      have hE := hE.tr hEh22
      refine W.eq (g2 := F0 m 69 ls [.int r23]) rfl ?_
      refine lv_istore hx hb (xb_d D_M_checkConstant 40 rfl) hl (by decide) rfl (fun ls hl => ?_)
      have hl : lv_has ls 11 [(9, .int r23), (8, .int v17), (6, .long r16), (5, .int v5), (4, .int r4), (3, .int v2), (0, .ref x0), (1, .int x1), (2, .int x2)] := hl
      refine lv_aload_n hx hb (xb_d D_M_checkConstant 41 rfl) rfl (lv_at hl 6 rfl) ?_
      refine lv_iload_n hx hb (xb_d D_M_checkConstant 42 rfl) rfl (lv_at hl 7 rfl) ?_
      refine lv_lload hx hb (xb_d D_M_checkConstant 43 rfl) (lv_at hl 2 rfl) ?_
      refine lv_l2i hx hb (xb_d D_M_checkConstant 44 rfl) rfl ?_
      have hk1 : xb_k h22 x0 = 9 := hEh22.k hk1
      refine xb_call0 (D := D) (A := A) (σ := σ) (h := h22) (d := 8) (maxL := 4) (rest := []) (av := [.ref x0, .int x1, .int (Int64.toInt32 r16)]) (fun T hT X => by obtain ⟨cb9, ra9, rb9, rc9⟩ := xb_recv (ci := 8) hR rfl hk1 (by decide); exact xt_invV X hx hown (hts _ m_2c44277c) (hts _ m_c17c7356) (hts _ m_60ae6cf3) (xt_sigOf (hts _ m_f93068de)) nm_M_variableTypeOf (by rw [hT]; exact ra9) rb9 rc9 (g := F0 m 76 ls [.int (Int64.toInt32 r16), .int x1, .ref x0]) rfl (argsL := [.int x1, .int (Int64.toInt32 r16)]) (rest := []) rfl rfl (by rw [hb]; exact (xb_d D_M_checkConstant 45 rfl))) (ok_M_variableTypeOf l hfl D A σ x0 x1 (Int64.toInt32 r16) h22 _ hw) (hml.trans hl.1.symm) (by rw [hb]; exact (xb_d D_M_checkConstant 45 rfl)) (Nat.le_of_ble_eq_true rfl) (Nat.le_of_ble_eq_true rfl) (Nat.le_of_ble_eq_true rfl) (show k ≤ MC by omega) (show n ≤ MS by omega) (xt_w1 hB.1 m_f93068de) (xt_cdOf hB.1 m_f93068de) (hts _ m_d5ed7bed) hB hR hS hA (fun vv h24 H locs hq hEh24 hR hS => ?_)
      obtain ⟨r25, rfl, hw⟩ := hq
      have hw := hw hEh24
      have hE := hE.tr hEh24
      refine W.eq (g2 := F0 m 79 ls [.int r25]) rfl ?_
      refine lv_istore hx hb (xb_d D_M_checkConstant 46 rfl) hl (by decide) rfl (fun ls hl => ?_)
      have hl : lv_has ls 11 [(10, .int r25), (9, .int r23), (8, .int v17), (6, .long r16), (5, .int v5), (4, .int r4), (3, .int v2), (0, .ref x0), (1, .int x1), (2, .int x2)] := hl
      refine lv_aload_n hx hb (xb_d D_M_checkConstant 47 rfl) rfl (lv_at hl 7 rfl) ?_
      refine lv_iload_n hx hb (xb_d D_M_checkConstant 48 rfl) rfl (lv_at hl 8 rfl) ?_
      refine lv_iload hx hb (xb_d D_M_checkConstant 49 rfl) (lv_at hl 2 rfl) ?_
      have hk1 : xb_k h24 x0 = 9 := hEh24.k hk1
      refine xb_call0 (D := D) (A := A) (σ := σ) (h := h24) (d := 2) (maxL := 3) (rest := []) (av := [.ref x0, .int x1, .int v17]) (fun T hT X => by obtain ⟨cb9, ra9, rb9, rc9⟩ := xb_recv (ci := 8) hR rfl hk1 (by decide); exact xt_invV X hx hown (hts _ m_bb531879) (hts _ m_4a6cd4a0) (hts _ m_d1c31e3c) (xt_sigOf (hts _ m_48217fba)) nm_M_go (by rw [hT]; exact ra9) rb9 rc9 (g := F0 m 85 ls [.int v17, .int x1, .ref x0]) rfl (argsL := [.int x1, .int v17]) (rest := []) rfl rfl (by rw [hb]; exact (xb_d D_M_checkConstant 50 rfl))) (ok_M_go l hfl D A σ x0 x1 v17 h24 _ hw) (hml.trans hl.1.symm) (by rw [hb]; exact (xb_d D_M_checkConstant 50 rfl)) (Nat.le_of_ble_eq_true rfl) (Nat.le_of_ble_eq_true rfl) (Nat.le_of_ble_eq_true rfl) (show k ≤ MC by omega) (show n ≤ MS by omega) (xt_w1 hB.1 m_48217fba) (xt_cdOf hB.1 m_48217fba) (hts _ m_d5ed7bed) hB hR hS hA (fun vv h26 H locs hq hEh26 hR hS => ?_)
      obtain ⟨rfl, hw⟩ := hq
      have hw := hw hEh26
      have hE := hE.tr hEh26
      refine W.eq (g2 := F0 m 88 ls []) rfl ?_
      refine lv_iload hx hb (xb_d D_M_checkConstant 51 rfl) (lv_at hl 1 rfl) ?_
      refine lv_if_eq (tgt := 103) hx hb (xb_d D_M_checkConstant 52 rfl) rfl (fun hc28 => ?_) (fun hc28 => ?_)
      · have hw := hw.1 hc28
        refine lv_iload hx hb (xb_d D_M_checkConstant 58 rfl) (lv_at hl 0 rfl) ?_
        refine lv_iload_n hx hb (xb_d D_M_checkConstant 59 rfl) rfl (lv_at hl 9 rfl) ?_
        refine lv_icmp_eq (tgt := 116) hx hb (xb_d D_M_checkConstant 60 rfl) rfl (fun hc29 => ?_) (fun hc29 => ?_)
        · have hw := hw.1 hc29
          exact am_M_checkConstant_L116 l hfl D A σ MC MS h0 Qr x0 h26 hw p e s m args below meth c hC H locs ls k n hE (lv_sub hl [7] rfl) hR hS (by omega) (by omega)
        · have hw := hw.2 hc29
          refine lv_aload_n hx hb (xb_d D_M_checkConstant 61 rfl) rfl (lv_at hl 7 rfl) ?_
          refine lv_bipush (v := 21) hx hb (xb_d D_M_checkConstant 62 rfl) (by decide) ?_
          refine lv_iload_n hx hb (xb_d D_M_checkConstant 63 rfl) rfl (lv_at hl 6 rfl) ?_
          have hk1 : xb_k h26 x0 = 9 := hEh26.k hk1
          refine xb_call0 (D := D) (A := A) (σ := σ) (h := h26) (d := 2) (maxL := 3) (rest := []) (av := [.ref x0, .int 21, .int v2]) (fun T hT X => by obtain ⟨cb9, ra9, rb9, rc9⟩ := xb_recv (ci := 8) hR rfl hk1 (by decide); exact xt_invV X hx hown (hts _ m_939052ad) (hts _ m_29cc8c73) (hts _ m_3b1ac7ab) (xt_sigOf (hts _ m_8f062ecd)) nm_M_fail (by rw [hT]; exact ra9) rb9 rc9 (g := F0 m 113 ls [.int v2, .int 21, .ref x0]) rfl (argsL := [.int 21, .int v2]) (rest := []) rfl rfl (by rw [hb]; exact (xb_d D_M_checkConstant 64 rfl))) (ok_M_fail l hfl D A σ x0 21 v2 h26 _ hw) (hml.trans hl.1.symm) (by rw [hb]; exact (xb_d D_M_checkConstant 64 rfl)) (Nat.le_of_ble_eq_true rfl) (Nat.le_of_ble_eq_true rfl) (Nat.le_of_ble_eq_true rfl) (show k ≤ MC by omega) (show n ≤ MS by omega) (xt_w1 hB.1 m_8f062ecd) (xt_cdOf hB.1 m_8f062ecd) (hts _ m_d5ed7bed) hB hR hS hA (fun vv h30 H locs hq hEh30 hR hS => ?_)
          obtain ⟨rfl, hw⟩ := hq
          have hw := hw hEh30
          have hE := hE.tr hEh30
          refine W.eq (g2 := F0 m 116 ls []) rfl ?_
          exact am_M_checkConstant_L116 l hfl D A σ MC MS h0 Qr x0 h30 hw p e s m args below meth c hC H locs ls k n hE (lv_sub hl [7] rfl) hR hS (by omega) (by omega)
      · have hw := hw.2 hc28
        refine lv_aload_n hx hb (xb_d D_M_checkConstant 53 rfl) rfl (lv_at hl 7 rfl) ?_
        refine lv_bipush (v := 26) hx hb (xb_d D_M_checkConstant 54 rfl) (by decide) ?_
        refine lv_iload_n hx hb (xb_d D_M_checkConstant 55 rfl) rfl (lv_at hl 6 rfl) ?_
        have hk1 : xb_k h26 x0 = 9 := hEh26.k hk1
        refine xb_call0 (D := D) (A := A) (σ := σ) (h := h26) (d := 2) (maxL := 3) (rest := []) (av := [.ref x0, .int 26, .int v2]) (fun T hT X => by obtain ⟨cb9, ra9, rb9, rc9⟩ := xb_recv (ci := 8) hR rfl hk1 (by decide); exact xt_invV X hx hown (hts _ m_939052ad) (hts _ m_29cc8c73) (hts _ m_3b1ac7ab) (xt_sigOf (hts _ m_8f062ecd)) nm_M_fail (by rw [hT]; exact ra9) rb9 rc9 (g := F0 m 97 ls [.int v2, .int 26, .ref x0]) rfl (argsL := [.int 26, .int v2]) (rest := []) rfl rfl (by rw [hb]; exact (xb_d D_M_checkConstant 56 rfl))) (ok_M_fail l hfl D A σ x0 26 v2 h26 _ hw) (hml.trans hl.1.symm) (by rw [hb]; exact (xb_d D_M_checkConstant 56 rfl)) (Nat.le_of_ble_eq_true rfl) (Nat.le_of_ble_eq_true rfl) (Nat.le_of_ble_eq_true rfl) (show k ≤ MC by omega) (show n ≤ MS by omega) (xt_w1 hB.1 m_8f062ecd) (xt_cdOf hB.1 m_8f062ecd) (hts _ m_d5ed7bed) hB hR hS hA (fun vv h32 H locs hq hEh32 hR hS => ?_)
        obtain ⟨rfl, hw⟩ := hq
        have hw := hw hEh32
        have hE := hE.tr hEh32
        refine W.eq (g2 := F0 m 100 ls []) rfl ?_
        refine lv_goto (tgt := 116) hx hb (xb_d D_M_checkConstant 57 rfl) rfl ?_
        exact am_M_checkConstant_L116 l hfl D A σ MC MS h0 Qr x0 h32 hw p e s m args below meth c hC H locs ls k n hE (lv_sub hl [7] rfl) hR hS (by omega) (by omega)
    · have hw := hw.2 hc21
      refine lv_aload_n hx hb (xb_d D_M_checkConstant 30 rfl) rfl (lv_at hl 5 rfl) ?_
      refine lv_bipush (v := 20) hx hb (xb_d D_M_checkConstant 31 rfl) (by decide) ?_
      refine lv_iload_n hx hb (xb_d D_M_checkConstant 32 rfl) rfl (lv_at hl 4 rfl) ?_
      refine xb_call0 (D := D) (A := A) (σ := σ) (h := h15) (d := 2) (maxL := 3) (rest := []) (av := [.ref x0, .int 20, .int v2]) (fun T hT X => by obtain ⟨cb9, ra9, rb9, rc9⟩ := xb_recv (ci := 8) hR rfl hk1 (by decide); exact xt_invV X hx hown (hts _ m_939052ad) (hts _ m_29cc8c73) (hts _ m_3b1ac7ab) (xt_sigOf (hts _ m_8f062ecd)) nm_M_fail (by rw [hT]; exact ra9) rb9 rc9 (g := F0 m 57 ls [.int v2, .int 20, .ref x0]) rfl (argsL := [.int 20, .int v2]) (rest := []) rfl rfl (by rw [hb]; exact (xb_d D_M_checkConstant 33 rfl))) (ok_M_fail l hfl D A σ x0 20 v2 h15 _ hw) (hml.trans hl.1.symm) (by rw [hb]; exact (xb_d D_M_checkConstant 33 rfl)) (Nat.le_of_ble_eq_true rfl) (Nat.le_of_ble_eq_true rfl) (Nat.le_of_ble_eq_true rfl) (show k ≤ MC by omega) (show n ≤ MS by omega) (xt_w1 hB.1 m_8f062ecd) (xt_cdOf hB.1 m_8f062ecd) (hts _ m_d5ed7bed) hB hR hS hA (fun vv h34 H locs hq hEh34 hR hS => ?_)
      obtain ⟨rfl, hw⟩ := hq
      have hw := hw hEh34
      have hE := hE.tr hEh34
      refine W.eq (g2 := F0 m 60 ls []) rfl ?_
      exact xb_vret 0 0 hx hb hr hlocks (show k + 0 ≤ MC by omega) (show n + 0 ≤ MS by omega) hE hR hS (xb_d D_M_checkConstant 34 rfl) hw

set_option maxRecDepth 100000 in
def T_M_checkPlace : List (Nat × Instr × Nat) := [(0, .aload_n 0, 1), (1, .invokevirtual 218, 3), (4, .lstore_n 3, 1), (5, .iload_n 2, 1), (6, .bipush 35, 2), (8, .if_icmp .ge 71, 3), (11, .aload_n 0, 1), (12, .lload_n 3, 1), (13, .aload_n 0, 1), (14, .getfield 412, 3), (17, .i2l, 1), (18, .lcmp, 1), (19, .ifCond .ge 7, 3), (22, .iconst 1, 1), (23, .goto 4, 3), (26, .iconst 0, 1), (27, .bipush 20, 2), (29, .invokevirtual 408, 3), (32, .aload_n 0, 1), (33, .getfield 193, 3), (36, .ifCond .ne 13, 3), (39, .aload_n 0, 1), (40, .getfield 40, 3), (43, .lload_n 3, 1), (44, .l2i, 1), (45, .baload, 1), (46, .goto 5, 3), (49, .bipush 127, 2), (51, .istore 5, 2), (53, .iload_n 2, 1), (54, .bipush 32, 2), (56, .if_icmp .le 10, 3), (59, .aload_n 0, 1), (60, .iload 5, 2), (62, .invokevirtual 402, 3), (65, .pop, 1), (66, .iload_n 2, 1), (67, .bipush 33, 2), (69, .if_icmp .eq 9, 3), (72, .aload_n 0, 1), (73, .iload 5, 2), (75, .invokevirtual 405, 3), (78, .return_, 1), (79, .aload_n 0, 1), (80, .lload_n 3, 1), (81, .aload_n 0, 1), (82, .iload_n 1, 1), (83, .iconst 3, 1), (84, .invokevirtual 362, 3), (87, .lcmp, 1), (88, .ifCond .ge 7, 3), (91, .iconst 1, 1), (92, .goto 4, 3), (95, .iconst 0, 1), (96, .bipush 20, 2), (98, .invokevirtual 408, 3), (101, .aload_n 0, 1), (102, .getfield 193, 3), (105, .ifCond .eq 4, 3), (108, .return_, 1), (109, .aload_n 0, 1), (110, .iload_n 1, 1), (111, .lload_n 3, 1), (112, .l2i, 1), (113, .invokevirtual 358, 3), (116, .istore 5, 2), (118, .aload_n 0, 1), (119, .iload_n 1, 1), (120, .lload_n 3, 1), (121, .l2i, 1), (122, .invokevirtual 342, 3), (125, .istore 6, 2), (127, .iload_n 2, 1), (128, .bipush 35, 2), (130, .if_icmp .ne 12, 3), (133, .aload_n 0, 1), (134, .iload 6, 2), (136, .invokevirtual 405, 3), (139, .goto 18, 3), (142, .aload_n 0, 1), (143, .iload 5, 2), (145, .bipush 23, 2), (147, .invokevirtual 408, 3), (150, .aload_n 0, 1), (151, .iload 6, 2), (153, .invokevirtual 402, 3), (156, .pop, 1), (157, .return_, 1)]
theorem D_M_checkPlace : ∀ q ∈ T_M_checkPlace, decode b_M_checkPlace q.1 = .ok (q.2.1, q.2.2) := by decide +kernel

set_option maxHeartbeats 4000000 in
set_option maxRecDepth 100000 in
theorem am_M_checkPlace_L157 (l : Launch) (hfl : l.flags = pinnedFlags ++ [noTraceFlag]) (D : va_G) (A : Nat → Prop) (σ MC MS : Nat) (h0 : xb_H) (Qr : xb_H → Prop) (h : xb_H) (hw : w_M_checkPlace_L157 Qr h) : xb_am l D A σ 10 MC MS h0 (fun v h _ _ => v = none ∧ Qr h) (fun _ _ _ _ => False) y_M_checkPlace.cls y_M_checkPlace.name b_M_checkPlace 7 ([] : List ExceptionTableEntry) none 157 [] [] h 0 0 := by
  unfold w_M_checkPlace_L157 at hw
  intro p e s m args below meth c hC H locs ls k n hE hl hR hS hk hn
  obtain ⟨hx, hb, hown, hlocks, htab, hml, hr, hB, hA, hnm⟩ := id hC
  have hts := hB.1.1.at args
  exact xb_vret 0 0 hx hb hr hlocks (show k + 0 ≤ MC by omega) (show n + 0 ≤ MS by omega) hE hR hS (xb_d D_M_checkPlace 87 rfl) hw

set_option maxHeartbeats 4000000 in
set_option maxRecDepth 100000 in
theorem am_M_checkPlace_L96 (l : Launch) (hfl : l.flags = pinnedFlags ++ [noTraceFlag]) (D : va_G) (A : Nat → Prop) (σ MC MS : Nat) (h0 : xb_H) (Qr : xb_H → Prop) (x0 : Nat) (x1 : Int32) (x2 : Int32) (x3 : Int64) (y0 : Int32) (y1 : Nat) (h : xb_H) (hw : w_M_checkPlace_L96 Qr x0 x1 x2 x3 y0 y1 h) : xb_am l D A σ 10 MC MS h0 (fun v h _ _ => v = none ∧ Qr h) (fun _ _ _ _ => False) y_M_checkPlace.cls y_M_checkPlace.name b_M_checkPlace 7 ([] : List ExceptionTableEntry) none 96 [(0, .ref x0), (1, .int x1), (2, .int x2), (3, .long x3)] [.int y0, .ref y1] h 0 0 := by
  unfold w_M_checkPlace_L96 at hw
  intro p e s m args below meth c hC H locs ls k n hE hl hR hS hk hn
  obtain ⟨hx, hb, hown, hlocks, htab, hml, hr, hB, hA, hnm⟩ := id hC
  have hts := hB.1.1.at args
  refine lv_bipush (v := 20) hx hb (xb_d D_M_checkPlace 54 rfl) (by decide) ?_
  obtain ⟨hk1, hw⟩ := hw
  refine xb_call0 (D := D) (A := A) (σ := σ) (h := h) (d := 3) (maxL := 3) (rest := []) (av := [.ref y1, .int y0, .int 20]) (fun T hT X => by obtain ⟨cb9, ra9, rb9, rc9⟩ := xb_recv (ci := 8) hR rfl hk1 (by decide); exact xt_invV X hx hown (hts _ m_3b351fe6) (hts _ m_c9ff1909) (hts _ m_4d34701a) (xt_sigOf (hts _ m_c5aab6b8)) nm_M_need (by rw [hT]; exact ra9) rb9 rc9 (g := F0 m 98 ls [.int 20, .int y0, .ref y1]) rfl (argsL := [.int y0, .int 20]) (rest := []) rfl rfl (by rw [hb]; exact (xb_d D_M_checkPlace 55 rfl))) (ok_M_need l hfl D A σ y1 y0 20 h _ hw) (hml.trans hl.1.symm) (by rw [hb]; exact (xb_d D_M_checkPlace 55 rfl)) (Nat.le_of_ble_eq_true rfl) (Nat.le_of_ble_eq_true rfl) (Nat.le_of_ble_eq_true rfl) (show k ≤ MC by omega) (show n ≤ MS by omega) (xt_w1 hB.1 m_c5aab6b8) (xt_cdOf hB.1 m_c5aab6b8) (hts _ m_d5ed7bed) hB hR hS hA (fun vv h2 H locs hq hEh2 hR hS => ?_)
  obtain ⟨rfl, hw⟩ := hq
  have hw := hw hEh2
  have hE := hE.tr hEh2
  refine W.eq (g2 := F0 m 101 ls []) rfl ?_
  refine lv_aload_n hx hb (xb_d D_M_checkPlace 56 rfl) rfl (lv_at hl 0 rfl) ?_
  obtain ⟨hk4, hw⟩ := hw
  refine xb_getI (C := R_M) (T := F_M) (N := 97) hx hb 8 17 hts fin_M hown hR hk4 (by decide) rfl (by decide) rfl (hts _ m_ff69da61) (fun _ h9 => h9) (xb_d D_M_checkPlace 57 rfl) ?_
  refine lv_if_eq (tgt := 109) hx hb (xb_d D_M_checkPlace 58 rfl) rfl (fun hc5 => ?_) (fun hc5 => ?_)
  · have hw := hw.1 hc5
    refine lv_aload_n hx hb (xb_d D_M_checkPlace 60 rfl) rfl (lv_at hl 0 rfl) ?_
    refine lv_iload_n hx hb (xb_d D_M_checkPlace 61 rfl) rfl (lv_at hl 1 rfl) ?_
    refine lv_lload_n hx hb (xb_d D_M_checkPlace 62 rfl) rfl (lv_at hl 3 rfl) ?_
    refine lv_l2i hx hb (xb_d D_M_checkPlace 63 rfl) rfl ?_
    refine xb_call0 (D := D) (A := A) (σ := σ) (h := h2) (d := 9) (maxL := 3) (rest := []) (av := [.ref x0, .int x1, .int (Int64.toInt32 x3)]) (fun T hT X => by obtain ⟨cb9, ra9, rb9, rc9⟩ := xb_recv (ci := 8) hR rfl hk4 (by decide); exact xt_invV X hx hown (hts _ m_40324d32) (hts _ m_58244a27) (hts _ m_041bc6eb) (xt_sigOf (hts _ m_a97ef8c2)) nm_M_changes (by rw [hT]; exact ra9) rb9 rc9 (g := F0 m 113 ls [.int (Int64.toInt32 x3), .int x1, .ref x0]) rfl (argsL := [.int x1, .int (Int64.toInt32 x3)]) (rest := []) rfl rfl (by rw [hb]; exact (xb_d D_M_checkPlace 64 rfl))) (ok_M_changes l hfl D A σ x0 x1 (Int64.toInt32 x3) h2 _ hw) (hml.trans hl.1.symm) (by rw [hb]; exact (xb_d D_M_checkPlace 64 rfl)) (Nat.le_of_ble_eq_true rfl) (Nat.le_of_ble_eq_true rfl) (Nat.le_of_ble_eq_true rfl) (show k ≤ MC by omega) (show n ≤ MS by omega) (xt_w1 hB.1 m_a97ef8c2) (xt_cdOf hB.1 m_a97ef8c2) (hts _ m_d5ed7bed) hB hR hS hA (fun vv h6 H locs hq hEh6 hR hS => ?_)
    obtain ⟨r7, rfl, hw⟩ := hq
    have hw := hw hEh6
    have hE := hE.tr hEh6
    refine W.eq (g2 := F0 m 116 ls [.int r7]) rfl ?_
    refine lv_istore hx hb (xb_d D_M_checkPlace 65 rfl) hl (by decide) rfl (fun ls hl => ?_)
    have hl : lv_has ls 7 [(5, .int r7), (0, .ref x0), (1, .int x1), (2, .int x2), (3, .long x3)] := hl
    refine lv_aload_n hx hb (xb_d D_M_checkPlace 66 rfl) rfl (lv_at hl 1 rfl) ?_
    refine lv_iload_n hx hb (xb_d D_M_checkPlace 67 rfl) rfl (lv_at hl 2 rfl) ?_
    refine lv_lload_n hx hb (xb_d D_M_checkPlace 68 rfl) rfl (lv_at hl 4 rfl) ?_
    refine lv_l2i hx hb (xb_d D_M_checkPlace 69 rfl) rfl ?_
    have hk4 : xb_k h6 x0 = 9 := hEh6.k hk4
    refine xb_call0 (D := D) (A := A) (σ := σ) (h := h6) (d := 8) (maxL := 4) (rest := []) (av := [.ref x0, .int x1, .int (Int64.toInt32 x3)]) (fun T hT X => by obtain ⟨cb9, ra9, rb9, rc9⟩ := xb_recv (ci := 8) hR rfl hk4 (by decide); exact xt_invV X hx hown (hts _ m_2c44277c) (hts _ m_c17c7356) (hts _ m_60ae6cf3) (xt_sigOf (hts _ m_f93068de)) nm_M_variableTypeOf (by rw [hT]; exact ra9) rb9 rc9 (g := F0 m 122 ls [.int (Int64.toInt32 x3), .int x1, .ref x0]) rfl (argsL := [.int x1, .int (Int64.toInt32 x3)]) (rest := []) rfl rfl (by rw [hb]; exact (xb_d D_M_checkPlace 70 rfl))) (ok_M_variableTypeOf l hfl D A σ x0 x1 (Int64.toInt32 x3) h6 _ hw) (hml.trans hl.1.symm) (by rw [hb]; exact (xb_d D_M_checkPlace 70 rfl)) (Nat.le_of_ble_eq_true rfl) (Nat.le_of_ble_eq_true rfl) (Nat.le_of_ble_eq_true rfl) (show k ≤ MC by omega) (show n ≤ MS by omega) (xt_w1 hB.1 m_f93068de) (xt_cdOf hB.1 m_f93068de) (hts _ m_d5ed7bed) hB hR hS hA (fun vv h8 H locs hq hEh8 hR hS => ?_)
    obtain ⟨r9, rfl, hw⟩ := hq
    have hw := hw hEh8
    have hE := hE.tr hEh8
    refine W.eq (g2 := F0 m 125 ls [.int r9]) rfl ?_
    refine lv_istore hx hb (xb_d D_M_checkPlace 71 rfl) hl (by decide) rfl (fun ls hl => ?_)
    have hl : lv_has ls 7 [(6, .int r9), (5, .int r7), (0, .ref x0), (1, .int x1), (2, .int x2), (3, .long x3)] := hl
    refine lv_iload_n hx hb (xb_d D_M_checkPlace 72 rfl) rfl (lv_at hl 4 rfl) ?_
    refine lv_bipush (v := 35) hx hb (xb_d D_M_checkPlace 73 rfl) (by decide) ?_
    refine lv_icmp_ne (tgt := 142) hx hb (xb_d D_M_checkPlace 74 rfl) rfl (fun hc10 => ?_) (fun hc10 => ?_)
    · have hw := hw.1 hc10
      refine lv_aload_n hx hb (xb_d D_M_checkPlace 79 rfl) rfl (lv_at hl 2 rfl) ?_
      refine lv_iload hx hb (xb_d D_M_checkPlace 80 rfl) (lv_at hl 1 rfl) ?_
      refine lv_bipush (v := 23) hx hb (xb_d D_M_checkPlace 81 rfl) (by decide) ?_
      have hk4 : xb_k h8 x0 = 9 := hEh8.k hk4
      refine xb_call0 (D := D) (A := A) (σ := σ) (h := h8) (d := 3) (maxL := 3) (rest := []) (av := [.ref x0, .int r7, .int 23]) (fun T hT X => by obtain ⟨cb9, ra9, rb9, rc9⟩ := xb_recv (ci := 8) hR rfl hk4 (by decide); exact xt_invV X hx hown (hts _ m_3b351fe6) (hts _ m_c9ff1909) (hts _ m_4d34701a) (xt_sigOf (hts _ m_c5aab6b8)) nm_M_need (by rw [hT]; exact ra9) rb9 rc9 (g := F0 m 147 ls [.int 23, .int r7, .ref x0]) rfl (argsL := [.int r7, .int 23]) (rest := []) rfl rfl (by rw [hb]; exact (xb_d D_M_checkPlace 82 rfl))) (ok_M_need l hfl D A σ x0 r7 23 h8 _ hw) (hml.trans hl.1.symm) (by rw [hb]; exact (xb_d D_M_checkPlace 82 rfl)) (Nat.le_of_ble_eq_true rfl) (Nat.le_of_ble_eq_true rfl) (Nat.le_of_ble_eq_true rfl) (show k ≤ MC by omega) (show n ≤ MS by omega) (xt_w1 hB.1 m_c5aab6b8) (xt_cdOf hB.1 m_c5aab6b8) (hts _ m_d5ed7bed) hB hR hS hA (fun vv h11 H locs hq hEh11 hR hS => ?_)
      obtain ⟨rfl, hw⟩ := hq
      have hw := hw hEh11
      have hE := hE.tr hEh11
      refine W.eq (g2 := F0 m 150 ls []) rfl ?_
      refine lv_aload_n hx hb (xb_d D_M_checkPlace 83 rfl) rfl (lv_at hl 2 rfl) ?_
      refine lv_iload hx hb (xb_d D_M_checkPlace 84 rfl) (lv_at hl 0 rfl) ?_
      have hk4 : xb_k h11 x0 = 9 := hEh11.k hk4
      refine xb_call0 (D := D) (A := A) (σ := σ) (h := h11) (d := 3) (maxL := 3) (rest := []) (av := [.ref x0, .int r9]) (fun T hT X => by obtain ⟨cb9, ra9, rb9, rc9⟩ := xb_recv (ci := 8) hR rfl hk4 (by decide); exact xt_invV X hx hown (hts _ m_4290bf91) (hts _ m_641dba55) (hts _ m_286bb193) (xt_sigOf (hts _ m_8ef3c792)) nm_M_take (by rw [hT]; exact ra9) rb9 rc9 (g := F0 m 153 ls [.int r9, .ref x0]) rfl (argsL := [.int r9]) (rest := []) rfl rfl (by rw [hb]; exact (xb_d D_M_checkPlace 85 rfl))) (ok_M_take l hfl D A σ x0 r9 h11 _ hw) (hml.trans hl.1.symm) (by rw [hb]; exact (xb_d D_M_checkPlace 85 rfl)) (Nat.le_of_ble_eq_true rfl) (Nat.le_of_ble_eq_true rfl) (Nat.le_of_ble_eq_true rfl) (show k ≤ MC by omega) (show n ≤ MS by omega) (xt_w1 hB.1 m_8ef3c792) (xt_cdOf hB.1 m_8ef3c792) (hts _ m_d5ed7bed) hB hR hS hA (fun vv h13 H locs hq hEh13 hR hS => ?_)
      obtain ⟨r14, rfl, hw⟩ := hq
      have hw := hw hEh13
      have hE := hE.tr hEh13
      refine W.eq (g2 := F0 m 156 ls [.int r14]) rfl ?_
      refine lv_pop hx hb (xb_d D_M_checkPlace 86 rfl) rfl ?_
      exact am_M_checkPlace_L157 l hfl D A σ MC MS h0 Qr h13 hw p e s m args below meth c hC H locs ls k n hE (lv_sub hl [] rfl) hR hS (by omega) (by omega)
    · have hw := hw.2 hc10
      refine lv_aload_n hx hb (xb_d D_M_checkPlace 75 rfl) rfl (lv_at hl 2 rfl) ?_
      refine lv_iload hx hb (xb_d D_M_checkPlace 76 rfl) (lv_at hl 0 rfl) ?_
      have hk4 : xb_k h8 x0 = 9 := hEh8.k hk4
      refine xb_call0 (D := D) (A := A) (σ := σ) (h := h8) (d := 2) (maxL := 2) (rest := []) (av := [.ref x0, .int r9]) (fun T hT X => by obtain ⟨cb9, ra9, rb9, rc9⟩ := xb_recv (ci := 8) hR rfl hk4 (by decide); exact xt_invV X hx hown (hts _ m_3308f884) (hts _ m_052429f9) (hts _ m_8c0b8095) (xt_sigOf (hts _ m_98c8d9b3)) nm_M_put (by rw [hT]; exact ra9) rb9 rc9 (g := F0 m 136 ls [.int r9, .ref x0]) rfl (argsL := [.int r9]) (rest := []) rfl rfl (by rw [hb]; exact (xb_d D_M_checkPlace 77 rfl))) (ok_M_put l hfl D A σ x0 r9 h8 _ hw) (hml.trans hl.1.symm) (by rw [hb]; exact (xb_d D_M_checkPlace 77 rfl)) (Nat.le_of_ble_eq_true rfl) (Nat.le_of_ble_eq_true rfl) (Nat.le_of_ble_eq_true rfl) (show k ≤ MC by omega) (show n ≤ MS by omega) (xt_w1 hB.1 m_98c8d9b3) (xt_cdOf hB.1 m_98c8d9b3) (hts _ m_d5ed7bed) hB hR hS hA (fun vv h15 H locs hq hEh15 hR hS => ?_)
      obtain ⟨rfl, hw⟩ := hq
      have hw := hw hEh15
      have hE := hE.tr hEh15
      refine W.eq (g2 := F0 m 139 ls []) rfl ?_
      refine lv_goto (tgt := 157) hx hb (xb_d D_M_checkPlace 78 rfl) rfl ?_
      exact am_M_checkPlace_L157 l hfl D A σ MC MS h0 Qr h15 hw p e s m args below meth c hC H locs ls k n hE (lv_sub hl [] rfl) hR hS (by omega) (by omega)
  · have hw := hw.2 hc5
    exact xb_vret 0 0 hx hb hr hlocks (show k + 0 ≤ MC by omega) (show n + 0 ≤ MS by omega) hE hR hS (xb_d D_M_checkPlace 59 rfl) hw

set_option maxHeartbeats 4000000 in
set_option maxRecDepth 100000 in
theorem am_M_checkPlace_L78 (l : Launch) (hfl : l.flags = pinnedFlags ++ [noTraceFlag]) (D : va_G) (A : Nat → Prop) (σ MC MS : Nat) (h0 : xb_H) (Qr : xb_H → Prop) (h : xb_H) (hw : w_M_checkPlace_L78 Qr h) : xb_am l D A σ 10 MC MS h0 (fun v h _ _ => v = none ∧ Qr h) (fun _ _ _ _ => False) y_M_checkPlace.cls y_M_checkPlace.name b_M_checkPlace 7 ([] : List ExceptionTableEntry) none 78 [] [] h 0 0 := by
  unfold w_M_checkPlace_L78 at hw
  intro p e s m args below meth c hC H locs ls k n hE hl hR hS hk hn
  obtain ⟨hx, hb, hown, hlocks, htab, hml, hr, hB, hA, hnm⟩ := id hC
  have hts := hB.1.1.at args
  exact xb_vret 0 0 hx hb hr hlocks (show k + 0 ≤ MC by omega) (show n + 0 ≤ MS by omega) hE hR hS (xb_d D_M_checkPlace 42 rfl) hw

set_option maxHeartbeats 4000000 in
set_option maxRecDepth 100000 in
theorem am_M_checkPlace_L66 (l : Launch) (hfl : l.flags = pinnedFlags ++ [noTraceFlag]) (D : va_G) (A : Nat → Prop) (σ MC MS : Nat) (h0 : xb_H) (Qr : xb_H → Prop) (x0 : Nat) (x2 : Int32) (x5 : Int32) (h : xb_H) (hw : w_M_checkPlace_L66 Qr x0 x2 x5 h) : xb_am l D A σ 10 MC MS h0 (fun v h _ _ => v = none ∧ Qr h) (fun _ _ _ _ => False) y_M_checkPlace.cls y_M_checkPlace.name b_M_checkPlace 7 ([] : List ExceptionTableEntry) none 66 [(0, .ref x0), (2, .int x2), (5, .int x5)] [] h 0 0 := by
  unfold w_M_checkPlace_L66 at hw
  intro p e s m args below meth c hC H locs ls k n hE hl hR hS hk hn
  obtain ⟨hx, hb, hown, hlocks, htab, hml, hr, hB, hA, hnm⟩ := id hC
  have hts := hB.1.1.at args
  refine lv_iload_n hx hb (xb_d D_M_checkPlace 36 rfl) rfl (lv_at hl 1 rfl) ?_
  refine lv_bipush (v := 33) hx hb (xb_d D_M_checkPlace 37 rfl) (by decide) ?_
  refine lv_icmp_eq (tgt := 78) hx hb (xb_d D_M_checkPlace 38 rfl) rfl (fun hc1 => ?_) (fun hc1 => ?_)
  · have hw := hw.1 hc1
    exact am_M_checkPlace_L78 l hfl D A σ MC MS h0 Qr h hw p e s m args below meth c hC H locs ls k n hE (lv_sub hl [] rfl) hR hS (by omega) (by omega)
  · have hw := hw.2 hc1
    refine lv_aload_n hx hb (xb_d D_M_checkPlace 39 rfl) rfl (lv_at hl 0 rfl) ?_
    refine lv_iload hx hb (xb_d D_M_checkPlace 40 rfl) (lv_at hl 2 rfl) ?_
    obtain ⟨hk2, hw⟩ := hw
    refine xb_call0 (D := D) (A := A) (σ := σ) (h := h) (d := 2) (maxL := 2) (rest := []) (av := [.ref x0, .int x5]) (fun T hT X => by obtain ⟨cb9, ra9, rb9, rc9⟩ := xb_recv (ci := 8) hR rfl hk2 (by decide); exact xt_invV X hx hown (hts _ m_3308f884) (hts _ m_052429f9) (hts _ m_8c0b8095) (xt_sigOf (hts _ m_98c8d9b3)) nm_M_put (by rw [hT]; exact ra9) rb9 rc9 (g := F0 m 75 ls [.int x5, .ref x0]) rfl (argsL := [.int x5]) (rest := []) rfl rfl (by rw [hb]; exact (xb_d D_M_checkPlace 41 rfl))) (ok_M_put l hfl D A σ x0 x5 h _ hw) (hml.trans hl.1.symm) (by rw [hb]; exact (xb_d D_M_checkPlace 41 rfl)) (Nat.le_of_ble_eq_true rfl) (Nat.le_of_ble_eq_true rfl) (Nat.le_of_ble_eq_true rfl) (show k ≤ MC by omega) (show n ≤ MS by omega) (xt_w1 hB.1 m_98c8d9b3) (xt_cdOf hB.1 m_98c8d9b3) (hts _ m_d5ed7bed) hB hR hS hA (fun vv h3 H locs hq hEh3 hR hS => ?_)
    obtain ⟨rfl, hw⟩ := hq
    have hw := hw hEh3
    have hE := hE.tr hEh3
    refine W.eq (g2 := F0 m 78 ls []) rfl ?_
    exact am_M_checkPlace_L78 l hfl D A σ MC MS h0 Qr h3 hw p e s m args below meth c hC H locs ls k n hE (lv_sub hl [] rfl) hR hS (by omega) (by omega)

set_option maxHeartbeats 4000000 in
set_option maxRecDepth 100000 in
theorem am_M_checkPlace_L51 (l : Launch) (hfl : l.flags = pinnedFlags ++ [noTraceFlag]) (D : va_G) (A : Nat → Prop) (σ MC MS : Nat) (h0 : xb_H) (Qr : xb_H → Prop) (x0 : Nat) (x2 : Int32) (y0 : Int32) (h : xb_H) (hw : w_M_checkPlace_L51 Qr x0 x2 y0 h) : xb_am l D A σ 10 MC MS h0 (fun v h _ _ => v = none ∧ Qr h) (fun _ _ _ _ => False) y_M_checkPlace.cls y_M_checkPlace.name b_M_checkPlace 7 ([] : List ExceptionTableEntry) none 51 [(0, .ref x0), (2, .int x2)] [.int y0] h 0 0 := by
  unfold w_M_checkPlace_L51 at hw
  intro p e s m args below meth c hC H locs ls k n hE hl hR hS hk hn
  obtain ⟨hx, hb, hown, hlocks, htab, hml, hr, hB, hA, hnm⟩ := id hC
  have hts := hB.1.1.at args
  refine lv_istore hx hb (xb_d D_M_checkPlace 28 rfl) hl (by decide) rfl (fun ls hl => ?_)
  have hl : lv_has ls 7 [(5, .int y0), (0, .ref x0), (2, .int x2)] := hl
  refine lv_iload_n hx hb (xb_d D_M_checkPlace 29 rfl) rfl (lv_at hl 2 rfl) ?_
  refine lv_bipush (v := 32) hx hb (xb_d D_M_checkPlace 30 rfl) (by decide) ?_
  refine lv_icmp_le (tgt := 66) hx hb (xb_d D_M_checkPlace 31 rfl) rfl (fun hc1 => ?_) (fun hc1 => ?_)
  · have hw := hw.1 hc1
    exact am_M_checkPlace_L66 l hfl D A σ MC MS h0 Qr x0 x2 y0 h hw p e s m args below meth c hC H locs ls k n hE (lv_sub hl [1, 2, 0] rfl) hR hS (by omega) (by omega)
  · have hw := hw.2 hc1
    refine lv_aload_n hx hb (xb_d D_M_checkPlace 32 rfl) rfl (lv_at hl 1 rfl) ?_
    refine lv_iload hx hb (xb_d D_M_checkPlace 33 rfl) (lv_at hl 0 rfl) ?_
    obtain ⟨hk2, hw⟩ := hw
    refine xb_call0 (D := D) (A := A) (σ := σ) (h := h) (d := 3) (maxL := 3) (rest := []) (av := [.ref x0, .int y0]) (fun T hT X => by obtain ⟨cb9, ra9, rb9, rc9⟩ := xb_recv (ci := 8) hR rfl hk2 (by decide); exact xt_invV X hx hown (hts _ m_4290bf91) (hts _ m_641dba55) (hts _ m_286bb193) (xt_sigOf (hts _ m_8ef3c792)) nm_M_take (by rw [hT]; exact ra9) rb9 rc9 (g := F0 m 62 ls [.int y0, .ref x0]) rfl (argsL := [.int y0]) (rest := []) rfl rfl (by rw [hb]; exact (xb_d D_M_checkPlace 34 rfl))) (ok_M_take l hfl D A σ x0 y0 h _ hw) (hml.trans hl.1.symm) (by rw [hb]; exact (xb_d D_M_checkPlace 34 rfl)) (Nat.le_of_ble_eq_true rfl) (Nat.le_of_ble_eq_true rfl) (Nat.le_of_ble_eq_true rfl) (show k ≤ MC by omega) (show n ≤ MS by omega) (xt_w1 hB.1 m_8ef3c792) (xt_cdOf hB.1 m_8ef3c792) (hts _ m_d5ed7bed) hB hR hS hA (fun vv h3 H locs hq hEh3 hR hS => ?_)
    obtain ⟨r4, rfl, hw⟩ := hq
    have hw := hw hEh3
    have hE := hE.tr hEh3
    refine W.eq (g2 := F0 m 65 ls [.int r4]) rfl ?_
    refine lv_pop hx hb (xb_d D_M_checkPlace 35 rfl) rfl ?_
    exact am_M_checkPlace_L66 l hfl D A σ MC MS h0 Qr x0 x2 y0 h3 hw p e s m args below meth c hC H locs ls k n hE (lv_sub hl [1, 2, 0] rfl) hR hS (by omega) (by omega)

set_option maxHeartbeats 4000000 in
set_option maxRecDepth 100000 in
theorem am_M_checkPlace_L27 (l : Launch) (hfl : l.flags = pinnedFlags ++ [noTraceFlag]) (D : va_G) (A : Nat → Prop) (σ MC MS : Nat) (h0 : xb_H) (Qr : xb_H → Prop) (x0 : Nat) (x2 : Int32) (x3 : Int64) (y0 : Int32) (y1 : Nat) (h : xb_H) (hw : w_M_checkPlace_L27 Qr x0 x2 x3 y0 y1 h) : xb_am l D A σ 10 MC MS h0 (fun v h _ _ => v = none ∧ Qr h) (fun _ _ _ _ => False) y_M_checkPlace.cls y_M_checkPlace.name b_M_checkPlace 7 ([] : List ExceptionTableEntry) none 27 [(0, .ref x0), (2, .int x2), (3, .long x3)] [.int y0, .ref y1] h 0 0 := by
  unfold w_M_checkPlace_L27 at hw
  intro p e s m args below meth c hC H locs ls k n hE hl hR hS hk hn
  obtain ⟨hx, hb, hown, hlocks, htab, hml, hr, hB, hA, hnm⟩ := id hC
  have hts := hB.1.1.at args
  refine lv_bipush (v := 20) hx hb (xb_d D_M_checkPlace 16 rfl) (by decide) ?_
  obtain ⟨hk1, hw⟩ := hw
  refine xb_call0 (D := D) (A := A) (σ := σ) (h := h) (d := 3) (maxL := 3) (rest := []) (av := [.ref y1, .int y0, .int 20]) (fun T hT X => by obtain ⟨cb9, ra9, rb9, rc9⟩ := xb_recv (ci := 8) hR rfl hk1 (by decide); exact xt_invV X hx hown (hts _ m_3b351fe6) (hts _ m_c9ff1909) (hts _ m_4d34701a) (xt_sigOf (hts _ m_c5aab6b8)) nm_M_need (by rw [hT]; exact ra9) rb9 rc9 (g := F0 m 29 ls [.int 20, .int y0, .ref y1]) rfl (argsL := [.int y0, .int 20]) (rest := []) rfl rfl (by rw [hb]; exact (xb_d D_M_checkPlace 17 rfl))) (ok_M_need l hfl D A σ y1 y0 20 h _ hw) (hml.trans hl.1.symm) (by rw [hb]; exact (xb_d D_M_checkPlace 17 rfl)) (Nat.le_of_ble_eq_true rfl) (Nat.le_of_ble_eq_true rfl) (Nat.le_of_ble_eq_true rfl) (show k ≤ MC by omega) (show n ≤ MS by omega) (xt_w1 hB.1 m_c5aab6b8) (xt_cdOf hB.1 m_c5aab6b8) (hts _ m_d5ed7bed) hB hR hS hA (fun vv h2 H locs hq hEh2 hR hS => ?_)
  obtain ⟨rfl, hw⟩ := hq
  have hw := hw hEh2
  have hE := hE.tr hEh2
  refine W.eq (g2 := F0 m 32 ls []) rfl ?_
  refine lv_aload_n hx hb (xb_d D_M_checkPlace 18 rfl) rfl (lv_at hl 0 rfl) ?_
  obtain ⟨hk4, hw⟩ := hw
  refine xb_getI (C := R_M) (T := F_M) (N := 97) hx hb 8 17 hts fin_M hown hR hk4 (by decide) rfl (by decide) rfl (hts _ m_ff69da61) (fun _ h9 => h9) (xb_d D_M_checkPlace 19 rfl) ?_
  refine lv_if_ne (tgt := 49) hx hb (xb_d D_M_checkPlace 20 rfl) rfl (fun hc5 => ?_) (fun hc5 => ?_)
  · have hw := hw.1 hc5
    refine lv_bipush (v := 127) hx hb (xb_d D_M_checkPlace 27 rfl) (by decide) ?_
    exact am_M_checkPlace_L51 l hfl D A σ MC MS h0 Qr x0 x2 127 h2 hw p e s m args below meth c hC H locs ls k n hE (lv_sub hl [0, 1] rfl) hR hS (by omega) (by omega)
  · have hw := hw.2 hc5
    refine lv_aload_n hx hb (xb_d D_M_checkPlace 21 rfl) rfl (lv_at hl 0 rfl) ?_
    refine xb_getP (C := R_M) (T := F_M) (N := 97) hx hb 8 19 hts fin_M hown hR hk4 (by decide) rfl (by decide) rfl (hts _ m_cede1946) (fun _ h9 => h9) (xb_d D_M_checkPlace 22 rfl) ?_
    obtain ⟨b6, eb6, hw⟩ := hw
    refine xb_some eb6 ?_
    refine lv_lload_n hx hb (xb_d D_M_checkPlace 23 rfl) rfl (lv_at hl 2 rfl) ?_
    refine lv_l2i hx hb (xb_d D_M_checkPlace 24 rfl) rfl ?_
    obtain ⟨hk8, hw⟩ := hw
    obtain ⟨hi7, hw⟩ := hw
    refine xb_bald hx hb hR hk8 hi7 (xb_d D_M_checkPlace 25 rfl) ?_
    refine lv_goto (tgt := 51) hx hb (xb_d D_M_checkPlace 26 rfl) rfl ?_
    exact am_M_checkPlace_L51 l hfl D A σ MC MS h0 Qr x0 x2 (xb_i h2 b6 (Int32.toNatClampNeg (Int64.toInt32 x3))) h2 hw p e s m args below meth c hC H locs ls k n hE (lv_sub hl [0, 1] rfl) hR hS (by omega) (by omega)

set_option maxHeartbeats 4000000 in
set_option maxRecDepth 100000 in
theorem ok_M_checkPlace (l : Launch) (hfl : l.flags = pinnedFlags ++ [noTraceFlag]) (D : va_G) (A : Nat → Prop) (σ : Nat) (x0 : Nat) (x1 : Int32) (x2 : Int32) (h : xb_H) (Qr : xb_H → Prop) (hw : w_M_checkPlace x0 x1 x2 h Qr) : xb_Met l y_M_checkPlace [.code y_M_checkPlace b_M_checkPlace 7 none] (xb_rm 10 0 0) (xb_Pc D A σ h [.ref x0, .int x1, .int x2]) (xb_Qc D A h 0 0 (fun v h _ _ => v = none ∧ Qr h) (fun _ _ _ _ => False)) A := by
  refine xb_ofAm (cc := b_M_checkPlace) (by decide) (Nat.le_of_ble_eq_true rfl) ?_
  unfold w_M_checkPlace at hw
  show xb_am l D A σ 10 0 0 h (fun v h _ _ => v = none ∧ Qr h) (fun _ _ _ _ => False) y_M_checkPlace.cls y_M_checkPlace.name b_M_checkPlace 7 ([] : List ExceptionTableEntry) none 0 [(0, .ref x0), (1, .int x1), (2, .int x2)] [] h 0 0
  obtain ⟨MC, hMC⟩ : ∃ x, x = 0 := ⟨_, rfl⟩
  obtain ⟨MS, hMS⟩ : ∃ x, x = 0 := ⟨_, rfl⟩
  rw [show xb_am l D A σ 10 0 0 = xb_am l D A σ 10 MC MS by rw [hMC, hMS]]
  obtain ⟨h0, hh0⟩ : ∃ x, x = h := ⟨_, rfl⟩
  rw [show xb_am l D A σ 10 MC MS h = xb_am l D A σ 10 MC MS h0 by rw [hh0]]
  intro p e s m args below meth c hC H locs ls k n hE hl hR hS hk hn
  obtain ⟨hx, hb, hown, hlocks, htab, hml, hr, hB, hA, hnm⟩ := id hC
  have hts := hB.1.1.at args
  refine lv_aload_n hx hb (xb_d D_M_checkPlace 0 rfl) rfl (lv_at hl 0 rfl) ?_
  obtain ⟨hk1, hw⟩ := hw
  refine xb_call0 (D := D) (A := A) (σ := σ) (h := h) (d := 4) (maxL := 5) (rest := []) (av := [.ref x0]) (fun T hT X => by obtain ⟨cb9, ra9, rb9, rc9⟩ := xb_recv (ci := 8) hR rfl hk1 (by decide); exact xt_invV X hx hown (hts _ m_e991293f) (hts _ m_385a74b3) (hts _ m_c9fbcd02) (xt_sigOf (hts _ m_1f53f210)) nm_M_count (by rw [hT]; exact ra9) rb9 rc9 (g := F0 m 1 ls [.ref x0]) rfl (argsL := []) (rest := []) rfl rfl (by rw [hb]; exact (xb_d D_M_checkPlace 1 rfl))) (ok_M_count l hfl D A σ x0 h _ hw) (hml.trans hl.1.symm) (by rw [hb]; exact (xb_d D_M_checkPlace 1 rfl)) (Nat.le_of_ble_eq_true rfl) (Nat.le_of_ble_eq_true rfl) (Nat.le_of_ble_eq_true rfl) (show k ≤ MC by omega) (show n ≤ MS by omega) (xt_w1 hB.1 m_1f53f210) (xt_cdOf hB.1 m_1f53f210) (hts _ m_d5ed7bed) hB hR hS hA (fun vv h2 H locs hq hEh2 hR hS => ?_)
  obtain ⟨r3, rfl, hw⟩ := hq
  have hw := hw hEh2
  have hE := hE.tr hEh2
  refine W.eq (g2 := F0 m 4 ls [.long r3]) rfl ?_
  refine lv_lstore_n hx hb (xb_d D_M_checkPlace 2 rfl) rfl hl (by decide) rfl (fun ls hl => ?_)
  have hl : lv_has ls 7 [(3, .long r3), (0, .ref x0), (1, .int x1), (2, .int x2)] := hl
  refine lv_iload_n hx hb (xb_d D_M_checkPlace 3 rfl) rfl (lv_at hl 3 rfl) ?_
  refine lv_bipush (v := 35) hx hb (xb_d D_M_checkPlace 4 rfl) (by decide) ?_
  refine lv_icmp_ge (tgt := 79) hx hb (xb_d D_M_checkPlace 5 rfl) rfl (fun hc4 => ?_) (fun hc4 => ?_)
  · have hw := hw.1 hc4
    refine lv_aload_n hx hb (xb_d D_M_checkPlace 43 rfl) rfl (lv_at hl 1 rfl) ?_
    refine lv_lload_n hx hb (xb_d D_M_checkPlace 44 rfl) rfl (lv_at hl 0 rfl) ?_
    refine lv_aload_n hx hb (xb_d D_M_checkPlace 45 rfl) rfl (lv_at hl 1 rfl) ?_
    refine lv_iload_n hx hb (xb_d D_M_checkPlace 46 rfl) rfl (lv_at hl 2 rfl) ?_
    refine lv_iconst (v := 3) hx hb (xb_d D_M_checkPlace 47 rfl) (by decide) ?_
    have hk1 : xb_k h2 x0 = 9 := hEh2.k hk1
    refine xb_call0 (D := D) (A := A) (σ := σ) (h := h2) (d := 3) (maxL := 3) (rest := [.long r3, .ref x0]) (av := [.ref x0, .int x1, .int 3]) (fun T hT X => by obtain ⟨cb9, ra9, rb9, rc9⟩ := xb_recv (ci := 8) hR rfl hk1 (by decide); exact xt_invV X hx hown (hts _ m_940fb65e) (hts _ m_342c0f16) (hts _ m_c0324d76) (xt_sigOf (hts _ m_feaaa075)) nm_M_total (by rw [hT]; exact ra9) rb9 rc9 (g := F0 m 84 ls [.int 3, .int x1, .ref x0, .long r3, .ref x0]) rfl (argsL := [.int x1, .int 3]) (rest := [.long r3, .ref x0]) rfl rfl (by rw [hb]; exact (xb_d D_M_checkPlace 48 rfl))) (ok_M_total l hfl D A σ x0 x1 3 h2 _ hw) (hml.trans hl.1.symm) (by rw [hb]; exact (xb_d D_M_checkPlace 48 rfl)) (Nat.le_of_ble_eq_true rfl) (Nat.le_of_ble_eq_true rfl) (Nat.le_of_ble_eq_true rfl) (show k ≤ MC by omega) (show n ≤ MS by omega) (xt_w1 hB.1 m_feaaa075) (xt_cdOf hB.1 m_feaaa075) (hts _ m_d5ed7bed) hB hR hS hA (fun vv h5 H locs hq hEh5 hR hS => ?_)
    obtain ⟨r6, rfl, hw⟩ := hq
    have hw := hw hEh5
    have hE := hE.tr hEh5
    refine W.eq (g2 := F0 m 87 ls [.long r6, .long r3, .ref x0]) rfl ?_
    refine xb_lc_ge (tgt := 95) hx hb (xb_d D_M_checkPlace 49 rfl) (xb_d D_M_checkPlace 50 rfl) rfl (fun hc7 => ?_) (fun hc7 => ?_)
    · have hw := hw.1 hc7
      refine lv_iconst (v := 0) hx hb (xb_d D_M_checkPlace 53 rfl) (by decide) ?_
      exact am_M_checkPlace_L96 l hfl D A σ MC MS h0 Qr x0 x1 x2 r3 0 x0 h5 hw p e s m args below meth c hC H locs ls k n hE (lv_sub hl [1, 2, 3, 0] rfl) hR hS (by omega) (by omega)
    · have hw := hw.2 hc7
      refine lv_iconst (v := 1) hx hb (xb_d D_M_checkPlace 51 rfl) (by decide) ?_
      refine lv_goto (tgt := 96) hx hb (xb_d D_M_checkPlace 52 rfl) rfl ?_
      exact am_M_checkPlace_L96 l hfl D A σ MC MS h0 Qr x0 x1 x2 r3 1 x0 h5 hw p e s m args below meth c hC H locs ls k n hE (lv_sub hl [1, 2, 3, 0] rfl) hR hS (by omega) (by omega)
  · have hw := hw.2 hc4
    refine lv_aload_n hx hb (xb_d D_M_checkPlace 6 rfl) rfl (lv_at hl 1 rfl) ?_
    refine lv_lload_n hx hb (xb_d D_M_checkPlace 7 rfl) rfl (lv_at hl 0 rfl) ?_
    refine lv_aload_n hx hb (xb_d D_M_checkPlace 8 rfl) rfl (lv_at hl 1 rfl) ?_
    have hk1 : xb_k h2 x0 = 9 := hEh2.k hk1
    refine xb_getI (C := R_M) (T := F_M) (N := 97) hx hb 8 20 hts fin_M hown hR hk1 (by decide) rfl (by decide) rfl (hts _ m_160f9bc8) (fun _ h9 => h9) (xb_d D_M_checkPlace 9 rfl) ?_
    refine lv_i2l hx hb (xb_d D_M_checkPlace 10 rfl) rfl ?_
    refine xb_lc_ge (tgt := 26) hx hb (xb_d D_M_checkPlace 11 rfl) (xb_d D_M_checkPlace 12 rfl) rfl (fun hc8 => ?_) (fun hc8 => ?_)
    · have hw := hw.1 hc8
      refine lv_iconst (v := 0) hx hb (xb_d D_M_checkPlace 15 rfl) (by decide) ?_
      exact am_M_checkPlace_L27 l hfl D A σ MC MS h0 Qr x0 x2 r3 0 x0 h2 hw p e s m args below meth c hC H locs ls k n hE (lv_sub hl [1, 3, 0] rfl) hR hS (by omega) (by omega)
    · have hw := hw.2 hc8
      refine lv_iconst (v := 1) hx hb (xb_d D_M_checkPlace 13 rfl) (by decide) ?_
      refine lv_goto (tgt := 27) hx hb (xb_d D_M_checkPlace 14 rfl) rfl ?_
      exact am_M_checkPlace_L27 l hfl D A σ MC MS h0 Qr x0 x2 r3 1 x0 h2 hw p e s m args below meth c hC H locs ls k n hE (lv_sub hl [1, 3, 0] rfl) hR hS (by omega) (by omega)

theorem m_4c124df6 : (.constant "StackHostModel" 706 2147418112 : Cond) ∈ xt_tbl := xt_in (xt_t13 (List.mem_of_getElem? (i := 206) (by decide +kernel))) (by decide +kernel)
theorem m_392cec72 : (.methodLink "StackHostModel" 522 y_M_only : Cond) ∈ xt_tbl := xt_in (xt_t12 (List.mem_of_getElem? (i := 97) (by decide +kernel))) (by decide +kernel)
theorem m_982c4770 : (.instanceMethod y_M_only : Cond) ∈ xt_tbl := xt_in (xt_t12 (List.mem_of_getElem? (i := 99) (by decide +kernel))) (by decide +kernel)
theorem m_e18e99cc : (.selects "StackHostModel" y_M_only y_M_only : Cond) ∈ xt_tbl := xt_in (xt_v14 (q := (⟨"StackHostModel", "only", "(II)I"⟩, 97)) (List.mem_of_getElem? (i := 0) (by decide +kernel))) (by decide +kernel)
theorem m_3f9e55aa : (.code y_M_only b_M_only 3 (some .int) : Cond) ∈ xt_tbl := xt_in (xt_t12 (List.mem_of_getElem? (i := 100) (by decide +kernel))) (by decide +kernel)
theorem nm_M_only : xt_nm y_M_only 2 := ⟨by decide +kernel, by decide +kernel⟩
set_option maxRecDepth 100000 in
def T_M_element : List (Nat × Instr × Nat) := [(0, .aload_n 0, 1), (1, .iload_n 1, 1), (2, .invokevirtual 592, 3), (5, .ifCond .eq 12, 3), (8, .aload_n 0, 1), (9, .iload_n 1, 1), (10, .iconst 1, 1), (11, .invokevirtual 522, 3), (14, .goto 4, 3), (17, .iconst (-1), 1), (18, .istore_n 3, 1), (19, .aload_n 0, 1), (20, .iload_n 3, 1), (21, .ifCond .lt 21, 3), (24, .iload_n 2, 1), (25, .ifCond .lt 17, 3), (28, .iload_n 2, 1), (29, .aload_n 0, 1), (30, .getfield 101, 3), (33, .iload_n 3, 1), (34, .iaload, 1), (35, .if_icmp .ge 7, 3), (38, .iconst 0, 1), (39, .goto 4, 3), (42, .iconst 1, 1), (43, .putfield 189, 3), (46, .aload_n 0, 1), (47, .getfield 189, 3), (50, .ifCond .le 5, 3), (53, .iconst 0, 1), (54, .ireturn, 1), (55, .aload_n 0, 1), (56, .getfield 108, 3), (59, .aload_n 0, 1), (60, .getfield 98, 3), (63, .iload_n 3, 1), (64, .iaload, 1), (65, .iload_n 2, 1), (66, .iadd, 1), (67, .iaload, 1), (68, .iconst 1, 1), (69, .isub, 1), (70, .istore 4, 2), (72, .iload 4, 2), (74, .ifCond .ge 5, 3), (77, .iconst (-1), 1), (78, .ireturn, 1), (79, .iload 4, 2), (81, .ldc_w 489, 3), (84, .if_icmp .lt 14, 3), (87, .ldc_w 706, 3), (90, .iload 4, 2), (92, .iadd, 1), (93, .ldc_w 489, 3), (96, .isub, 1), (97, .ireturn, 1), (98, .ldc 7, 2), (100, .aload_n 0, 1), (101, .getfield 92, 3), (104, .iload 4, 2), (106, .iaload, 1), (107, .imul, 1), (108, .aload_n 0, 1), (109, .getfield 30, 3), (112, .iconst 4, 1), (113, .aload_n 0, 1), (114, .getfield 62, 3), (117, .aload_n 0, 1), (118, .getfield 92, 3), (121, .iload 4, 2), (123, .iaload, 1), (124, .iaload, 1), (125, .imul, 1), (126, .iaload, 1), (127, .iadd, 1), (128, .aload_n 0, 1), (129, .getfield 95, 3), (132, .iload 4, 2), (134, .iaload, 1), (135, .iadd, 1), (136, .ireturn, 1)]
theorem D_M_element : ∀ q ∈ T_M_element, decode b_M_element q.1 = .ok (q.2.1, q.2.2) := by decide +kernel

set_option maxHeartbeats 4000000 in
set_option maxRecDepth 100000 in
theorem am_M_element_L43 (l : Launch) (hfl : l.flags = pinnedFlags ++ [noTraceFlag]) (D : va_G) (A : Nat → Prop) (σ MC MS : Nat) (h0 : xb_H) (Qr : Int32 → xb_H → Prop) (x0 : Nat) (x2 : Int32) (x3 : Int32) (y0 : Int32) (y1 : Nat) (h : xb_H) (hw : w_M_element_L43 Qr x0 x2 x3 y0 y1 h) : xb_am l D A σ 10 MC MS h0 (fun v h _ _ => ∃ r, v = some (.int r) ∧ Qr r h) (fun _ _ _ _ => False) y_M_element.cls y_M_element.name b_M_element 5 ([] : List ExceptionTableEntry) (some .int) 43 [(0, .ref x0), (2, .int x2), (3, .int x3)] [.int y0, .ref y1] h 0 0 := by
  unfold w_M_element_L43 at hw
  intro p e s m args below meth c hC H locs ls k n hE hl hR hS hk hn
  obtain ⟨hx, hb, hown, hlocks, htab, hml, hr, hB, hA, hnm⟩ := id hC
  have hts := hB.1.1.at args
  obtain ⟨hk1, hw⟩ := hw
  refine xb_putI (C := R_M) (T := F_M) (N := 97) (ty := .int) (x := y0) hx hb 8 0 hts fin_M t_M t_M_ok n_M hown hR hS hk1 (by decide) rfl (by decide) rfl (hts _ m_afabd6a0) (fun _ h9 => h9) rfl (by decide +kernel) rfl rfl (xb_d D_M_element 25 rfl) (fun H locs hR hS => ?_)
  obtain ⟨h2, eh2⟩ : ∃ x : xb_H, x = xb_I h y1 0 y0 := ⟨_, rfl⟩
  rw [← eh2] at hR
  have hw := hw h2 eh2
  have hE : xb_ext h0 h2 := by rw [eh2]; exact hE
  refine lv_aload_n hx hb (xb_d D_M_element 26 rfl) rfl (lv_at hl 0 rfl) ?_
  obtain ⟨hk3, hw⟩ := hw
  refine xb_getI (C := R_M) (T := F_M) (N := 97) hx hb 8 0 hts fin_M hown hR hk3 (by decide) rfl (by decide) rfl (hts _ m_afabd6a0) (fun _ h9 => h9) (xb_d D_M_element 27 rfl) ?_
  refine lv_if_le (tgt := 55) hx hb (xb_d D_M_element 28 rfl) rfl (fun hc4 => ?_) (fun hc4 => ?_)
  · have hw := hw.1 hc4
    refine lv_aload_n hx hb (xb_d D_M_element 31 rfl) rfl (lv_at hl 0 rfl) ?_
    refine xb_getP (C := R_M) (T := F_M) (N := 97) hx hb 8 51 hts fin_M hown hR hk3 (by decide) rfl (by decide) rfl (hts _ m_c18d3c89) (fun _ h9 => h9) (xb_d D_M_element 32 rfl) ?_
    obtain ⟨b5, eb5, hw⟩ := hw
    refine xb_some eb5 ?_
    refine lv_aload_n hx hb (xb_d D_M_element 33 rfl) rfl (lv_at hl 0 rfl) ?_
    refine xb_getP (C := R_M) (T := F_M) (N := 97) hx hb 8 48 hts fin_M hown hR hk3 (by decide) rfl (by decide) rfl (hts _ m_f28a3cfc) (fun _ h9 => h9) (xb_d D_M_element 34 rfl) ?_
    obtain ⟨b6, eb6, hw⟩ := hw
    refine xb_some eb6 ?_
    refine lv_iload_n hx hb (xb_d D_M_element 35 rfl) rfl (lv_at hl 2 rfl) ?_
    obtain ⟨hk8, hw⟩ := hw
    obtain ⟨hi7, hw⟩ := hw
    refine xb_iald hx hb hR hk8 hi7 (xb_d D_M_element 36 rfl) ?_
    refine lv_iload_n hx hb (xb_d D_M_element 37 rfl) rfl (lv_at hl 1 rfl) ?_
    refine lv_iadd hx hb (xb_d D_M_element 38 rfl) ?_
    obtain ⟨hk10, hw⟩ := hw
    obtain ⟨hi9, hw⟩ := hw
    refine xb_iald hx hb hR hk10 hi9 (xb_d D_M_element 39 rfl) ?_
    refine lv_iconst (v := 1) hx hb (xb_d D_M_element 40 rfl) (by decide) ?_
    refine lv_isub hx hb (xb_d D_M_element 41 rfl) ?_
    obtain ⟨v11, ev11⟩ : ∃ x : Int32, x = ((xb_i h2 b5 (Int32.toNatClampNeg ((xb_i h2 b6 (Int32.toNatClampNeg x3)) + x2))) - 1) := ⟨_, rfl⟩
    have hw := hw v11 ev11
    refine xt_numi (y := v11) ev11.symm ?_
    refine lv_istore hx hb (xb_d D_M_element 42 rfl) hl (by decide) rfl (fun ls hl => ?_)
    have hl : lv_has ls 5 [(4, .int v11), (0, .ref x0), (2, .int x2), (3, .int x3)] := hl
    refine lv_iload hx hb (xb_d D_M_element 43 rfl) (lv_at hl 0 rfl) ?_
    refine lv_if_ge (tgt := 79) hx hb (xb_d D_M_element 44 rfl) rfl (fun hc12 => ?_) (fun hc12 => ?_)
    · have hw := hw.1 hc12
      refine lv_iload hx hb (xb_d D_M_element 47 rfl) (lv_at hl 0 rfl) ?_
      refine lv_ldcw (v := 100000) hx hb hown (hts _ m_0517c3da) (xb_d D_M_element 48 rfl) ?_
      refine lv_icmp_lt (tgt := 98) hx hb (xb_d D_M_element 49 rfl) rfl (fun hc13 => ?_) (fun hc13 => ?_)
      · have hw := hw.1 hc13
        refine lv_ldc (v := 65536) hx hb hown (hts _ m_36de59d5) (xb_d D_M_element 56 rfl) ?_
        refine lv_aload_n hx hb (xb_d D_M_element 57 rfl) rfl (lv_at hl 1 rfl) ?_
        refine xb_getP (C := R_M) (T := F_M) (N := 97) hx hb 8 44 hts fin_M hown hR hk3 (by decide) rfl (by decide) rfl (hts _ m_ad0cc5a3) (fun _ h9 => h9) (xb_d D_M_element 58 rfl) ?_
        obtain ⟨b14, eb14, hw⟩ := hw
        refine xb_some eb14 ?_
        refine lv_iload hx hb (xb_d D_M_element 59 rfl) (lv_at hl 0 rfl) ?_
        obtain ⟨hk16, hw⟩ := hw
        obtain ⟨hi15, hw⟩ := hw
        refine xb_iald hx hb hR hk16 hi15 (xb_d D_M_element 60 rfl) ?_
        refine lv_imul hx hb (xb_d D_M_element 61 rfl) ?_
        refine lv_aload_n hx hb (xb_d D_M_element 62 rfl) rfl (lv_at hl 1 rfl) ?_
        refine xb_getP (C := R_M) (T := F_M) (N := 97) hx hb 8 10 hts fin_M hown hR hk3 (by decide) rfl (by decide) rfl (hts _ m_01d0d957) (fun _ h9 => h9) (xb_d D_M_element 63 rfl) ?_
        obtain ⟨b17, eb17, hw⟩ := hw
        refine xb_some eb17 ?_
        refine lv_iconst (v := 4) hx hb (xb_d D_M_element 64 rfl) (by decide) ?_
        refine lv_aload_n hx hb (xb_d D_M_element 65 rfl) rfl (lv_at hl 1 rfl) ?_
        refine xb_getP (C := R_M) (T := F_M) (N := 97) hx hb 8 31 hts fin_M hown hR hk3 (by decide) rfl (by decide) rfl (hts _ m_691d5f47) (fun _ h9 => h9) (xb_d D_M_element 66 rfl) ?_
        obtain ⟨b18, eb18, hw⟩ := hw
        refine xb_some eb18 ?_
        refine lv_aload_n hx hb (xb_d D_M_element 67 rfl) rfl (lv_at hl 1 rfl) ?_
        refine xb_getP (C := R_M) (T := F_M) (N := 97) hx hb 8 44 hts fin_M hown hR hk3 (by decide) rfl (by decide) rfl (hts _ m_ad0cc5a3) (fun _ h9 => h9) (xb_d D_M_element 68 rfl) ?_
        obtain ⟨b19, eb19, hw⟩ := hw
        refine xb_some eb19 ?_
        refine lv_iload hx hb (xb_d D_M_element 69 rfl) (lv_at hl 0 rfl) ?_
        obtain ⟨hk21, hw⟩ := hw
        obtain ⟨hi20, hw⟩ := hw
        refine xb_iald hx hb hR hk21 hi20 (xb_d D_M_element 70 rfl) ?_
        obtain ⟨hk23, hw⟩ := hw
        obtain ⟨hi22, hw⟩ := hw
        refine xb_iald hx hb hR hk23 hi22 (xb_d D_M_element 71 rfl) ?_
        refine lv_imul hx hb (xb_d D_M_element 72 rfl) ?_
        obtain ⟨hk25, hw⟩ := hw
        obtain ⟨hi24, hw⟩ := hw
        refine xb_iald hx hb hR hk25 hi24 (xb_d D_M_element 73 rfl) ?_
        refine lv_iadd hx hb (xb_d D_M_element 74 rfl) ?_
        refine lv_aload_n hx hb (xb_d D_M_element 75 rfl) rfl (lv_at hl 1 rfl) ?_
        refine xb_getP (C := R_M) (T := F_M) (N := 97) hx hb 8 45 hts fin_M hown hR hk3 (by decide) rfl (by decide) rfl (hts _ m_4c98e665) (fun _ h9 => h9) (xb_d D_M_element 76 rfl) ?_
        obtain ⟨b26, eb26, hw⟩ := hw
        refine xb_some eb26 ?_
        refine lv_iload hx hb (xb_d D_M_element 77 rfl) (lv_at hl 0 rfl) ?_
        obtain ⟨hk28, hw⟩ := hw
        obtain ⟨hi27, hw⟩ := hw
        refine xb_iald hx hb hR hk28 hi27 (xb_d D_M_element 78 rfl) ?_
        refine lv_iadd hx hb (xb_d D_M_element 79 rfl) ?_
        exact xb_iret 0 0 hx hb hr hlocks (show k + 0 ≤ MC by omega) (show n + 0 ≤ MS by omega) hE hR hS (xb_d D_M_element 80 rfl) hw
      · have hw := hw.2 hc13
        refine lv_ldcw (v := 2147418112) hx hb hown (hts _ m_4c124df6) (xb_d D_M_element 50 rfl) ?_
        refine lv_iload hx hb (xb_d D_M_element 51 rfl) (lv_at hl 0 rfl) ?_
        refine lv_iadd hx hb (xb_d D_M_element 52 rfl) ?_
        refine lv_ldcw (v := 100000) hx hb hown (hts _ m_0517c3da) (xb_d D_M_element 53 rfl) ?_
        refine lv_isub hx hb (xb_d D_M_element 54 rfl) ?_
        exact xb_iret 0 0 hx hb hr hlocks (show k + 0 ≤ MC by omega) (show n + 0 ≤ MS by omega) hE hR hS (xb_d D_M_element 55 rfl) hw
    · have hw := hw.2 hc12
      refine lv_iconst (v := (-1)) hx hb (xb_d D_M_element 45 rfl) (by decide) ?_
      exact xb_iret 0 0 hx hb hr hlocks (show k + 0 ≤ MC by omega) (show n + 0 ≤ MS by omega) hE hR hS (xb_d D_M_element 46 rfl) hw
  · have hw := hw.2 hc4
    refine lv_iconst (v := 0) hx hb (xb_d D_M_element 29 rfl) (by decide) ?_
    exact xb_iret 0 0 hx hb hr hlocks (show k + 0 ≤ MC by omega) (show n + 0 ≤ MS by omega) hE hR hS (xb_d D_M_element 30 rfl) hw

set_option maxHeartbeats 4000000 in
set_option maxRecDepth 100000 in
theorem am_M_element_L42 (l : Launch) (hfl : l.flags = pinnedFlags ++ [noTraceFlag]) (D : va_G) (A : Nat → Prop) (σ MC MS : Nat) (h0 : xb_H) (Qr : Int32 → xb_H → Prop) (x0 : Nat) (x2 : Int32) (x3 : Int32) (y0 : Nat) (h : xb_H) (hw : w_M_element_L42 Qr x0 x2 x3 y0 h) : xb_am l D A σ 10 MC MS h0 (fun v h _ _ => ∃ r, v = some (.int r) ∧ Qr r h) (fun _ _ _ _ => False) y_M_element.cls y_M_element.name b_M_element 5 ([] : List ExceptionTableEntry) (some .int) 42 [(0, .ref x0), (2, .int x2), (3, .int x3)] [.ref y0] h 0 0 := by
  unfold w_M_element_L42 at hw
  intro p e s m args below meth c hC H locs ls k n hE hl hR hS hk hn
  obtain ⟨hx, hb, hown, hlocks, htab, hml, hr, hB, hA, hnm⟩ := id hC
  have hts := hB.1.1.at args
  refine lv_iconst (v := 1) hx hb (xb_d D_M_element 24 rfl) (by decide) ?_
  exact am_M_element_L43 l hfl D A σ MC MS h0 Qr x0 x2 x3 1 y0 h hw p e s m args below meth c hC H locs ls k n hE (lv_sub hl [0, 1, 2] rfl) hR hS (by omega) (by omega)

set_option maxHeartbeats 4000000 in
set_option maxRecDepth 100000 in
theorem am_M_element_L18 (l : Launch) (hfl : l.flags = pinnedFlags ++ [noTraceFlag]) (D : va_G) (A : Nat → Prop) (σ MC MS : Nat) (h0 : xb_H) (Qr : Int32 → xb_H → Prop) (x0 : Nat) (x2 : Int32) (y0 : Int32) (h : xb_H) (hw : w_M_element_L18 Qr x0 x2 y0 h) : xb_am l D A σ 10 MC MS h0 (fun v h _ _ => ∃ r, v = some (.int r) ∧ Qr r h) (fun _ _ _ _ => False) y_M_element.cls y_M_element.name b_M_element 5 ([] : List ExceptionTableEntry) (some .int) 18 [(0, .ref x0), (2, .int x2)] [.int y0] h 0 0 := by
  unfold w_M_element_L18 at hw
  intro p e s m args below meth c hC H locs ls k n hE hl hR hS hk hn
  obtain ⟨hx, hb, hown, hlocks, htab, hml, hr, hB, hA, hnm⟩ := id hC
  have hts := hB.1.1.at args
  refine lv_istore_n hx hb (xb_d D_M_element 10 rfl) rfl hl (by decide) rfl (fun ls hl => ?_)
  have hl : lv_has ls 5 [(3, .int y0), (0, .ref x0), (2, .int x2)] := hl
  refine lv_aload_n hx hb (xb_d D_M_element 11 rfl) rfl (lv_at hl 1 rfl) ?_
  refine lv_iload_n hx hb (xb_d D_M_element 12 rfl) rfl (lv_at hl 0 rfl) ?_
  refine lv_if_lt (tgt := 42) hx hb (xb_d D_M_element 13 rfl) rfl (fun hc1 => ?_) (fun hc1 => ?_)
  · have hw := hw.1 hc1
    exact am_M_element_L42 l hfl D A σ MC MS h0 Qr x0 x2 y0 x0 h hw p e s m args below meth c hC H locs ls k n hE (lv_sub hl [1, 2, 0] rfl) hR hS (by omega) (by omega)
  · have hw := hw.2 hc1
    refine lv_iload_n hx hb (xb_d D_M_element 14 rfl) rfl (lv_at hl 2 rfl) ?_
    refine lv_if_lt (tgt := 42) hx hb (xb_d D_M_element 15 rfl) rfl (fun hc2 => ?_) (fun hc2 => ?_)
    · have hw := hw.1 hc2
      exact am_M_element_L42 l hfl D A σ MC MS h0 Qr x0 x2 y0 x0 h hw p e s m args below meth c hC H locs ls k n hE (lv_sub hl [1, 2, 0] rfl) hR hS (by omega) (by omega)
    · have hw := hw.2 hc2
      refine lv_iload_n hx hb (xb_d D_M_element 16 rfl) rfl (lv_at hl 2 rfl) ?_
      refine lv_aload_n hx hb (xb_d D_M_element 17 rfl) rfl (lv_at hl 1 rfl) ?_
      obtain ⟨hk3, hw⟩ := hw
      refine xb_getP (C := R_M) (T := F_M) (N := 97) hx hb 8 49 hts fin_M hown hR hk3 (by decide) rfl (by decide) rfl (hts _ m_0c329d74) (fun _ h9 => h9) (xb_d D_M_element 18 rfl) ?_
      obtain ⟨b4, eb4, hw⟩ := hw
      refine xb_some eb4 ?_
      refine lv_iload_n hx hb (xb_d D_M_element 19 rfl) rfl (lv_at hl 0 rfl) ?_
      obtain ⟨hk6, hw⟩ := hw
      obtain ⟨hi5, hw⟩ := hw
      refine xb_iald hx hb hR hk6 hi5 (xb_d D_M_element 20 rfl) ?_
      refine lv_icmp_ge (tgt := 42) hx hb (xb_d D_M_element 21 rfl) rfl (fun hc7 => ?_) (fun hc7 => ?_)
      · have hw := hw.1 hc7
        exact am_M_element_L42 l hfl D A σ MC MS h0 Qr x0 x2 y0 x0 h hw p e s m args below meth c hC H locs ls k n hE (lv_sub hl [1, 2, 0] rfl) hR hS (by omega) (by omega)
      · have hw := hw.2 hc7
        refine lv_iconst (v := 0) hx hb (xb_d D_M_element 22 rfl) (by decide) ?_
        refine lv_goto (tgt := 43) hx hb (xb_d D_M_element 23 rfl) rfl ?_
        exact am_M_element_L43 l hfl D A σ MC MS h0 Qr x0 x2 y0 0 x0 h hw p e s m args below meth c hC H locs ls k n hE (lv_sub hl [1, 2, 0] rfl) hR hS (by omega) (by omega)

set_option maxHeartbeats 4000000 in
set_option maxRecDepth 100000 in
theorem ok_M_element (l : Launch) (hfl : l.flags = pinnedFlags ++ [noTraceFlag]) (D : va_G) (A : Nat → Prop) (σ : Nat) (x0 : Nat) (x1 : Int32) (x2 : Int32) (h : xb_H) (Qr : Int32 → xb_H → Prop) (hw : w_M_element x0 x1 x2 h Qr) : xb_Met l y_M_element [.code y_M_element b_M_element 5 (some .int)] (xb_rm 10 0 0) (xb_Pc D A σ h [.ref x0, .int x1, .int x2]) (xb_Qc D A h 0 0 (fun v h _ _ => ∃ r, v = some (.int r) ∧ Qr r h) (fun _ _ _ _ => False)) A := by
  refine xb_ofAm (cc := b_M_element) (by decide) (Nat.le_of_ble_eq_true rfl) ?_
  unfold w_M_element at hw
  show xb_am l D A σ 10 0 0 h (fun v h _ _ => ∃ r, v = some (.int r) ∧ Qr r h) (fun _ _ _ _ => False) y_M_element.cls y_M_element.name b_M_element 5 ([] : List ExceptionTableEntry) (some .int) 0 [(0, .ref x0), (1, .int x1), (2, .int x2)] [] h 0 0
  obtain ⟨MC, hMC⟩ : ∃ x, x = 0 := ⟨_, rfl⟩
  obtain ⟨MS, hMS⟩ : ∃ x, x = 0 := ⟨_, rfl⟩
  rw [show xb_am l D A σ 10 0 0 = xb_am l D A σ 10 MC MS by rw [hMC, hMS]]
  obtain ⟨h0, hh0⟩ : ∃ x, x = h := ⟨_, rfl⟩
  rw [show xb_am l D A σ 10 MC MS h = xb_am l D A σ 10 MC MS h0 by rw [hh0]]
  intro p e s m args below meth c hC H locs ls k n hE hl hR hS hk hn
  obtain ⟨hx, hb, hown, hlocks, htab, hml, hr, hB, hA, hnm⟩ := id hC
  have hts := hB.1.1.at args
  refine lv_aload_n hx hb (xb_d D_M_element 0 rfl) rfl (lv_at hl 0 rfl) ?_
  refine lv_iload_n hx hb (xb_d D_M_element 1 rfl) rfl (lv_at hl 1 rfl) ?_
  obtain ⟨hk1, hw⟩ := hw
  refine xb_call0 (D := D) (A := A) (σ := σ) (h := h) (d := 2) (maxL := 2) (rest := []) (av := [.ref x0, .int x1]) (fun T hT X => by obtain ⟨cb9, ra9, rb9, rc9⟩ := xb_recv (ci := 8) hR rfl hk1 (by decide); exact xt_invV X hx hown (hts _ m_ec7c79cd) (hts _ m_cefd1701) (hts _ m_d2ca0421) (xt_sigOf (hts _ m_5aaa69eb)) nm_M_isInstance (by rw [hT]; exact ra9) rb9 rc9 (g := F0 m 2 ls [.int x1, .ref x0]) rfl (argsL := [.int x1]) (rest := []) rfl rfl (by rw [hb]; exact (xb_d D_M_element 2 rfl))) (ok_M_isInstance l hfl D A σ x0 x1 h _ hw) (hml.trans hl.1.symm) (by rw [hb]; exact (xb_d D_M_element 2 rfl)) (Nat.le_of_ble_eq_true rfl) (Nat.le_of_ble_eq_true rfl) (Nat.le_of_ble_eq_true rfl) (show k ≤ MC by omega) (show n ≤ MS by omega) (xt_w1 hB.1 m_5aaa69eb) (xt_cdOf hB.1 m_5aaa69eb) (hts _ m_d5ed7bed) hB hR hS hA (fun vv h2 H locs hq hEh2 hR hS => ?_)
  obtain ⟨r3, rfl, hw⟩ := hq
  have hw := hw hEh2
  have hE := hE.tr hEh2
  refine W.eq (g2 := F0 m 5 ls [.int r3]) rfl ?_
  refine lv_if_eq (tgt := 17) hx hb (xb_d D_M_element 3 rfl) rfl (fun hc4 => ?_) (fun hc4 => ?_)
  · have hw := hw.1 hc4
    refine lv_iconst (v := (-1)) hx hb (xb_d D_M_element 9 rfl) (by decide) ?_
    exact am_M_element_L18 l hfl D A σ MC MS h0 Qr x0 x2 (-1) h2 hw p e s m args below meth c hC H locs ls k n hE (lv_sub hl [0, 2] rfl) hR hS (by omega) (by omega)
  · have hw := hw.2 hc4
    refine lv_aload_n hx hb (xb_d D_M_element 4 rfl) rfl (lv_at hl 0 rfl) ?_
    refine lv_iload_n hx hb (xb_d D_M_element 5 rfl) rfl (lv_at hl 1 rfl) ?_
    refine lv_iconst (v := 1) hx hb (xb_d D_M_element 6 rfl) (by decide) ?_
    have hk1 : xb_k h2 x0 = 9 := hEh2.k hk1
    refine xb_call0 (D := D) (A := A) (σ := σ) (h := h2) (d := 9) (maxL := 3) (rest := []) (av := [.ref x0, .int x1, .int 1]) (fun T hT X => by obtain ⟨cb9, ra9, rb9, rc9⟩ := xb_recv (ci := 8) hR rfl hk1 (by decide); exact xt_invV X hx hown (hts _ m_392cec72) (hts _ m_982c4770) (hts _ m_e18e99cc) (xt_sigOf (hts _ m_3f9e55aa)) nm_M_only (by rw [hT]; exact ra9) rb9 rc9 (g := F0 m 11 ls [.int 1, .int x1, .ref x0]) rfl (argsL := [.int x1, .int 1]) (rest := []) rfl rfl (by rw [hb]; exact (xb_d D_M_element 7 rfl))) (ok_M_only l hfl D A σ x0 x1 1 h2 _ hw) (hml.trans hl.1.symm) (by rw [hb]; exact (xb_d D_M_element 7 rfl)) (Nat.le_of_ble_eq_true rfl) (Nat.le_of_ble_eq_true rfl) (Nat.le_of_ble_eq_true rfl) (show k ≤ MC by omega) (show n ≤ MS by omega) (xt_w1 hB.1 m_3f9e55aa) (xt_cdOf hB.1 m_3f9e55aa) (hts _ m_d5ed7bed) hB hR hS hA (fun vv h5 H locs hq hEh5 hR hS => ?_)
    obtain ⟨r6, rfl, hw⟩ := hq
    have hw := hw hEh5
    have hE := hE.tr hEh5
    refine W.eq (g2 := F0 m 14 ls [.int r6]) rfl ?_
    refine lv_goto (tgt := 18) hx hb (xb_d D_M_element 8 rfl) rfl ?_
    exact am_M_element_L18 l hfl D A σ MC MS h0 Qr x0 x2 r6 h5 hw p e s m args below meth c hC H locs ls k n hE (lv_sub hl [0, 2] rfl) hR hS (by omega) (by omega)

