theorem m_b8b7d5c9 : (.methodLink "StackHostModel" 574 y_M_rowsFit : Cond) ∈ xt_tbl := xt_in (xt_t12 (List.mem_of_getElem? (i := 93) (by decide +kernel))) (by decide +kernel)
theorem m_e3a5e08d : (.instanceMethod y_M_rowsFit : Cond) ∈ xt_tbl := xt_in (xt_t12 (List.mem_of_getElem? (i := 95) (by decide +kernel))) (by decide +kernel)
theorem m_11434057 : (.selects "StackHostModel" y_M_rowsFit y_M_rowsFit : Cond) ∈ xt_tbl := xt_in (xt_v13 (q := (⟨"StackHostModel", "rowsFit", "(II)Z"⟩, 97)) (List.mem_of_getElem? (i := 15) (by decide +kernel))) (by decide +kernel)
theorem m_67e2f729 : (.code y_M_rowsFit b_M_rowsFit 12 (some .boolean) : Cond) ∈ xt_tbl := xt_in (xt_t12 (List.mem_of_getElem? (i := 96) (by decide +kernel))) (by decide +kernel)
theorem m_a61883da : (.methodLink "StackHostModel" 577 y_M_settle : Cond) ∈ xt_tbl := xt_in (xt_t12 (List.mem_of_getElem? (i := 101) (by decide +kernel))) (by decide +kernel)
theorem m_21c8ff34 : (.instanceMethod y_M_settle : Cond) ∈ xt_tbl := xt_in (xt_t12 (List.mem_of_getElem? (i := 103) (by decide +kernel))) (by decide +kernel)
theorem m_d70b05f4 : (.selects "StackHostModel" y_M_settle y_M_settle : Cond) ∈ xt_tbl := xt_in (xt_v14 (q := (⟨"StackHostModel", "settle", "(II)V"⟩, 97)) (List.mem_of_getElem? (i := 1) (by decide +kernel))) (by decide +kernel)
theorem m_9215e882 : (.code y_M_settle b_M_settle 4 none : Cond) ∈ xt_tbl := xt_in (xt_t12 (List.mem_of_getElem? (i := 104) (by decide +kernel))) (by decide +kernel)
theorem m_da9021b0 : (.methodLink "StackHostModel" 580 y_M_writeRows : Cond) ∈ xt_tbl := xt_in (xt_t12 (List.mem_of_getElem? (i := 105) (by decide +kernel))) (by decide +kernel)
theorem m_26ecfc0b : (.instanceMethod y_M_writeRows : Cond) ∈ xt_tbl := xt_in (xt_t12 (List.mem_of_getElem? (i := 107) (by decide +kernel))) (by decide +kernel)
theorem m_93b2acea : (.selects "StackHostModel" y_M_writeRows y_M_writeRows : Cond) ∈ xt_tbl := xt_in (xt_v14 (q := (⟨"StackHostModel", "writeRows", "(I)V"⟩, 97)) (List.mem_of_getElem? (i := 2) (by decide +kernel))) (by decide +kernel)
theorem m_02522c53 : (.code y_M_writeRows b_M_writeRows 13 none : Cond) ∈ xt_tbl := xt_in (xt_t12 (List.mem_of_getElem? (i := 108) (by decide +kernel))) (by decide +kernel)
theorem m_ac81f80d : (.methodLink "StackHostModel" 549 y_M_ownLeast : Cond) ∈ xt_tbl := xt_in (xt_t12 (List.mem_of_getElem? (i := 82) (by decide +kernel))) (by decide +kernel)
theorem m_2e114b12 : (.instanceMethod y_M_ownLeast : Cond) ∈ xt_tbl := xt_in (xt_t12 (List.mem_of_getElem? (i := 84) (by decide +kernel))) (by decide +kernel)
theorem m_d86c6399 : (.selects "StackHostModel" y_M_ownLeast y_M_ownLeast : Cond) ∈ xt_tbl := xt_in (xt_v13 (q := (⟨"StackHostModel", "ownLeast", "(II)J"⟩, 97)) (List.mem_of_getElem? (i := 13) (by decide +kernel))) (by decide +kernel)
theorem m_672048e8 : (.code y_M_ownLeast b_M_ownLeast 3 (some .long) : Cond) ∈ xt_tbl := xt_in (xt_t12 (List.mem_of_getElem? (i := 85) (by decide +kernel))) (by decide +kernel)
theorem m_c1dea8f8 : (.constantLong "StackHostModel" 561 16384 : Cond) ∈ xt_tbl := xt_in (xt_t12 (List.mem_of_getElem? (i := 86) (by decide +kernel))) (by decide +kernel)
theorem m_4a80702f : (.methodLink "StackHostModel" 546 y_M_found : Cond) ∈ xt_tbl := xt_in (xt_t12 (List.mem_of_getElem? (i := 29) (by decide +kernel))) (by decide +kernel)
theorem m_8de9e09b : (.instanceMethod y_M_found : Cond) ∈ xt_tbl := xt_in (xt_t12 (List.mem_of_getElem? (i := 31) (by decide +kernel))) (by decide +kernel)
theorem m_8f02abdf : (.selects "StackHostModel" y_M_found y_M_found : Cond) ∈ xt_tbl := xt_in (xt_v13 (q := (⟨"StackHostModel", "found", "(II)I"⟩, 97)) (List.mem_of_getElem? (i := 0) (by decide +kernel))) (by decide +kernel)
theorem m_378a43ba : (.code y_M_found b_M_found 13 (some .int) : Cond) ∈ xt_tbl := xt_in (xt_t12 (List.mem_of_getElem? (i := 32) (by decide +kernel))) (by decide +kernel)
theorem m_2d2adbb6 : (.methodLink "StackHostModel" 543 y_M_reserveImports : Cond) ∈ xt_tbl := xt_in (xt_t12 (List.mem_of_getElem? (i := 25) (by decide +kernel))) (by decide +kernel)
theorem m_780b8919 : (.instanceMethod y_M_reserveImports : Cond) ∈ xt_tbl := xt_in (xt_t12 (List.mem_of_getElem? (i := 27) (by decide +kernel))) (by decide +kernel)
theorem m_220e01db : (.selects "StackHostModel" y_M_reserveImports y_M_reserveImports : Cond) ∈ xt_tbl := xt_in (xt_v12 (q := (⟨"StackHostModel", "reserveImports", "(I)V"⟩, 97)) (List.mem_of_getElem? (i := 15) (by decide +kernel))) (by decide +kernel)
theorem m_4a19fd12 : (.code y_M_reserveImports b_M_reserveImports 4 none : Cond) ∈ xt_tbl := xt_in (xt_t12 (List.mem_of_getElem? (i := 28) (by decide +kernel))) (by decide +kernel)
theorem nm_M_rowsFit : xt_nm y_M_rowsFit 2 := ⟨by decide +kernel, by decide +kernel⟩
theorem nm_M_settle : xt_nm y_M_settle 2 := ⟨by decide +kernel, by decide +kernel⟩
theorem nm_M_writeRows : xt_nm y_M_writeRows 1 := ⟨by decide +kernel, by decide +kernel⟩
theorem nm_M_ownLeast : xt_nm y_M_ownLeast 2 := ⟨by decide +kernel, by decide +kernel⟩
theorem nm_M_found : xt_nm y_M_found 2 := ⟨by decide +kernel, by decide +kernel⟩
theorem nm_M_reserveImports : xt_nm y_M_reserveImports 1 := ⟨by decide +kernel, by decide +kernel⟩
set_option maxRecDepth 100000 in
def T_M_instantiate : List (Nat × Instr × Nat) := [(0, .aload_n 0, 1), (1, .aload_n 0, 1), (2, .iload_n 1, 1), (3, .invokevirtual 473, 3), (6, .ifCond .ne 7, 3), (9, .iconst 1, 1), (10, .goto 15, 3), (13, .aload_n 0, 1), (14, .getfield 539, 3), (17, .ifCond .eq 7, 3), (20, .iconst 2, 1), (21, .goto 4, 3), (24, .iconst 0, 1), (25, .putfield 189, 3), (28, .aload_n 0, 1), (29, .getfield 189, 3), (32, .ifCond .le 5, 3), (35, .iconst 0, 1), (36, .ireturn, 1), (37, .aload_n 0, 1), (38, .iload_n 1, 1), (39, .iconst 2, 1), (40, .invokevirtual 316, 3), (43, .istore_n 2, 1), (44, .aload_n 0, 1), (45, .iload_n 2, 1), (46, .invokevirtual 543, 3), (49, .iconst 0, 1), (50, .istore_n 3, 1), (51, .iload_n 3, 1), (52, .iload_n 2, 1), (53, .if_icmp .ge 44, 3), (56, .aload_n 0, 1), (57, .iload_n 1, 1), (58, .iload_n 3, 1), (59, .invokevirtual 546, 3), (62, .istore 4, 2), (64, .iload 4, 2), (66, .ifCond .ge 12, 3), (69, .aload_n 0, 1), (70, .iload 4, 2), (72, .ineg, 1), (73, .iload_n 3, 1), (74, .invokevirtual 528, 3), (77, .ireturn, 1), (78, .aload_n 0, 1), (79, .getfield 68, 3), (82, .aload_n 0, 1), (83, .getfield 519, 3), (86, .iload_n 3, 1), (87, .iadd, 1), (88, .iload 4, 2), (90, .iastore, 1), (91, .iinc 3 1, 3), (94, .goto (-43), 3), (97, .aload_n 0, 1), (98, .iload_n 1, 1), (99, .iconst 4, 1), (100, .invokevirtual 549, 3), (103, .lstore_n 3, 1), (104, .aload_n 0, 1), (105, .getfield 345, 3), (108, .lstore 5, 2), (110, .aload_n 0, 1), (111, .iload_n 1, 1), (112, .iconst 5, 1), (113, .invokevirtual 549, 3), (116, .lstore 7, 2), (118, .aload_n 0, 1), (119, .getfield 345, 3), (122, .lstore 9, 2), (124, .aload_n 0, 1), (125, .getfield 476, 3), (128, .bipush 24, 2), (130, .if_icmp .ge 71, 3), (133, .aload_n 0, 1), (134, .getfield 552, 3), (137, .aload_n 0, 1), (138, .iload_n 1, 1), (139, .iconst 3, 1), (140, .invokevirtual 316, 3), (143, .iadd, 1), (144, .sipush 8192, 3), (147, .if_icmp .gt 54, 3), (150, .aload_n 0, 1), (151, .getfield 555, 3), (154, .aload_n 0, 1), (155, .iload_n 1, 1), (156, .bipush 6, 2), (158, .invokevirtual 316, 3), (161, .iadd, 1), (162, .sipush 4096, 3), (165, .if_icmp .gt 36, 3), (168, .aload_n 0, 1), (169, .getfield 558, 3), (172, .i2l, 1), (173, .lload_n 3, 1), (174, .ladd, 1), (175, .ldc2_w 561, 3), (178, .lcmp, 1), (179, .ifCond .gt 22, 3), (182, .aload_n 0, 1), (183, .getfield 563, 3), (186, .i2l, 1), (187, .lload 7, 2), (189, .ladd, 1), (190, .ldc2_w 566, 3), (193, .lcmp, 1), (194, .ifCond .gt 7, 3), (197, .iconst 1, 1), (198, .goto 4, 3), (201, .iconst 0, 1), (202, .istore 11, 2), (204, .iload 11, 2), (206, .ifCond .ne 11, 3), (209, .aload_n 0, 1), (210, .bipush 44, 2), (212, .iconst 0, 1), (213, .invokevirtual 528, 3), (216, .ireturn, 1), (217, .aload_n 0, 1), (218, .getfield 476, 3), (221, .istore 12, 2), (223, .aload_n 0, 1), (224, .getfield 62, 3), (227, .iload 12, 2), (229, .iload_n 1, 1), (230, .iastore, 1), (231, .aload_n 0, 1), (232, .getfield 65, 3), (235, .iload 12, 2), (237, .aload_n 0, 1), (238, .getfield 519, 3), (241, .iastore, 1), (242, .aload_n 0, 1), (243, .getfield 71, 3), (246, .iload 12, 2), (248, .aload_n 0, 1), (249, .getfield 552, 3), (252, .iastore, 1), (253, .aload_n 0, 1), (254, .getfield 74, 3), (257, .iload 12, 2), (259, .aload_n 0, 1), (260, .getfield 555, 3), (263, .iastore, 1), (264, .aload_n 0, 1), (265, .getfield 77, 3), (268, .iload 12, 2), (270, .aload_n 0, 1), (271, .getfield 568, 3), (274, .iastore, 1), (275, .aload_n 0, 1), (276, .getfield 80, 3), (279, .iload 12, 2), (281, .aload_n 0, 1), (282, .getfield 571, 3), (285, .iastore, 1), (286, .aload_n 0, 1), (287, .iload_n 1, 1), (288, .iconst 4, 1), (289, .invokevirtual 316, 3), (292, .ifCond .le 38, 3), (295, .aload_n 0, 1), (296, .getfield 98, 3), (299, .aload_n 0, 1), (300, .getfield 568, 3), (303, .aload_n 0, 1), (304, .getfield 558, 3), (307, .iastore, 1), (308, .aload_n 0, 1), (309, .getfield 101, 3), (312, .aload_n 0, 1), (313, .getfield 568, 3), (316, .lload_n 3, 1), (317, .l2i, 1), (318, .iastore, 1), (319, .aload_n 0, 1), (320, .getfield 104, 3), (323, .aload_n 0, 1), (324, .getfield 568, 3), (327, .lload 5, 2), (329, .lastore, 1), (330, .aload_n 0, 1), (331, .iload_n 1, 1), (332, .iconst 5, 1), (333, .invokevirtual 316, 3), (336, .ifCond .le 26, 3), (339, .aload_n 0, 1), (340, .getfield 111, 3), (343, .aload_n 0, 1), (344, .getfield 571, 3), (347, .lload 7, 2), (349, .l2i, 1), (350, .iastore, 1), (351, .aload_n 0, 1), (352, .getfield 114, 3), (355, .aload_n 0, 1), (356, .getfield 571, 3), (359, .lload 9, 2), (361, .lastore, 1), (362, .iconst 0, 1), (363, .istore 13, 2), (365, .iload 13, 2), (367, .aload_n 0, 1), (368, .iload_n 1, 1), (369, .bipush 6, 2), (371, .invokevirtual 316, 3), (374, .if_icmp .ge 82, 3), (377, .aload_n 0, 1), (378, .iload_n 1, 1), (379, .aload_n 0, 1), (380, .iload_n 1, 1), (381, .bipush 6, 2), (383, .iload 13, 2), (385, .invokevirtual 320, 3), (388, .invokevirtual 324, 3), (391, .aload_n 0, 1), (392, .getfield 124, 3), (395, .aload_n 0, 1), (396, .getfield 555, 3), (399, .iload 13, 2), (401, .iadd, 1), (402, .aload_n 0, 1), (403, .invokevirtual 212, 3), (406, .iastore, 1), (407, .aload_n 0, 1), (408, .getfield 127, 3), (411, .aload_n 0, 1), (412, .getfield 555, 3), (415, .iload 13, 2), (417, .iadd, 1), (418, .aload_n 0, 1), (419, .invokevirtual 212, 3), (422, .iconst 1, 1), (423, .if_icmp .ne 7, 3), (426, .iconst 1, 1), (427, .goto 4, 3), (430, .iconst 0, 1), (431, .bastore, 1), (432, .aload_n 0, 1), (433, .getfield 130, 3), (436, .aload_n 0, 1), (437, .getfield 555, 3), (440, .iload 13, 2), (442, .iadd, 1), (443, .aload_n 0, 1), (444, .iload 12, 2), (446, .invokevirtual 525, 3), (449, .lastore, 1), (450, .iinc 13 1, 3), (453, .goto (-88), 3), (456, .aload_n 0, 1), (457, .iload 12, 2), (459, .bipush 9, 2), (461, .invokevirtual 574, 3), (464, .ifCond .eq 14, 3), (467, .aload_n 0, 1), (468, .iload 12, 2), (470, .bipush 11, 2), (472, .invokevirtual 574, 3), (475, .ifCond .ne 5, 3), (478, .iconst (-1), 1), (479, .ireturn, 1), (480, .aload_n 0, 1), (481, .iload 12, 2), (483, .iload_n 1, 1), (484, .invokevirtual 577, 3), (487, .aload_n 0, 1), (488, .iload 12, 2), (490, .invokevirtual 580, 3), (493, .aload_n 0, 1), (494, .iconst 0, 1), (495, .iconst 0, 1), (496, .invokevirtual 528, 3), (499, .pop, 1), (500, .aload_n 0, 1), (501, .iload_n 1, 1), (502, .bipush 8, 2), (504, .invokevirtual 316, 3), (507, .ifCond .le 47, 3), (510, .aload_n 0, 1), (511, .iload_n 1, 1), (512, .aload_n 0, 1), (513, .iload_n 1, 1), (514, .bipush 8, 2), (516, .iconst 0, 1), (517, .invokevirtual 320, 3), (520, .invokevirtual 324, 3), (523, .aload_n 0, 1), (524, .aload_n 0, 1), (525, .iload 12, 2), (527, .iconst 0, 1), (528, .aload_n 0, 1), (529, .invokevirtual 218, 3), (532, .l2i, 1), (533, .invokevirtual 479, 3), (536, .putfield 583, 3), (539, .aload_n 0, 1), (540, .iconst 1, 1), (541, .putfield 539, 3), (544, .aload_n 0, 1), (545, .iconst 0, 1), (546, .putfield 586, 3), (549, .aload_n 0, 1), (550, .iconst 0, 1), (551, .putfield 589, 3), (554, .iload 12, 2), (556, .ireturn, 1)]
theorem D_M_instantiate : ∀ q ∈ T_M_instantiate, decode b_M_instantiate q.1 = .ok (q.2.1, q.2.2) := by decide +kernel

set_option maxHeartbeats 4000000 in
set_option maxRecDepth 100000 in
theorem am_M_instantiate_L554 (l : Launch) (hfl : l.flags = pinnedFlags ++ [noTraceFlag]) (D : va_G) (A : Nat → Prop) (σ MC MS : Nat) (h0 : xb_H) (Qr : Int32 → xb_H → Nat → Nat → Prop) (x12 : Int32) (h : xb_H) (bc : Nat) (bs : Nat) (hw : w_M_instantiate_L554 Qr x12 h bc bs) : xb_am l D A σ 12 MC MS h0 (fun v h bc bs => ∃ r, v = some (.int r) ∧ Qr r h bc bs) (fun _ _ _ _ => False) y_M_instantiate.cls y_M_instantiate.name b_M_instantiate 14 ([] : List ExceptionTableEntry) (some .int) 554 [(12, .int x12)] [] h bc bs := by
  unfold w_M_instantiate_L554 at hw
  intro p e s m args below meth c hC H locs ls k n hE hl hR hS hk hn
  obtain ⟨hx, hb, hown, hlocks, htab, hml, hr, hB, hA, hnm⟩ := id hC
  have hts := hB.1.1.at args
  refine lv_iload hx hb (xb_d D_M_instantiate 307 rfl) (lv_at hl 0 rfl) ?_
  exact xb_iret bc bs hx hb hr hlocks (show k + bc ≤ MC by omega) (show n + bs ≤ MS by omega) hE hR hS (xb_d D_M_instantiate 308 rfl) hw

set_option maxHeartbeats 4000000 in
set_option maxRecDepth 100000 in
theorem am_M_instantiate_L478 (l : Launch) (hfl : l.flags = pinnedFlags ++ [noTraceFlag]) (D : va_G) (A : Nat → Prop) (σ MC MS : Nat) (h0 : xb_H) (Qr : Int32 → xb_H → Nat → Nat → Prop) (h : xb_H) (bc : Nat) (bs : Nat) (hw : w_M_instantiate_L478 Qr h bc bs) : xb_am l D A σ 12 MC MS h0 (fun v h bc bs => ∃ r, v = some (.int r) ∧ Qr r h bc bs) (fun _ _ _ _ => False) y_M_instantiate.cls y_M_instantiate.name b_M_instantiate 14 ([] : List ExceptionTableEntry) (some .int) 478 [] [] h bc bs := by
  unfold w_M_instantiate_L478 at hw
  intro p e s m args below meth c hC H locs ls k n hE hl hR hS hk hn
  obtain ⟨hx, hb, hown, hlocks, htab, hml, hr, hB, hA, hnm⟩ := id hC
  have hts := hB.1.1.at args
  refine lv_iconst (v := (-1)) hx hb (xb_d D_M_instantiate 262 rfl) (by decide) ?_
  exact xb_iret bc bs hx hb hr hlocks (show k + bc ≤ MC by omega) (show n + bs ≤ MS by omega) hE hR hS (xb_d D_M_instantiate 263 rfl) hw

set_option maxHeartbeats 4000000 in
set_option maxRecDepth 100000 in
theorem am_M_instantiate_L431 (l : Launch) (hfl : l.flags = pinnedFlags ++ [noTraceFlag]) (D : va_G) (A : Nat → Prop) (σ MC MS : Nat) (h0 : xb_H) (Qr : Int32 → xb_H → Nat → Nat → Prop) (K365 : Nat → Int32 → Int32 → Int32 → xb_H → Nat → Nat → Prop) (hK365 : ∀ (x0 : Nat) (x1 : Int32) (x12 : Int32) (x13 : Int32) (h : xb_H) (bc : Nat) (bs : Nat), K365 x0 x1 x12 x13 h bc bs → xb_am l D A σ 12 MC MS h0 (fun v h bc bs => ∃ r, v = some (.int r) ∧ Qr r h bc bs) (fun _ _ _ _ => False) y_M_instantiate.cls y_M_instantiate.name b_M_instantiate 14 ([] : List ExceptionTableEntry) (some .int) 365 [(0, .ref x0), (1, .int x1), (12, .int x12), (13, .int x13)] [] h bc bs) (x0 : Nat) (x1 : Int32) (x12 : Int32) (x13 : Int32) (y0 : Int32) (y1 : Int32) (y2 : Nat) (h : xb_H) (bc : Nat) (bs : Nat) (hw : w_M_instantiate_L431 K365 Qr x0 x1 x12 x13 y0 y1 y2 h bc bs) : xb_am l D A σ 12 MC MS h0 (fun v h bc bs => ∃ r, v = some (.int r) ∧ Qr r h bc bs) (fun _ _ _ _ => False) y_M_instantiate.cls y_M_instantiate.name b_M_instantiate 14 ([] : List ExceptionTableEntry) (some .int) 431 [(0, .ref x0), (1, .int x1), (12, .int x12), (13, .int x13)] [.int y0, .int y1, .ref y2] h bc bs := by
  unfold w_M_instantiate_L431 at hw
  intro p e s m args below meth c hC H locs ls k n hE hl hR hS hk hn
  obtain ⟨hx, hb, hown, hlocks, htab, hml, hr, hB, hA, hnm⟩ := id hC
  have hts := hB.1.1.at args
  obtain ⟨hk1, hw⟩ := hw
  obtain ⟨hi2, hw⟩ := hw
  refine xb_zast hx hb hR hS hk1 hi2 (xb_d D_M_instantiate 239 rfl) (fun H locs hR hS => ?_)
  obtain ⟨h3, eh3⟩ : ∃ x : xb_H, x = xb_I h y2 (Int32.toNatClampNeg y1) (vp_nar .boolean y0) := ⟨_, rfl⟩
  rw [← eh3] at hR
  have hw := hw h3 eh3
  have hE : xb_ext h0 h3 := by rw [eh3]; exact hE
  refine lv_aload_n hx hb (xb_d D_M_instantiate 240 rfl) rfl (lv_at hl 0 rfl) ?_
  obtain ⟨hk4, hw⟩ := hw
  refine xb_getP (C := R_M) (T := F_M) (N := 97) hx hb 8 61 hts fin_M hown hR hk4 (by decide) rfl (by decide) rfl (hts _ m_418ce3a7) (fun _ h9 => h9) (xb_d D_M_instantiate 241 rfl) ?_
  obtain ⟨b5, eb5, hw⟩ := hw
  refine xb_some eb5 ?_
  refine lv_aload_n hx hb (xb_d D_M_instantiate 242 rfl) rfl (lv_at hl 0 rfl) ?_
  refine xb_getI (C := R_M) (T := F_M) (N := 97) hx hb 8 58 hts fin_M hown hR hk4 (by decide) rfl (by decide) rfl (hts _ m_94ecb3cf) (fun _ h9 => h9) (xb_d D_M_instantiate 243 rfl) ?_
  refine lv_iload hx hb (xb_d D_M_instantiate 244 rfl) (lv_at hl 3 rfl) ?_
  refine lv_iadd hx hb (xb_d D_M_instantiate 245 rfl) ?_
  refine lv_aload_n hx hb (xb_d D_M_instantiate 246 rfl) rfl (lv_at hl 0 rfl) ?_
  refine lv_iload hx hb (xb_d D_M_instantiate 247 rfl) (lv_at hl 2 rfl) ?_
  refine xb_call0 (D := D) (A := A) (σ := σ) (h := h3) (d := 9) (maxL := 8) (rest := [.int ((xb_i h3 x0 58) + x13), .ref b5]) (av := [.ref x0, .int x12]) (fun T hT X => by obtain ⟨cb9, ra9, rb9, rc9⟩ := xb_recv (ci := 8) hR rfl hk4 (by decide); exact xt_invV X hx hown (hts _ m_3863d309) (hts _ m_06065df9) (hts _ m_e2bfe1f7) (xt_sigOf (hts _ m_426e00bf)) nm_M_constant (by rw [hT]; exact ra9) rb9 rc9 (g := F0 m 446 ls [.int x12, .ref x0, .int ((xb_i h3 x0 58) + x13), .ref b5]) rfl (argsL := [.int x12]) (rest := [.int ((xb_i h3 x0 58) + x13), .ref b5]) rfl rfl (by rw [hb]; exact (xb_d D_M_instantiate 248 rfl))) (ok_M_constant l hfl D A σ x0 x12 h3 _ hw) (hml.trans hl.1.symm) (by rw [hb]; exact (xb_d D_M_instantiate 248 rfl)) (Nat.le_of_ble_eq_true rfl) (Nat.le_of_ble_eq_true rfl) (Nat.le_of_ble_eq_true rfl) (show k ≤ MC by omega) (show n ≤ MS by omega) (xt_w1 hB.1 m_426e00bf) (xt_cdOf hB.1 m_426e00bf) (hts _ m_d5ed7bed) hB hR hS hA (fun vv h6 H locs hq hEh6 hR hS => ?_)
  obtain ⟨r7, rfl, hw⟩ := hq
  have hw := hw hEh6
  have hE := hE.tr hEh6
  refine W.eq (g2 := F0 m 449 ls [.long r7, .int ((xb_i h3 x0 58) + x13), .ref b5]) rfl ?_
  obtain ⟨hk8, hw⟩ := hw
  obtain ⟨hi9, hw⟩ := hw
  refine xb_last hx hb hR hS hk8 hi9 (xb_d D_M_instantiate 249 rfl) (fun H locs hR hS => ?_)
  obtain ⟨h10, eh10⟩ : ∃ x : xb_H, x = xb_L h6 b5 (Int32.toNatClampNeg ((xb_i h3 x0 58) + x13)) r7 := ⟨_, rfl⟩
  rw [← eh10] at hR
  have hw := hw h10 eh10
  have hE : xb_ext h0 h10 := by rw [eh10]; exact hE
  refine lv_iinc (v := (x13 + 1)) (k := 3) hx hb (xb_d D_M_instantiate 250 rfl) hl rfl (by first | rfl | decide) (by decide) rfl (fun ls hl => ?_)
  have hl : lv_has ls 14 [(13, .int (x13 + 1)), (0, .ref x0), (1, .int x1), (12, .int x12)] := hl
  refine lv_goto (tgt := 365) hx hb (xb_d D_M_instantiate 251 rfl) rfl ?_
  exact hK365 x0 x1 x12 (x13 + 1) h10 bc bs hw p e s m args below meth c hC H locs ls k n hE (lv_sub hl [1, 2, 3, 0] rfl) hR hS (by omega) (by omega)

set_option maxHeartbeats 4000000 in
set_option maxRecDepth 100000 in
theorem am_M_instantiate_L365 (l : Launch) (hfl : l.flags = pinnedFlags ++ [noTraceFlag]) (D : va_G) (A : Nat → Prop) (σ MC MS : Nat) (h0 : xb_H) (Qr : Int32 → xb_H → Nat → Nat → Prop) (n9 : Nat) : ∀ (x0 : Nat) (x1 : Int32) (x12 : Int32) (x13 : Int32) (h : xb_H) (bc : Nat) (bs : Nat), w_M_instantiate_L365 Qr n9 x0 x1 x12 x13 h bc bs → xb_am l D A σ 12 MC MS h0 (fun v h bc bs => ∃ r, v = some (.int r) ∧ Qr r h bc bs) (fun _ _ _ _ => False) y_M_instantiate.cls y_M_instantiate.name b_M_instantiate 14 ([] : List ExceptionTableEntry) (some .int) 365 [(0, .ref x0), (1, .int x1), (12, .int x12), (13, .int x13)] [] h bc bs := by
  induction n9 with
  | zero => intro x0 x1 x12 x13 h bc bs hw; exact False.elim hw
  | succ n9 ih =>
    intro x0 x1 x12 x13 h bc bs hw
    unfold w_M_instantiate_L365 at hw
    intro p e s m args below meth c hC H locs ls k n hE hl hR hS hk hn
    obtain ⟨hx, hb, hown, hlocks, htab, hml, hr, hB, hA, hnm⟩ := id hC
    have hts := hB.1.1.at args
    refine lv_iload hx hb (xb_d D_M_instantiate 203 rfl) (lv_at hl 3 rfl) ?_
    refine lv_aload_n hx hb (xb_d D_M_instantiate 204 rfl) rfl (lv_at hl 0 rfl) ?_
    refine lv_iload_n hx hb (xb_d D_M_instantiate 205 rfl) rfl (lv_at hl 1 rfl) ?_
    refine lv_bipush (v := 6) hx hb (xb_d D_M_instantiate 206 rfl) (by decide) ?_
    obtain ⟨hk1, hw⟩ := hw
    refine xb_call0 (D := D) (A := A) (σ := σ) (h := h) (d := 2) (maxL := 3) (rest := [.int x13]) (av := [.ref x0, .int x1, .int 6]) (fun T hT X => by obtain ⟨cb9, ra9, rb9, rc9⟩ := xb_recv (ci := 8) hR rfl hk1 (by decide); exact xt_invV X hx hown (hts _ m_b47f62c2) (hts _ m_9f071faf) (hts _ m_e1bb5c84) (xt_sigOf (hts _ m_3a6212d6)) nm_M_manyOf (by rw [hT]; exact ra9) rb9 rc9 (g := F0 m 371 ls [.int 6, .int x1, .ref x0, .int x13]) rfl (argsL := [.int x1, .int 6]) (rest := [.int x13]) rfl rfl (by rw [hb]; exact (xb_d D_M_instantiate 207 rfl))) (ok_M_manyOf l hfl D A σ x0 x1 6 h _ hw) (hml.trans hl.1.symm) (by rw [hb]; exact (xb_d D_M_instantiate 207 rfl)) (Nat.le_of_ble_eq_true rfl) (Nat.le_of_ble_eq_true rfl) (Nat.le_of_ble_eq_true rfl) (show k ≤ MC by omega) (show n ≤ MS by omega) (xt_w1 hB.1 m_3a6212d6) (xt_cdOf hB.1 m_3a6212d6) (hts _ m_d5ed7bed) hB hR hS hA (fun vv h2 H locs hq hEh2 hR hS => ?_)
    obtain ⟨r3, rfl, hw⟩ := hq
    have hw := hw hEh2
    have hE := hE.tr hEh2
    refine W.eq (g2 := F0 m 374 ls [.int r3, .int x13]) rfl ?_
    refine lv_icmp_ge (tgt := 456) hx hb (xb_d D_M_instantiate 208 rfl) rfl (fun hc4 => ?_) (fun hc4 => ?_)
    · have hw := hw.1 hc4
      refine lv_aload_n hx hb (xb_d D_M_instantiate 252 rfl) rfl (lv_at hl 0 rfl) ?_
      refine lv_iload hx hb (xb_d D_M_instantiate 253 rfl) (lv_at hl 2 rfl) ?_
      refine lv_bipush (v := 9) hx hb (xb_d D_M_instantiate 254 rfl) (by decide) ?_
      have hk1 : xb_k h2 x0 = 9 := hEh2.k hk1
      refine xb_call0 (D := D) (A := A) (σ := σ) (h := h2) (d := 10) (maxL := 12) (rest := []) (av := [.ref x0, .int x12, .int 9]) (fun T hT X => by obtain ⟨cb9, ra9, rb9, rc9⟩ := xb_recv (ci := 8) hR rfl hk1 (by decide); exact xt_invV X hx hown (hts _ m_b8b7d5c9) (hts _ m_e3a5e08d) (hts _ m_11434057) (xt_sigOf (hts _ m_67e2f729)) nm_M_rowsFit (by rw [hT]; exact ra9) rb9 rc9 (g := F0 m 461 ls [.int 9, .int x12, .ref x0]) rfl (argsL := [.int x12, .int 9]) (rest := []) rfl rfl (by rw [hb]; exact (xb_d D_M_instantiate 255 rfl))) (ok_M_rowsFit l hfl D A σ x0 x12 9 h2 _ hw) (hml.trans hl.1.symm) (by rw [hb]; exact (xb_d D_M_instantiate 255 rfl)) (Nat.le_of_ble_eq_true rfl) (Nat.le_of_ble_eq_true rfl) (Nat.le_of_ble_eq_true rfl) (show k ≤ MC by omega) (show n ≤ MS by omega) (xt_w1 hB.1 m_67e2f729) (xt_cdOf hB.1 m_67e2f729) (hts _ m_d5ed7bed) hB hR hS hA (fun vv h5 H locs hq hEh5 hR hS => ?_)
      obtain ⟨r6, rfl, hw⟩ := hq
      have hw := hw hEh5
      have hE := hE.tr hEh5
      refine W.eq (g2 := F0 m 464 ls [.int r6]) rfl ?_
      refine lv_if_eq (tgt := 478) hx hb (xb_d D_M_instantiate 256 rfl) rfl (fun hc7 => ?_) (fun hc7 => ?_)
      · have hw := hw.1 hc7
        exact am_M_instantiate_L478 l hfl D A σ MC MS h0 Qr h5 bc bs hw p e s m args below meth c hC H locs ls k n hE (lv_sub hl [] rfl) hR hS (by omega) (by omega)
      · have hw := hw.2 hc7
        refine lv_aload_n hx hb (xb_d D_M_instantiate 257 rfl) rfl (lv_at hl 0 rfl) ?_
        refine lv_iload hx hb (xb_d D_M_instantiate 258 rfl) (lv_at hl 2 rfl) ?_
        refine lv_bipush (v := 11) hx hb (xb_d D_M_instantiate 259 rfl) (by decide) ?_
        have hk1 : xb_k h5 x0 = 9 := hEh5.k hk1
        refine xb_call0 (D := D) (A := A) (σ := σ) (h := h5) (d := 10) (maxL := 12) (rest := []) (av := [.ref x0, .int x12, .int 11]) (fun T hT X => by obtain ⟨cb9, ra9, rb9, rc9⟩ := xb_recv (ci := 8) hR rfl hk1 (by decide); exact xt_invV X hx hown (hts _ m_b8b7d5c9) (hts _ m_e3a5e08d) (hts _ m_11434057) (xt_sigOf (hts _ m_67e2f729)) nm_M_rowsFit (by rw [hT]; exact ra9) rb9 rc9 (g := F0 m 472 ls [.int 11, .int x12, .ref x0]) rfl (argsL := [.int x12, .int 11]) (rest := []) rfl rfl (by rw [hb]; exact (xb_d D_M_instantiate 260 rfl))) (ok_M_rowsFit l hfl D A σ x0 x12 11 h5 _ hw) (hml.trans hl.1.symm) (by rw [hb]; exact (xb_d D_M_instantiate 260 rfl)) (Nat.le_of_ble_eq_true rfl) (Nat.le_of_ble_eq_true rfl) (Nat.le_of_ble_eq_true rfl) (show k ≤ MC by omega) (show n ≤ MS by omega) (xt_w1 hB.1 m_67e2f729) (xt_cdOf hB.1 m_67e2f729) (hts _ m_d5ed7bed) hB hR hS hA (fun vv h8 H locs hq hEh8 hR hS => ?_)
        obtain ⟨r9, rfl, hw⟩ := hq
        have hw := hw hEh8
        have hE := hE.tr hEh8
        refine W.eq (g2 := F0 m 475 ls [.int r9]) rfl ?_
        refine lv_if_ne (tgt := 480) hx hb (xb_d D_M_instantiate 261 rfl) rfl (fun hc10 => ?_) (fun hc10 => ?_)
        · have hw := hw.1 hc10
          refine lv_aload_n hx hb (xb_d D_M_instantiate 264 rfl) rfl (lv_at hl 0 rfl) ?_
          refine lv_iload hx hb (xb_d D_M_instantiate 265 rfl) (lv_at hl 2 rfl) ?_
          refine lv_iload_n hx hb (xb_d D_M_instantiate 266 rfl) rfl (lv_at hl 1 rfl) ?_
          have hk1 : xb_k h8 x0 = 9 := hEh8.k hk1
          refine xb_call0 (D := D) (A := A) (σ := σ) (h := h8) (d := 3) (maxL := 4) (rest := []) (av := [.ref x0, .int x12, .int x1]) (fun T hT X => by obtain ⟨cb9, ra9, rb9, rc9⟩ := xb_recv (ci := 8) hR rfl hk1 (by decide); exact xt_invV X hx hown (hts _ m_a61883da) (hts _ m_21c8ff34) (hts _ m_d70b05f4) (xt_sigOf (hts _ m_9215e882)) nm_M_settle (by rw [hT]; exact ra9) rb9 rc9 (g := F0 m 484 ls [.int x1, .int x12, .ref x0]) rfl (argsL := [.int x12, .int x1]) (rest := []) rfl rfl (by rw [hb]; exact (xb_d D_M_instantiate 267 rfl))) (ok_M_settle l hfl D A σ x0 x12 x1 h8 _ hw) (hml.trans hl.1.symm) (by rw [hb]; exact (xb_d D_M_instantiate 267 rfl)) (Nat.le_of_ble_eq_true rfl) (Nat.le_of_ble_eq_true rfl) (Nat.le_of_ble_eq_true rfl) (show k ≤ MC by omega) (show n ≤ MS by omega) (xt_w1 hB.1 m_9215e882) (xt_cdOf hB.1 m_9215e882) (hts _ m_d5ed7bed) hB hR hS hA (fun vv h11 H locs hq hEh11 hR hS => ?_)
          obtain ⟨rfl, hw⟩ := hq
          have hw := hw hEh11
          have hE := hE.tr hEh11
          refine W.eq (g2 := F0 m 487 ls []) rfl ?_
          refine lv_aload_n hx hb (xb_d D_M_instantiate 268 rfl) rfl (lv_at hl 0 rfl) ?_
          refine lv_iload hx hb (xb_d D_M_instantiate 269 rfl) (lv_at hl 2 rfl) ?_
          have hk1 : xb_k h11 x0 = 9 := hEh11.k hk1
          refine xb_call0 (D := D) (A := A) (σ := σ) (h := h11) (d := 10) (maxL := 13) (rest := []) (av := [.ref x0, .int x12]) (fun T hT X => by obtain ⟨cb9, ra9, rb9, rc9⟩ := xb_recv (ci := 8) hR rfl hk1 (by decide); exact xt_invV X hx hown (hts _ m_da9021b0) (hts _ m_26ecfc0b) (hts _ m_93b2acea) (xt_sigOf (hts _ m_02522c53)) nm_M_writeRows (by rw [hT]; exact ra9) rb9 rc9 (g := F0 m 490 ls [.int x12, .ref x0]) rfl (argsL := [.int x12]) (rest := []) rfl rfl (by rw [hb]; exact (xb_d D_M_instantiate 270 rfl))) (ok_M_writeRows l hfl D A σ x0 x12 h11 _ hw) (hml.trans hl.1.symm) (by rw [hb]; exact (xb_d D_M_instantiate 270 rfl)) (Nat.le_of_ble_eq_true rfl) (Nat.le_of_ble_eq_true rfl) (Nat.le_of_ble_eq_true rfl) (show k ≤ MC by omega) (show n ≤ MS by omega) (xt_w1 hB.1 m_02522c53) (xt_cdOf hB.1 m_02522c53) (hts _ m_d5ed7bed) hB hR hS hA (fun vv h13 H locs hq hEh13 hR hS => ?_)
          obtain ⟨rfl, hw⟩ := hq
          have hw := hw hEh13
          have hE := hE.tr hEh13
          refine W.eq (g2 := F0 m 493 ls []) rfl ?_
          refine lv_aload_n hx hb (xb_d D_M_instantiate 271 rfl) rfl (lv_at hl 0 rfl) ?_
          refine lv_iconst (v := 0) hx hb (xb_d D_M_instantiate 272 rfl) (by decide) ?_
          refine lv_iconst (v := 0) hx hb (xb_d D_M_instantiate 273 rfl) (by decide) ?_
          have hk1 : xb_k h13 x0 = 9 := hEh13.k hk1
          refine xb_call0 (D := D) (A := A) (σ := σ) (h := h13) (d := 2) (maxL := 3) (rest := []) (av := [.ref x0, .int 0, .int 0]) (fun T hT X => by obtain ⟨cb9, ra9, rb9, rc9⟩ := xb_recv (ci := 8) hR rfl hk1 (by decide); exact xt_invV X hx hown (hts _ m_6b6b7e08) (hts _ m_4beacd9b) (hts _ m_24c49834) (xt_sigOf (hts _ m_7cc9e25d)) nm_M_refuse (by rw [hT]; exact ra9) rb9 rc9 (g := F0 m 496 ls [.int 0, .int 0, .ref x0]) rfl (argsL := [.int 0, .int 0]) (rest := []) rfl rfl (by rw [hb]; exact (xb_d D_M_instantiate 274 rfl))) (ok_M_refuse l hfl D A σ x0 0 0 h13 _ hw) (hml.trans hl.1.symm) (by rw [hb]; exact (xb_d D_M_instantiate 274 rfl)) (Nat.le_of_ble_eq_true rfl) (Nat.le_of_ble_eq_true rfl) (Nat.le_of_ble_eq_true rfl) (show k ≤ MC by omega) (show n ≤ MS by omega) (xt_w1 hB.1 m_7cc9e25d) (xt_cdOf hB.1 m_7cc9e25d) (hts _ m_d5ed7bed) hB hR hS hA (fun vv h15 H locs hq hEh15 hR hS => ?_)
          obtain ⟨r16, rfl, hw⟩ := hq
          have hw := hw hEh15
          have hE := hE.tr hEh15
          refine W.eq (g2 := F0 m 499 ls [.int r16]) rfl ?_
          refine lv_pop hx hb (xb_d D_M_instantiate 275 rfl) rfl ?_
          refine lv_aload_n hx hb (xb_d D_M_instantiate 276 rfl) rfl (lv_at hl 0 rfl) ?_
          refine lv_iload_n hx hb (xb_d D_M_instantiate 277 rfl) rfl (lv_at hl 1 rfl) ?_
          refine lv_bipush (v := 8) hx hb (xb_d D_M_instantiate 278 rfl) (by decide) ?_
          have hk1 : xb_k h15 x0 = 9 := hEh15.k hk1
          refine xb_call0 (D := D) (A := A) (σ := σ) (h := h15) (d := 2) (maxL := 3) (rest := []) (av := [.ref x0, .int x1, .int 8]) (fun T hT X => by obtain ⟨cb9, ra9, rb9, rc9⟩ := xb_recv (ci := 8) hR rfl hk1 (by decide); exact xt_invV X hx hown (hts _ m_b47f62c2) (hts _ m_9f071faf) (hts _ m_e1bb5c84) (xt_sigOf (hts _ m_3a6212d6)) nm_M_manyOf (by rw [hT]; exact ra9) rb9 rc9 (g := F0 m 504 ls [.int 8, .int x1, .ref x0]) rfl (argsL := [.int x1, .int 8]) (rest := []) rfl rfl (by rw [hb]; exact (xb_d D_M_instantiate 279 rfl))) (ok_M_manyOf l hfl D A σ x0 x1 8 h15 _ hw) (hml.trans hl.1.symm) (by rw [hb]; exact (xb_d D_M_instantiate 279 rfl)) (Nat.le_of_ble_eq_true rfl) (Nat.le_of_ble_eq_true rfl) (Nat.le_of_ble_eq_true rfl) (show k ≤ MC by omega) (show n ≤ MS by omega) (xt_w1 hB.1 m_3a6212d6) (xt_cdOf hB.1 m_3a6212d6) (hts _ m_d5ed7bed) hB hR hS hA (fun vv h17 H locs hq hEh17 hR hS => ?_)
          obtain ⟨r18, rfl, hw⟩ := hq
          have hw := hw hEh17
          have hE := hE.tr hEh17
          refine W.eq (g2 := F0 m 507 ls [.int r18]) rfl ?_
          refine lv_if_le (tgt := 554) hx hb (xb_d D_M_instantiate 280 rfl) rfl (fun hc19 => ?_) (fun hc19 => ?_)
          · have hw := hw.1 hc19
            exact am_M_instantiate_L554 l hfl D A σ MC MS h0 Qr x12 h17 bc bs hw p e s m args below meth c hC H locs ls k n hE (lv_sub hl [2] rfl) hR hS (by omega) (by omega)
          · have hw := hw.2 hc19
            refine lv_aload_n hx hb (xb_d D_M_instantiate 281 rfl) rfl (lv_at hl 0 rfl) ?_
            refine lv_iload_n hx hb (xb_d D_M_instantiate 282 rfl) rfl (lv_at hl 1 rfl) ?_
            refine lv_aload_n hx hb (xb_d D_M_instantiate 283 rfl) rfl (lv_at hl 0 rfl) ?_
            refine lv_iload_n hx hb (xb_d D_M_instantiate 284 rfl) rfl (lv_at hl 1 rfl) ?_
            refine lv_bipush (v := 8) hx hb (xb_d D_M_instantiate 285 rfl) (by decide) ?_
            refine lv_iconst (v := 0) hx hb (xb_d D_M_instantiate 286 rfl) (by decide) ?_
            have hk1 : xb_k h17 x0 = 9 := hEh17.k hk1
            refine xb_call0 (D := D) (A := A) (σ := σ) (h := h17) (d := 2) (maxL := 4) (rest := [.int x1, .ref x0]) (av := [.ref x0, .int x1, .int 8, .int 0]) (fun T hT X => by obtain ⟨cb9, ra9, rb9, rc9⟩ := xb_recv (ci := 8) hR rfl hk1 (by decide); exact xt_invV X hx hown (hts _ m_7f41753e) (hts _ m_8cdd7108) (hts _ m_e228318f) (xt_sigOf (hts _ m_89667ad5)) nm_M_placeOf (by rw [hT]; exact ra9) rb9 rc9 (g := F0 m 517 ls [.int 0, .int 8, .int x1, .ref x0, .int x1, .ref x0]) rfl (argsL := [.int x1, .int 8, .int 0]) (rest := [.int x1, .ref x0]) rfl rfl (by rw [hb]; exact (xb_d D_M_instantiate 287 rfl))) (ok_M_placeOf l hfl D A σ x0 x1 8 0 h17 _ hw) (hml.trans hl.1.symm) (by rw [hb]; exact (xb_d D_M_instantiate 287 rfl)) (Nat.le_of_ble_eq_true rfl) (Nat.le_of_ble_eq_true rfl) (Nat.le_of_ble_eq_true rfl) (show k ≤ MC by omega) (show n ≤ MS by omega) (xt_w1 hB.1 m_89667ad5) (xt_cdOf hB.1 m_89667ad5) (hts _ m_d5ed7bed) hB hR hS hA (fun vv h20 H locs hq hEh20 hR hS => ?_)
            obtain ⟨r21, rfl, hw⟩ := hq
            have hw := hw hEh20
            have hE := hE.tr hEh20
            refine W.eq (g2 := F0 m 520 ls [.int r21, .int x1, .ref x0]) rfl ?_
            have hk1 : xb_k h20 x0 = 9 := hEh20.k hk1
            refine xb_call0 (D := D) (A := A) (σ := σ) (h := h20) (d := 2) (maxL := 3) (rest := []) (av := [.ref x0, .int x1, .int r21]) (fun T hT X => by obtain ⟨cb9, ra9, rb9, rc9⟩ := xb_recv (ci := 8) hR rfl hk1 (by decide); exact xt_invV X hx hown (hts _ m_bb531879) (hts _ m_4a6cd4a0) (hts _ m_d1c31e3c) (xt_sigOf (hts _ m_48217fba)) nm_M_go (by rw [hT]; exact ra9) rb9 rc9 (g := F0 m 520 ls [.int r21, .int x1, .ref x0]) rfl (argsL := [.int x1, .int r21]) (rest := []) rfl rfl (by rw [hb]; exact (xb_d D_M_instantiate 288 rfl))) (ok_M_go l hfl D A σ x0 x1 r21 h20 _ hw) (hml.trans hl.1.symm) (by rw [hb]; exact (xb_d D_M_instantiate 288 rfl)) (Nat.le_of_ble_eq_true rfl) (Nat.le_of_ble_eq_true rfl) (Nat.le_of_ble_eq_true rfl) (show k ≤ MC by omega) (show n ≤ MS by omega) (xt_w1 hB.1 m_48217fba) (xt_cdOf hB.1 m_48217fba) (hts _ m_d5ed7bed) hB hR hS hA (fun vv h22 H locs hq hEh22 hR hS => ?_)
            obtain ⟨rfl, hw⟩ := hq
            have hw := hw hEh22
            have hE := hE.tr hEh22
            refine W.eq (g2 := F0 m 523 ls []) rfl ?_
            refine lv_aload_n hx hb (xb_d D_M_instantiate 289 rfl) rfl (lv_at hl 0 rfl) ?_
            refine lv_aload_n hx hb (xb_d D_M_instantiate 290 rfl) rfl (lv_at hl 0 rfl) ?_
            refine lv_iload hx hb (xb_d D_M_instantiate 291 rfl) (lv_at hl 2 rfl) ?_
            refine lv_iconst (v := 0) hx hb (xb_d D_M_instantiate 292 rfl) (by decide) ?_
            refine lv_aload_n hx hb (xb_d D_M_instantiate 293 rfl) rfl (lv_at hl 0 rfl) ?_
            have hk1 : xb_k h22 x0 = 9 := hEh22.k hk1
            refine xb_call0 (D := D) (A := A) (σ := σ) (h := h22) (d := 4) (maxL := 5) (rest := [.int 0, .int x12, .ref x0, .ref x0]) (av := [.ref x0]) (fun T hT X => by obtain ⟨cb9, ra9, rb9, rc9⟩ := xb_recv (ci := 8) hR rfl hk1 (by decide); exact xt_invV X hx hown (hts _ m_e991293f) (hts _ m_385a74b3) (hts _ m_c9fbcd02) (xt_sigOf (hts _ m_1f53f210)) nm_M_count (by rw [hT]; exact ra9) rb9 rc9 (g := F0 m 529 ls [.ref x0, .int 0, .int x12, .ref x0, .ref x0]) rfl (argsL := []) (rest := [.int 0, .int x12, .ref x0, .ref x0]) rfl rfl (by rw [hb]; exact (xb_d D_M_instantiate 294 rfl))) (ok_M_count l hfl D A σ x0 h22 _ hw) (hml.trans hl.1.symm) (by rw [hb]; exact (xb_d D_M_instantiate 294 rfl)) (Nat.le_of_ble_eq_true rfl) (Nat.le_of_ble_eq_true rfl) (Nat.le_of_ble_eq_true rfl) (show k ≤ MC by omega) (show n ≤ MS by omega) (xt_w1 hB.1 m_1f53f210) (xt_cdOf hB.1 m_1f53f210) (hts _ m_d5ed7bed) hB hR hS hA (fun vv h24 H locs hq hEh24 hR hS => ?_)
            obtain ⟨r25, rfl, hw⟩ := hq
            have hw := hw hEh24
            have hE := hE.tr hEh24
            refine W.eq (g2 := F0 m 532 ls [.long r25, .int 0, .int x12, .ref x0, .ref x0]) rfl ?_
            refine lv_l2i hx hb (xb_d D_M_instantiate 295 rfl) rfl ?_
            have hk1 : xb_k h24 x0 = 9 := hEh24.k hk1
            refine xb_call0 (D := D) (A := A) (σ := σ) (h := h24) (d := 8) (maxL := 6) (rest := [.ref x0]) (av := [.ref x0, .int x12, .int 0, .int (Int64.toInt32 r25)]) (fun T hT X => by obtain ⟨cb9, ra9, rb9, rc9⟩ := xb_recv (ci := 8) hR rfl hk1 (by decide); exact xt_invV X hx hown (hts _ m_5ec466f2) (hts _ m_f0f1d102) (hts _ m_cfa25922) (xt_sigOf (hts _ m_59347bba)) nm_M_meant (by rw [hT]; exact ra9) rb9 rc9 (g := F0 m 533 ls [.int (Int64.toInt32 r25), .int 0, .int x12, .ref x0, .ref x0]) rfl (argsL := [.int x12, .int 0, .int (Int64.toInt32 r25)]) (rest := [.ref x0]) rfl rfl (by rw [hb]; exact (xb_d D_M_instantiate 296 rfl))) (ok_M_meant l hfl D A σ x0 x12 0 (Int64.toInt32 r25) h24 _ hw) (hml.trans hl.1.symm) (by rw [hb]; exact (xb_d D_M_instantiate 296 rfl)) (Nat.le_of_ble_eq_true rfl) (Nat.le_of_ble_eq_true rfl) (Nat.le_of_ble_eq_true rfl) (show k ≤ MC by omega) (show n ≤ MS by omega) (xt_w1 hB.1 m_59347bba) (xt_cdOf hB.1 m_59347bba) (hts _ m_d5ed7bed) hB hR hS hA (fun vv h26 H locs hq hEh26 hR hS => ?_)
            obtain ⟨r27, rfl, hw⟩ := hq
            have hw := hw hEh26
            have hE := hE.tr hEh26
            refine W.eq (g2 := F0 m 536 ls [.int r27, .ref x0]) rfl ?_
            have hk1 : xb_k h26 x0 = 9 := hEh26.k hk1
            refine xb_putI (C := R_M) (T := F_M) (N := 97) (ty := .int) (x := r27) hx hb 8 64 hts fin_M t_M t_M_ok n_M hown hR hS hk1 (by decide) rfl (by decide) rfl (hts _ m_df1b4df4) (fun _ h9 => h9) rfl (by decide +kernel) rfl rfl (xb_d D_M_instantiate 297 rfl) (fun H locs hR hS => ?_)
            obtain ⟨h28, eh28⟩ : ∃ x : xb_H, x = xb_I h26 x0 64 r27 := ⟨_, rfl⟩
            rw [← eh28] at hR
            have hw := hw h28 eh28
            have hE : xb_ext h0 h28 := by rw [eh28]; exact hE
            refine lv_aload_n hx hb (xb_d D_M_instantiate 298 rfl) rfl (lv_at hl 0 rfl) ?_
            refine lv_iconst (v := 1) hx hb (xb_d D_M_instantiate 299 rfl) (by decide) ?_
            have hk1 : xb_k h28 x0 = 9 := by rw [eh28]; exact hk1
            refine xb_putI (C := R_M) (T := F_M) (N := 97) (ty := .boolean) (x := 1) hx hb 8 62 hts fin_M t_M t_M_ok n_M hown hR hS hk1 (by decide) rfl (by decide) rfl (hts _ m_71a5ca12) (fun _ h9 => h9) rfl (by decide +kernel) (by decide) (by decide) (xb_d D_M_instantiate 300 rfl) (fun H locs hR hS => ?_)
            obtain ⟨h29, eh29⟩ : ∃ x : xb_H, x = xb_I h28 x0 62 1 := ⟨_, rfl⟩
            rw [← eh29] at hR
            have hw := hw h29 eh29
            have hE : xb_ext h0 h29 := by rw [eh29]; exact hE
            refine lv_aload_n hx hb (xb_d D_M_instantiate 301 rfl) rfl (lv_at hl 0 rfl) ?_
            refine lv_iconst (v := 0) hx hb (xb_d D_M_instantiate 302 rfl) (by decide) ?_
            have hk1 : xb_k h29 x0 = 9 := by rw [eh29]; exact hk1
            refine xb_putI (C := R_M) (T := F_M) (N := 97) (ty := .boolean) (x := 0) hx hb 8 63 hts fin_M t_M t_M_ok n_M hown hR hS hk1 (by decide) rfl (by decide) rfl (hts _ m_f4296656) (fun _ h9 => h9) rfl (by decide +kernel) (by decide) (by decide) (xb_d D_M_instantiate 303 rfl) (fun H locs hR hS => ?_)
            obtain ⟨h30, eh30⟩ : ∃ x : xb_H, x = xb_I h29 x0 63 0 := ⟨_, rfl⟩
            rw [← eh30] at hR
            have hw := hw h30 eh30
            have hE : xb_ext h0 h30 := by rw [eh30]; exact hE
            refine lv_aload_n hx hb (xb_d D_M_instantiate 304 rfl) rfl (lv_at hl 0 rfl) ?_
            refine lv_iconst (v := 0) hx hb (xb_d D_M_instantiate 305 rfl) (by decide) ?_
            have hk1 : xb_k h30 x0 = 9 := by rw [eh30]; exact hk1
            refine xb_putI (C := R_M) (T := F_M) (N := 97) (ty := .int) (x := 0) hx hb 8 93 hts fin_M t_M t_M_ok n_M hown hR hS hk1 (by decide) rfl (by decide) rfl (hts _ m_2f4a9320) (fun _ h9 => h9) rfl (by decide +kernel) rfl rfl (xb_d D_M_instantiate 306 rfl) (fun H locs hR hS => ?_)
            obtain ⟨h31, eh31⟩ : ∃ x : xb_H, x = xb_I h30 x0 93 0 := ⟨_, rfl⟩
            rw [← eh31] at hR
            have hw := hw h31 eh31
            have hE : xb_ext h0 h31 := by rw [eh31]; exact hE
            exact am_M_instantiate_L554 l hfl D A σ MC MS h0 Qr x12 h31 bc bs hw p e s m args below meth c hC H locs ls k n hE (lv_sub hl [2] rfl) hR hS (by omega) (by omega)
        · have hw := hw.2 hc10
          exact am_M_instantiate_L478 l hfl D A σ MC MS h0 Qr h8 bc bs hw p e s m args below meth c hC H locs ls k n hE (lv_sub hl [] rfl) hR hS (by omega) (by omega)
    · have hw := hw.2 hc4
      refine lv_aload_n hx hb (xb_d D_M_instantiate 209 rfl) rfl (lv_at hl 0 rfl) ?_
      refine lv_iload_n hx hb (xb_d D_M_instantiate 210 rfl) rfl (lv_at hl 1 rfl) ?_
      refine lv_aload_n hx hb (xb_d D_M_instantiate 211 rfl) rfl (lv_at hl 0 rfl) ?_
      refine lv_iload_n hx hb (xb_d D_M_instantiate 212 rfl) rfl (lv_at hl 1 rfl) ?_
      refine lv_bipush (v := 6) hx hb (xb_d D_M_instantiate 213 rfl) (by decide) ?_
      refine lv_iload hx hb (xb_d D_M_instantiate 214 rfl) (lv_at hl 3 rfl) ?_
      have hk1 : xb_k h2 x0 = 9 := hEh2.k hk1
      refine xb_call0 (D := D) (A := A) (σ := σ) (h := h2) (d := 2) (maxL := 4) (rest := [.int x1, .ref x0]) (av := [.ref x0, .int x1, .int 6, .int x13]) (fun T hT X => by obtain ⟨cb9, ra9, rb9, rc9⟩ := xb_recv (ci := 8) hR rfl hk1 (by decide); exact xt_invV X hx hown (hts _ m_7f41753e) (hts _ m_8cdd7108) (hts _ m_e228318f) (xt_sigOf (hts _ m_89667ad5)) nm_M_placeOf (by rw [hT]; exact ra9) rb9 rc9 (g := F0 m 385 ls [.int x13, .int 6, .int x1, .ref x0, .int x1, .ref x0]) rfl (argsL := [.int x1, .int 6, .int x13]) (rest := [.int x1, .ref x0]) rfl rfl (by rw [hb]; exact (xb_d D_M_instantiate 215 rfl))) (ok_M_placeOf l hfl D A σ x0 x1 6 x13 h2 _ hw) (hml.trans hl.1.symm) (by rw [hb]; exact (xb_d D_M_instantiate 215 rfl)) (Nat.le_of_ble_eq_true rfl) (Nat.le_of_ble_eq_true rfl) (Nat.le_of_ble_eq_true rfl) (show k ≤ MC by omega) (show n ≤ MS by omega) (xt_w1 hB.1 m_89667ad5) (xt_cdOf hB.1 m_89667ad5) (hts _ m_d5ed7bed) hB hR hS hA (fun vv h32 H locs hq hEh32 hR hS => ?_)
      obtain ⟨r33, rfl, hw⟩ := hq
      have hw := hw hEh32
      have hE := hE.tr hEh32
      refine W.eq (g2 := F0 m 388 ls [.int r33, .int x1, .ref x0]) rfl ?_
      have hk1 : xb_k h32 x0 = 9 := hEh32.k hk1
      refine xb_call0 (D := D) (A := A) (σ := σ) (h := h32) (d := 2) (maxL := 3) (rest := []) (av := [.ref x0, .int x1, .int r33]) (fun T hT X => by obtain ⟨cb9, ra9, rb9, rc9⟩ := xb_recv (ci := 8) hR rfl hk1 (by decide); exact xt_invV X hx hown (hts _ m_bb531879) (hts _ m_4a6cd4a0) (hts _ m_d1c31e3c) (xt_sigOf (hts _ m_48217fba)) nm_M_go (by rw [hT]; exact ra9) rb9 rc9 (g := F0 m 388 ls [.int r33, .int x1, .ref x0]) rfl (argsL := [.int x1, .int r33]) (rest := []) rfl rfl (by rw [hb]; exact (xb_d D_M_instantiate 216 rfl))) (ok_M_go l hfl D A σ x0 x1 r33 h32 _ hw) (hml.trans hl.1.symm) (by rw [hb]; exact (xb_d D_M_instantiate 216 rfl)) (Nat.le_of_ble_eq_true rfl) (Nat.le_of_ble_eq_true rfl) (Nat.le_of_ble_eq_true rfl) (show k ≤ MC by omega) (show n ≤ MS by omega) (xt_w1 hB.1 m_48217fba) (xt_cdOf hB.1 m_48217fba) (hts _ m_d5ed7bed) hB hR hS hA (fun vv h34 H locs hq hEh34 hR hS => ?_)
      obtain ⟨rfl, hw⟩ := hq
      have hw := hw hEh34
      have hE := hE.tr hEh34
      refine W.eq (g2 := F0 m 391 ls []) rfl ?_
      refine lv_aload_n hx hb (xb_d D_M_instantiate 217 rfl) rfl (lv_at hl 0 rfl) ?_
      have hk1 : xb_k h34 x0 = 9 := hEh34.k hk1
      refine xb_getP (C := R_M) (T := F_M) (N := 97) hx hb 8 59 hts fin_M hown hR hk1 (by decide) rfl (by decide) rfl (hts _ m_3369fcb7) (fun _ h9 => h9) (xb_d D_M_instantiate 218 rfl) ?_
      obtain ⟨b36, eb36, hw⟩ := hw
      refine xb_some eb36 ?_
      refine lv_aload_n hx hb (xb_d D_M_instantiate 219 rfl) rfl (lv_at hl 0 rfl) ?_
      refine xb_getI (C := R_M) (T := F_M) (N := 97) hx hb 8 58 hts fin_M hown hR hk1 (by decide) rfl (by decide) rfl (hts _ m_94ecb3cf) (fun _ h9 => h9) (xb_d D_M_instantiate 220 rfl) ?_
      refine lv_iload hx hb (xb_d D_M_instantiate 221 rfl) (lv_at hl 3 rfl) ?_
      refine lv_iadd hx hb (xb_d D_M_instantiate 222 rfl) ?_
      refine lv_aload_n hx hb (xb_d D_M_instantiate 223 rfl) rfl (lv_at hl 0 rfl) ?_
      refine xb_call0 (D := D) (A := A) (σ := σ) (h := h34) (d := 3) (maxL := 2) (rest := [.int ((xb_i h34 x0 58) + x13), .ref b36]) (av := [.ref x0]) (fun T hT X => by obtain ⟨cb9, ra9, rb9, rc9⟩ := xb_recv (ci := 8) hR rfl hk1 (by decide); exact xt_invV X hx hown (hts _ m_0e978570) (hts _ m_40099f98) (hts _ m_a7dbfd07) (xt_sigOf (hts _ m_0af1ec6a)) nm_M_next (by rw [hT]; exact ra9) rb9 rc9 (g := F0 m 403 ls [.ref x0, .int ((xb_i h34 x0 58) + x13), .ref b36]) rfl (argsL := []) (rest := [.int ((xb_i h34 x0 58) + x13), .ref b36]) rfl rfl (by rw [hb]; exact (xb_d D_M_instantiate 224 rfl))) (ok_M_next l hfl D A σ x0 h34 _ hw) (hml.trans hl.1.symm) (by rw [hb]; exact (xb_d D_M_instantiate 224 rfl)) (Nat.le_of_ble_eq_true rfl) (Nat.le_of_ble_eq_true rfl) (Nat.le_of_ble_eq_true rfl) (show k ≤ MC by omega) (show n ≤ MS by omega) (xt_w1 hB.1 m_0af1ec6a) (xt_cdOf hB.1 m_0af1ec6a) (hts _ m_d5ed7bed) hB hR hS hA (fun vv h37 H locs hq hEh37 hR hS => ?_)
      obtain ⟨r38, rfl, hw⟩ := hq
      have hw := hw hEh37
      have hE := hE.tr hEh37
      refine W.eq (g2 := F0 m 406 ls [.int r38, .int ((xb_i h34 x0 58) + x13), .ref b36]) rfl ?_
      obtain ⟨hk39, hw⟩ := hw
      obtain ⟨hi40, hw⟩ := hw
      refine xb_iast hx hb hR hS hk39 hi40 (xb_d D_M_instantiate 225 rfl) (fun H locs hR hS => ?_)
      obtain ⟨h41, eh41⟩ : ∃ x : xb_H, x = xb_I h37 b36 (Int32.toNatClampNeg ((xb_i h34 x0 58) + x13)) r38 := ⟨_, rfl⟩
      rw [← eh41] at hR
      have hw := hw h41 eh41
      have hE : xb_ext h0 h41 := by rw [eh41]; exact hE
      refine lv_aload_n hx hb (xb_d D_M_instantiate 226 rfl) rfl (lv_at hl 0 rfl) ?_
      have hk1 : xb_k h37 x0 = 9 := hEh37.k hk1
      have hk1 : xb_k h41 x0 = 9 := by rw [eh41]; exact hk1
      refine xb_getP (C := R_M) (T := F_M) (N := 97) hx hb 8 60 hts fin_M hown hR hk1 (by decide) rfl (by decide) rfl (hts _ m_b875e939) (fun _ h9 => h9) (xb_d D_M_instantiate 227 rfl) ?_
      obtain ⟨b42, eb42, hw⟩ := hw
      refine xb_some eb42 ?_
      refine lv_aload_n hx hb (xb_d D_M_instantiate 228 rfl) rfl (lv_at hl 0 rfl) ?_
      refine xb_getI (C := R_M) (T := F_M) (N := 97) hx hb 8 58 hts fin_M hown hR hk1 (by decide) rfl (by decide) rfl (hts _ m_94ecb3cf) (fun _ h9 => h9) (xb_d D_M_instantiate 229 rfl) ?_
      refine lv_iload hx hb (xb_d D_M_instantiate 230 rfl) (lv_at hl 3 rfl) ?_
      refine lv_iadd hx hb (xb_d D_M_instantiate 231 rfl) ?_
      refine lv_aload_n hx hb (xb_d D_M_instantiate 232 rfl) rfl (lv_at hl 0 rfl) ?_
      refine xb_call0 (D := D) (A := A) (σ := σ) (h := h41) (d := 3) (maxL := 2) (rest := [.int ((xb_i h41 x0 58) + x13), .ref b42]) (av := [.ref x0]) (fun T hT X => by obtain ⟨cb9, ra9, rb9, rc9⟩ := xb_recv (ci := 8) hR rfl hk1 (by decide); exact xt_invV X hx hown (hts _ m_0e978570) (hts _ m_40099f98) (hts _ m_a7dbfd07) (xt_sigOf (hts _ m_0af1ec6a)) nm_M_next (by rw [hT]; exact ra9) rb9 rc9 (g := F0 m 419 ls [.ref x0, .int ((xb_i h41 x0 58) + x13), .ref b42]) rfl (argsL := []) (rest := [.int ((xb_i h41 x0 58) + x13), .ref b42]) rfl rfl (by rw [hb]; exact (xb_d D_M_instantiate 233 rfl))) (ok_M_next l hfl D A σ x0 h41 _ hw) (hml.trans hl.1.symm) (by rw [hb]; exact (xb_d D_M_instantiate 233 rfl)) (Nat.le_of_ble_eq_true rfl) (Nat.le_of_ble_eq_true rfl) (Nat.le_of_ble_eq_true rfl) (show k ≤ MC by omega) (show n ≤ MS by omega) (xt_w1 hB.1 m_0af1ec6a) (xt_cdOf hB.1 m_0af1ec6a) (hts _ m_d5ed7bed) hB hR hS hA (fun vv h43 H locs hq hEh43 hR hS => ?_)
      obtain ⟨r44, rfl, hw⟩ := hq
      have hw := hw hEh43
      have hE := hE.tr hEh43
      refine W.eq (g2 := F0 m 422 ls [.int r44, .int ((xb_i h41 x0 58) + x13), .ref b42]) rfl ?_
      refine lv_iconst (v := 1) hx hb (xb_d D_M_instantiate 234 rfl) (by decide) ?_
      refine lv_icmp_ne (tgt := 430) hx hb (xb_d D_M_instantiate 235 rfl) rfl (fun hc45 => ?_) (fun hc45 => ?_)
      · have hw := hw.1 hc45
        refine lv_iconst (v := 0) hx hb (xb_d D_M_instantiate 238 rfl) (by decide) ?_
        exact am_M_instantiate_L431 l hfl D A σ MC MS h0 Qr (w_M_instantiate_L365 Qr n9) ih x0 x1 x12 x13 0 ((xb_i h41 x0 58) + x13) b42 h43 bc bs hw p e s m args below meth c hC H locs ls k n hE (lv_sub hl [0, 1, 2, 3] rfl) hR hS (by omega) (by omega)
      · have hw := hw.2 hc45
        refine lv_iconst (v := 1) hx hb (xb_d D_M_instantiate 236 rfl) (by decide) ?_
        refine lv_goto (tgt := 431) hx hb (xb_d D_M_instantiate 237 rfl) rfl ?_
        exact am_M_instantiate_L431 l hfl D A σ MC MS h0 Qr (w_M_instantiate_L365 Qr n9) ih x0 x1 x12 x13 1 ((xb_i h41 x0 58) + x13) b42 h43 bc bs hw p e s m args below meth c hC H locs ls k n hE (lv_sub hl [0, 1, 2, 3] rfl) hR hS (by omega) (by omega)

set_option maxHeartbeats 4000000 in
set_option maxRecDepth 100000 in
theorem am_M_instantiate_L362 (l : Launch) (hfl : l.flags = pinnedFlags ++ [noTraceFlag]) (D : va_G) (A : Nat → Prop) (σ MC MS : Nat) (h0 : xb_H) (Qr : Int32 → xb_H → Nat → Nat → Prop) (x0 : Nat) (x1 : Int32) (x12 : Int32) (h : xb_H) (bc : Nat) (bs : Nat) (hw : w_M_instantiate_L362 Qr x0 x1 x12 h bc bs) : xb_am l D A σ 12 MC MS h0 (fun v h bc bs => ∃ r, v = some (.int r) ∧ Qr r h bc bs) (fun _ _ _ _ => False) y_M_instantiate.cls y_M_instantiate.name b_M_instantiate 14 ([] : List ExceptionTableEntry) (some .int) 362 [(0, .ref x0), (1, .int x1), (12, .int x12)] [] h bc bs := by
  unfold w_M_instantiate_L362 at hw
  intro p e s m args below meth c hC H locs ls k n hE hl hR hS hk hn
  obtain ⟨hx, hb, hown, hlocks, htab, hml, hr, hB, hA, hnm⟩ := id hC
  have hts := hB.1.1.at args
  refine lv_iconst (v := 0) hx hb (xb_d D_M_instantiate 201 rfl) (by decide) ?_
  refine lv_istore hx hb (xb_d D_M_instantiate 202 rfl) hl (by decide) rfl (fun ls hl => ?_)
  have hl : lv_has ls 14 [(13, .int 0), (0, .ref x0), (1, .int x1), (12, .int x12)] := hl
  obtain ⟨n8, hw⟩ := hw
  exact am_M_instantiate_L365 l hfl D A σ MC MS h0 Qr n8 x0 x1 x12 0 h bc bs hw p e s m args below meth c hC H locs ls k n hE (lv_sub hl [1, 2, 3, 0] rfl) hR hS (by omega) (by omega)

set_option maxHeartbeats 4000000 in
set_option maxRecDepth 100000 in
theorem am_M_instantiate_L330 (l : Launch) (hfl : l.flags = pinnedFlags ++ [noTraceFlag]) (D : va_G) (A : Nat → Prop) (σ MC MS : Nat) (h0 : xb_H) (Qr : Int32 → xb_H → Nat → Nat → Prop) (x0 : Nat) (x1 : Int32) (x7 : Int64) (x9 : Int64) (x12 : Int32) (h : xb_H) (bc : Nat) (bs : Nat) (hw : w_M_instantiate_L330 Qr x0 x1 x7 x9 x12 h bc bs) : xb_am l D A σ 12 MC MS h0 (fun v h bc bs => ∃ r, v = some (.int r) ∧ Qr r h bc bs) (fun _ _ _ _ => False) y_M_instantiate.cls y_M_instantiate.name b_M_instantiate 14 ([] : List ExceptionTableEntry) (some .int) 330 [(0, .ref x0), (1, .int x1), (7, .long x7), (9, .long x9), (12, .int x12)] [] h bc bs := by
  unfold w_M_instantiate_L330 at hw
  intro p e s m args below meth c hC H locs ls k n hE hl hR hS hk hn
  obtain ⟨hx, hb, hown, hlocks, htab, hml, hr, hB, hA, hnm⟩ := id hC
  have hts := hB.1.1.at args
  refine lv_aload_n hx hb (xb_d D_M_instantiate 183 rfl) rfl (lv_at hl 0 rfl) ?_
  refine lv_iload_n hx hb (xb_d D_M_instantiate 184 rfl) rfl (lv_at hl 1 rfl) ?_
  refine lv_iconst (v := 5) hx hb (xb_d D_M_instantiate 185 rfl) (by decide) ?_
  obtain ⟨hk1, hw⟩ := hw
  refine xb_call0 (D := D) (A := A) (σ := σ) (h := h) (d := 2) (maxL := 3) (rest := []) (av := [.ref x0, .int x1, .int 5]) (fun T hT X => by obtain ⟨cb9, ra9, rb9, rc9⟩ := xb_recv (ci := 8) hR rfl hk1 (by decide); exact xt_invV X hx hown (hts _ m_b47f62c2) (hts _ m_9f071faf) (hts _ m_e1bb5c84) (xt_sigOf (hts _ m_3a6212d6)) nm_M_manyOf (by rw [hT]; exact ra9) rb9 rc9 (g := F0 m 333 ls [.int 5, .int x1, .ref x0]) rfl (argsL := [.int x1, .int 5]) (rest := []) rfl rfl (by rw [hb]; exact (xb_d D_M_instantiate 186 rfl))) (ok_M_manyOf l hfl D A σ x0 x1 5 h _ hw) (hml.trans hl.1.symm) (by rw [hb]; exact (xb_d D_M_instantiate 186 rfl)) (Nat.le_of_ble_eq_true rfl) (Nat.le_of_ble_eq_true rfl) (Nat.le_of_ble_eq_true rfl) (show k ≤ MC by omega) (show n ≤ MS by omega) (xt_w1 hB.1 m_3a6212d6) (xt_cdOf hB.1 m_3a6212d6) (hts _ m_d5ed7bed) hB hR hS hA (fun vv h2 H locs hq hEh2 hR hS => ?_)
  obtain ⟨r3, rfl, hw⟩ := hq
  have hw := hw hEh2
  have hE := hE.tr hEh2
  refine W.eq (g2 := F0 m 336 ls [.int r3]) rfl ?_
  refine lv_if_le (tgt := 362) hx hb (xb_d D_M_instantiate 187 rfl) rfl (fun hc4 => ?_) (fun hc4 => ?_)
  · have hw := hw.1 hc4
    exact am_M_instantiate_L362 l hfl D A σ MC MS h0 Qr x0 x1 x12 h2 bc bs hw p e s m args below meth c hC H locs ls k n hE (lv_sub hl [0, 1, 4] rfl) hR hS (by omega) (by omega)
  · have hw := hw.2 hc4
    refine lv_aload_n hx hb (xb_d D_M_instantiate 188 rfl) rfl (lv_at hl 0 rfl) ?_
    have hk1 : xb_k h2 x0 = 9 := hEh2.k hk1
    refine xb_getP (C := R_M) (T := F_M) (N := 97) hx hb 8 54 hts fin_M hown hR hk1 (by decide) rfl (by decide) rfl (hts _ m_605483d9) (fun _ h9 => h9) (xb_d D_M_instantiate 189 rfl) ?_
    obtain ⟨b5, eb5, hw⟩ := hw
    refine xb_some eb5 ?_
    refine lv_aload_n hx hb (xb_d D_M_instantiate 190 rfl) rfl (lv_at hl 0 rfl) ?_
    refine xb_getI (C := R_M) (T := F_M) (N := 97) hx hb 8 52 hts fin_M hown hR hk1 (by decide) rfl (by decide) rfl (hts _ m_8edd20d4) (fun _ h9 => h9) (xb_d D_M_instantiate 191 rfl) ?_
    refine lv_lload hx hb (xb_d D_M_instantiate 192 rfl) (lv_at hl 2 rfl) ?_
    refine lv_l2i hx hb (xb_d D_M_instantiate 193 rfl) rfl ?_
    obtain ⟨hk6, hw⟩ := hw
    obtain ⟨hi7, hw⟩ := hw
    refine xb_iast hx hb hR hS hk6 hi7 (xb_d D_M_instantiate 194 rfl) (fun H locs hR hS => ?_)
    obtain ⟨h8, eh8⟩ : ∃ x : xb_H, x = xb_I h2 b5 (Int32.toNatClampNeg (xb_i h2 x0 52)) (Int64.toInt32 x7) := ⟨_, rfl⟩
    rw [← eh8] at hR
    have hw := hw h8 eh8
    have hE : xb_ext h0 h8 := by rw [eh8]; exact hE
    refine lv_aload_n hx hb (xb_d D_M_instantiate 195 rfl) rfl (lv_at hl 0 rfl) ?_
    have hk1 : xb_k h8 x0 = 9 := by rw [eh8]; exact hk1
    refine xb_getP (C := R_M) (T := F_M) (N := 97) hx hb 8 55 hts fin_M hown hR hk1 (by decide) rfl (by decide) rfl (hts _ m_e77abcfd) (fun _ h9 => h9) (xb_d D_M_instantiate 196 rfl) ?_
    obtain ⟨b9, eb9, hw⟩ := hw
    refine xb_some eb9 ?_
    refine lv_aload_n hx hb (xb_d D_M_instantiate 197 rfl) rfl (lv_at hl 0 rfl) ?_
    refine xb_getI (C := R_M) (T := F_M) (N := 97) hx hb 8 52 hts fin_M hown hR hk1 (by decide) rfl (by decide) rfl (hts _ m_8edd20d4) (fun _ h9 => h9) (xb_d D_M_instantiate 198 rfl) ?_
    refine lv_lload hx hb (xb_d D_M_instantiate 199 rfl) (lv_at hl 3 rfl) ?_
    obtain ⟨hk10, hw⟩ := hw
    obtain ⟨hi11, hw⟩ := hw
    refine xb_last hx hb hR hS hk10 hi11 (xb_d D_M_instantiate 200 rfl) (fun H locs hR hS => ?_)
    obtain ⟨h12, eh12⟩ : ∃ x : xb_H, x = xb_L h8 b9 (Int32.toNatClampNeg (xb_i h8 x0 52)) x9 := ⟨_, rfl⟩
    rw [← eh12] at hR
    have hw := hw h12 eh12
    have hE : xb_ext h0 h12 := by rw [eh12]; exact hE
    exact am_M_instantiate_L362 l hfl D A σ MC MS h0 Qr x0 x1 x12 h12 bc bs hw p e s m args below meth c hC H locs ls k n hE (lv_sub hl [0, 1, 4] rfl) hR hS (by omega) (by omega)

set_option maxHeartbeats 4000000 in
set_option maxRecDepth 100000 in
theorem am_M_instantiate_L202 (l : Launch) (hfl : l.flags = pinnedFlags ++ [noTraceFlag]) (D : va_G) (A : Nat → Prop) (σ MC MS : Nat) (h0 : xb_H) (Qr : Int32 → xb_H → Nat → Nat → Prop) (x0 : Nat) (x1 : Int32) (x3 : Int64) (x5 : Int64) (x7 : Int64) (x9 : Int64) (y0 : Int32) (h : xb_H) (bc : Nat) (bs : Nat) (hw : w_M_instantiate_L202 Qr x0 x1 x3 x5 x7 x9 y0 h bc bs) : xb_am l D A σ 12 MC MS h0 (fun v h bc bs => ∃ r, v = some (.int r) ∧ Qr r h bc bs) (fun _ _ _ _ => False) y_M_instantiate.cls y_M_instantiate.name b_M_instantiate 14 ([] : List ExceptionTableEntry) (some .int) 202 [(0, .ref x0), (1, .int x1), (3, .long x3), (5, .long x5), (7, .long x7), (9, .long x9)] [.int y0] h bc bs := by
  unfold w_M_instantiate_L202 at hw
  intro p e s m args below meth c hC H locs ls k n hE hl hR hS hk hn
  obtain ⟨hx, hb, hown, hlocks, htab, hml, hr, hB, hA, hnm⟩ := id hC
  have hts := hB.1.1.at args
  refine lv_istore hx hb (xb_d D_M_instantiate 112 rfl) hl (by decide) rfl (fun ls hl => ?_)
  have hl : lv_has ls 14 [(11, .int y0), (0, .ref x0), (1, .int x1), (3, .long x3), (5, .long x5), (7, .long x7), (9, .long x9)] := hl
  refine lv_iload hx hb (xb_d D_M_instantiate 113 rfl) (lv_at hl 0 rfl) ?_
  refine lv_if_ne (tgt := 217) hx hb (xb_d D_M_instantiate 114 rfl) rfl (fun hc1 => ?_) (fun hc1 => ?_)
  · have hw := hw.1 hc1
    refine lv_aload_n hx hb (xb_d D_M_instantiate 120 rfl) rfl (lv_at hl 1 rfl) ?_
    obtain ⟨hk2, hw⟩ := hw
    refine xb_getI (C := R_M) (T := F_M) (N := 97) hx hb 8 30 hts fin_M hown hR hk2 (by decide) rfl (by decide) rfl (hts _ m_1c72c4e0) (fun _ h9 => h9) (xb_d D_M_instantiate 121 rfl) ?_
    obtain ⟨v3, ev3⟩ : ∃ x : Int32, x = (xb_i h x0 30) := ⟨_, rfl⟩
    have hw := hw v3 ev3
    refine xt_numi (y := v3) ev3.symm ?_
    refine lv_istore hx hb (xb_d D_M_instantiate 122 rfl) hl (by decide) rfl (fun ls hl => ?_)
    have hl : lv_has ls 14 [(12, .int v3), (11, .int y0), (0, .ref x0), (1, .int x1), (3, .long x3), (5, .long x5), (7, .long x7), (9, .long x9)] := hl
    refine lv_aload_n hx hb (xb_d D_M_instantiate 123 rfl) rfl (lv_at hl 2 rfl) ?_
    refine xb_getP (C := R_M) (T := F_M) (N := 97) hx hb 8 31 hts fin_M hown hR hk2 (by decide) rfl (by decide) rfl (hts _ m_691d5f47) (fun _ h9 => h9) (xb_d D_M_instantiate 124 rfl) ?_
    obtain ⟨b4, eb4, hw⟩ := hw
    refine xb_some eb4 ?_
    refine lv_iload hx hb (xb_d D_M_instantiate 125 rfl) (lv_at hl 0 rfl) ?_
    refine lv_iload_n hx hb (xb_d D_M_instantiate 126 rfl) rfl (lv_at hl 3 rfl) ?_
    obtain ⟨hk5, hw⟩ := hw
    obtain ⟨hi6, hw⟩ := hw
    refine xb_iast hx hb hR hS hk5 hi6 (xb_d D_M_instantiate 127 rfl) (fun H locs hR hS => ?_)
    obtain ⟨h7, eh7⟩ : ∃ x : xb_H, x = xb_I h b4 (Int32.toNatClampNeg v3) x1 := ⟨_, rfl⟩
    rw [← eh7] at hR
    have hw := hw h7 eh7
    have hE : xb_ext h0 h7 := by rw [eh7]; exact hE
    refine lv_aload_n hx hb (xb_d D_M_instantiate 128 rfl) rfl (lv_at hl 2 rfl) ?_
    have hk2 : xb_k h7 x0 = 9 := by rw [eh7]; exact hk2
    refine xb_getP (C := R_M) (T := F_M) (N := 97) hx hb 8 32 hts fin_M hown hR hk2 (by decide) rfl (by decide) rfl (hts _ m_3c93490e) (fun _ h9 => h9) (xb_d D_M_instantiate 129 rfl) ?_
    obtain ⟨b8, eb8, hw⟩ := hw
    refine xb_some eb8 ?_
    refine lv_iload hx hb (xb_d D_M_instantiate 130 rfl) (lv_at hl 0 rfl) ?_
    refine lv_aload_n hx hb (xb_d D_M_instantiate 131 rfl) rfl (lv_at hl 2 rfl) ?_
    refine xb_getI (C := R_M) (T := F_M) (N := 97) hx hb 8 34 hts fin_M hown hR hk2 (by decide) rfl (by decide) rfl (hts _ m_82d2871e) (fun _ h9 => h9) (xb_d D_M_instantiate 132 rfl) ?_
    obtain ⟨hk9, hw⟩ := hw
    obtain ⟨hi10, hw⟩ := hw
    refine xb_iast hx hb hR hS hk9 hi10 (xb_d D_M_instantiate 133 rfl) (fun H locs hR hS => ?_)
    obtain ⟨h11, eh11⟩ : ∃ x : xb_H, x = xb_I h7 b8 (Int32.toNatClampNeg v3) (xb_i h7 x0 34) := ⟨_, rfl⟩
    rw [← eh11] at hR
    have hw := hw h11 eh11
    have hE : xb_ext h0 h11 := by rw [eh11]; exact hE
    refine lv_aload_n hx hb (xb_d D_M_instantiate 134 rfl) rfl (lv_at hl 2 rfl) ?_
    have hk2 : xb_k h11 x0 = 9 := by rw [eh11]; exact hk2
    refine xb_getP (C := R_M) (T := F_M) (N := 97) hx hb 8 35 hts fin_M hown hR hk2 (by decide) rfl (by decide) rfl (hts _ m_6a74a2ce) (fun _ h9 => h9) (xb_d D_M_instantiate 135 rfl) ?_
    obtain ⟨b12, eb12, hw⟩ := hw
    refine xb_some eb12 ?_
    refine lv_iload hx hb (xb_d D_M_instantiate 136 rfl) (lv_at hl 0 rfl) ?_
    refine lv_aload_n hx hb (xb_d D_M_instantiate 137 rfl) rfl (lv_at hl 2 rfl) ?_
    refine xb_getI (C := R_M) (T := F_M) (N := 97) hx hb 8 43 hts fin_M hown hR hk2 (by decide) rfl (by decide) rfl (hts _ m_4f409276) (fun _ h9 => h9) (xb_d D_M_instantiate 138 rfl) ?_
    obtain ⟨hk13, hw⟩ := hw
    obtain ⟨hi14, hw⟩ := hw
    refine xb_iast hx hb hR hS hk13 hi14 (xb_d D_M_instantiate 139 rfl) (fun H locs hR hS => ?_)
    obtain ⟨h15, eh15⟩ : ∃ x : xb_H, x = xb_I h11 b12 (Int32.toNatClampNeg v3) (xb_i h11 x0 43) := ⟨_, rfl⟩
    rw [← eh15] at hR
    have hw := hw h15 eh15
    have hE : xb_ext h0 h15 := by rw [eh15]; exact hE
    refine lv_aload_n hx hb (xb_d D_M_instantiate 140 rfl) rfl (lv_at hl 2 rfl) ?_
    have hk2 : xb_k h15 x0 = 9 := by rw [eh15]; exact hk2
    refine xb_getP (C := R_M) (T := F_M) (N := 97) hx hb 8 36 hts fin_M hown hR hk2 (by decide) rfl (by decide) rfl (hts _ m_e7bc0caf) (fun _ h9 => h9) (xb_d D_M_instantiate 141 rfl) ?_
    obtain ⟨b16, eb16, hw⟩ := hw
    refine xb_some eb16 ?_
    refine lv_iload hx hb (xb_d D_M_instantiate 142 rfl) (lv_at hl 0 rfl) ?_
    refine lv_aload_n hx hb (xb_d D_M_instantiate 143 rfl) rfl (lv_at hl 2 rfl) ?_
    refine xb_getI (C := R_M) (T := F_M) (N := 97) hx hb 8 58 hts fin_M hown hR hk2 (by decide) rfl (by decide) rfl (hts _ m_94ecb3cf) (fun _ h9 => h9) (xb_d D_M_instantiate 144 rfl) ?_
    obtain ⟨hk17, hw⟩ := hw
    obtain ⟨hi18, hw⟩ := hw
    refine xb_iast hx hb hR hS hk17 hi18 (xb_d D_M_instantiate 145 rfl) (fun H locs hR hS => ?_)
    obtain ⟨h19, eh19⟩ : ∃ x : xb_H, x = xb_I h15 b16 (Int32.toNatClampNeg v3) (xb_i h15 x0 58) := ⟨_, rfl⟩
    rw [← eh19] at hR
    have hw := hw h19 eh19
    have hE : xb_ext h0 h19 := by rw [eh19]; exact hE
    refine lv_aload_n hx hb (xb_d D_M_instantiate 146 rfl) rfl (lv_at hl 2 rfl) ?_
    have hk2 : xb_k h19 x0 = 9 := by rw [eh19]; exact hk2
    refine xb_getP (C := R_M) (T := F_M) (N := 97) hx hb 8 37 hts fin_M hown hR hk2 (by decide) rfl (by decide) rfl (hts _ m_1f5a2407) (fun _ h9 => h9) (xb_d D_M_instantiate 147 rfl) ?_
    obtain ⟨b20, eb20, hw⟩ := hw
    refine xb_some eb20 ?_
    refine lv_iload hx hb (xb_d D_M_instantiate 148 rfl) (lv_at hl 0 rfl) ?_
    refine lv_aload_n hx hb (xb_d D_M_instantiate 149 rfl) rfl (lv_at hl 2 rfl) ?_
    refine xb_getI (C := R_M) (T := F_M) (N := 97) hx hb 8 46 hts fin_M hown hR hk2 (by decide) rfl (by decide) rfl (hts _ m_e0b71bd2) (fun _ h9 => h9) (xb_d D_M_instantiate 150 rfl) ?_
    obtain ⟨hk21, hw⟩ := hw
    obtain ⟨hi22, hw⟩ := hw
    refine xb_iast hx hb hR hS hk21 hi22 (xb_d D_M_instantiate 151 rfl) (fun H locs hR hS => ?_)
    obtain ⟨h23, eh23⟩ : ∃ x : xb_H, x = xb_I h19 b20 (Int32.toNatClampNeg v3) (xb_i h19 x0 46) := ⟨_, rfl⟩
    rw [← eh23] at hR
    have hw := hw h23 eh23
    have hE : xb_ext h0 h23 := by rw [eh23]; exact hE
    refine lv_aload_n hx hb (xb_d D_M_instantiate 152 rfl) rfl (lv_at hl 2 rfl) ?_
    have hk2 : xb_k h23 x0 = 9 := by rw [eh23]; exact hk2
    refine xb_getP (C := R_M) (T := F_M) (N := 97) hx hb 8 38 hts fin_M hown hR hk2 (by decide) rfl (by decide) rfl (hts _ m_2d81be8c) (fun _ h9 => h9) (xb_d D_M_instantiate 153 rfl) ?_
    obtain ⟨b24, eb24, hw⟩ := hw
    refine xb_some eb24 ?_
    refine lv_iload hx hb (xb_d D_M_instantiate 154 rfl) (lv_at hl 0 rfl) ?_
    refine lv_aload_n hx hb (xb_d D_M_instantiate 155 rfl) rfl (lv_at hl 2 rfl) ?_
    refine xb_getI (C := R_M) (T := F_M) (N := 97) hx hb 8 52 hts fin_M hown hR hk2 (by decide) rfl (by decide) rfl (hts _ m_8edd20d4) (fun _ h9 => h9) (xb_d D_M_instantiate 156 rfl) ?_
    obtain ⟨hk25, hw⟩ := hw
    obtain ⟨hi26, hw⟩ := hw
    refine xb_iast hx hb hR hS hk25 hi26 (xb_d D_M_instantiate 157 rfl) (fun H locs hR hS => ?_)
    obtain ⟨h27, eh27⟩ : ∃ x : xb_H, x = xb_I h23 b24 (Int32.toNatClampNeg v3) (xb_i h23 x0 52) := ⟨_, rfl⟩
    rw [← eh27] at hR
    have hw := hw h27 eh27
    have hE : xb_ext h0 h27 := by rw [eh27]; exact hE
    refine lv_aload_n hx hb (xb_d D_M_instantiate 158 rfl) rfl (lv_at hl 2 rfl) ?_
    refine lv_iload_n hx hb (xb_d D_M_instantiate 159 rfl) rfl (lv_at hl 3 rfl) ?_
    refine lv_iconst (v := 4) hx hb (xb_d D_M_instantiate 160 rfl) (by decide) ?_
    have hk2 : xb_k h27 x0 = 9 := by rw [eh27]; exact hk2
    refine xb_call0 (D := D) (A := A) (σ := σ) (h := h27) (d := 2) (maxL := 3) (rest := []) (av := [.ref x0, .int x1, .int 4]) (fun T hT X => by obtain ⟨cb9, ra9, rb9, rc9⟩ := xb_recv (ci := 8) hR rfl hk2 (by decide); exact xt_invV X hx hown (hts _ m_b47f62c2) (hts _ m_9f071faf) (hts _ m_e1bb5c84) (xt_sigOf (hts _ m_3a6212d6)) nm_M_manyOf (by rw [hT]; exact ra9) rb9 rc9 (g := F0 m 289 ls [.int 4, .int x1, .ref x0]) rfl (argsL := [.int x1, .int 4]) (rest := []) rfl rfl (by rw [hb]; exact (xb_d D_M_instantiate 161 rfl))) (ok_M_manyOf l hfl D A σ x0 x1 4 h27 _ hw) (hml.trans hl.1.symm) (by rw [hb]; exact (xb_d D_M_instantiate 161 rfl)) (Nat.le_of_ble_eq_true rfl) (Nat.le_of_ble_eq_true rfl) (Nat.le_of_ble_eq_true rfl) (show k ≤ MC by omega) (show n ≤ MS by omega) (xt_w1 hB.1 m_3a6212d6) (xt_cdOf hB.1 m_3a6212d6) (hts _ m_d5ed7bed) hB hR hS hA (fun vv h28 H locs hq hEh28 hR hS => ?_)
    obtain ⟨r29, rfl, hw⟩ := hq
    have hw := hw hEh28
    have hE := hE.tr hEh28
    refine W.eq (g2 := F0 m 292 ls [.int r29]) rfl ?_
    refine lv_if_le (tgt := 330) hx hb (xb_d D_M_instantiate 162 rfl) rfl (fun hc30 => ?_) (fun hc30 => ?_)
    · have hw := hw.1 hc30
      exact am_M_instantiate_L330 l hfl D A σ MC MS h0 Qr x0 x1 x7 x9 v3 h28 bc bs hw p e s m args below meth c hC H locs ls k n hE (lv_sub hl [2, 3, 6, 7, 0] rfl) hR hS (by omega) (by omega)
    · have hw := hw.2 hc30
      refine lv_aload_n hx hb (xb_d D_M_instantiate 163 rfl) rfl (lv_at hl 2 rfl) ?_
      have hk2 : xb_k h28 x0 = 9 := hEh28.k hk2
      refine xb_getP (C := R_M) (T := F_M) (N := 97) hx hb 8 48 hts fin_M hown hR hk2 (by decide) rfl (by decide) rfl (hts _ m_f28a3cfc) (fun _ h9 => h9) (xb_d D_M_instantiate 164 rfl) ?_
      obtain ⟨b31, eb31, hw⟩ := hw
      refine xb_some eb31 ?_
      refine lv_aload_n hx hb (xb_d D_M_instantiate 165 rfl) rfl (lv_at hl 2 rfl) ?_
      refine xb_getI (C := R_M) (T := F_M) (N := 97) hx hb 8 46 hts fin_M hown hR hk2 (by decide) rfl (by decide) rfl (hts _ m_e0b71bd2) (fun _ h9 => h9) (xb_d D_M_instantiate 166 rfl) ?_
      refine lv_aload_n hx hb (xb_d D_M_instantiate 167 rfl) rfl (lv_at hl 2 rfl) ?_
      refine xb_getI (C := R_M) (T := F_M) (N := 97) hx hb 8 47 hts fin_M hown hR hk2 (by decide) rfl (by decide) rfl (hts _ m_1bb1db74) (fun _ h9 => h9) (xb_d D_M_instantiate 168 rfl) ?_
      obtain ⟨hk32, hw⟩ := hw
      obtain ⟨hi33, hw⟩ := hw
      refine xb_iast hx hb hR hS hk32 hi33 (xb_d D_M_instantiate 169 rfl) (fun H locs hR hS => ?_)
      obtain ⟨h34, eh34⟩ : ∃ x : xb_H, x = xb_I h28 b31 (Int32.toNatClampNeg (xb_i h28 x0 46)) (xb_i h28 x0 47) := ⟨_, rfl⟩
      rw [← eh34] at hR
      have hw := hw h34 eh34
      have hE : xb_ext h0 h34 := by rw [eh34]; exact hE
      refine lv_aload_n hx hb (xb_d D_M_instantiate 170 rfl) rfl (lv_at hl 2 rfl) ?_
      have hk2 : xb_k h34 x0 = 9 := by rw [eh34]; exact hk2
      refine xb_getP (C := R_M) (T := F_M) (N := 97) hx hb 8 49 hts fin_M hown hR hk2 (by decide) rfl (by decide) rfl (hts _ m_0c329d74) (fun _ h9 => h9) (xb_d D_M_instantiate 171 rfl) ?_
      obtain ⟨b35, eb35, hw⟩ := hw
      refine xb_some eb35 ?_
      refine lv_aload_n hx hb (xb_d D_M_instantiate 172 rfl) rfl (lv_at hl 2 rfl) ?_
      refine xb_getI (C := R_M) (T := F_M) (N := 97) hx hb 8 46 hts fin_M hown hR hk2 (by decide) rfl (by decide) rfl (hts _ m_e0b71bd2) (fun _ h9 => h9) (xb_d D_M_instantiate 173 rfl) ?_
      refine lv_lload_n hx hb (xb_d D_M_instantiate 174 rfl) rfl (lv_at hl 4 rfl) ?_
      refine lv_l2i hx hb (xb_d D_M_instantiate 175 rfl) rfl ?_
      obtain ⟨hk36, hw⟩ := hw
      obtain ⟨hi37, hw⟩ := hw
      refine xb_iast hx hb hR hS hk36 hi37 (xb_d D_M_instantiate 176 rfl) (fun H locs hR hS => ?_)
      obtain ⟨h38, eh38⟩ : ∃ x : xb_H, x = xb_I h34 b35 (Int32.toNatClampNeg (xb_i h34 x0 46)) (Int64.toInt32 x3) := ⟨_, rfl⟩
      rw [← eh38] at hR
      have hw := hw h38 eh38
      have hE : xb_ext h0 h38 := by rw [eh38]; exact hE
      refine lv_aload_n hx hb (xb_d D_M_instantiate 177 rfl) rfl (lv_at hl 2 rfl) ?_
      have hk2 : xb_k h38 x0 = 9 := by rw [eh38]; exact hk2
      refine xb_getP (C := R_M) (T := F_M) (N := 97) hx hb 8 50 hts fin_M hown hR hk2 (by decide) rfl (by decide) rfl (hts _ m_e0cd2898) (fun _ h9 => h9) (xb_d D_M_instantiate 178 rfl) ?_
      obtain ⟨b39, eb39, hw⟩ := hw
      refine xb_some eb39 ?_
      refine lv_aload_n hx hb (xb_d D_M_instantiate 179 rfl) rfl (lv_at hl 2 rfl) ?_
      refine xb_getI (C := R_M) (T := F_M) (N := 97) hx hb 8 46 hts fin_M hown hR hk2 (by decide) rfl (by decide) rfl (hts _ m_e0b71bd2) (fun _ h9 => h9) (xb_d D_M_instantiate 180 rfl) ?_
      refine lv_lload hx hb (xb_d D_M_instantiate 181 rfl) (lv_at hl 5 rfl) ?_
      obtain ⟨hk40, hw⟩ := hw
      obtain ⟨hi41, hw⟩ := hw
      refine xb_last hx hb hR hS hk40 hi41 (xb_d D_M_instantiate 182 rfl) (fun H locs hR hS => ?_)
      obtain ⟨h42, eh42⟩ : ∃ x : xb_H, x = xb_L h38 b39 (Int32.toNatClampNeg (xb_i h38 x0 46)) x5 := ⟨_, rfl⟩
      rw [← eh42] at hR
      have hw := hw h42 eh42
      have hE : xb_ext h0 h42 := by rw [eh42]; exact hE
      exact am_M_instantiate_L330 l hfl D A σ MC MS h0 Qr x0 x1 x7 x9 v3 h42 bc bs hw p e s m args below meth c hC H locs ls k n hE (lv_sub hl [2, 3, 6, 7, 0] rfl) hR hS (by omega) (by omega)
  · have hw := hw.2 hc1
    refine lv_aload_n hx hb (xb_d D_M_instantiate 115 rfl) rfl (lv_at hl 1 rfl) ?_
    refine lv_bipush (v := 44) hx hb (xb_d D_M_instantiate 116 rfl) (by decide) ?_
    refine lv_iconst (v := 0) hx hb (xb_d D_M_instantiate 117 rfl) (by decide) ?_
    obtain ⟨hk43, hw⟩ := hw
    refine xb_call0 (D := D) (A := A) (σ := σ) (h := h) (d := 2) (maxL := 3) (rest := []) (av := [.ref x0, .int 44, .int 0]) (fun T hT X => by obtain ⟨cb9, ra9, rb9, rc9⟩ := xb_recv (ci := 8) hR rfl hk43 (by decide); exact xt_invV X hx hown (hts _ m_6b6b7e08) (hts _ m_4beacd9b) (hts _ m_24c49834) (xt_sigOf (hts _ m_7cc9e25d)) nm_M_refuse (by rw [hT]; exact ra9) rb9 rc9 (g := F0 m 213 ls [.int 0, .int 44, .ref x0]) rfl (argsL := [.int 44, .int 0]) (rest := []) rfl rfl (by rw [hb]; exact (xb_d D_M_instantiate 118 rfl))) (ok_M_refuse l hfl D A σ x0 44 0 h _ hw) (hml.trans hl.1.symm) (by rw [hb]; exact (xb_d D_M_instantiate 118 rfl)) (Nat.le_of_ble_eq_true rfl) (Nat.le_of_ble_eq_true rfl) (Nat.le_of_ble_eq_true rfl) (show k ≤ MC by omega) (show n ≤ MS by omega) (xt_w1 hB.1 m_7cc9e25d) (xt_cdOf hB.1 m_7cc9e25d) (hts _ m_d5ed7bed) hB hR hS hA (fun vv h44 H locs hq hEh44 hR hS => ?_)
    obtain ⟨r45, rfl, hw⟩ := hq
    have hw := hw hEh44
    have hE := hE.tr hEh44
    refine W.eq (g2 := F0 m 216 ls [.int r45]) rfl ?_
    exact xb_iret bc bs hx hb hr hlocks (show k + bc ≤ MC by omega) (show n + bs ≤ MS by omega) hE hR hS (xb_d D_M_instantiate 119 rfl) hw

set_option maxHeartbeats 4000000 in
set_option maxRecDepth 100000 in
theorem am_M_instantiate_L201 (l : Launch) (hfl : l.flags = pinnedFlags ++ [noTraceFlag]) (D : va_G) (A : Nat → Prop) (σ MC MS : Nat) (h0 : xb_H) (Qr : Int32 → xb_H → Nat → Nat → Prop) (x0 : Nat) (x1 : Int32) (x3 : Int64) (x5 : Int64) (x7 : Int64) (x9 : Int64) (h : xb_H) (bc : Nat) (bs : Nat) (hw : w_M_instantiate_L201 Qr x0 x1 x3 x5 x7 x9 h bc bs) : xb_am l D A σ 12 MC MS h0 (fun v h bc bs => ∃ r, v = some (.int r) ∧ Qr r h bc bs) (fun _ _ _ _ => False) y_M_instantiate.cls y_M_instantiate.name b_M_instantiate 14 ([] : List ExceptionTableEntry) (some .int) 201 [(0, .ref x0), (1, .int x1), (3, .long x3), (5, .long x5), (7, .long x7), (9, .long x9)] [] h bc bs := by
  unfold w_M_instantiate_L201 at hw
  intro p e s m args below meth c hC H locs ls k n hE hl hR hS hk hn
  obtain ⟨hx, hb, hown, hlocks, htab, hml, hr, hB, hA, hnm⟩ := id hC
  have hts := hB.1.1.at args
  refine lv_iconst (v := 0) hx hb (xb_d D_M_instantiate 111 rfl) (by decide) ?_
  exact am_M_instantiate_L202 l hfl D A σ MC MS h0 Qr x0 x1 x3 x5 x7 x9 0 h bc bs hw p e s m args below meth c hC H locs ls k n hE (lv_sub hl [0, 1, 2, 3, 4, 5] rfl) hR hS (by omega) (by omega)

set_option maxHeartbeats 4000000 in
set_option maxRecDepth 100000 in
theorem am_M_instantiate_L51 (l : Launch) (hfl : l.flags = pinnedFlags ++ [noTraceFlag]) (D : va_G) (A : Nat → Prop) (σ MC MS : Nat) (h0 : xb_H) (Qr : Int32 → xb_H → Nat → Nat → Prop) (n9 : Nat) : ∀ (x0 : Nat) (x1 : Int32) (x2 : Int32) (x3 : Int32) (h : xb_H) (bc : Nat) (bs : Nat), w_M_instantiate_L51 Qr n9 x0 x1 x2 x3 h bc bs → xb_am l D A σ 12 MC MS h0 (fun v h bc bs => ∃ r, v = some (.int r) ∧ Qr r h bc bs) (fun _ _ _ _ => False) y_M_instantiate.cls y_M_instantiate.name b_M_instantiate 14 ([] : List ExceptionTableEntry) (some .int) 51 [(0, .ref x0), (1, .int x1), (2, .int x2), (3, .int x3)] [] h bc bs := by
  induction n9 with
  | zero => intro x0 x1 x2 x3 h bc bs hw; exact False.elim hw
  | succ n9 ih =>
    intro x0 x1 x2 x3 h bc bs hw
    unfold w_M_instantiate_L51 at hw
    intro p e s m args below meth c hC H locs ls k n hE hl hR hS hk hn
    obtain ⟨hx, hb, hown, hlocks, htab, hml, hr, hB, hA, hnm⟩ := id hC
    have hts := hB.1.1.at args
    refine lv_iload_n hx hb (xb_d D_M_instantiate 29 rfl) rfl (lv_at hl 3 rfl) ?_
    refine lv_iload_n hx hb (xb_d D_M_instantiate 30 rfl) rfl (lv_at hl 2 rfl) ?_
    refine lv_icmp_ge (tgt := 97) hx hb (xb_d D_M_instantiate 31 rfl) rfl (fun hc1 => ?_) (fun hc1 => ?_)
    · have hw := hw.1 hc1
      refine lv_aload_n hx hb (xb_d D_M_instantiate 55 rfl) rfl (lv_at hl 0 rfl) ?_
      refine lv_iload_n hx hb (xb_d D_M_instantiate 56 rfl) rfl (lv_at hl 1 rfl) ?_
      refine lv_iconst (v := 4) hx hb (xb_d D_M_instantiate 57 rfl) (by decide) ?_
      obtain ⟨hk2, hw⟩ := hw
      refine xb_call0 (D := D) (A := A) (σ := σ) (h := h) (d := 6) (maxL := 3) (rest := []) (av := [.ref x0, .int x1, .int 4]) (fun T hT X => by obtain ⟨cb9, ra9, rb9, rc9⟩ := xb_recv (ci := 8) hR rfl hk2 (by decide); exact xt_invV X hx hown (hts _ m_ac81f80d) (hts _ m_2e114b12) (hts _ m_d86c6399) (xt_sigOf (hts _ m_672048e8)) nm_M_ownLeast (by rw [hT]; exact ra9) rb9 rc9 (g := F0 m 100 ls [.int 4, .int x1, .ref x0]) rfl (argsL := [.int x1, .int 4]) (rest := []) rfl rfl (by rw [hb]; exact (xb_d D_M_instantiate 58 rfl))) (ok_M_ownLeast l hfl D A σ x0 x1 4 h _ hw) (hml.trans hl.1.symm) (by rw [hb]; exact (xb_d D_M_instantiate 58 rfl)) (Nat.le_of_ble_eq_true rfl) (Nat.le_of_ble_eq_true rfl) (Nat.le_of_ble_eq_true rfl) (show k ≤ MC by omega) (show n ≤ MS by omega) (xt_w1 hB.1 m_672048e8) (xt_cdOf hB.1 m_672048e8) (hts _ m_d5ed7bed) hB hR hS hA (fun vv h3 H locs hq hEh3 hR hS => ?_)
      obtain ⟨r4, rfl, hw⟩ := hq
      have hw := hw hEh3
      have hE := hE.tr hEh3
      refine W.eq (g2 := F0 m 103 ls [.long r4]) rfl ?_
      refine lv_lstore_n hx hb (xb_d D_M_instantiate 59 rfl) rfl hl (by decide) rfl (fun ls hl => ?_)
      have hl : lv_has ls 14 [(3, .long r4), (0, .ref x0), (1, .int x1), (2, .int x2)] := hl
      refine lv_aload_n hx hb (xb_d D_M_instantiate 60 rfl) rfl (lv_at hl 1 rfl) ?_
      have hk2 : xb_k h3 x0 = 9 := hEh3.k hk2
      refine xb_getL (C := R_M) (T := F_M) (N := 97) hx hb 8 91 hts fin_M hown hR hk2 (by decide) rfl (by decide) rfl (hts _ m_6aa0a8b9) (fun _ h9 => h9) (xb_d D_M_instantiate 61 rfl) ?_
      obtain ⟨v5, ev5⟩ : ∃ x : Int64, x = (xb_l h3 x0 91) := ⟨_, rfl⟩
      have hw := hw v5 ev5
      refine xt_numl (y := v5) ev5.symm ?_
      refine lv_lstore hx hb (xb_d D_M_instantiate 62 rfl) hl (by decide) rfl (fun ls hl => ?_)
      have hl : lv_has ls 14 [(5, .long v5), (3, .long r4), (0, .ref x0), (1, .int x1), (2, .int x2)] := hl
      refine lv_aload_n hx hb (xb_d D_M_instantiate 63 rfl) rfl (lv_at hl 2 rfl) ?_
      refine lv_iload_n hx hb (xb_d D_M_instantiate 64 rfl) rfl (lv_at hl 3 rfl) ?_
      refine lv_iconst (v := 5) hx hb (xb_d D_M_instantiate 65 rfl) (by decide) ?_
      refine xb_call0 (D := D) (A := A) (σ := σ) (h := h3) (d := 6) (maxL := 3) (rest := []) (av := [.ref x0, .int x1, .int 5]) (fun T hT X => by obtain ⟨cb9, ra9, rb9, rc9⟩ := xb_recv (ci := 8) hR rfl hk2 (by decide); exact xt_invV X hx hown (hts _ m_ac81f80d) (hts _ m_2e114b12) (hts _ m_d86c6399) (xt_sigOf (hts _ m_672048e8)) nm_M_ownLeast (by rw [hT]; exact ra9) rb9 rc9 (g := F0 m 113 ls [.int 5, .int x1, .ref x0]) rfl (argsL := [.int x1, .int 5]) (rest := []) rfl rfl (by rw [hb]; exact (xb_d D_M_instantiate 66 rfl))) (ok_M_ownLeast l hfl D A σ x0 x1 5 h3 _ hw) (hml.trans hl.1.symm) (by rw [hb]; exact (xb_d D_M_instantiate 66 rfl)) (Nat.le_of_ble_eq_true rfl) (Nat.le_of_ble_eq_true rfl) (Nat.le_of_ble_eq_true rfl) (show k ≤ MC by omega) (show n ≤ MS by omega) (xt_w1 hB.1 m_672048e8) (xt_cdOf hB.1 m_672048e8) (hts _ m_d5ed7bed) hB hR hS hA (fun vv h6 H locs hq hEh6 hR hS => ?_)
      obtain ⟨r7, rfl, hw⟩ := hq
      have hw := hw hEh6
      have hE := hE.tr hEh6
      refine W.eq (g2 := F0 m 116 ls [.long r7]) rfl ?_
      refine lv_lstore hx hb (xb_d D_M_instantiate 67 rfl) hl (by decide) rfl (fun ls hl => ?_)
      have hl : lv_has ls 14 [(7, .long r7), (5, .long v5), (3, .long r4), (0, .ref x0), (1, .int x1), (2, .int x2)] := hl
      refine lv_aload_n hx hb (xb_d D_M_instantiate 68 rfl) rfl (lv_at hl 3 rfl) ?_
      have hk2 : xb_k h6 x0 = 9 := hEh6.k hk2
      refine xb_getL (C := R_M) (T := F_M) (N := 97) hx hb 8 91 hts fin_M hown hR hk2 (by decide) rfl (by decide) rfl (hts _ m_6aa0a8b9) (fun _ h9 => h9) (xb_d D_M_instantiate 69 rfl) ?_
      obtain ⟨v8, ev8⟩ : ∃ x : Int64, x = (xb_l h6 x0 91) := ⟨_, rfl⟩
      have hw := hw v8 ev8
      refine xt_numl (y := v8) ev8.symm ?_
      refine lv_lstore hx hb (xb_d D_M_instantiate 70 rfl) hl (by decide) rfl (fun ls hl => ?_)
      have hl : lv_has ls 14 [(9, .long v8), (7, .long r7), (5, .long v5), (3, .long r4), (0, .ref x0), (1, .int x1), (2, .int x2)] := hl
      refine lv_aload_n hx hb (xb_d D_M_instantiate 71 rfl) rfl (lv_at hl 4 rfl) ?_
      refine xb_getI (C := R_M) (T := F_M) (N := 97) hx hb 8 30 hts fin_M hown hR hk2 (by decide) rfl (by decide) rfl (hts _ m_1c72c4e0) (fun _ h9 => h9) (xb_d D_M_instantiate 72 rfl) ?_
      refine lv_bipush (v := 24) hx hb (xb_d D_M_instantiate 73 rfl) (by decide) ?_
      refine lv_icmp_ge (tgt := 201) hx hb (xb_d D_M_instantiate 74 rfl) rfl (fun hc9 => ?_) (fun hc9 => ?_)
      · have hw := hw.1 hc9
        exact am_M_instantiate_L201 l hfl D A σ MC MS h0 Qr x0 x1 r4 v5 r7 v8 h6 bc bs hw p e s m args below meth c hC H locs ls k n hE (lv_sub hl [4, 5, 3, 2, 1, 0] rfl) hR hS (by omega) (by omega)
      · have hw := hw.2 hc9
        refine lv_aload_n hx hb (xb_d D_M_instantiate 75 rfl) rfl (lv_at hl 4 rfl) ?_
        refine xb_getI (C := R_M) (T := F_M) (N := 97) hx hb 8 43 hts fin_M hown hR hk2 (by decide) rfl (by decide) rfl (hts _ m_4f409276) (fun _ h9 => h9) (xb_d D_M_instantiate 76 rfl) ?_
        refine lv_aload_n hx hb (xb_d D_M_instantiate 77 rfl) rfl (lv_at hl 4 rfl) ?_
        refine lv_iload_n hx hb (xb_d D_M_instantiate 78 rfl) rfl (lv_at hl 5 rfl) ?_
        refine lv_iconst (v := 3) hx hb (xb_d D_M_instantiate 79 rfl) (by decide) ?_
        refine xb_call0 (D := D) (A := A) (σ := σ) (h := h6) (d := 2) (maxL := 3) (rest := [.int (xb_i h6 x0 43)]) (av := [.ref x0, .int x1, .int 3]) (fun T hT X => by obtain ⟨cb9, ra9, rb9, rc9⟩ := xb_recv (ci := 8) hR rfl hk2 (by decide); exact xt_invV X hx hown (hts _ m_b47f62c2) (hts _ m_9f071faf) (hts _ m_e1bb5c84) (xt_sigOf (hts _ m_3a6212d6)) nm_M_manyOf (by rw [hT]; exact ra9) rb9 rc9 (g := F0 m 140 ls [.int 3, .int x1, .ref x0, .int (xb_i h6 x0 43)]) rfl (argsL := [.int x1, .int 3]) (rest := [.int (xb_i h6 x0 43)]) rfl rfl (by rw [hb]; exact (xb_d D_M_instantiate 80 rfl))) (ok_M_manyOf l hfl D A σ x0 x1 3 h6 _ hw) (hml.trans hl.1.symm) (by rw [hb]; exact (xb_d D_M_instantiate 80 rfl)) (Nat.le_of_ble_eq_true rfl) (Nat.le_of_ble_eq_true rfl) (Nat.le_of_ble_eq_true rfl) (show k ≤ MC by omega) (show n ≤ MS by omega) (xt_w1 hB.1 m_3a6212d6) (xt_cdOf hB.1 m_3a6212d6) (hts _ m_d5ed7bed) hB hR hS hA (fun vv h10 H locs hq hEh10 hR hS => ?_)
        obtain ⟨r11, rfl, hw⟩ := hq
        have hw := hw hEh10
        have hE := hE.tr hEh10
        refine W.eq (g2 := F0 m 143 ls [.int r11, .int (xb_i h6 x0 43)]) rfl ?_
        refine lv_iadd hx hb (xb_d D_M_instantiate 81 rfl) ?_
        refine lv_sipush (v := 8192) hx hb (xb_d D_M_instantiate 82 rfl) (by decide) ?_
        refine lv_icmp_gt (tgt := 201) hx hb (xb_d D_M_instantiate 83 rfl) rfl (fun hc12 => ?_) (fun hc12 => ?_)
        · have hw := hw.1 hc12
          exact am_M_instantiate_L201 l hfl D A σ MC MS h0 Qr x0 x1 r4 v5 r7 v8 h10 bc bs hw p e s m args below meth c hC H locs ls k n hE (lv_sub hl [4, 5, 3, 2, 1, 0] rfl) hR hS (by omega) (by omega)
        · have hw := hw.2 hc12
          refine lv_aload_n hx hb (xb_d D_M_instantiate 84 rfl) rfl (lv_at hl 4 rfl) ?_
          have hk2 : xb_k h10 x0 = 9 := hEh10.k hk2
          refine xb_getI (C := R_M) (T := F_M) (N := 97) hx hb 8 58 hts fin_M hown hR hk2 (by decide) rfl (by decide) rfl (hts _ m_94ecb3cf) (fun _ h9 => h9) (xb_d D_M_instantiate 85 rfl) ?_
          refine lv_aload_n hx hb (xb_d D_M_instantiate 86 rfl) rfl (lv_at hl 4 rfl) ?_
          refine lv_iload_n hx hb (xb_d D_M_instantiate 87 rfl) rfl (lv_at hl 5 rfl) ?_
          refine lv_bipush (v := 6) hx hb (xb_d D_M_instantiate 88 rfl) (by decide) ?_
          refine xb_call0 (D := D) (A := A) (σ := σ) (h := h10) (d := 2) (maxL := 3) (rest := [.int (xb_i h10 x0 58)]) (av := [.ref x0, .int x1, .int 6]) (fun T hT X => by obtain ⟨cb9, ra9, rb9, rc9⟩ := xb_recv (ci := 8) hR rfl hk2 (by decide); exact xt_invV X hx hown (hts _ m_b47f62c2) (hts _ m_9f071faf) (hts _ m_e1bb5c84) (xt_sigOf (hts _ m_3a6212d6)) nm_M_manyOf (by rw [hT]; exact ra9) rb9 rc9 (g := F0 m 158 ls [.int 6, .int x1, .ref x0, .int (xb_i h10 x0 58)]) rfl (argsL := [.int x1, .int 6]) (rest := [.int (xb_i h10 x0 58)]) rfl rfl (by rw [hb]; exact (xb_d D_M_instantiate 89 rfl))) (ok_M_manyOf l hfl D A σ x0 x1 6 h10 _ hw) (hml.trans hl.1.symm) (by rw [hb]; exact (xb_d D_M_instantiate 89 rfl)) (Nat.le_of_ble_eq_true rfl) (Nat.le_of_ble_eq_true rfl) (Nat.le_of_ble_eq_true rfl) (show k ≤ MC by omega) (show n ≤ MS by omega) (xt_w1 hB.1 m_3a6212d6) (xt_cdOf hB.1 m_3a6212d6) (hts _ m_d5ed7bed) hB hR hS hA (fun vv h13 H locs hq hEh13 hR hS => ?_)
          obtain ⟨r14, rfl, hw⟩ := hq
          have hw := hw hEh13
          have hE := hE.tr hEh13
          refine W.eq (g2 := F0 m 161 ls [.int r14, .int (xb_i h10 x0 58)]) rfl ?_
          refine lv_iadd hx hb (xb_d D_M_instantiate 90 rfl) ?_
          refine lv_sipush (v := 4096) hx hb (xb_d D_M_instantiate 91 rfl) (by decide) ?_
          refine lv_icmp_gt (tgt := 201) hx hb (xb_d D_M_instantiate 92 rfl) rfl (fun hc15 => ?_) (fun hc15 => ?_)
          · have hw := hw.1 hc15
            exact am_M_instantiate_L201 l hfl D A σ MC MS h0 Qr x0 x1 r4 v5 r7 v8 h13 bc bs hw p e s m args below meth c hC H locs ls k n hE (lv_sub hl [4, 5, 3, 2, 1, 0] rfl) hR hS (by omega) (by omega)
          · have hw := hw.2 hc15
            refine lv_aload_n hx hb (xb_d D_M_instantiate 93 rfl) rfl (lv_at hl 4 rfl) ?_
            have hk2 : xb_k h13 x0 = 9 := hEh13.k hk2
            refine xb_getI (C := R_M) (T := F_M) (N := 97) hx hb 8 47 hts fin_M hown hR hk2 (by decide) rfl (by decide) rfl (hts _ m_1bb1db74) (fun _ h9 => h9) (xb_d D_M_instantiate 94 rfl) ?_
            refine lv_i2l hx hb (xb_d D_M_instantiate 95 rfl) rfl ?_
            refine lv_lload_n hx hb (xb_d D_M_instantiate 96 rfl) rfl (lv_at hl 3 rfl) ?_
            refine lv_ladd hx hb (xb_d D_M_instantiate 97 rfl) ?_
            refine lv_ldc2 (v := 16384) hx hb hown (hts _ m_c1dea8f8) (xb_d D_M_instantiate 98 rfl) ?_
            refine xb_lc_gt (tgt := 201) hx hb (xb_d D_M_instantiate 99 rfl) (xb_d D_M_instantiate 100 rfl) rfl (fun hc16 => ?_) (fun hc16 => ?_)
            · have hw := hw.1 hc16
              exact am_M_instantiate_L201 l hfl D A σ MC MS h0 Qr x0 x1 r4 v5 r7 v8 h13 bc bs hw p e s m args below meth c hC H locs ls k n hE (lv_sub hl [4, 5, 3, 2, 1, 0] rfl) hR hS (by omega) (by omega)
            · have hw := hw.2 hc16
              refine lv_aload_n hx hb (xb_d D_M_instantiate 101 rfl) rfl (lv_at hl 4 rfl) ?_
              refine xb_getI (C := R_M) (T := F_M) (N := 97) hx hb 8 53 hts fin_M hown hR hk2 (by decide) rfl (by decide) rfl (hts _ m_45d74ed6) (fun _ h9 => h9) (xb_d D_M_instantiate 102 rfl) ?_
              refine lv_i2l hx hb (xb_d D_M_instantiate 103 rfl) rfl ?_
              refine lv_lload hx hb (xb_d D_M_instantiate 104 rfl) (lv_at hl 1 rfl) ?_
              refine lv_ladd hx hb (xb_d D_M_instantiate 105 rfl) ?_
              refine lv_ldc2 (v := 16) hx hb hown (hts _ m_5b9ce66a) (xb_d D_M_instantiate 106 rfl) ?_
              refine xb_lc_gt (tgt := 201) hx hb (xb_d D_M_instantiate 107 rfl) (xb_d D_M_instantiate 108 rfl) rfl (fun hc17 => ?_) (fun hc17 => ?_)
              · have hw := hw.1 hc17
                exact am_M_instantiate_L201 l hfl D A σ MC MS h0 Qr x0 x1 r4 v5 r7 v8 h13 bc bs hw p e s m args below meth c hC H locs ls k n hE (lv_sub hl [4, 5, 3, 2, 1, 0] rfl) hR hS (by omega) (by omega)
              · have hw := hw.2 hc17
                refine lv_iconst (v := 1) hx hb (xb_d D_M_instantiate 109 rfl) (by decide) ?_
                refine lv_goto (tgt := 202) hx hb (xb_d D_M_instantiate 110 rfl) rfl ?_
                exact am_M_instantiate_L202 l hfl D A σ MC MS h0 Qr x0 x1 r4 v5 r7 v8 1 h13 bc bs hw p e s m args below meth c hC H locs ls k n hE (lv_sub hl [4, 5, 3, 2, 1, 0] rfl) hR hS (by omega) (by omega)
    · have hw := hw.2 hc1
      refine lv_aload_n hx hb (xb_d D_M_instantiate 32 rfl) rfl (lv_at hl 0 rfl) ?_
      refine lv_iload_n hx hb (xb_d D_M_instantiate 33 rfl) rfl (lv_at hl 1 rfl) ?_
      refine lv_iload_n hx hb (xb_d D_M_instantiate 34 rfl) rfl (lv_at hl 3 rfl) ?_
      obtain ⟨hk18, hw⟩ := hw
      refine xb_call0 (D := D) (A := A) (σ := σ) (h := h) (d := 11) (maxL := 13) (rest := []) (av := [.ref x0, .int x1, .int x3]) (fun T hT X => by obtain ⟨cb9, ra9, rb9, rc9⟩ := xb_recv (ci := 8) hR rfl hk18 (by decide); exact xt_invV X hx hown (hts _ m_4a80702f) (hts _ m_8de9e09b) (hts _ m_8f02abdf) (xt_sigOf (hts _ m_378a43ba)) nm_M_found (by rw [hT]; exact ra9) rb9 rc9 (g := F0 m 59 ls [.int x3, .int x1, .ref x0]) rfl (argsL := [.int x1, .int x3]) (rest := []) rfl rfl (by rw [hb]; exact (xb_d D_M_instantiate 35 rfl))) (ok_M_found l hfl D A σ x0 x1 x3 h _ hw) (hml.trans hl.1.symm) (by rw [hb]; exact (xb_d D_M_instantiate 35 rfl)) (Nat.le_of_ble_eq_true rfl) (Nat.le_of_ble_eq_true rfl) (Nat.le_of_ble_eq_true rfl) (show k ≤ MC by omega) (show n ≤ MS by omega) (xt_w1 hB.1 m_378a43ba) (xt_cdOf hB.1 m_378a43ba) (hts _ m_d5ed7bed) hB hR hS hA (fun vv h19 H locs hq hEh19 hR hS => ?_)
      obtain ⟨r20, rfl, hw⟩ := hq
      have hw := hw hEh19
      have hE := hE.tr hEh19
      refine W.eq (g2 := F0 m 62 ls [.int r20]) rfl ?_
      refine lv_istore hx hb (xb_d D_M_instantiate 36 rfl) hl (by decide) rfl (fun ls hl => ?_)
      have hl : lv_has ls 14 [(4, .int r20), (0, .ref x0), (1, .int x1), (2, .int x2), (3, .int x3)] := hl
      refine lv_iload hx hb (xb_d D_M_instantiate 37 rfl) (lv_at hl 0 rfl) ?_
      refine lv_if_ge (tgt := 78) hx hb (xb_d D_M_instantiate 38 rfl) rfl (fun hc21 => ?_) (fun hc21 => ?_)
      · have hw := hw.1 hc21
        refine lv_aload_n hx hb (xb_d D_M_instantiate 45 rfl) rfl (lv_at hl 1 rfl) ?_
        have hk18 : xb_k h19 x0 = 9 := hEh19.k hk18
        refine xb_getP (C := R_M) (T := F_M) (N := 97) hx hb 8 33 hts fin_M hown hR hk18 (by decide) rfl (by decide) rfl (hts _ m_e6997b7a) (fun _ h9 => h9) (xb_d D_M_instantiate 46 rfl) ?_
        obtain ⟨b22, eb22, hw⟩ := hw
        refine xb_some eb22 ?_
        refine lv_aload_n hx hb (xb_d D_M_instantiate 47 rfl) rfl (lv_at hl 1 rfl) ?_
        refine xb_getI (C := R_M) (T := F_M) (N := 97) hx hb 8 34 hts fin_M hown hR hk18 (by decide) rfl (by decide) rfl (hts _ m_82d2871e) (fun _ h9 => h9) (xb_d D_M_instantiate 48 rfl) ?_
        refine lv_iload_n hx hb (xb_d D_M_instantiate 49 rfl) rfl (lv_at hl 4 rfl) ?_
        refine lv_iadd hx hb (xb_d D_M_instantiate 50 rfl) ?_
        refine lv_iload hx hb (xb_d D_M_instantiate 51 rfl) (lv_at hl 0 rfl) ?_
        obtain ⟨hk23, hw⟩ := hw
        obtain ⟨hi24, hw⟩ := hw
        refine xb_iast hx hb hR hS hk23 hi24 (xb_d D_M_instantiate 52 rfl) (fun H locs hR hS => ?_)
        obtain ⟨h25, eh25⟩ : ∃ x : xb_H, x = xb_I h19 b22 (Int32.toNatClampNeg ((xb_i h19 x0 34) + x3)) r20 := ⟨_, rfl⟩
        rw [← eh25] at hR
        have hw := hw h25 eh25
        have hE : xb_ext h0 h25 := by rw [eh25]; exact hE
        refine lv_iinc (v := (x3 + 1)) (k := 4) hx hb (xb_d D_M_instantiate 53 rfl) hl rfl (by first | rfl | decide) (by decide) rfl (fun ls hl => ?_)
        have hl : lv_has ls 14 [(3, .int (x3 + 1)), (4, .int r20), (0, .ref x0), (1, .int x1), (2, .int x2)] := hl
        refine lv_goto (tgt := 51) hx hb (xb_d D_M_instantiate 54 rfl) rfl ?_
        exact ih x0 x1 x2 (x3 + 1) h25 bc bs hw p e s m args below meth c hC H locs ls k n hE (lv_sub hl [2, 3, 4, 0] rfl) hR hS (by omega) (by omega)
      · have hw := hw.2 hc21
        refine lv_aload_n hx hb (xb_d D_M_instantiate 39 rfl) rfl (lv_at hl 1 rfl) ?_
        refine lv_iload hx hb (xb_d D_M_instantiate 40 rfl) (lv_at hl 0 rfl) ?_
        refine lv_ineg hx hb (xb_d D_M_instantiate 41 rfl) ?_
        refine lv_iload_n hx hb (xb_d D_M_instantiate 42 rfl) rfl (lv_at hl 4 rfl) ?_
        have hk18 : xb_k h19 x0 = 9 := hEh19.k hk18
        refine xb_call0 (D := D) (A := A) (σ := σ) (h := h19) (d := 2) (maxL := 3) (rest := []) (av := [.ref x0, .int (-r20), .int x3]) (fun T hT X => by obtain ⟨cb9, ra9, rb9, rc9⟩ := xb_recv (ci := 8) hR rfl hk18 (by decide); exact xt_invV X hx hown (hts _ m_6b6b7e08) (hts _ m_4beacd9b) (hts _ m_24c49834) (xt_sigOf (hts _ m_7cc9e25d)) nm_M_refuse (by rw [hT]; exact ra9) rb9 rc9 (g := F0 m 74 ls [.int x3, .int (-r20), .ref x0]) rfl (argsL := [.int (-r20), .int x3]) (rest := []) rfl rfl (by rw [hb]; exact (xb_d D_M_instantiate 43 rfl))) (ok_M_refuse l hfl D A σ x0 (-r20) x3 h19 _ hw) (hml.trans hl.1.symm) (by rw [hb]; exact (xb_d D_M_instantiate 43 rfl)) (Nat.le_of_ble_eq_true rfl) (Nat.le_of_ble_eq_true rfl) (Nat.le_of_ble_eq_true rfl) (show k ≤ MC by omega) (show n ≤ MS by omega) (xt_w1 hB.1 m_7cc9e25d) (xt_cdOf hB.1 m_7cc9e25d) (hts _ m_d5ed7bed) hB hR hS hA (fun vv h26 H locs hq hEh26 hR hS => ?_)
        obtain ⟨r27, rfl, hw⟩ := hq
        have hw := hw hEh26
        have hE := hE.tr hEh26
        refine W.eq (g2 := F0 m 77 ls [.int r27]) rfl ?_
        exact xb_iret bc bs hx hb hr hlocks (show k + bc ≤ MC by omega) (show n + bs ≤ MS by omega) hE hR hS (xb_d D_M_instantiate 44 rfl) hw

set_option maxHeartbeats 4000000 in
set_option maxRecDepth 100000 in
theorem am_M_instantiate_L25 (l : Launch) (hfl : l.flags = pinnedFlags ++ [noTraceFlag]) (D : va_G) (A : Nat → Prop) (σ MC MS : Nat) (h0 : xb_H) (Qr : Int32 → xb_H → Nat → Nat → Prop) (x0 : Nat) (x1 : Int32) (y0 : Int32) (y1 : Nat) (h : xb_H) (bc : Nat) (bs : Nat) (hw : w_M_instantiate_L25 Qr x0 x1 y0 y1 h bc bs) : xb_am l D A σ 12 MC MS h0 (fun v h bc bs => ∃ r, v = some (.int r) ∧ Qr r h bc bs) (fun _ _ _ _ => False) y_M_instantiate.cls y_M_instantiate.name b_M_instantiate 14 ([] : List ExceptionTableEntry) (some .int) 25 [(0, .ref x0), (1, .int x1)] [.int y0, .ref y1] h bc bs := by
  unfold w_M_instantiate_L25 at hw
  intro p e s m args below meth c hC H locs ls k n hE hl hR hS hk hn
  obtain ⟨hx, hb, hown, hlocks, htab, hml, hr, hB, hA, hnm⟩ := id hC
  have hts := hB.1.1.at args
  obtain ⟨hk1, hw⟩ := hw
  refine xb_putI (C := R_M) (T := F_M) (N := 97) (ty := .int) (x := y0) hx hb 8 0 hts fin_M t_M t_M_ok n_M hown hR hS hk1 (by decide) rfl (by decide) rfl (hts _ m_afabd6a0) (fun _ h9 => h9) rfl (by decide +kernel) rfl rfl (xb_d D_M_instantiate 13 rfl) (fun H locs hR hS => ?_)
  obtain ⟨h2, eh2⟩ : ∃ x : xb_H, x = xb_I h y1 0 y0 := ⟨_, rfl⟩
  rw [← eh2] at hR
  have hw := hw h2 eh2
  have hE : xb_ext h0 h2 := by rw [eh2]; exact hE
  refine lv_aload_n hx hb (xb_d D_M_instantiate 14 rfl) rfl (lv_at hl 0 rfl) ?_
  obtain ⟨hk3, hw⟩ := hw
  refine xb_getI (C := R_M) (T := F_M) (N := 97) hx hb 8 0 hts fin_M hown hR hk3 (by decide) rfl (by decide) rfl (hts _ m_afabd6a0) (fun _ h9 => h9) (xb_d D_M_instantiate 15 rfl) ?_
  refine lv_if_le (tgt := 37) hx hb (xb_d D_M_instantiate 16 rfl) rfl (fun hc4 => ?_) (fun hc4 => ?_)
  · have hw := hw.1 hc4
    refine lv_aload_n hx hb (xb_d D_M_instantiate 19 rfl) rfl (lv_at hl 0 rfl) ?_
    refine lv_iload_n hx hb (xb_d D_M_instantiate 20 rfl) rfl (lv_at hl 1 rfl) ?_
    refine lv_iconst (v := 2) hx hb (xb_d D_M_instantiate 21 rfl) (by decide) ?_
    refine xb_call0 (D := D) (A := A) (σ := σ) (h := h2) (d := 2) (maxL := 3) (rest := []) (av := [.ref x0, .int x1, .int 2]) (fun T hT X => by obtain ⟨cb9, ra9, rb9, rc9⟩ := xb_recv (ci := 8) hR rfl hk3 (by decide); exact xt_invV X hx hown (hts _ m_b47f62c2) (hts _ m_9f071faf) (hts _ m_e1bb5c84) (xt_sigOf (hts _ m_3a6212d6)) nm_M_manyOf (by rw [hT]; exact ra9) rb9 rc9 (g := F0 m 40 ls [.int 2, .int x1, .ref x0]) rfl (argsL := [.int x1, .int 2]) (rest := []) rfl rfl (by rw [hb]; exact (xb_d D_M_instantiate 22 rfl))) (ok_M_manyOf l hfl D A σ x0 x1 2 h2 _ hw) (hml.trans hl.1.symm) (by rw [hb]; exact (xb_d D_M_instantiate 22 rfl)) (Nat.le_of_ble_eq_true rfl) (Nat.le_of_ble_eq_true rfl) (Nat.le_of_ble_eq_true rfl) (show k ≤ MC by omega) (show n ≤ MS by omega) (xt_w1 hB.1 m_3a6212d6) (xt_cdOf hB.1 m_3a6212d6) (hts _ m_d5ed7bed) hB hR hS hA (fun vv h5 H locs hq hEh5 hR hS => ?_)
    obtain ⟨r6, rfl, hw⟩ := hq
    have hw := hw hEh5
    have hE := hE.tr hEh5
    refine W.eq (g2 := F0 m 43 ls [.int r6]) rfl ?_
    refine lv_istore_n hx hb (xb_d D_M_instantiate 23 rfl) rfl hl (by decide) rfl (fun ls hl => ?_)
    have hl : lv_has ls 14 [(2, .int r6), (0, .ref x0), (1, .int x1)] := hl
    refine lv_aload_n hx hb (xb_d D_M_instantiate 24 rfl) rfl (lv_at hl 1 rfl) ?_
    refine lv_iload_n hx hb (xb_d D_M_instantiate 25 rfl) rfl (lv_at hl 0 rfl) ?_
    have hk3 : xb_k h5 x0 = 9 := hEh5.k hk3
    refine xb_call (D := D) (A := A) (σ := σ) (h := h5) (d := 2) (mc := bc) (ms := bs) (maxL := 4) (rest := []) (av := [.ref x0, .int r6]) (fun T hT X => by obtain ⟨cb9, ra9, rb9, rc9⟩ := xb_recv (ci := 8) hR rfl hk3 (by decide); exact xt_invV X hx hown (hts _ m_2d2adbb6) (hts _ m_780b8919) (hts _ m_220e01db) (xt_sigOf (hts _ m_4a19fd12)) nm_M_reserveImports (by rw [hT]; exact ra9) rb9 rc9 (g := F0 m 46 ls [.int r6, .ref x0]) rfl (argsL := [.int r6]) (rest := []) rfl rfl (by rw [hb]; exact (xb_d D_M_instantiate 26 rfl))) (ok_M_reserveImports l hfl D A σ x0 r6 h5 bc bs _ hw) (hml.trans hl.1.symm) (by rw [hb]; exact (xb_d D_M_instantiate 26 rfl)) (Nat.le_of_ble_eq_true rfl) (Nat.le_of_ble_eq_true rfl) (Nat.le_of_ble_eq_true rfl) (show k + bc ≤ MC by omega) (show n + bs ≤ MS by omega) (xt_w1 hB.1 m_4a19fd12) (xt_cdOf hB.1 m_4a19fd12) (hts _ m_d5ed7bed) hB hR hS hA (fun vv h7 bc8 bs8 kk8 nn8 H locs hk8 hn8 hq hEh7 hR hS => ?_) (fun XX ax h7 bc8 bs8 kk8 nn8 H locs hk8 hn8 hq hEh7 hex hR hS => ?_)
    · obtain ⟨rfl, hw⟩ := hq
      have hw := hw hEh7
      have hE := hE.tr hEh7
      refine W.eq (g2 := F0 m 49 ls []) rfl ?_
      refine lv_iconst (v := 0) hx hb (xb_d D_M_instantiate 27 rfl) (by decide) ?_
      refine lv_istore_n hx hb (xb_d D_M_instantiate 28 rfl) rfl hl (by decide) rfl (fun ls hl => ?_)
      have hl : lv_has ls 14 [(3, .int 0), (2, .int r6), (0, .ref x0), (1, .int x1)] := hl
      obtain ⟨n8, hw⟩ := hw
      exact am_M_instantiate_L51 l hfl D A σ MC MS h0 Qr n8 x0 x1 r6 0 h7 bc8 bs8 hw p e s m args below meth c hC H locs ls (k + kk8) (n + nn8) hE (lv_sub hl [2, 3, 1, 0] rfl) hR hS (by omega) (by omega)
    · exact False.elim hq
  · have hw := hw.2 hc4
    refine lv_iconst (v := 0) hx hb (xb_d D_M_instantiate 17 rfl) (by decide) ?_
    exact xb_iret bc bs hx hb hr hlocks (show k + bc ≤ MC by omega) (show n + bs ≤ MS by omega) hE hR hS (xb_d D_M_instantiate 18 rfl) hw

set_option maxHeartbeats 4000000 in
set_option maxRecDepth 100000 in
theorem ok_M_instantiate (l : Launch) (hfl : l.flags = pinnedFlags ++ [noTraceFlag]) (D : va_G) (A : Nat → Prop) (σ : Nat) (x0 : Nat) (x1 : Int32) (h : xb_H) (bc : Nat) (bs : Nat) (Qr : Int32 → xb_H → Nat → Nat → Prop) (hw : w_M_instantiate x0 x1 h bc bs Qr) : xb_Met l y_M_instantiate [.code y_M_instantiate b_M_instantiate 14 (some .int)] (xb_rm 12 bc bs) (xb_Pc D A σ h [.ref x0, .int x1]) (xb_Qc D A h bc bs (fun v h bc bs => ∃ r, v = some (.int r) ∧ Qr r h bc bs) (fun _ _ _ _ => False)) A := by
  refine xb_ofAm (cc := b_M_instantiate) (by decide) (Nat.le_of_ble_eq_true rfl) ?_
  unfold w_M_instantiate at hw
  show xb_am l D A σ 12 bc bs h (fun v h bc bs => ∃ r, v = some (.int r) ∧ Qr r h bc bs) (fun _ _ _ _ => False) y_M_instantiate.cls y_M_instantiate.name b_M_instantiate 14 ([] : List ExceptionTableEntry) (some .int) 0 [(0, .ref x0), (1, .int x1)] [] h bc bs
  obtain ⟨MC, hMC⟩ : ∃ x, x = bc := ⟨_, rfl⟩
  obtain ⟨MS, hMS⟩ : ∃ x, x = bs := ⟨_, rfl⟩
  rw [show xb_am l D A σ 12 bc bs = xb_am l D A σ 12 MC MS by rw [hMC, hMS]]
  obtain ⟨h0, hh0⟩ : ∃ x, x = h := ⟨_, rfl⟩
  rw [show xb_am l D A σ 12 MC MS h = xb_am l D A σ 12 MC MS h0 by rw [hh0]]
  intro p e s m args below meth c hC H locs ls k n hE hl hR hS hk hn
  obtain ⟨hx, hb, hown, hlocks, htab, hml, hr, hB, hA, hnm⟩ := id hC
  have hts := hB.1.1.at args
  refine lv_aload_n hx hb (xb_d D_M_instantiate 0 rfl) rfl (lv_at hl 0 rfl) ?_
  refine lv_aload_n hx hb (xb_d D_M_instantiate 1 rfl) rfl (lv_at hl 0 rfl) ?_
  refine lv_iload_n hx hb (xb_d D_M_instantiate 2 rfl) rfl (lv_at hl 1 rfl) ?_
  obtain ⟨hk1, hw⟩ := hw
  refine xb_call0 (D := D) (A := A) (σ := σ) (h := h) (d := 2) (maxL := 2) (rest := [.ref x0]) (av := [.ref x0, .int x1]) (fun T hT X => by obtain ⟨cb9, ra9, rb9, rc9⟩ := xb_recv (ci := 8) hR rfl hk1 (by decide); exact xt_invV X hx hown (hts _ m_c611635e) (hts _ m_5d755988) (hts _ m_f51c38a1) (xt_sigOf (hts _ m_012cb97d)) nm_M_isModule (by rw [hT]; exact ra9) rb9 rc9 (g := F0 m 3 ls [.int x1, .ref x0, .ref x0]) rfl (argsL := [.int x1]) (rest := [.ref x0]) rfl rfl (by rw [hb]; exact (xb_d D_M_instantiate 3 rfl))) (ok_M_isModule l hfl D A σ x0 x1 h _ hw) (hml.trans hl.1.symm) (by rw [hb]; exact (xb_d D_M_instantiate 3 rfl)) (Nat.le_of_ble_eq_true rfl) (Nat.le_of_ble_eq_true rfl) (Nat.le_of_ble_eq_true rfl) (show k ≤ MC by omega) (show n ≤ MS by omega) (xt_w1 hB.1 m_012cb97d) (xt_cdOf hB.1 m_012cb97d) (hts _ m_d5ed7bed) hB hR hS hA (fun vv h2 H locs hq hEh2 hR hS => ?_)
  obtain ⟨r3, rfl, hw⟩ := hq
  have hw := hw hEh2
  have hE := hE.tr hEh2
  refine W.eq (g2 := F0 m 6 ls [.int r3, .ref x0]) rfl ?_
  refine lv_if_ne (tgt := 13) hx hb (xb_d D_M_instantiate 4 rfl) rfl (fun hc4 => ?_) (fun hc4 => ?_)
  · have hw := hw.1 hc4
    refine lv_aload_n hx hb (xb_d D_M_instantiate 7 rfl) rfl (lv_at hl 0 rfl) ?_
    have hk1 : xb_k h2 x0 = 9 := hEh2.k hk1
    refine xb_getI (C := R_M) (T := F_M) (N := 97) hx hb 8 62 hts fin_M hown hR hk1 (by decide) rfl (by decide) rfl (hts _ m_71a5ca12) (fun _ h9 => h9) (xb_d D_M_instantiate 8 rfl) ?_
    refine lv_if_eq (tgt := 24) hx hb (xb_d D_M_instantiate 9 rfl) rfl (fun hc5 => ?_) (fun hc5 => ?_)
    · have hw := hw.1 hc5
      refine lv_iconst (v := 0) hx hb (xb_d D_M_instantiate 12 rfl) (by decide) ?_
      exact am_M_instantiate_L25 l hfl D A σ MC MS h0 Qr x0 x1 0 x0 h2 bc bs hw p e s m args below meth c hC H locs ls k n hE (lv_sub hl [0, 1] rfl) hR hS (by omega) (by omega)
    · have hw := hw.2 hc5
      refine lv_iconst (v := 2) hx hb (xb_d D_M_instantiate 10 rfl) (by decide) ?_
      refine lv_goto (tgt := 25) hx hb (xb_d D_M_instantiate 11 rfl) rfl ?_
      exact am_M_instantiate_L25 l hfl D A σ MC MS h0 Qr x0 x1 2 x0 h2 bc bs hw p e s m args below meth c hC H locs ls k n hE (lv_sub hl [0, 1] rfl) hR hS (by omega) (by omega)
  · have hw := hw.2 hc4
    refine lv_iconst (v := 1) hx hb (xb_d D_M_instantiate 5 rfl) (by decide) ?_
    refine lv_goto (tgt := 25) hx hb (xb_d D_M_instantiate 6 rfl) rfl ?_
    exact am_M_instantiate_L25 l hfl D A σ MC MS h0 Qr x0 x1 1 x0 h2 bc bs hw p e s m args below meth c hC H locs ls k n hE (lv_sub hl [0, 1] rfl) hR hS (by omega) (by omega)

theorem m_a8f08e5a : (.methodLink "StackHostModel" 683 y_M_flow : Cond) ∈ xt_tbl := xt_in (xt_t13 (List.mem_of_getElem? (i := 142) (by decide +kernel))) (by decide +kernel)
theorem m_6fe10f79 : (.instanceMethod y_M_flow : Cond) ∈ xt_tbl := xt_in (xt_t13 (List.mem_of_getElem? (i := 144) (by decide +kernel))) (by decide +kernel)
theorem m_cebf8f6c : (.selects "StackHostModel" y_M_flow y_M_flow : Cond) ∈ xt_tbl := xt_in (xt_v17 (q := (⟨"StackHostModel", "flow", "(II)V"⟩, 97)) (List.mem_of_getElem? (i := 8) (by decide +kernel))) (by decide +kernel)
theorem m_8210b198 : (.code y_M_flow b_M_flow 7 none : Cond) ∈ xt_tbl := xt_in (xt_t13 (List.mem_of_getElem? (i := 145) (by decide +kernel))) (by decide +kernel)
theorem m_7e62a8b0 : (.methodLink "StackHostModel" 680 y_M_calling : Cond) ∈ xt_tbl := xt_in (xt_t13 (List.mem_of_getElem? (i := 138) (by decide +kernel))) (by decide +kernel)
theorem m_28c00435 : (.instanceMethod y_M_calling : Cond) ∈ xt_tbl := xt_in (xt_t13 (List.mem_of_getElem? (i := 140) (by decide +kernel))) (by decide +kernel)
theorem m_c3e0b654 : (.selects "StackHostModel" y_M_calling y_M_calling : Cond) ∈ xt_tbl := xt_in (xt_v17 (q := (⟨"StackHostModel", "calling", "(III)V"⟩, 97)) (List.mem_of_getElem? (i := 7) (by decide +kernel))) (by decide +kernel)
theorem m_f57f8ac8 : (.code y_M_calling b_M_calling 12 none : Cond) ∈ xt_tbl := xt_in (xt_t13 (List.mem_of_getElem? (i := 141) (by decide +kernel))) (by decide +kernel)
theorem m_be1aabcc : (.methodLink "StackHostModel" 677 y_M_ofPlace : Cond) ∈ xt_tbl := xt_in (xt_t13 (List.mem_of_getElem? (i := 134) (by decide +kernel))) (by decide +kernel)
theorem m_cac82207 : (.instanceMethod y_M_ofPlace : Cond) ∈ xt_tbl := xt_in (xt_t13 (List.mem_of_getElem? (i := 136) (by decide +kernel))) (by decide +kernel)
theorem m_029f5697 : (.selects "StackHostModel" y_M_ofPlace y_M_ofPlace : Cond) ∈ xt_tbl := xt_in (xt_v17 (q := (⟨"StackHostModel", "ofPlace", "(III)V"⟩, 97)) (List.mem_of_getElem? (i := 6) (by decide +kernel))) (by decide +kernel)
theorem m_6703d986 : (.code y_M_ofPlace b_M_ofPlace 9 none : Cond) ∈ xt_tbl := xt_in (xt_t13 (List.mem_of_getElem? (i := 137) (by decide +kernel))) (by decide +kernel)
theorem m_6dc9a070 : (.methodLink "StackHostModel" 674 y_M_inMemory : Cond) ∈ xt_tbl := xt_in (xt_t13 (List.mem_of_getElem? (i := 122) (by decide +kernel))) (by decide +kernel)
theorem m_4f81338f : (.instanceMethod y_M_inMemory : Cond) ∈ xt_tbl := xt_in (xt_t13 (List.mem_of_getElem? (i := 124) (by decide +kernel))) (by decide +kernel)
theorem m_7fb11322 : (.selects "StackHostModel" y_M_inMemory y_M_inMemory : Cond) ∈ xt_tbl := xt_in (xt_v17 (q := (⟨"StackHostModel", "inMemory", "(II)V"⟩, 97)) (List.mem_of_getElem? (i := 3) (by decide +kernel))) (by decide +kernel)
theorem m_1b7d7d27 : (.code y_M_inMemory b_M_inMemory 15 none : Cond) ∈ xt_tbl := xt_in (xt_t13 (List.mem_of_getElem? (i := 125) (by decide +kernel))) (by decide +kernel)
theorem m_192b35f0 : (.methodLink "StackHostModel" 671 y_M_constantOf : Cond) ∈ xt_tbl := xt_in (xt_t13 (List.mem_of_getElem? (i := 118) (by decide +kernel))) (by decide +kernel)
theorem m_4403682d : (.instanceMethod y_M_constantOf : Cond) ∈ xt_tbl := xt_in (xt_t13 (List.mem_of_getElem? (i := 120) (by decide +kernel))) (by decide +kernel)
theorem m_bb0617ec : (.selects "StackHostModel" y_M_constantOf y_M_constantOf : Cond) ∈ xt_tbl := xt_in (xt_v17 (q := (⟨"StackHostModel", "constantOf", "(I)V"⟩, 97)) (List.mem_of_getElem? (i := 2) (by decide +kernel))) (by decide +kernel)
theorem m_50911c4e : (.code y_M_constantOf b_M_constantOf 5 none : Cond) ∈ xt_tbl := xt_in (xt_t13 (List.mem_of_getElem? (i := 121) (by decide +kernel))) (by decide +kernel)
theorem m_818998a5 : (.methodLink "StackHostModel" 668 y_M_reckon : Cond) ∈ xt_tbl := xt_in (xt_t12 (List.mem_of_getElem? (i := 185) (by decide +kernel))) (by decide +kernel)
theorem m_9a6325bc : (.instanceMethod y_M_reckon : Cond) ∈ xt_tbl := xt_in (xt_t12 (List.mem_of_getElem? (i := 187) (by decide +kernel))) (by decide +kernel)
theorem m_9fc55172 : (.selects "StackHostModel" y_M_reckon y_M_reckon : Cond) ∈ xt_tbl := xt_in (xt_v14 (q := (⟨"StackHostModel", "reckon", "(I)V"⟩, 97)) (List.mem_of_getElem? (i := 15) (by decide +kernel))) (by decide +kernel)
theorem m_6620b60e : (.code y_M_reckon b_M_reckon 9 none : Cond) ∈ xt_tbl := xt_in (xt_t12 (List.mem_of_getElem? (i := 188) (by decide +kernel))) (by decide +kernel)
theorem nm_M_flow : xt_nm y_M_flow 2 := ⟨by decide +kernel, by decide +kernel⟩
theorem nm_M_calling : xt_nm y_M_calling 3 := ⟨by decide +kernel, by decide +kernel⟩
theorem nm_M_ofPlace : xt_nm y_M_ofPlace 3 := ⟨by decide +kernel, by decide +kernel⟩
theorem nm_M_inMemory : xt_nm y_M_inMemory 2 := ⟨by decide +kernel, by decide +kernel⟩
theorem nm_M_constantOf : xt_nm y_M_constantOf 1 := ⟨by decide +kernel, by decide +kernel⟩
theorem nm_M_reckon : xt_nm y_M_reckon 1 := ⟨by decide +kernel, by decide +kernel⟩
set_option maxRecDepth 100000 in
def T_M_perform : List (Nat × Instr × Nat) := [(0, .iload_n 3, 1), (1, .bipush 69, 2), (3, .if_icmp .lt 11, 3), (6, .aload_n 0, 1), (7, .iload_n 3, 1), (8, .invokevirtual 668, 3), (11, .goto 68, 3), (14, .iload_n 3, 1), (15, .bipush 65, 2), (17, .if_icmp .lt 11, 3), (20, .aload_n 0, 1), (21, .iload_n 3, 1), (22, .invokevirtual 671, 3), (25, .goto 54, 3), (28, .iload_n 3, 1), (29, .bipush 40, 2), (31, .if_icmp .lt 12, 3), (34, .aload_n 0, 1), (35, .iload_n 2, 1), (36, .iload_n 3, 1), (37, .invokevirtual 674, 3), (40, .goto 39, 3), (43, .iload_n 3, 1), (44, .bipush 32, 2), (46, .if_icmp .lt 13, 3), (49, .aload_n 0, 1), (50, .iload_n 1, 1), (51, .iload_n 2, 1), (52, .iload_n 3, 1), (53, .invokevirtual 677, 3), (56, .goto 23, 3), (59, .iload_n 3, 1), (60, .bipush 16, 2), (62, .if_icmp .lt 11, 3), (65, .aload_n 0, 1), (66, .iload_n 1, 1), (67, .iload_n 2, 1), (68, .iload_n 3, 1), (69, .invokevirtual 680, 3), (72, .return_, 1), (73, .aload_n 0, 1), (74, .iload_n 1, 1), (75, .iload_n 3, 1), (76, .invokevirtual 683, 3), (79, .iload_n 1, 1), (80, .aload_n 0, 1), (81, .getfield 616, 3), (84, .if_icmp .ge 20, 3), (87, .aload_n 0, 1), (88, .getfield 625, 3), (91, .ifCond .ne 13, 3), (94, .aload_n 0, 1), (95, .getfield 142, 3), (98, .iload_n 1, 1), (99, .aload_n 0, 1), (100, .getfield 202, 3), (103, .iastore, 1), (104, .return_, 1)]
theorem D_M_perform : ∀ q ∈ T_M_perform, decode b_M_perform q.1 = .ok (q.2.1, q.2.2) := by decide +kernel

set_option maxHeartbeats 4000000 in
set_option maxRecDepth 100000 in
theorem am_M_perform_L104 (l : Launch) (hfl : l.flags = pinnedFlags ++ [noTraceFlag]) (D : va_G) (A : Nat → Prop) (σ MC MS : Nat) (h0 : xb_H) (Qr : xb_H → Prop) (h : xb_H) (hw : w_M_perform_L104 Qr h) : xb_am l D A σ 12 MC MS h0 (fun v h _ _ => v = none ∧ Qr h) (fun _ _ _ _ => False) y_M_perform.cls y_M_perform.name b_M_perform 4 ([] : List ExceptionTableEntry) none 104 [] [] h 0 0 := by
  unfold w_M_perform_L104 at hw
  intro p e s m args below meth c hC H locs ls k n hE hl hR hS hk hn
  obtain ⟨hx, hb, hown, hlocks, htab, hml, hr, hB, hA, hnm⟩ := id hC
  have hts := hB.1.1.at args
  exact xb_vret 0 0 hx hb hr hlocks (show k + 0 ≤ MC by omega) (show n + 0 ≤ MS by omega) hE hR hS (xb_d D_M_perform 57 rfl) hw

set_option maxHeartbeats 4000000 in
set_option maxRecDepth 100000 in
theorem am_M_perform_L79 (l : Launch) (hfl : l.flags = pinnedFlags ++ [noTraceFlag]) (D : va_G) (A : Nat → Prop) (σ MC MS : Nat) (h0 : xb_H) (Qr : xb_H → Prop) (x0 : Nat) (x1 : Int32) (h : xb_H) (hw : w_M_perform_L79 Qr x0 x1 h) : xb_am l D A σ 12 MC MS h0 (fun v h _ _ => v = none ∧ Qr h) (fun _ _ _ _ => False) y_M_perform.cls y_M_perform.name b_M_perform 4 ([] : List ExceptionTableEntry) none 79 [(0, .ref x0), (1, .int x1)] [] h 0 0 := by
  unfold w_M_perform_L79 at hw
  intro p e s m args below meth c hC H locs ls k n hE hl hR hS hk hn
  obtain ⟨hx, hb, hown, hlocks, htab, hml, hr, hB, hA, hnm⟩ := id hC
  have hts := hB.1.1.at args
  refine lv_iload_n hx hb (xb_d D_M_perform 44 rfl) rfl (lv_at hl 1 rfl) ?_
  refine lv_aload_n hx hb (xb_d D_M_perform 45 rfl) rfl (lv_at hl 0 rfl) ?_
  obtain ⟨hk1, hw⟩ := hw
  refine xb_getI (C := R_M) (T := F_M) (N := 97) hx hb 8 68 hts fin_M hown hR hk1 (by decide) rfl (by decide) rfl (hts _ m_11712ae1) (fun _ h9 => h9) (xb_d D_M_perform 46 rfl) ?_
  refine lv_icmp_ge (tgt := 104) hx hb (xb_d D_M_perform 47 rfl) rfl (fun hc2 => ?_) (fun hc2 => ?_)
  · have hw := hw.1 hc2
    exact am_M_perform_L104 l hfl D A σ MC MS h0 Qr h hw p e s m args below meth c hC H locs ls k n hE (lv_sub hl [] rfl) hR hS (by omega) (by omega)
  · have hw := hw.2 hc2
    refine lv_aload_n hx hb (xb_d D_M_perform 48 rfl) rfl (lv_at hl 0 rfl) ?_
    refine xb_getI (C := R_M) (T := F_M) (N := 97) hx hb 8 82 hts fin_M hown hR hk1 (by decide) rfl (by decide) rfl (hts _ m_ad343437) (fun _ h9 => h9) (xb_d D_M_perform 49 rfl) ?_
    refine lv_if_ne (tgt := 104) hx hb (xb_d D_M_perform 50 rfl) rfl (fun hc3 => ?_) (fun hc3 => ?_)
    · have hw := hw.1 hc3
      exact am_M_perform_L104 l hfl D A σ MC MS h0 Qr h hw p e s m args below meth c hC H locs ls k n hE (lv_sub hl [] rfl) hR hS (by omega) (by omega)
    · have hw := hw.2 hc3
      refine lv_aload_n hx hb (xb_d D_M_perform 51 rfl) rfl (lv_at hl 0 rfl) ?_
      refine xb_getP (C := R_M) (T := F_M) (N := 97) hx hb 8 70 hts fin_M hown hR hk1 (by decide) rfl (by decide) rfl (hts _ m_ab98e9c9) (fun _ h9 => h9) (xb_d D_M_perform 52 rfl) ?_
      obtain ⟨b4, eb4, hw⟩ := hw
      refine xb_some eb4 ?_
      refine lv_iload_n hx hb (xb_d D_M_perform 53 rfl) rfl (lv_at hl 1 rfl) ?_
      refine lv_aload_n hx hb (xb_d D_M_perform 54 rfl) rfl (lv_at hl 0 rfl) ?_
      refine xb_getI (C := R_M) (T := F_M) (N := 97) hx hb 8 15 hts fin_M hown hR hk1 (by decide) rfl (by decide) rfl (hts _ m_6c2d27ad) (fun _ h9 => h9) (xb_d D_M_perform 55 rfl) ?_
      obtain ⟨hk5, hw⟩ := hw
      obtain ⟨hi6, hw⟩ := hw
      refine xb_iast hx hb hR hS hk5 hi6 (xb_d D_M_perform 56 rfl) (fun H locs hR hS => ?_)
      obtain ⟨h7, eh7⟩ : ∃ x : xb_H, x = xb_I h b4 (Int32.toNatClampNeg x1) (xb_i h x0 15) := ⟨_, rfl⟩
      rw [← eh7] at hR
      have hw := hw h7 eh7
      have hE : xb_ext h0 h7 := by rw [eh7]; exact hE
      exact am_M_perform_L104 l hfl D A σ MC MS h0 Qr h7 hw p e s m args below meth c hC H locs ls k n hE (lv_sub hl [] rfl) hR hS (by omega) (by omega)

set_option maxHeartbeats 4000000 in
set_option maxRecDepth 100000 in
theorem ok_M_perform (l : Launch) (hfl : l.flags = pinnedFlags ++ [noTraceFlag]) (D : va_G) (A : Nat → Prop) (σ : Nat) (x0 : Nat) (x1 : Int32) (x2 : Int32) (x3 : Int32) (h : xb_H) (Qr : xb_H → Prop) (hw : w_M_perform x0 x1 x2 x3 h Qr) : xb_Met l y_M_perform [.code y_M_perform b_M_perform 4 none] (xb_rm 12 0 0) (xb_Pc D A σ h [.ref x0, .int x1, .int x2, .int x3]) (xb_Qc D A h 0 0 (fun v h _ _ => v = none ∧ Qr h) (fun _ _ _ _ => False)) A := by
  refine xb_ofAm (cc := b_M_perform) (by decide) (Nat.le_of_ble_eq_true rfl) ?_
  unfold w_M_perform at hw
  show xb_am l D A σ 12 0 0 h (fun v h _ _ => v = none ∧ Qr h) (fun _ _ _ _ => False) y_M_perform.cls y_M_perform.name b_M_perform 4 ([] : List ExceptionTableEntry) none 0 [(0, .ref x0), (1, .int x1), (2, .int x2), (3, .int x3)] [] h 0 0
  obtain ⟨MC, hMC⟩ : ∃ x, x = 0 := ⟨_, rfl⟩
  obtain ⟨MS, hMS⟩ : ∃ x, x = 0 := ⟨_, rfl⟩
  rw [show xb_am l D A σ 12 0 0 = xb_am l D A σ 12 MC MS by rw [hMC, hMS]]
  obtain ⟨h0, hh0⟩ : ∃ x, x = h := ⟨_, rfl⟩
  rw [show xb_am l D A σ 12 MC MS h = xb_am l D A σ 12 MC MS h0 by rw [hh0]]
  intro p e s m args below meth c hC H locs ls k n hE hl hR hS hk hn
  obtain ⟨hx, hb, hown, hlocks, htab, hml, hr, hB, hA, hnm⟩ := id hC
  have hts := hB.1.1.at args
  refine lv_iload_n hx hb (xb_d D_M_perform 0 rfl) rfl (lv_at hl 3 rfl) ?_
  refine lv_bipush (v := 69) hx hb (xb_d D_M_perform 1 rfl) (by decide) ?_
  refine lv_icmp_lt (tgt := 14) hx hb (xb_d D_M_perform 2 rfl) rfl (fun hc1 => ?_) (fun hc1 => ?_)
  · have hw := hw.1 hc1
    refine lv_iload_n hx hb (xb_d D_M_perform 7 rfl) rfl (lv_at hl 3 rfl) ?_
    refine lv_bipush (v := 65) hx hb (xb_d D_M_perform 8 rfl) (by decide) ?_
    refine lv_icmp_lt (tgt := 28) hx hb (xb_d D_M_perform 9 rfl) rfl (fun hc2 => ?_) (fun hc2 => ?_)
    · have hw := hw.1 hc2
      refine lv_iload_n hx hb (xb_d D_M_perform 14 rfl) rfl (lv_at hl 3 rfl) ?_
      refine lv_bipush (v := 40) hx hb (xb_d D_M_perform 15 rfl) (by decide) ?_
      refine lv_icmp_lt (tgt := 43) hx hb (xb_d D_M_perform 16 rfl) rfl (fun hc3 => ?_) (fun hc3 => ?_)
      · have hw := hw.1 hc3
        refine lv_iload_n hx hb (xb_d D_M_perform 22 rfl) rfl (lv_at hl 3 rfl) ?_
        refine lv_bipush (v := 32) hx hb (xb_d D_M_perform 23 rfl) (by decide) ?_
        refine lv_icmp_lt (tgt := 59) hx hb (xb_d D_M_perform 24 rfl) rfl (fun hc4 => ?_) (fun hc4 => ?_)
        · have hw := hw.1 hc4
          refine lv_iload_n hx hb (xb_d D_M_perform 31 rfl) rfl (lv_at hl 3 rfl) ?_
          refine lv_bipush (v := 16) hx hb (xb_d D_M_perform 32 rfl) (by decide) ?_
          refine lv_icmp_lt (tgt := 73) hx hb (xb_d D_M_perform 33 rfl) rfl (fun hc5 => ?_) (fun hc5 => ?_)
          · have hw := hw.1 hc5
            refine lv_aload_n hx hb (xb_d D_M_perform 40 rfl) rfl (lv_at hl 0 rfl) ?_
            refine lv_iload_n hx hb (xb_d D_M_perform 41 rfl) rfl (lv_at hl 1 rfl) ?_
            refine lv_iload_n hx hb (xb_d D_M_perform 42 rfl) rfl (lv_at hl 3 rfl) ?_
            obtain ⟨hk6, hw⟩ := hw
            refine xb_call0 (D := D) (A := A) (σ := σ) (h := h) (d := 10) (maxL := 7) (rest := []) (av := [.ref x0, .int x1, .int x3]) (fun T hT X => by obtain ⟨cb9, ra9, rb9, rc9⟩ := xb_recv (ci := 8) hR rfl hk6 (by decide); exact xt_invV X hx hown (hts _ m_a8f08e5a) (hts _ m_6fe10f79) (hts _ m_cebf8f6c) (xt_sigOf (hts _ m_8210b198)) nm_M_flow (by rw [hT]; exact ra9) rb9 rc9 (g := F0 m 76 ls [.int x3, .int x1, .ref x0]) rfl (argsL := [.int x1, .int x3]) (rest := []) rfl rfl (by rw [hb]; exact (xb_d D_M_perform 43 rfl))) (ok_M_flow l hfl D A σ x0 x1 x3 h _ hw) (hml.trans hl.1.symm) (by rw [hb]; exact (xb_d D_M_perform 43 rfl)) (Nat.le_of_ble_eq_true rfl) (Nat.le_of_ble_eq_true rfl) (Nat.le_of_ble_eq_true rfl) (show k ≤ MC by omega) (show n ≤ MS by omega) (xt_w1 hB.1 m_8210b198) (xt_cdOf hB.1 m_8210b198) (hts _ m_d5ed7bed) hB hR hS hA (fun vv h7 H locs hq hEh7 hR hS => ?_)
            obtain ⟨rfl, hw⟩ := hq
            have hw := hw hEh7
            have hE := hE.tr hEh7
            refine W.eq (g2 := F0 m 79 ls []) rfl ?_
            exact am_M_perform_L79 l hfl D A σ MC MS h0 Qr x0 x1 h7 hw p e s m args below meth c hC H locs ls k n hE (lv_sub hl [0, 1] rfl) hR hS (by omega) (by omega)
          · have hw := hw.2 hc5
            refine lv_aload_n hx hb (xb_d D_M_perform 34 rfl) rfl (lv_at hl 0 rfl) ?_
            refine lv_iload_n hx hb (xb_d D_M_perform 35 rfl) rfl (lv_at hl 1 rfl) ?_
            refine lv_iload_n hx hb (xb_d D_M_perform 36 rfl) rfl (lv_at hl 2 rfl) ?_
            refine lv_iload_n hx hb (xb_d D_M_perform 37 rfl) rfl (lv_at hl 3 rfl) ?_
            obtain ⟨hk9, hw⟩ := hw
            refine xb_call0 (D := D) (A := A) (σ := σ) (h := h) (d := 11) (maxL := 12) (rest := []) (av := [.ref x0, .int x1, .int x2, .int x3]) (fun T hT X => by obtain ⟨cb9, ra9, rb9, rc9⟩ := xb_recv (ci := 8) hR rfl hk9 (by decide); exact xt_invV X hx hown (hts _ m_7e62a8b0) (hts _ m_28c00435) (hts _ m_c3e0b654) (xt_sigOf (hts _ m_f57f8ac8)) nm_M_calling (by rw [hT]; exact ra9) rb9 rc9 (g := F0 m 69 ls [.int x3, .int x2, .int x1, .ref x0]) rfl (argsL := [.int x1, .int x2, .int x3]) (rest := []) rfl rfl (by rw [hb]; exact (xb_d D_M_perform 38 rfl))) (ok_M_calling l hfl D A σ x0 x1 x2 x3 h _ hw) (hml.trans hl.1.symm) (by rw [hb]; exact (xb_d D_M_perform 38 rfl)) (Nat.le_of_ble_eq_true rfl) (Nat.le_of_ble_eq_true rfl) (Nat.le_of_ble_eq_true rfl) (show k ≤ MC by omega) (show n ≤ MS by omega) (xt_w1 hB.1 m_f57f8ac8) (xt_cdOf hB.1 m_f57f8ac8) (hts _ m_d5ed7bed) hB hR hS hA (fun vv h10 H locs hq hEh10 hR hS => ?_)
            obtain ⟨rfl, hw⟩ := hq
            have hw := hw hEh10
            have hE := hE.tr hEh10
            refine W.eq (g2 := F0 m 72 ls []) rfl ?_
            exact xb_vret 0 0 hx hb hr hlocks (show k + 0 ≤ MC by omega) (show n + 0 ≤ MS by omega) hE hR hS (xb_d D_M_perform 39 rfl) hw
        · have hw := hw.2 hc4
          refine lv_aload_n hx hb (xb_d D_M_perform 25 rfl) rfl (lv_at hl 0 rfl) ?_
          refine lv_iload_n hx hb (xb_d D_M_perform 26 rfl) rfl (lv_at hl 1 rfl) ?_
          refine lv_iload_n hx hb (xb_d D_M_perform 27 rfl) rfl (lv_at hl 2 rfl) ?_
          refine lv_iload_n hx hb (xb_d D_M_perform 28 rfl) rfl (lv_at hl 3 rfl) ?_
          obtain ⟨hk12, hw⟩ := hw
          refine xb_call0 (D := D) (A := A) (σ := σ) (h := h) (d := 9) (maxL := 9) (rest := []) (av := [.ref x0, .int x1, .int x2, .int x3]) (fun T hT X => by obtain ⟨cb9, ra9, rb9, rc9⟩ := xb_recv (ci := 8) hR rfl hk12 (by decide); exact xt_invV X hx hown (hts _ m_be1aabcc) (hts _ m_cac82207) (hts _ m_029f5697) (xt_sigOf (hts _ m_6703d986)) nm_M_ofPlace (by rw [hT]; exact ra9) rb9 rc9 (g := F0 m 53 ls [.int x3, .int x2, .int x1, .ref x0]) rfl (argsL := [.int x1, .int x2, .int x3]) (rest := []) rfl rfl (by rw [hb]; exact (xb_d D_M_perform 29 rfl))) (ok_M_ofPlace l hfl D A σ x0 x1 x2 x3 h _ hw) (hml.trans hl.1.symm) (by rw [hb]; exact (xb_d D_M_perform 29 rfl)) (Nat.le_of_ble_eq_true rfl) (Nat.le_of_ble_eq_true rfl) (Nat.le_of_ble_eq_true rfl) (show k ≤ MC by omega) (show n ≤ MS by omega) (xt_w1 hB.1 m_6703d986) (xt_cdOf hB.1 m_6703d986) (hts _ m_d5ed7bed) hB hR hS hA (fun vv h13 H locs hq hEh13 hR hS => ?_)
          obtain ⟨rfl, hw⟩ := hq
          have hw := hw hEh13
          have hE := hE.tr hEh13
          refine W.eq (g2 := F0 m 56 ls []) rfl ?_
          refine lv_goto (tgt := 79) hx hb (xb_d D_M_perform 30 rfl) rfl ?_
          exact am_M_perform_L79 l hfl D A σ MC MS h0 Qr x0 x1 h13 hw p e s m args below meth c hC H locs ls k n hE (lv_sub hl [0, 1] rfl) hR hS (by omega) (by omega)
      · have hw := hw.2 hc3
        refine lv_aload_n hx hb (xb_d D_M_perform 17 rfl) rfl (lv_at hl 0 rfl) ?_
        refine lv_iload_n hx hb (xb_d D_M_perform 18 rfl) rfl (lv_at hl 2 rfl) ?_
        refine lv_iload_n hx hb (xb_d D_M_perform 19 rfl) rfl (lv_at hl 3 rfl) ?_
        obtain ⟨hk15, hw⟩ := hw
        refine xb_call0 (D := D) (A := A) (σ := σ) (h := h) (d := 10) (maxL := 15) (rest := []) (av := [.ref x0, .int x2, .int x3]) (fun T hT X => by obtain ⟨cb9, ra9, rb9, rc9⟩ := xb_recv (ci := 8) hR rfl hk15 (by decide); exact xt_invV X hx hown (hts _ m_6dc9a070) (hts _ m_4f81338f) (hts _ m_7fb11322) (xt_sigOf (hts _ m_1b7d7d27)) nm_M_inMemory (by rw [hT]; exact ra9) rb9 rc9 (g := F0 m 37 ls [.int x3, .int x2, .ref x0]) rfl (argsL := [.int x2, .int x3]) (rest := []) rfl rfl (by rw [hb]; exact (xb_d D_M_perform 20 rfl))) (ok_M_inMemory l hfl D A σ x0 x2 x3 h _ hw) (hml.trans hl.1.symm) (by rw [hb]; exact (xb_d D_M_perform 20 rfl)) (Nat.le_of_ble_eq_true rfl) (Nat.le_of_ble_eq_true rfl) (Nat.le_of_ble_eq_true rfl) (show k ≤ MC by omega) (show n ≤ MS by omega) (xt_w1 hB.1 m_1b7d7d27) (xt_cdOf hB.1 m_1b7d7d27) (hts _ m_d5ed7bed) hB hR hS hA (fun vv h16 H locs hq hEh16 hR hS => ?_)
        obtain ⟨rfl, hw⟩ := hq
        have hw := hw hEh16
        have hE := hE.tr hEh16
        refine W.eq (g2 := F0 m 40 ls []) rfl ?_
        refine lv_goto (tgt := 79) hx hb (xb_d D_M_perform 21 rfl) rfl ?_
        exact am_M_perform_L79 l hfl D A σ MC MS h0 Qr x0 x1 h16 hw p e s m args below meth c hC H locs ls k n hE (lv_sub hl [0, 1] rfl) hR hS (by omega) (by omega)
    · have hw := hw.2 hc2
      refine lv_aload_n hx hb (xb_d D_M_perform 10 rfl) rfl (lv_at hl 0 rfl) ?_
      refine lv_iload_n hx hb (xb_d D_M_perform 11 rfl) rfl (lv_at hl 3 rfl) ?_
      obtain ⟨hk18, hw⟩ := hw
      refine xb_call0 (D := D) (A := A) (σ := σ) (h := h) (d := 5) (maxL := 5) (rest := []) (av := [.ref x0, .int x3]) (fun T hT X => by obtain ⟨cb9, ra9, rb9, rc9⟩ := xb_recv (ci := 8) hR rfl hk18 (by decide); exact xt_invV X hx hown (hts _ m_192b35f0) (hts _ m_4403682d) (hts _ m_bb0617ec) (xt_sigOf (hts _ m_50911c4e)) nm_M_constantOf (by rw [hT]; exact ra9) rb9 rc9 (g := F0 m 22 ls [.int x3, .ref x0]) rfl (argsL := [.int x3]) (rest := []) rfl rfl (by rw [hb]; exact (xb_d D_M_perform 12 rfl))) (ok_M_constantOf l hfl D A σ x0 x3 h _ hw) (hml.trans hl.1.symm) (by rw [hb]; exact (xb_d D_M_perform 12 rfl)) (Nat.le_of_ble_eq_true rfl) (Nat.le_of_ble_eq_true rfl) (Nat.le_of_ble_eq_true rfl) (show k ≤ MC by omega) (show n ≤ MS by omega) (xt_w1 hB.1 m_50911c4e) (xt_cdOf hB.1 m_50911c4e) (hts _ m_d5ed7bed) hB hR hS hA (fun vv h19 H locs hq hEh19 hR hS => ?_)
      obtain ⟨rfl, hw⟩ := hq
      have hw := hw hEh19
      have hE := hE.tr hEh19
      refine W.eq (g2 := F0 m 25 ls []) rfl ?_
      refine lv_goto (tgt := 79) hx hb (xb_d D_M_perform 13 rfl) rfl ?_
      exact am_M_perform_L79 l hfl D A σ MC MS h0 Qr x0 x1 h19 hw p e s m args below meth c hC H locs ls k n hE (lv_sub hl [0, 1] rfl) hR hS (by omega) (by omega)
  · have hw := hw.2 hc1
    refine lv_aload_n hx hb (xb_d D_M_perform 3 rfl) rfl (lv_at hl 0 rfl) ?_
    refine lv_iload_n hx hb (xb_d D_M_perform 4 rfl) rfl (lv_at hl 3 rfl) ?_
    obtain ⟨hk21, hw⟩ := hw
    refine xb_call0 (D := D) (A := A) (σ := σ) (h := h) (d := 9) (maxL := 9) (rest := []) (av := [.ref x0, .int x3]) (fun T hT X => by obtain ⟨cb9, ra9, rb9, rc9⟩ := xb_recv (ci := 8) hR rfl hk21 (by decide); exact xt_invV X hx hown (hts _ m_818998a5) (hts _ m_9a6325bc) (hts _ m_9fc55172) (xt_sigOf (hts _ m_6620b60e)) nm_M_reckon (by rw [hT]; exact ra9) rb9 rc9 (g := F0 m 8 ls [.int x3, .ref x0]) rfl (argsL := [.int x3]) (rest := []) rfl rfl (by rw [hb]; exact (xb_d D_M_perform 5 rfl))) (ok_M_reckon l hfl D A σ x0 x3 h _ hw) (hml.trans hl.1.symm) (by rw [hb]; exact (xb_d D_M_perform 5 rfl)) (Nat.le_of_ble_eq_true rfl) (Nat.le_of_ble_eq_true rfl) (Nat.le_of_ble_eq_true rfl) (show k ≤ MC by omega) (show n ≤ MS by omega) (xt_w1 hB.1 m_6620b60e) (xt_cdOf hB.1 m_6620b60e) (hts _ m_d5ed7bed) hB hR hS hA (fun vv h22 H locs hq hEh22 hR hS => ?_)
    obtain ⟨rfl, hw⟩ := hq
    have hw := hw hEh22
    have hE := hE.tr hEh22
    refine W.eq (g2 := F0 m 11 ls []) rfl ?_
    refine lv_goto (tgt := 79) hx hb (xb_d D_M_perform 6 rfl) rfl ?_
    exact am_M_perform_L79 l hfl D A σ MC MS h0 Qr x0 x1 h22 hw p e s m args below meth c hC H locs ls k n hE (lv_sub hl [0, 1] rfl) hR hS (by omega) (by omega)

