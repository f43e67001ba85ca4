theorem m_3c5a9180 : (.methodLink "StackHostModel" 1 objectInit : Cond) ∈ xt_tbl := xt_in (xt_t9 (List.mem_of_getElem? (i := 93) (by decide +kernel))) (by decide +kernel)
theorem m_4735fb52 : (.constant "StackHostModel" 39 70000 : Cond) ∈ xt_tbl := xt_in (xt_t9 (List.mem_of_getElem? (i := 95) (by decide +kernel))) (by decide +kernel)
theorem m_cede1946 : (.fieldLink "StackHostModel" 40 "StackHostModel" "locals" "[B" : Cond) ∈ xt_tbl := xt_in (xt_t9 (List.mem_of_getElem? (i := 158) (by decide +kernel))) (by decide +kernel)
theorem m_3c93490e : (.fieldLink "StackHostModel" 65 "StackHostModel" "imports" "[I" : Cond) ∈ xt_tbl := xt_in (xt_t9 (List.mem_of_getElem? (i := 171) (by decide +kernel))) (by decide +kernel)
theorem m_6a74a2ce : (.fieldLink "StackHostModel" 71 "StackHostModel" "ownFunctions" "[I" : Cond) ∈ xt_tbl := xt_in (xt_t9 (List.mem_of_getElem? (i := 174) (by decide +kernel))) (by decide +kernel)
theorem m_e7bc0caf : (.fieldLink "StackHostModel" 74 "StackHostModel" "ownVariables" "[I" : Cond) ∈ xt_tbl := xt_in (xt_t9 (List.mem_of_getElem? (i := 175) (by decide +kernel))) (by decide +kernel)
theorem m_1f5a2407 : (.fieldLink "StackHostModel" 77 "StackHostModel" "ownTable" "[I" : Cond) ∈ xt_tbl := xt_in (xt_t9 (List.mem_of_getElem? (i := 176) (by decide +kernel))) (by decide +kernel)
theorem m_2d81be8c : (.fieldLink "StackHostModel" 80 "StackHostModel" "ownMemory" "[I" : Cond) ∈ xt_tbl := xt_in (xt_t9 (List.mem_of_getElem? (i := 177) (by decide +kernel))) (by decide +kernel)
theorem m_f28a3cfc : (.fieldLink "StackHostModel" 98 "StackHostModel" "tableFrom" "[I" : Cond) ∈ xt_tbl := xt_in (xt_t9 (List.mem_of_getElem? (i := 187) (by decide +kernel))) (by decide +kernel)
theorem m_0c329d74 : (.fieldLink "StackHostModel" 101 "StackHostModel" "tableSize" "[I" : Cond) ∈ xt_tbl := xt_in (xt_t9 (List.mem_of_getElem? (i := 188) (by decide +kernel))) (by decide +kernel)
theorem m_e0cd2898 : (.fieldLink "StackHostModel" 104 "StackHostModel" "tableMost" "[J" : Cond) ∈ xt_tbl := xt_in (xt_t9 (List.mem_of_getElem? (i := 189) (by decide +kernel))) (by decide +kernel)
theorem m_c18d3c89 : (.fieldLink "StackHostModel" 108 "StackHostModel" "element" "[I" : Cond) ∈ xt_tbl := xt_in (xt_t9 (List.mem_of_getElem? (i := 190) (by decide +kernel))) (by decide +kernel)
theorem m_605483d9 : (.fieldLink "StackHostModel" 111 "StackHostModel" "pageCount" "[I" : Cond) ∈ xt_tbl := xt_in (xt_t9 (List.mem_of_getElem? (i := 193) (by decide +kernel))) (by decide +kernel)
theorem m_e77abcfd : (.fieldLink "StackHostModel" 114 "StackHostModel" "pageMost" "[J" : Cond) ∈ xt_tbl := xt_in (xt_t9 (List.mem_of_getElem? (i := 194) (by decide +kernel))) (by decide +kernel)
theorem m_83aeecf2 : (.constant "StackHostModel" 120 1048576 : Cond) ∈ xt_tbl := xt_in (xt_t9 (List.mem_of_getElem? (i := 96) (by decide +kernel))) (by decide +kernel)
theorem m_2087260c : (.fieldLink "StackHostModel" 121 "StackHostModel" "memory" "[B" : Cond) ∈ xt_tbl := xt_in (xt_t9 (List.mem_of_getElem? (i := 196) (by decide +kernel))) (by decide +kernel)
theorem m_3369fcb7 : (.fieldLink "StackHostModel" 124 "StackHostModel" "variableType" "[I" : Cond) ∈ xt_tbl := xt_in (xt_t9 (List.mem_of_getElem? (i := 198) (by decide +kernel))) (by decide +kernel)
theorem m_b875e939 : (.fieldLink "StackHostModel" 127 "StackHostModel" "variableChanges" "[Z" : Cond) ∈ xt_tbl := xt_in (xt_t9 (List.mem_of_getElem? (i := 199) (by decide +kernel))) (by decide +kernel)
theorem m_418ce3a7 : (.fieldLink "StackHostModel" 130 "StackHostModel" "variable" "[J" : Cond) ∈ xt_tbl := xt_in (xt_t9 (List.mem_of_getElem? (i := 200) (by decide +kernel))) (by decide +kernel)
theorem m_8147510a : (.fieldLink "StackHostModel" 136 "StackHostModel" "passed" "[J" : Cond) ∈ xt_tbl := xt_in (xt_t9 (List.mem_of_getElem? (i := 206) (by decide +kernel))) (by decide +kernel)
theorem m_ab98e9c9 : (.fieldLink "StackHostModel" 142 "StackHostModel" "callAt" "[I" : Cond) ∈ xt_tbl := xt_in (xt_t9 (List.mem_of_getElem? (i := 209) (by decide +kernel))) (by decide +kernel)
theorem m_fa00c728 : (.fieldLink "StackHostModel" 145 "StackHostModel" "callBase" "[I" : Cond) ∈ xt_tbl := xt_in (xt_t9 (List.mem_of_getElem? (i := 210) (by decide +kernel))) (by decide +kernel)
theorem m_a9102de0 : (.fieldLink "StackHostModel" 148 "StackHostModel" "callLocals" "[I" : Cond) ∈ xt_tbl := xt_in (xt_t9 (List.mem_of_getElem? (i := 211) (by decide +kernel))) (by decide +kernel)
theorem m_6c9efdee : (.fieldLink "StackHostModel" 151 "StackHostModel" "callOpens" "[I" : Cond) ∈ xt_tbl := xt_in (xt_t9 (List.mem_of_getElem? (i := 212) (by decide +kernel))) (by decide +kernel)
theorem m_a751d0c3 : (.constant "StackHostModel" 160 40400 : Cond) ∈ xt_tbl := xt_in (xt_t9 (List.mem_of_getElem? (i := 97) (by decide +kernel))) (by decide +kernel)
theorem m_42f159d2 : (.classLink "StackHostModel" 182 "StackHostModel$Exact" : Cond) ∈ xt_tbl := xt_in (xt_t9 (List.mem_of_getElem? (i := 98) (by decide +kernel))) (by decide +kernel)
theorem m_93e9c7d5 : (.instantiable "StackHostModel$Exact" 11 : Cond) ∈ xt_tbl := xt_in (xt_t9 (List.mem_of_getElem? (i := 99) (by decide +kernel))) (by decide +kernel)
theorem m_b807310b : (.initialized "StackHostModel$Exact" : Cond) ∈ xt_tbl := xt_in (xt_t1 (List.mem_of_getElem? (i := 9) (by decide +kernel))) (by decide +kernel)
theorem m_1a87b221 : (.methodLinkNest "StackHostModel" 184 y_Exact_init "StackHostModel" : Cond) ∈ xt_tbl := xt_in (xt_t9 (List.mem_of_getElem? (i := 100) (by decide +kernel))) (by decide +kernel)
theorem m_313d0272 : (.instanceMethod y_Exact_init : Cond) ∈ xt_tbl := xt_in (xt_t9 (List.mem_of_getElem? (i := 101) (by decide +kernel))) (by decide +kernel)
theorem m_50d79f2a : (.code y_Exact_init b_Exact_init 1 none : Cond) ∈ xt_tbl := xt_in (xt_t9 (List.mem_of_getElem? (i := 102) (by decide +kernel))) (by decide +kernel)
theorem m_58f0444c : (.fieldLink "StackHostModel" 185 "StackHostModel" "exact" "LStackHostModel$Exact;" : Cond) ∈ xt_tbl := xt_in (xt_t9 (List.mem_of_getElem? (i := 228) (by decide +kernel))) (by decide +kernel)
theorem nm_Exact_init : xt_nm y_Exact_init 0 := ⟨by decide +kernel, by decide +kernel⟩
set_option maxRecDepth 100000 in
def T_M_init : List (Nat × Instr × Nat) := [(0, .aload_n 0, 1), (1, .invokespecial 1, 3), (4, .aload_n 0, 1), (5, .ldc 7, 2), (7, .newarray .byte, 2), (9, .putfield 8, 3), (12, .aload_n 0, 1), (13, .sipush 16384, 3), (16, .newarray .byte, 2), (18, .putfield 14, 3), (21, .aload_n 0, 1), (22, .bipush 64, 2), (24, .newarray .int, 2), (26, .putfield 17, 3), (29, .aload_n 0, 1), (30, .bipush 64, 2), (32, .newarray .int, 2), (34, .putfield 21, 3), (37, .aload_n 0, 1), (38, .sipush 768, 3), (41, .newarray .int, 2), (43, .putfield 24, 3), (46, .aload_n 0, 1), (47, .sipush 768, 3), (50, .newarray .int, 2), (52, .putfield 27, 3), (55, .aload_n 0, 1), (56, .sipush 256, 3), (59, .newarray .int, 2), (61, .putfield 30, 3), (64, .aload_n 0, 1), (65, .sipush 2048, 3), (68, .newarray .int, 2), (70, .putfield 33, 3), (73, .aload_n 0, 1), (74, .sipush 2048, 3), (77, .newarray .int, 2), (79, .putfield 36, 3), (82, .aload_n 0, 1), (83, .ldc 39, 2), (85, .newarray .byte, 2), (87, .putfield 40, 3), (90, .aload_n 0, 1), (91, .ldc 39, 2), (93, .newarray .byte, 2), (95, .putfield 43, 3), (98, .aload_n 0, 1), (99, .sipush 202, 3), (102, .newarray .int, 2), (104, .putfield 46, 3), (107, .aload_n 0, 1), (108, .sipush 202, 3), (111, .newarray .int, 2), (113, .putfield 49, 3), (116, .aload_n 0, 1), (117, .sipush 202, 3), (120, .newarray .int, 2), (122, .putfield 52, 3), (125, .aload_n 0, 1), (126, .sipush 202, 3), (129, .newarray .int, 2), (131, .putfield 55, 3), (134, .aload_n 0, 1), (135, .sipush 202, 3), (138, .newarray .boolean, 2), (140, .putfield 58, 3), (143, .aload_n 0, 1), (144, .bipush 24, 2), (146, .newarray .int, 2), (148, .putfield 62, 3), (151, .aload_n 0, 1), (152, .bipush 24, 2), (154, .newarray .int, 2), (156, .putfield 65, 3), (159, .aload_n 0, 1), (160, .sipush 1024, 3), (163, .newarray .int, 2), (165, .putfield 68, 3), (168, .aload_n 0, 1), (169, .bipush 24, 2), (171, .newarray .int, 2), (173, .putfield 71, 3), (176, .aload_n 0, 1), (177, .bipush 24, 2), (179, .newarray .int, 2), (181, .putfield 74, 3), (184, .aload_n 0, 1), (185, .bipush 24, 2), (187, .newarray .int, 2), (189, .putfield 77, 3), (192, .aload_n 0, 1), (193, .bipush 24, 2), (195, .newarray .int, 2), (197, .putfield 80, 3), (200, .aload_n 0, 1), (201, .sipush 4100, 3), (204, .newarray .int, 2), (206, .putfield 83, 3), (209, .aload_n 0, 1), (210, .sipush 4100, 3), (213, .newarray .int, 2), (215, .putfield 86, 3), (218, .aload_n 0, 1), (219, .sipush 4100, 3), (222, .newarray .int, 2), (224, .putfield 89, 3), (227, .aload_n 0, 1), (228, .sipush 8192, 3), (231, .newarray .int, 2), (233, .putfield 92, 3), (236, .aload_n 0, 1), (237, .sipush 8192, 3), (240, .newarray .int, 2), (242, .putfield 95, 3), (245, .aload_n 0, 1), (246, .bipush 24, 2), (248, .newarray .int, 2), (250, .putfield 98, 3), (253, .aload_n 0, 1), (254, .bipush 24, 2), (256, .newarray .int, 2), (258, .putfield 101, 3), (261, .aload_n 0, 1), (262, .bipush 24, 2), (264, .newarray .long, 2), (266, .putfield 104, 3), (269, .aload_n 0, 1), (270, .sipush 16384, 3), (273, .newarray .int, 2), (275, .putfield 108, 3), (278, .aload_n 0, 1), (279, .bipush 24, 2), (281, .newarray .int, 2), (283, .putfield 111, 3), (286, .aload_n 0, 1), (287, .bipush 24, 2), (289, .newarray .long, 2), (291, .putfield 114, 3), (294, .aload_n 0, 1), (295, .sipush 384, 3), (298, .newarray .int, 2), (300, .putfield 117, 3), (303, .aload_n 0, 1), (304, .ldc 120, 2), (306, .newarray .byte, 2), (308, .putfield 121, 3), (311, .aload_n 0, 1), (312, .sipush 4096, 3), (315, .newarray .int, 2), (317, .putfield 124, 3), (320, .aload_n 0, 1), (321, .sipush 4096, 3), (324, .newarray .boolean, 2), (326, .putfield 127, 3), (329, .aload_n 0, 1), (330, .sipush 4096, 3), (333, .newarray .long, 2), (335, .putfield 130, 3), (338, .aload_n 0, 1), (339, .sipush 1000, 3), (342, .newarray .long, 2), (344, .putfield 133, 3), (347, .aload_n 0, 1), (348, .sipush 1000, 3), (351, .newarray .long, 2), (353, .putfield 136, 3), (356, .aload_n 0, 1), (357, .sipush 200, 3), (360, .newarray .int, 2), (362, .putfield 139, 3), (365, .aload_n 0, 1), (366, .sipush 200, 3), (369, .newarray .int, 2), (371, .putfield 142, 3), (374, .aload_n 0, 1), (375, .sipush 200, 3), (378, .newarray .int, 2), (380, .putfield 145, 3), (383, .aload_n 0, 1), (384, .sipush 200, 3), (387, .newarray .int, 2), (389, .putfield 148, 3), (392, .aload_n 0, 1), (393, .sipush 200, 3), (396, .newarray .int, 2), (398, .putfield 151, 3), (401, .aload_n 0, 1), (402, .sipush 18384, 3), (405, .newarray .long, 2), (407, .putfield 154, 3), (410, .aload_n 0, 1), (411, .sipush 18384, 3), (414, .newarray .byte, 2), (416, .putfield 157, 3), (419, .aload_n 0, 1), (420, .ldc 160, 2), (422, .newarray .int, 2), (424, .putfield 161, 3), (427, .aload_n 0, 1), (428, .ldc 160, 2), (430, .newarray .int, 2), (432, .putfield 164, 3), (435, .aload_n 0, 1), (436, .ldc 160, 2), (438, .newarray .int, 2), (440, .putfield 167, 3), (443, .aload_n 0, 1), (444, .ldc 160, 2), (446, .newarray .int, 2), (448, .putfield 170, 3), (451, .aload_n 0, 1), (452, .iconst 4, 1), (453, .newarray .int, 2), (455, .dup, 1), (456, .iconst 0, 1), (457, .iconst 0, 1), (458, .iastore, 1), (459, .dup, 1), (460, .iconst 1, 1), (461, .iconst (-1), 1), (462, .iastore, 1), (463, .dup, 1), (464, .iconst 2, 1), (465, .iconst (-1), 1), (466, .iastore, 1), (467, .dup, 1), (468, .iconst 3, 1), (469, .iconst (-1), 1), (470, .iastore, 1), (471, .putfield 173, 3), (474, .aload_n 0, 1), (475, .sipush 4096, 3), (478, .newarray .long, 2), (480, .putfield 176, 3), (483, .aload_n 0, 1), (484, .iconst 2, 1), (485, .newarray .int, 2), (487, .putfield 179, 3), (490, .aload_n 0, 1), (491, .new 182, 3), (494, .dup, 1), (495, .invokespecial 184, 3), (498, .putfield 185, 3), (501, .return_, 1)]
theorem D_M_init : ∀ q ∈ T_M_init, decode b_M_init q.1 = .ok (q.2.1, q.2.2) := by decide +kernel

set_option maxHeartbeats 4000000 in
set_option maxRecDepth 100000 in
theorem ok_M_init (l : Launch) (hfl : l.flags = pinnedFlags ++ [noTraceFlag]) (D : va_G) (A : Nat → Prop) (σ : Nat) (x0 : Nat) (h : xb_H) (bc : Nat) (bs : Nat) (Qr : xb_H → Nat → Nat → Prop) (hw : w_M_init x0 h bc bs Qr) : xb_Met l y_M_init [.code y_M_init b_M_init 1 none] (xb_rm 3 bc bs) (xb_Pc D A σ h [.ref x0]) (xb_Qc D A h bc bs (fun v h bc bs => v = none ∧ Qr h bc bs) (fun _ _ _ _ => False)) A := by
  refine xb_ofAm (cc := b_M_init) (by decide) (Nat.le_of_ble_eq_true rfl) ?_
  unfold w_M_init at hw
  show xb_am l D A σ 3 bc bs h (fun v h bc bs => v = none ∧ Qr h bc bs) (fun _ _ _ _ => False) y_M_init.cls y_M_init.name b_M_init 1 ([] : List ExceptionTableEntry) none 0 [(0, .ref x0)] [] h bc bs
  obtain ⟨MC, hMC⟩ : ∃ x, x = bc := ⟨_, rfl⟩
  obtain ⟨MS, hMS⟩ : ∃ x, x = bs := ⟨_, rfl⟩
  rw [show xb_am l D A σ 3 bc bs = xb_am l D A σ 3 MC MS by rw [hMC, hMS]]
  obtain ⟨h0, hh0⟩ : ∃ x, x = h := ⟨_, rfl⟩
  rw [show xb_am l D A σ 3 MC MS h = xb_am l D A σ 3 MC MS h0 by rw [hh0]]
  intro p e s m args below meth c hC H locs ls k n hE hl hR hS hk hn
  obtain ⟨hx, hb, hown, hlocks, htab, hml, hr, hB, hA, hnm⟩ := id hC
  have hts := hB.1.1.at args
  refine lv_aload_n hx hb (xb_d D_M_init 0 rfl) rfl (lv_at hl 0 rfl) ?_
  refine W.objInit hx hb hown (hts _ m_3c5a9180) (hts _ m_fba9d542) (hts _ m_9febdb7e) rfl (hml.trans hl.1.symm).symm rfl (xb_d D_M_init 1 rfl) (by show 1 ≤ 8 + _; omega) (Nat.le_trans (Nat.le_of_ble_eq_true rfl : _ ≤ 40) (by show 40 ≤ 120 + _; omega)) ?_
  refine W.eq (g2 := F0 m 4 ls []) rfl ?_
  refine lv_aload_n hx hb (xb_d D_M_init 2 rfl) rfl (lv_at hl 0 rfl) ?_
  refine lv_ldc (v := 65536) hx hb hown (hts _ m_36de59d5) (xb_d D_M_init 3 rfl) ?_
  obtain ⟨hcq1, hsq1, hw⟩ := hw
  have enq1 : (65536 : Int32).toNatClampNeg = 65536 := by decide
  refine xb_newa_b hx hb (hts _ m_2503b19f) hR hS hA (by decide) (by decide +kernel) (show k + 1 ≤ MC by omega) (show n + _ ≤ MS by rw [enq1]; omega) (xb_d D_M_init 4 rfl) (fun q1 H hqq1 hR hS => ?_)
  rw [enq1] at hR ⊢
  have hw := hw q1 hqq1
  obtain ⟨h2, eh2⟩ : ∃ x : xb_H, x = xb_new h q1 100 65536 := ⟨_, rfl⟩
  rw [← eh2] at hR
  have hw := hw h2 eh2
  have hE : xb_ext h0 h2 := by rw [eh2]; exact hE.new _ _ hqq1
  have hk3 : xb_k h2 q1 = 100 := by rw [eh2]; exact xb_new_k _ _ _ _
  obtain ⟨hk4, hw⟩ := hw
  refine xb_putPF (C := R_M) (T := F_M) (N := 97) (ty := .array .byte) (x := (some q1)) hx hb 8 1 hts fin_M t_M t_M_ok n_M hown hR hS hk4 (by decide) rfl (by decide) rfl (hts _ m_95b40228) (fun _ h9 => h9) rfl hnm rfl (by decide +kernel) (xb_pnA _ _).1 (xb_pnA _ _).2 (xb_d D_M_init 5 rfl) (fun H locs hR hS => ?_)
  obtain ⟨h5, eh5⟩ : ∃ x : xb_H, x = xb_P h2 x0 1 (some q1) := ⟨_, rfl⟩
  rw [← eh5] at hR
  have hw := hw h5 eh5
  have hE : xb_ext h0 h5 := by rw [eh5]; exact hE
  refine lv_aload_n hx hb (xb_d D_M_init 6 rfl) rfl (lv_at hl 0 rfl) ?_
  refine lv_sipush (v := 16384) hx hb (xb_d D_M_init 7 rfl) (by decide) ?_
  obtain ⟨hcq6, hsq6, hw⟩ := hw
  have enq6 : (16384 : Int32).toNatClampNeg = 16384 := by decide
  refine xb_newa_b hx hb (hts _ m_2503b19f) hR hS hA (by decide) (by decide +kernel) (show (k + 1) + 1 ≤ MC by omega) (show (n + 65536) + _ ≤ MS by rw [enq6]; omega) (xb_d D_M_init 8 rfl) (fun q6 H hqq6 hR hS => ?_)
  rw [enq6] at hR ⊢
  have hw := hw q6 hqq6
  obtain ⟨h7, eh7⟩ : ∃ x : xb_H, x = xb_new h5 q6 100 16384 := ⟨_, rfl⟩
  rw [← eh7] at hR
  have hw := hw h7 eh7
  have hE : xb_ext h0 h7 := by rw [eh7]; exact hE.new _ _ hqq6
  have hk8 : xb_k h7 q6 = 100 := by rw [eh7]; exact xb_new_k _ _ _ _
  have hk4 : xb_k h5 x0 = 9 := by rw [eh5]; exact hk4
  have hk4 : xb_k h7 x0 = 9 := by rw [eh7]; exact xb_nk hqq6 hk4
  refine xb_putP (C := R_M) (T := F_M) (N := 97) (ty := .array .byte) (x := (some q6)) hx hb 8 3 hts fin_M t_M t_M_ok n_M hown hR hS hk4 (by decide) rfl (by decide) rfl (hts _ m_4f0568af) (fun _ h9 => h9) rfl (by decide +kernel) (xb_pnA _ _).1 (xb_pnA _ _).2 (xb_d D_M_init 9 rfl) (fun H locs hR hS => ?_)
  obtain ⟨h9, eh9⟩ : ∃ x : xb_H, x = xb_P h7 x0 3 (some q6) := ⟨_, rfl⟩
  rw [← eh9] at hR
  have hw := hw h9 eh9
  have hE : xb_ext h0 h9 := by rw [eh9]; exact hE
  refine lv_aload_n hx hb (xb_d D_M_init 10 rfl) rfl (lv_at hl 0 rfl) ?_
  refine lv_bipush (v := 64) hx hb (xb_d D_M_init 11 rfl) (by decide) ?_
  obtain ⟨hcq10, hsq10, hw⟩ := hw
  have enq10 : (64 : Int32).toNatClampNeg = 64 := by decide
  refine xb_newa_i hx hb (hts _ m_d160d5ac) hR hS hA (by decide) (by decide +kernel) (show ((k + 1) + 1) + 1 ≤ MC by omega) (show ((n + 65536) + 16384) + _ ≤ MS by rw [enq10]; omega) (xb_d D_M_init 12 rfl) (fun q10 H hqq10 hR hS => ?_)
  rw [enq10] at hR ⊢
  have hw := hw q10 hqq10
  obtain ⟨h11, eh11⟩ : ∃ x : xb_H, x = xb_new h9 q10 102 64 := ⟨_, rfl⟩
  rw [← eh11] at hR
  have hw := hw h11 eh11
  have hE : xb_ext h0 h11 := by rw [eh11]; exact hE.new _ _ hqq10
  have hk12 : xb_k h11 q10 = 102 := by rw [eh11]; exact xb_new_k _ _ _ _
  have hk4 : xb_k h9 x0 = 9 := by rw [eh9]; exact hk4
  have hk4 : xb_k h11 x0 = 9 := by rw [eh11]; exact xb_nk hqq10 hk4
  refine xb_putPF (C := R_M) (T := F_M) (N := 97) (ty := .array .int) (x := (some q10)) hx hb 8 6 hts fin_M t_M t_M_ok n_M hown hR hS hk4 (by decide) rfl (by decide) rfl (hts _ m_2efec494) (fun _ h9 => h9) rfl hnm rfl (by decide +kernel) (xb_pnA _ _).1 (xb_pnA _ _).2 (xb_d D_M_init 13 rfl) (fun H locs hR hS => ?_)
  obtain ⟨h13, eh13⟩ : ∃ x : xb_H, x = xb_P h11 x0 6 (some q10) := ⟨_, rfl⟩
  rw [← eh13] at hR
  have hw := hw h13 eh13
  have hE : xb_ext h0 h13 := by rw [eh13]; exact hE
  refine lv_aload_n hx hb (xb_d D_M_init 14 rfl) rfl (lv_at hl 0 rfl) ?_
  refine lv_bipush (v := 64) hx hb (xb_d D_M_init 15 rfl) (by decide) ?_
  obtain ⟨hcq14, hsq14, hw⟩ := hw
  have enq14 : (64 : Int32).toNatClampNeg = 64 := by decide
  refine xb_newa_i hx hb (hts _ m_d160d5ac) hR hS hA (by decide) (by decide +kernel) (show (((k + 1) + 1) + 1) + 1 ≤ MC by omega) (show (((n + 65536) + 16384) + 64) + _ ≤ MS by rw [enq14]; omega) (xb_d D_M_init 16 rfl) (fun q14 H hqq14 hR hS => ?_)
  rw [enq14] at hR ⊢
  have hw := hw q14 hqq14
  obtain ⟨h15, eh15⟩ : ∃ x : xb_H, x = xb_new h13 q14 102 64 := ⟨_, rfl⟩
  rw [← eh15] at hR
  have hw := hw h15 eh15
  have hE : xb_ext h0 h15 := by rw [eh15]; exact hE.new _ _ hqq14
  have hk16 : xb_k h15 q14 = 102 := by rw [eh15]; exact xb_new_k _ _ _ _
  have hk4 : xb_k h13 x0 = 9 := by rw [eh13]; exact hk4
  have hk4 : xb_k h15 x0 = 9 := by rw [eh15]; exact xb_nk hqq14 hk4
  refine xb_putPF (C := R_M) (T := F_M) (N := 97) (ty := .array .int) (x := (some q14)) hx hb 8 7 hts fin_M t_M t_M_ok n_M hown hR hS hk4 (by decide) rfl (by decide) rfl (hts _ m_36d14bfe) (fun _ h9 => h9) rfl hnm rfl (by decide +kernel) (xb_pnA _ _).1 (xb_pnA _ _).2 (xb_d D_M_init 17 rfl) (fun H locs hR hS => ?_)
  obtain ⟨h17, eh17⟩ : ∃ x : xb_H, x = xb_P h15 x0 7 (some q14) := ⟨_, rfl⟩
  rw [← eh17] at hR
  have hw := hw h17 eh17
  have hE : xb_ext h0 h17 := by rw [eh17]; exact hE
  refine lv_aload_n hx hb (xb_d D_M_init 18 rfl) rfl (lv_at hl 0 rfl) ?_
  refine lv_sipush (v := 768) hx hb (xb_d D_M_init 19 rfl) (by decide) ?_
  obtain ⟨hcq18, hsq18, hw⟩ := hw
  have enq18 : (768 : Int32).toNatClampNeg = 768 := by decide
  refine xb_newa_i hx hb (hts _ m_d160d5ac) hR hS hA (by decide) (by decide +kernel) (show ((((k + 1) + 1) + 1) + 1) + 1 ≤ MC by omega) (show ((((n + 65536) + 16384) + 64) + 64) + _ ≤ MS by rw [enq18]; omega) (xb_d D_M_init 20 rfl) (fun q18 H hqq18 hR hS => ?_)
  rw [enq18] at hR ⊢
  have hw := hw q18 hqq18
  obtain ⟨h19, eh19⟩ : ∃ x : xb_H, x = xb_new h17 q18 102 768 := ⟨_, rfl⟩
  rw [← eh19] at hR
  have hw := hw h19 eh19
  have hE : xb_ext h0 h19 := by rw [eh19]; exact hE.new _ _ hqq18
  have hk20 : xb_k h19 q18 = 102 := by rw [eh19]; exact xb_new_k _ _ _ _
  have hk4 : xb_k h17 x0 = 9 := by rw [eh17]; exact hk4
  have hk4 : xb_k h19 x0 = 9 := by rw [eh19]; exact xb_nk hqq18 hk4
  refine xb_putPF (C := R_M) (T := F_M) (N := 97) (ty := .array .int) (x := (some q18)) hx hb 8 8 hts fin_M t_M t_M_ok n_M hown hR hS hk4 (by decide) rfl (by decide) rfl (hts _ m_7cc4ea11) (fun _ h9 => h9) rfl hnm rfl (by decide +kernel) (xb_pnA _ _).1 (xb_pnA _ _).2 (xb_d D_M_init 21 rfl) (fun H locs hR hS => ?_)
  obtain ⟨h21, eh21⟩ : ∃ x : xb_H, x = xb_P h19 x0 8 (some q18) := ⟨_, rfl⟩
  rw [← eh21] at hR
  have hw := hw h21 eh21
  have hE : xb_ext h0 h21 := by rw [eh21]; exact hE
  refine lv_aload_n hx hb (xb_d D_M_init 22 rfl) rfl (lv_at hl 0 rfl) ?_
  refine lv_sipush (v := 768) hx hb (xb_d D_M_init 23 rfl) (by decide) ?_
  obtain ⟨hcq22, hsq22, hw⟩ := hw
  have enq22 : (768 : Int32).toNatClampNeg = 768 := by decide
  refine xb_newa_i hx hb (hts _ m_d160d5ac) hR hS hA (by decide) (by decide +kernel) (show (((((k + 1) + 1) + 1) + 1) + 1) + 1 ≤ MC by omega) (show (((((n + 65536) + 16384) + 64) + 64) + 768) + _ ≤ MS by rw [enq22]; omega) (xb_d D_M_init 24 rfl) (fun q22 H hqq22 hR hS => ?_)
  rw [enq22] at hR ⊢
  have hw := hw q22 hqq22
  obtain ⟨h23, eh23⟩ : ∃ x : xb_H, x = xb_new h21 q22 102 768 := ⟨_, rfl⟩
  rw [← eh23] at hR
  have hw := hw h23 eh23
  have hE : xb_ext h0 h23 := by rw [eh23]; exact hE.new _ _ hqq22
  have hk24 : xb_k h23 q22 = 102 := by rw [eh23]; exact xb_new_k _ _ _ _
  have hk4 : xb_k h21 x0 = 9 := by rw [eh21]; exact hk4
  have hk4 : xb_k h23 x0 = 9 := by rw [eh23]; exact xb_nk hqq22 hk4
  refine xb_putPF (C := R_M) (T := F_M) (N := 97) (ty := .array .int) (x := (some q22)) hx hb 8 9 hts fin_M t_M t_M_ok n_M hown hR hS hk4 (by decide) rfl (by decide) rfl (hts _ m_fea26463) (fun _ h9 => h9) rfl hnm rfl (by decide +kernel) (xb_pnA _ _).1 (xb_pnA _ _).2 (xb_d D_M_init 25 rfl) (fun H locs hR hS => ?_)
  obtain ⟨h25, eh25⟩ : ∃ x : xb_H, x = xb_P h23 x0 9 (some q22) := ⟨_, rfl⟩
  rw [← eh25] at hR
  have hw := hw h25 eh25
  have hE : xb_ext h0 h25 := by rw [eh25]; exact hE
  refine lv_aload_n hx hb (xb_d D_M_init 26 rfl) rfl (lv_at hl 0 rfl) ?_
  refine lv_sipush (v := 256) hx hb (xb_d D_M_init 27 rfl) (by decide) ?_
  obtain ⟨hcq26, hsq26, hw⟩ := hw
  have enq26 : (256 : Int32).toNatClampNeg = 256 := by decide
  refine xb_newa_i hx hb (hts _ m_d160d5ac) hR hS hA (by decide) (by decide +kernel) (show ((((((k + 1) + 1) + 1) + 1) + 1) + 1) + 1 ≤ MC by omega) (show ((((((n + 65536) + 16384) + 64) + 64) + 768) + 768) + _ ≤ MS by rw [enq26]; omega) (xb_d D_M_init 28 rfl) (fun q26 H hqq26 hR hS => ?_)
  rw [enq26] at hR ⊢
  have hw := hw q26 hqq26
  obtain ⟨h27, eh27⟩ : ∃ x : xb_H, x = xb_new h25 q26 102 256 := ⟨_, rfl⟩
  rw [← eh27] at hR
  have hw := hw h27 eh27
  have hE : xb_ext h0 h27 := by rw [eh27]; exact hE.new _ _ hqq26
  have hk28 : xb_k h27 q26 = 102 := by rw [eh27]; exact xb_new_k _ _ _ _
  have hk4 : xb_k h25 x0 = 9 := by rw [eh25]; exact hk4
  have hk4 : xb_k h27 x0 = 9 := by rw [eh27]; exact xb_nk hqq26 hk4
  refine xb_putPF (C := R_M) (T := F_M) (N := 97) (ty := .array .int) (x := (some q26)) hx hb 8 10 hts fin_M t_M t_M_ok n_M hown hR hS hk4 (by decide) rfl (by decide) rfl (hts _ m_01d0d957) (fun _ h9 => h9) rfl hnm rfl (by decide +kernel) (xb_pnA _ _).1 (xb_pnA _ _).2 (xb_d D_M_init 29 rfl) (fun H locs hR hS => ?_)
  obtain ⟨h29, eh29⟩ : ∃ x : xb_H, x = xb_P h27 x0 10 (some q26) := ⟨_, rfl⟩
  rw [← eh29] at hR
  have hw := hw h29 eh29
  have hE : xb_ext h0 h29 := by rw [eh29]; exact hE
  refine lv_aload_n hx hb (xb_d D_M_init 30 rfl) rfl (lv_at hl 0 rfl) ?_
  refine lv_sipush (v := 2048) hx hb (xb_d D_M_init 31 rfl) (by decide) ?_
  obtain ⟨hcq30, hsq30, hw⟩ := hw
  have enq30 : (2048 : Int32).toNatClampNeg = 2048 := by decide
  refine xb_newa_i hx hb (hts _ m_d160d5ac) hR hS hA (by decide) (by decide +kernel) (show (((((((k + 1) + 1) + 1) + 1) + 1) + 1) + 1) + 1 ≤ MC by omega) (show (((((((n + 65536) + 16384) + 64) + 64) + 768) + 768) + 256) + _ ≤ MS by rw [enq30]; omega) (xb_d D_M_init 32 rfl) (fun q30 H hqq30 hR hS => ?_)
  rw [enq30] at hR ⊢
  have hw := hw q30 hqq30
  obtain ⟨h31, eh31⟩ : ∃ x : xb_H, x = xb_new h29 q30 102 2048 := ⟨_, rfl⟩
  rw [← eh31] at hR
  have hw := hw h31 eh31
  have hE : xb_ext h0 h31 := by rw [eh31]; exact hE.new _ _ hqq30
  have hk32 : xb_k h31 q30 = 102 := by rw [eh31]; exact xb_new_k _ _ _ _
  have hk4 : xb_k h29 x0 = 9 := by rw [eh29]; exact hk4
  have hk4 : xb_k h31 x0 = 9 := by rw [eh31]; exact xb_nk hqq30 hk4
  refine xb_putP (C := R_M) (T := F_M) (N := 97) (ty := .array .int) (x := (some q30)) hx hb 8 11 hts fin_M t_M t_M_ok n_M hown hR hS hk4 (by decide) rfl (by decide) rfl (hts _ m_6a1d9b01) (fun _ h9 => h9) rfl (by decide +kernel) (xb_pnA _ _).1 (xb_pnA _ _).2 (xb_d D_M_init 33 rfl) (fun H locs hR hS => ?_)
  obtain ⟨h33, eh33⟩ : ∃ x : xb_H, x = xb_P h31 x0 11 (some q30) := ⟨_, rfl⟩
  rw [← eh33] at hR
  have hw := hw h33 eh33
  have hE : xb_ext h0 h33 := by rw [eh33]; exact hE
  refine lv_aload_n hx hb (xb_d D_M_init 34 rfl) rfl (lv_at hl 0 rfl) ?_
  refine lv_sipush (v := 2048) hx hb (xb_d D_M_init 35 rfl) (by decide) ?_
  obtain ⟨hcq34, hsq34, hw⟩ := hw
  have enq34 : (2048 : Int32).toNatClampNeg = 2048 := by decide
  refine xb_newa_i hx hb (hts _ m_d160d5ac) hR hS hA (by decide) (by decide +kernel) (show ((((((((k + 1) + 1) + 1) + 1) + 1) + 1) + 1) + 1) + 1 ≤ MC by omega) (show ((((((((n + 65536) + 16384) + 64) + 64) + 768) + 768) + 256) + 2048) + _ ≤ MS by rw [enq34]; omega) (xb_d D_M_init 36 rfl) (fun q34 H hqq34 hR hS => ?_)
  rw [enq34] at hR ⊢
  have hw := hw q34 hqq34
  obtain ⟨h35, eh35⟩ : ∃ x : xb_H, x = xb_new h33 q34 102 2048 := ⟨_, rfl⟩
  rw [← eh35] at hR
  have hw := hw h35 eh35
  have hE : xb_ext h0 h35 := by rw [eh35]; exact hE.new _ _ hqq34
  have hk36 : xb_k h35 q34 = 102 := by rw [eh35]; exact xb_new_k _ _ _ _
  have hk4 : xb_k h33 x0 = 9 := by rw [eh33]; exact hk4
  have hk4 : xb_k h35 x0 = 9 := by rw [eh35]; exact xb_nk hqq34 hk4
  refine xb_putP (C := R_M) (T := F_M) (N := 97) (ty := .array .int) (x := (some q34)) hx hb 8 12 hts fin_M t_M t_M_ok n_M hown hR hS hk4 (by decide) rfl (by decide) rfl (hts _ m_82208c1c) (fun _ h9 => h9) rfl (by decide +kernel) (xb_pnA _ _).1 (xb_pnA _ _).2 (xb_d D_M_init 37 rfl) (fun H locs hR hS => ?_)
  obtain ⟨h37, eh37⟩ : ∃ x : xb_H, x = xb_P h35 x0 12 (some q34) := ⟨_, rfl⟩
  rw [← eh37] at hR
  have hw := hw h37 eh37
  have hE : xb_ext h0 h37 := by rw [eh37]; exact hE
  refine lv_aload_n hx hb (xb_d D_M_init 38 rfl) rfl (lv_at hl 0 rfl) ?_
  refine lv_ldc (v := 70000) hx hb hown (hts _ m_4735fb52) (xb_d D_M_init 39 rfl) ?_
  obtain ⟨hcq38, hsq38, hw⟩ := hw
  have enq38 : (70000 : Int32).toNatClampNeg = 70000 := by decide
  refine xb_newa_b hx hb (hts _ m_2503b19f) hR hS hA (by decide) (by decide +kernel) (show (((((((((k + 1) + 1) + 1) + 1) + 1) + 1) + 1) + 1) + 1) + 1 ≤ MC by omega) (show (((((((((n + 65536) + 16384) + 64) + 64) + 768) + 768) + 256) + 2048) + 2048) + _ ≤ MS by rw [enq38]; omega) (xb_d D_M_init 40 rfl) (fun q38 H hqq38 hR hS => ?_)
  rw [enq38] at hR ⊢
  have hw := hw q38 hqq38
  obtain ⟨h39, eh39⟩ : ∃ x : xb_H, x = xb_new h37 q38 100 70000 := ⟨_, rfl⟩
  rw [← eh39] at hR
  have hw := hw h39 eh39
  have hE : xb_ext h0 h39 := by rw [eh39]; exact hE.new _ _ hqq38
  have hk40 : xb_k h39 q38 = 100 := by rw [eh39]; exact xb_new_k _ _ _ _
  have hk4 : xb_k h37 x0 = 9 := by rw [eh37]; exact hk4
  have hk4 : xb_k h39 x0 = 9 := by rw [eh39]; exact xb_nk hqq38 hk4
  refine xb_putPF (C := R_M) (T := F_M) (N := 97) (ty := .array .byte) (x := (some q38)) hx hb 8 19 hts fin_M t_M t_M_ok n_M hown hR hS hk4 (by decide) rfl (by decide) rfl (hts _ m_cede1946) (fun _ h9 => h9) rfl hnm rfl (by decide +kernel) (xb_pnA _ _).1 (xb_pnA _ _).2 (xb_d D_M_init 41 rfl) (fun H locs hR hS => ?_)
  obtain ⟨h41, eh41⟩ : ∃ x : xb_H, x = xb_P h39 x0 19 (some q38) := ⟨_, rfl⟩
  rw [← eh41] at hR
  have hw := hw h41 eh41
  have hE : xb_ext h0 h41 := by rw [eh41]; exact hE
  refine lv_aload_n hx hb (xb_d D_M_init 42 rfl) rfl (lv_at hl 0 rfl) ?_
  refine lv_ldc (v := 70000) hx hb hown (hts _ m_4735fb52) (xb_d D_M_init 43 rfl) ?_
  obtain ⟨hcq42, hsq42, hw⟩ := hw
  have enq42 : (70000 : Int32).toNatClampNeg = 70000 := by decide
  refine xb_newa_b hx hb (hts _ m_2503b19f) hR hS hA (by decide) (by decide +kernel) (show ((((((((((k + 1) + 1) + 1) + 1) + 1) + 1) + 1) + 1) + 1) + 1) + 1 ≤ MC by omega) (show ((((((((((n + 65536) + 16384) + 64) + 64) + 768) + 768) + 256) + 2048) + 2048) + 70000) + _ ≤ MS by rw [enq42]; omega) (xb_d D_M_init 44 rfl) (fun q42 H hqq42 hR hS => ?_)
  rw [enq42] at hR ⊢
  have hw := hw q42 hqq42
  obtain ⟨h43, eh43⟩ : ∃ x : xb_H, x = xb_new h41 q42 100 70000 := ⟨_, rfl⟩
  rw [← eh43] at hR
  have hw := hw h43 eh43
  have hE : xb_ext h0 h43 := by rw [eh43]; exact hE.new _ _ hqq42
  have hk44 : xb_k h43 q42 = 100 := by rw [eh43]; exact xb_new_k _ _ _ _
  have hk4 : xb_k h41 x0 = 9 := by rw [eh41]; exact hk4
  have hk4 : xb_k h43 x0 = 9 := by rw [eh43]; exact xb_nk hqq42 hk4
  refine xb_putPF (C := R_M) (T := F_M) (N := 97) (ty := .array .byte) (x := (some q42)) hx hb 8 21 hts fin_M t_M t_M_ok n_M hown hR hS hk4 (by decide) rfl (by decide) rfl (hts _ m_a8b072e8) (fun _ h9 => h9) rfl hnm rfl (by decide +kernel) (xb_pnA _ _).1 (xb_pnA _ _).2 (xb_d D_M_init 45 rfl) (fun H locs hR hS => ?_)
  obtain ⟨h45, eh45⟩ : ∃ x : xb_H, x = xb_P h43 x0 21 (some q42) := ⟨_, rfl⟩
  rw [← eh45] at hR
  have hw := hw h45 eh45
  have hE : xb_ext h0 h45 := by rw [eh45]; exact hE
  refine lv_aload_n hx hb (xb_d D_M_init 46 rfl) rfl (lv_at hl 0 rfl) ?_
  refine lv_sipush (v := 202) hx hb (xb_d D_M_init 47 rfl) (by decide) ?_
  obtain ⟨hcq46, hsq46, hw⟩ := hw
  have enq46 : (202 : Int32).toNatClampNeg = 202 := by decide
  refine xb_newa_i hx hb (hts _ m_d160d5ac) hR hS hA (by decide) (by decide +kernel) (show (((((((((((k + 1) + 1) + 1) + 1) + 1) + 1) + 1) + 1) + 1) + 1) + 1) + 1 ≤ MC by omega) (show (((((((((((n + 65536) + 16384) + 64) + 64) + 768) + 768) + 256) + 2048) + 2048) + 70000) + 70000) + _ ≤ MS by rw [enq46]; omega) (xb_d D_M_init 48 rfl) (fun q46 H hqq46 hR hS => ?_)
  rw [enq46] at hR ⊢
  have hw := hw q46 hqq46
  obtain ⟨h47, eh47⟩ : ∃ x : xb_H, x = xb_new h45 q46 102 202 := ⟨_, rfl⟩
  rw [← eh47] at hR
  have hw := hw h47 eh47
  have hE : xb_ext h0 h47 := by rw [eh47]; exact hE.new _ _ hqq46
  have hk48 : xb_k h47 q46 = 102 := by rw [eh47]; exact xb_new_k _ _ _ _
  have hk4 : xb_k h45 x0 = 9 := by rw [eh45]; exact hk4
  have hk4 : xb_k h47 x0 = 9 := by rw [eh47]; exact xb_nk hqq46 hk4
  refine xb_putPF (C := R_M) (T := F_M) (N := 97) (ty := .array .int) (x := (some q46)) hx hb 8 24 hts fin_M t_M t_M_ok n_M hown hR hS hk4 (by decide) rfl (by decide) rfl (hts _ m_6889d050) (fun _ h9 => h9) rfl hnm rfl (by decide +kernel) (xb_pnA _ _).1 (xb_pnA _ _).2 (xb_d D_M_init 49 rfl) (fun H locs hR hS => ?_)
  obtain ⟨h49, eh49⟩ : ∃ x : xb_H, x = xb_P h47 x0 24 (some q46) := ⟨_, rfl⟩
  rw [← eh49] at hR
  have hw := hw h49 eh49
  have hE : xb_ext h0 h49 := by rw [eh49]; exact hE
  refine lv_aload_n hx hb (xb_d D_M_init 50 rfl) rfl (lv_at hl 0 rfl) ?_
  refine lv_sipush (v := 202) hx hb (xb_d D_M_init 51 rfl) (by decide) ?_
  obtain ⟨hcq50, hsq50, hw⟩ := hw
  have enq50 : (202 : Int32).toNatClampNeg = 202 := by decide
  refine xb_newa_i hx hb (hts _ m_d160d5ac) hR hS hA (by decide) (by decide +kernel) (show ((((((((((((k + 1) + 1) + 1) + 1) + 1) + 1) + 1) + 1) + 1) + 1) + 1) + 1) + 1 ≤ MC by omega) (show ((((((((((((n + 65536) + 16384) + 64) + 64) + 768) + 768) + 256) + 2048) + 2048) + 70000) + 70000) + 202) + _ ≤ MS by rw [enq50]; omega) (xb_d D_M_init 52 rfl) (fun q50 H hqq50 hR hS => ?_)
  rw [enq50] at hR ⊢
  have hw := hw q50 hqq50
  obtain ⟨h51, eh51⟩ : ∃ x : xb_H, x = xb_new h49 q50 102 202 := ⟨_, rfl⟩
  rw [← eh51] at hR
  have hw := hw h51 eh51
  have hE : xb_ext h0 h51 := by rw [eh51]; exact hE.new _ _ hqq50
  have hk52 : xb_k h51 q50 = 102 := by rw [eh51]; exact xb_new_k _ _ _ _
  have hk4 : xb_k h49 x0 = 9 := by rw [eh49]; exact hk4
  have hk4 : xb_k h51 x0 = 9 := by rw [eh51]; exact xb_nk hqq50 hk4
  refine xb_putPF (C := R_M) (T := F_M) (N := 97) (ty := .array .int) (x := (some q50)) hx hb 8 25 hts fin_M t_M t_M_ok n_M hown hR hS hk4 (by decide) rfl (by decide) rfl (hts _ m_9d087e33) (fun _ h9 => h9) rfl hnm rfl (by decide +kernel) (xb_pnA _ _).1 (xb_pnA _ _).2 (xb_d D_M_init 53 rfl) (fun H locs hR hS => ?_)
  obtain ⟨h53, eh53⟩ : ∃ x : xb_H, x = xb_P h51 x0 25 (some q50) := ⟨_, rfl⟩
  rw [← eh53] at hR
  have hw := hw h53 eh53
  have hE : xb_ext h0 h53 := by rw [eh53]; exact hE
  refine lv_aload_n hx hb (xb_d D_M_init 54 rfl) rfl (lv_at hl 0 rfl) ?_
  refine lv_sipush (v := 202) hx hb (xb_d D_M_init 55 rfl) (by decide) ?_
  obtain ⟨hcq54, hsq54, hw⟩ := hw
  have enq54 : (202 : Int32).toNatClampNeg = 202 := by decide
  refine xb_newa_i hx hb (hts _ m_d160d5ac) hR hS hA (by decide) (by decide +kernel) (show (((((((((((((k + 1) + 1) + 1) + 1) + 1) + 1) + 1) + 1) + 1) + 1) + 1) + 1) + 1) + 1 ≤ MC by omega) (show (((((((((((((n + 65536) + 16384) + 64) + 64) + 768) + 768) + 256) + 2048) + 2048) + 70000) + 70000) + 202) + 202) + _ ≤ MS by rw [enq54]; omega) (xb_d D_M_init 56 rfl) (fun q54 H hqq54 hR hS => ?_)
  rw [enq54] at hR ⊢
  have hw := hw q54 hqq54
  obtain ⟨h55, eh55⟩ : ∃ x : xb_H, x = xb_new h53 q54 102 202 := ⟨_, rfl⟩
  rw [← eh55] at hR
  have hw := hw h55 eh55
  have hE : xb_ext h0 h55 := by rw [eh55]; exact hE.new _ _ hqq54
  have hk56 : xb_k h55 q54 = 102 := by rw [eh55]; exact xb_new_k _ _ _ _
  have hk4 : xb_k h53 x0 = 9 := by rw [eh53]; exact hk4
  have hk4 : xb_k h55 x0 = 9 := by rw [eh55]; exact xb_nk hqq54 hk4
  refine xb_putPF (C := R_M) (T := F_M) (N := 97) (ty := .array .int) (x := (some q54)) hx hb 8 26 hts fin_M t_M t_M_ok n_M hown hR hS hk4 (by decide) rfl (by decide) rfl (hts _ m_b041879a) (fun _ h9 => h9) rfl hnm rfl (by decide +kernel) (xb_pnA _ _).1 (xb_pnA _ _).2 (xb_d D_M_init 57 rfl) (fun H locs hR hS => ?_)
  obtain ⟨h57, eh57⟩ : ∃ x : xb_H, x = xb_P h55 x0 26 (some q54) := ⟨_, rfl⟩
  rw [← eh57] at hR
  have hw := hw h57 eh57
  have hE : xb_ext h0 h57 := by rw [eh57]; exact hE
  refine lv_aload_n hx hb (xb_d D_M_init 58 rfl) rfl (lv_at hl 0 rfl) ?_
  refine lv_sipush (v := 202) hx hb (xb_d D_M_init 59 rfl) (by decide) ?_
  obtain ⟨hcq58, hsq58, hw⟩ := hw
  have enq58 : (202 : Int32).toNatClampNeg = 202 := by decide
  refine xb_newa_i hx hb (hts _ m_d160d5ac) hR hS hA (by decide) (by decide +kernel) (show ((((((((((((((k + 1) + 1) + 1) + 1) + 1) + 1) + 1) + 1) + 1) + 1) + 1) + 1) + 1) + 1) + 1 ≤ MC by omega) (show ((((((((((((((n + 65536) + 16384) + 64) + 64) + 768) + 768) + 256) + 2048) + 2048) + 70000) + 70000) + 202) + 202) + 202) + _ ≤ MS by rw [enq58]; omega) (xb_d D_M_init 60 rfl) (fun q58 H hqq58 hR hS => ?_)
  rw [enq58] at hR ⊢
  have hw := hw q58 hqq58
  obtain ⟨h59, eh59⟩ : ∃ x : xb_H, x = xb_new h57 q58 102 202 := ⟨_, rfl⟩
  rw [← eh59] at hR
  have hw := hw h59 eh59
  have hE : xb_ext h0 h59 := by rw [eh59]; exact hE.new _ _ hqq58
  have hk60 : xb_k h59 q58 = 102 := by rw [eh59]; exact xb_new_k _ _ _ _
  have hk4 : xb_k h57 x0 = 9 := by rw [eh57]; exact hk4
  have hk4 : xb_k h59 x0 = 9 := by rw [eh59]; exact xb_nk hqq58 hk4
  refine xb_putPF (C := R_M) (T := F_M) (N := 97) (ty := .array .int) (x := (some q58)) hx hb 8 27 hts fin_M t_M t_M_ok n_M hown hR hS hk4 (by decide) rfl (by decide) rfl (hts _ m_fe4642b7) (fun _ h9 => h9) rfl hnm rfl (by decide +kernel) (xb_pnA _ _).1 (xb_pnA _ _).2 (xb_d D_M_init 61 rfl) (fun H locs hR hS => ?_)
  obtain ⟨h61, eh61⟩ : ∃ x : xb_H, x = xb_P h59 x0 27 (some q58) := ⟨_, rfl⟩
  rw [← eh61] at hR
  have hw := hw h61 eh61
  have hE : xb_ext h0 h61 := by rw [eh61]; exact hE
  refine lv_aload_n hx hb (xb_d D_M_init 62 rfl) rfl (lv_at hl 0 rfl) ?_
  refine lv_sipush (v := 202) hx hb (xb_d D_M_init 63 rfl) (by decide) ?_
  obtain ⟨hcq62, hsq62, hw⟩ := hw
  have enq62 : (202 : Int32).toNatClampNeg = 202 := by decide
  refine xb_newa_z hx hb (hts _ m_3be30871) hR hS hA (by decide) (by decide +kernel) (show (((((((((((((((k + 1) + 1) + 1) + 1) + 1) + 1) + 1) + 1) + 1) + 1) + 1) + 1) + 1) + 1) + 1) + 1 ≤ MC by omega) (show (((((((((((((((n + 65536) + 16384) + 64) + 64) + 768) + 768) + 256) + 2048) + 2048) + 70000) + 70000) + 202) + 202) + 202) + 202) + _ ≤ MS by rw [enq62]; omega) (xb_d D_M_init 64 rfl) (fun q62 H hqq62 hR hS => ?_)
  rw [enq62] at hR ⊢
  have hw := hw q62 hqq62
  obtain ⟨h63, eh63⟩ : ∃ x : xb_H, x = xb_new h61 q62 101 202 := ⟨_, rfl⟩
  rw [← eh63] at hR
  have hw := hw h63 eh63
  have hE : xb_ext h0 h63 := by rw [eh63]; exact hE.new _ _ hqq62
  have hk64 : xb_k h63 q62 = 101 := by rw [eh63]; exact xb_new_k _ _ _ _
  have hk4 : xb_k h61 x0 = 9 := by rw [eh61]; exact hk4
  have hk4 : xb_k h63 x0 = 9 := by rw [eh63]; exact xb_nk hqq62 hk4
  refine xb_putPF (C := R_M) (T := F_M) (N := 97) (ty := .array .boolean) (x := (some q62)) hx hb 8 28 hts fin_M t_M t_M_ok n_M hown hR hS hk4 (by decide) rfl (by decide) rfl (hts _ m_a58a86b4) (fun _ h9 => h9) rfl hnm rfl (by decide +kernel) (xb_pnA _ _).1 (xb_pnA _ _).2 (xb_d D_M_init 65 rfl) (fun H locs hR hS => ?_)
  obtain ⟨h65, eh65⟩ : ∃ x : xb_H, x = xb_P h63 x0 28 (some q62) := ⟨_, rfl⟩
  rw [← eh65] at hR
  have hw := hw h65 eh65
  have hE : xb_ext h0 h65 := by rw [eh65]; exact hE
  refine lv_aload_n hx hb (xb_d D_M_init 66 rfl) rfl (lv_at hl 0 rfl) ?_
  refine lv_bipush (v := 24) hx hb (xb_d D_M_init 67 rfl) (by decide) ?_
  obtain ⟨hcq66, hsq66, hw⟩ := hw
  have enq66 : (24 : Int32).toNatClampNeg = 24 := by decide
  refine xb_newa_i hx hb (hts _ m_d160d5ac) hR hS hA (by decide) (by decide +kernel) (show ((((((((((((((((k + 1) + 1) + 1) + 1) + 1) + 1) + 1) + 1) + 1) + 1) + 1) + 1) + 1) + 1) + 1) + 1) + 1 ≤ MC by omega) (show ((((((((((((((((n + 65536) + 16384) + 64) + 64) + 768) + 768) + 256) + 2048) + 2048) + 70000) + 70000) + 202) + 202) + 202) + 202) + 202) + _ ≤ MS by rw [enq66]; omega) (xb_d D_M_init 68 rfl) (fun q66 H hqq66 hR hS => ?_)
  rw [enq66] at hR ⊢
  have hw := hw q66 hqq66
  obtain ⟨h67, eh67⟩ : ∃ x : xb_H, x = xb_new h65 q66 102 24 := ⟨_, rfl⟩
  rw [← eh67] at hR
  have hw := hw h67 eh67
  have hE : xb_ext h0 h67 := by rw [eh67]; exact hE.new _ _ hqq66
  have hk68 : xb_k h67 q66 = 102 := by rw [eh67]; exact xb_new_k _ _ _ _
  have hk4 : xb_k h65 x0 = 9 := by rw [eh65]; exact hk4
  have hk4 : xb_k h67 x0 = 9 := by rw [eh67]; exact xb_nk hqq66 hk4
  refine xb_putPF (C := R_M) (T := F_M) (N := 97) (ty := .array .int) (x := (some q66)) hx hb 8 31 hts fin_M t_M t_M_ok n_M hown hR hS hk4 (by decide) rfl (by decide) rfl (hts _ m_691d5f47) (fun _ h9 => h9) rfl hnm rfl (by decide +kernel) (xb_pnA _ _).1 (xb_pnA _ _).2 (xb_d D_M_init 69 rfl) (fun H locs hR hS => ?_)
  obtain ⟨h69, eh69⟩ : ∃ x : xb_H, x = xb_P h67 x0 31 (some q66) := ⟨_, rfl⟩
  rw [← eh69] at hR
  have hw := hw h69 eh69
  have hE : xb_ext h0 h69 := by rw [eh69]; exact hE
  refine lv_aload_n hx hb (xb_d D_M_init 70 rfl) rfl (lv_at hl 0 rfl) ?_
  refine lv_bipush (v := 24) hx hb (xb_d D_M_init 71 rfl) (by decide) ?_
  obtain ⟨hcq70, hsq70, hw⟩ := hw
  have enq70 : (24 : Int32).toNatClampNeg = 24 := by decide
  refine xb_newa_i hx hb (hts _ m_d160d5ac) hR hS hA (by decide) (by decide +kernel) (show (((((((((((((((((k + 1) + 1) + 1) + 1) + 1) + 1) + 1) + 1) + 1) + 1) + 1) + 1) + 1) + 1) + 1) + 1) + 1) + 1 ≤ MC by omega) (show (((((((((((((((((n + 65536) + 16384) + 64) + 64) + 768) + 768) + 256) + 2048) + 2048) + 70000) + 70000) + 202) + 202) + 202) + 202) + 202) + 24) + _ ≤ MS by rw [enq70]; omega) (xb_d D_M_init 72 rfl) (fun q70 H hqq70 hR hS => ?_)
  rw [enq70] at hR ⊢
  have hw := hw q70 hqq70
  obtain ⟨h71, eh71⟩ : ∃ x : xb_H, x = xb_new h69 q70 102 24 := ⟨_, rfl⟩
  rw [← eh71] at hR
  have hw := hw h71 eh71
  have hE : xb_ext h0 h71 := by rw [eh71]; exact hE.new _ _ hqq70
  have hk72 : xb_k h71 q70 = 102 := by rw [eh71]; exact xb_new_k _ _ _ _
  have hk4 : xb_k h69 x0 = 9 := by rw [eh69]; exact hk4
  have hk4 : xb_k h71 x0 = 9 := by rw [eh71]; exact xb_nk hqq70 hk4
  refine xb_putPF (C := R_M) (T := F_M) (N := 97) (ty := .array .int) (x := (some q70)) hx hb 8 32 hts fin_M t_M t_M_ok n_M hown hR hS hk4 (by decide) rfl (by decide) rfl (hts _ m_3c93490e) (fun _ h9 => h9) rfl hnm rfl (by decide +kernel) (xb_pnA _ _).1 (xb_pnA _ _).2 (xb_d D_M_init 73 rfl) (fun H locs hR hS => ?_)
  obtain ⟨h73, eh73⟩ : ∃ x : xb_H, x = xb_P h71 x0 32 (some q70) := ⟨_, rfl⟩
  rw [← eh73] at hR
  have hw := hw h73 eh73
  have hE : xb_ext h0 h73 := by rw [eh73]; exact hE
  refine lv_aload_n hx hb (xb_d D_M_init 74 rfl) rfl (lv_at hl 0 rfl) ?_
  refine lv_sipush (v := 1024) hx hb (xb_d D_M_init 75 rfl) (by decide) ?_
  obtain ⟨hcq74, hsq74, hw⟩ := hw
  have enq74 : (1024 : Int32).toNatClampNeg = 1024 := by decide
  refine xb_newa_i hx hb (hts _ m_d160d5ac) hR hS hA (by decide) (by decide +kernel) (show ((((((((((((((((((k + 1) + 1) + 1) + 1) + 1) + 1) + 1) + 1) + 1) + 1) + 1) + 1) + 1) + 1) + 1) + 1) + 1) + 1) + 1 ≤ MC by omega) (show ((((((((((((((((((n + 65536) + 16384) + 64) + 64) + 768) + 768) + 256) + 2048) + 2048) + 70000) + 70000) + 202) + 202) + 202) + 202) + 202) + 24) + 24) + _ ≤ MS by rw [enq74]; omega) (xb_d D_M_init 76 rfl) (fun q74 H hqq74 hR hS => ?_)
  rw [enq74] at hR ⊢
  have hw := hw q74 hqq74
  obtain ⟨h75, eh75⟩ : ∃ x : xb_H, x = xb_new h73 q74 102 1024 := ⟨_, rfl⟩
  rw [← eh75] at hR
  have hw := hw h75 eh75
  have hE : xb_ext h0 h75 := by rw [eh75]; exact hE.new _ _ hqq74
  have hk76 : xb_k h75 q74 = 102 := by rw [eh75]; exact xb_new_k _ _ _ _
  have hk4 : xb_k h73 x0 = 9 := by rw [eh73]; exact hk4
  have hk4 : xb_k h75 x0 = 9 := by rw [eh75]; exact xb_nk hqq74 hk4
  refine xb_putP (C := R_M) (T := F_M) (N := 97) (ty := .array .int) (x := (some q74)) hx hb 8 33 hts fin_M t_M t_M_ok n_M hown hR hS hk4 (by decide) rfl (by decide) rfl (hts _ m_e6997b7a) (fun _ h9 => h9) rfl (by decide +kernel) (xb_pnA _ _).1 (xb_pnA _ _).2 (xb_d D_M_init 77 rfl) (fun H locs hR hS => ?_)
  obtain ⟨h77, eh77⟩ : ∃ x : xb_H, x = xb_P h75 x0 33 (some q74) := ⟨_, rfl⟩
  rw [← eh77] at hR
  have hw := hw h77 eh77
  have hE : xb_ext h0 h77 := by rw [eh77]; exact hE
  refine lv_aload_n hx hb (xb_d D_M_init 78 rfl) rfl (lv_at hl 0 rfl) ?_
  refine lv_bipush (v := 24) hx hb (xb_d D_M_init 79 rfl) (by decide) ?_
  obtain ⟨hcq78, hsq78, hw⟩ := hw
  have enq78 : (24 : Int32).toNatClampNeg = 24 := by decide
  refine xb_newa_i hx hb (hts _ m_d160d5ac) hR hS hA (by decide) (by decide +kernel) (show (((((((((((((((((((k + 1) + 1) + 1) + 1) + 1) + 1) + 1) + 1) + 1) + 1) + 1) + 1) + 1) + 1) + 1) + 1) + 1) + 1) + 1) + 1 ≤ MC by omega) (show (((((((((((((((((((n + 65536) + 16384) + 64) + 64) + 768) + 768) + 256) + 2048) + 2048) + 70000) + 70000) + 202) + 202) + 202) + 202) + 202) + 24) + 24) + 1024) + _ ≤ MS by rw [enq78]; omega) (xb_d D_M_init 80 rfl) (fun q78 H hqq78 hR hS => ?_)
  rw [enq78] at hR ⊢
  have hw := hw q78 hqq78
  obtain ⟨h79, eh79⟩ : ∃ x : xb_H, x = xb_new h77 q78 102 24 := ⟨_, rfl⟩
  rw [← eh79] at hR
  have hw := hw h79 eh79
  have hE : xb_ext h0 h79 := by rw [eh79]; exact hE.new _ _ hqq78
  have hk80 : xb_k h79 q78 = 102 := by rw [eh79]; exact xb_new_k _ _ _ _
  have hk4 : xb_k h77 x0 = 9 := by rw [eh77]; exact hk4
  have hk4 : xb_k h79 x0 = 9 := by rw [eh79]; exact xb_nk hqq78 hk4
  refine xb_putPF (C := R_M) (T := F_M) (N := 97) (ty := .array .int) (x := (some q78)) hx hb 8 35 hts fin_M t_M t_M_ok n_M hown hR hS hk4 (by decide) rfl (by decide) rfl (hts _ m_6a74a2ce) (fun _ h9 => h9) rfl hnm rfl (by decide +kernel) (xb_pnA _ _).1 (xb_pnA _ _).2 (xb_d D_M_init 81 rfl) (fun H locs hR hS => ?_)
  obtain ⟨h81, eh81⟩ : ∃ x : xb_H, x = xb_P h79 x0 35 (some q78) := ⟨_, rfl⟩
  rw [← eh81] at hR
  have hw := hw h81 eh81
  have hE : xb_ext h0 h81 := by rw [eh81]; exact hE
  refine lv_aload_n hx hb (xb_d D_M_init 82 rfl) rfl (lv_at hl 0 rfl) ?_
  refine lv_bipush (v := 24) hx hb (xb_d D_M_init 83 rfl) (by decide) ?_
  obtain ⟨hcq82, hsq82, hw⟩ := hw
  have enq82 : (24 : Int32).toNatClampNeg = 24 := by decide
  refine xb_newa_i hx hb (hts _ m_d160d5ac) hR hS hA (by decide) (by decide +kernel) (show ((((((((((((((((((((k + 1) + 1) + 1) + 1) + 1) + 1) + 1) + 1) + 1) + 1) + 1) + 1) + 1) + 1) + 1) + 1) + 1) + 1) + 1) + 1) + 1 ≤ MC by omega) (show ((((((((((((((((((((n + 65536) + 16384) + 64) + 64) + 768) + 768) + 256) + 2048) + 2048) + 70000) + 70000) + 202) + 202) + 202) + 202) + 202) + 24) + 24) + 1024) + 24) + _ ≤ MS by rw [enq82]; omega) (xb_d D_M_init 84 rfl) (fun q82 H hqq82 hR hS => ?_)
  rw [enq82] at hR ⊢
  have hw := hw q82 hqq82
  obtain ⟨h83, eh83⟩ : ∃ x : xb_H, x = xb_new h81 q82 102 24 := ⟨_, rfl⟩
  rw [← eh83] at hR
  have hw := hw h83 eh83
  have hE : xb_ext h0 h83 := by rw [eh83]; exact hE.new _ _ hqq82
  have hk84 : xb_k h83 q82 = 102 := by rw [eh83]; exact xb_new_k _ _ _ _
  have hk4 : xb_k h81 x0 = 9 := by rw [eh81]; exact hk4
  have hk4 : xb_k h83 x0 = 9 := by rw [eh83]; exact xb_nk hqq82 hk4
  refine xb_putPF (C := R_M) (T := F_M) (N := 97) (ty := .array .int) (x := (some q82)) hx hb 8 36 hts fin_M t_M t_M_ok n_M hown hR hS hk4 (by decide) rfl (by decide) rfl (hts _ m_e7bc0caf) (fun _ h9 => h9) rfl hnm rfl (by decide +kernel) (xb_pnA _ _).1 (xb_pnA _ _).2 (xb_d D_M_init 85 rfl) (fun H locs hR hS => ?_)
  obtain ⟨h85, eh85⟩ : ∃ x : xb_H, x = xb_P h83 x0 36 (some q82) := ⟨_, rfl⟩
  rw [← eh85] at hR
  have hw := hw h85 eh85
  have hE : xb_ext h0 h85 := by rw [eh85]; exact hE
  refine lv_aload_n hx hb (xb_d D_M_init 86 rfl) rfl (lv_at hl 0 rfl) ?_
  refine lv_bipush (v := 24) hx hb (xb_d D_M_init 87 rfl) (by decide) ?_
  obtain ⟨hcq86, hsq86, hw⟩ := hw
  have enq86 : (24 : Int32).toNatClampNeg = 24 := by decide
  refine xb_newa_i hx hb (hts _ m_d160d5ac) hR hS hA (by decide) (by decide +kernel) (show (((((((((((((((((((((k + 1) + 1) + 1) + 1) + 1) + 1) + 1) + 1) + 1) + 1) + 1) + 1) + 1) + 1) + 1) + 1) + 1) + 1) + 1) + 1) + 1) + 1 ≤ MC by omega) (show (((((((((((((((((((((n + 65536) + 16384) + 64) + 64) + 768) + 768) + 256) + 2048) + 2048) + 70000) + 70000) + 202) + 202) + 202) + 202) + 202) + 24) + 24) + 1024) + 24) + 24) + _ ≤ MS by rw [enq86]; omega) (xb_d D_M_init 88 rfl) (fun q86 H hqq86 hR hS => ?_)
  rw [enq86] at hR ⊢
  have hw := hw q86 hqq86
  obtain ⟨h87, eh87⟩ : ∃ x : xb_H, x = xb_new h85 q86 102 24 := ⟨_, rfl⟩
  rw [← eh87] at hR
  have hw := hw h87 eh87
  have hE : xb_ext h0 h87 := by rw [eh87]; exact hE.new _ _ hqq86
  have hk88 : xb_k h87 q86 = 102 := by rw [eh87]; exact xb_new_k _ _ _ _
  have hk4 : xb_k h85 x0 = 9 := by rw [eh85]; exact hk4
  have hk4 : xb_k h87 x0 = 9 := by rw [eh87]; exact xb_nk hqq86 hk4
  refine xb_putPF (C := R_M) (T := F_M) (N := 97) (ty := .array .int) (x := (some q86)) hx hb 8 37 hts fin_M t_M t_M_ok n_M hown hR hS hk4 (by decide) rfl (by decide) rfl (hts _ m_1f5a2407) (fun _ h9 => h9) rfl hnm rfl (by decide +kernel) (xb_pnA _ _).1 (xb_pnA _ _).2 (xb_d D_M_init 89 rfl) (fun H locs hR hS => ?_)
  obtain ⟨h89, eh89⟩ : ∃ x : xb_H, x = xb_P h87 x0 37 (some q86) := ⟨_, rfl⟩
  rw [← eh89] at hR
  have hw := hw h89 eh89
  have hE : xb_ext h0 h89 := by rw [eh89]; exact hE
  refine lv_aload_n hx hb (xb_d D_M_init 90 rfl) rfl (lv_at hl 0 rfl) ?_
  refine lv_bipush (v := 24) hx hb (xb_d D_M_init 91 rfl) (by decide) ?_
  obtain ⟨hcq90, hsq90, hw⟩ := hw
  have enq90 : (24 : Int32).toNatClampNeg = 24 := by decide
  refine xb_newa_i hx hb (hts _ m_d160d5ac) hR hS hA (by decide) (by decide +kernel) (show ((((((((((((((((((((((k + 1) + 1) + 1) + 1) + 1) + 1) + 1) + 1) + 1) + 1) + 1) + 1) + 1) + 1) + 1) + 1) + 1) + 1) + 1) + 1) + 1) + 1) + 1 ≤ MC by omega) (show ((((((((((((((((((((((n + 65536) + 16384) + 64) + 64) + 768) + 768) + 256) + 2048) + 2048) + 70000) + 70000) + 202) + 202) + 202) + 202) + 202) + 24) + 24) + 1024) + 24) + 24) + 24) + _ ≤ MS by rw [enq90]; omega) (xb_d D_M_init 92 rfl) (fun q90 H hqq90 hR hS => ?_)
  rw [enq90] at hR ⊢
  have hw := hw q90 hqq90
  obtain ⟨h91, eh91⟩ : ∃ x : xb_H, x = xb_new h89 q90 102 24 := ⟨_, rfl⟩
  rw [← eh91] at hR
  have hw := hw h91 eh91
  have hE : xb_ext h0 h91 := by rw [eh91]; exact hE.new _ _ hqq90
  have hk92 : xb_k h91 q90 = 102 := by rw [eh91]; exact xb_new_k _ _ _ _
  have hk4 : xb_k h89 x0 = 9 := by rw [eh89]; exact hk4
  have hk4 : xb_k h91 x0 = 9 := by rw [eh91]; exact xb_nk hqq90 hk4
  refine xb_putPF (C := R_M) (T := F_M) (N := 97) (ty := .array .int) (x := (some q90)) hx hb 8 38 hts fin_M t_M t_M_ok n_M hown hR hS hk4 (by decide) rfl (by decide) rfl (hts _ m_2d81be8c) (fun _ h9 => h9) rfl hnm rfl (by decide +kernel) (xb_pnA _ _).1 (xb_pnA _ _).2 (xb_d D_M_init 93 rfl) (fun H locs hR hS => ?_)
  obtain ⟨h93, eh93⟩ : ∃ x : xb_H, x = xb_P h91 x0 38 (some q90) := ⟨_, rfl⟩
  rw [← eh93] at hR
  have hw := hw h93 eh93
  have hE : xb_ext h0 h93 := by rw [eh93]; exact hE
  refine lv_aload_n hx hb (xb_d D_M_init 94 rfl) rfl (lv_at hl 0 rfl) ?_
  refine lv_sipush (v := 4100) hx hb (xb_d D_M_init 95 rfl) (by decide) ?_
  obtain ⟨hcq94, hsq94, hw⟩ := hw
  have enq94 : (4100 : Int32).toNatClampNeg = 4100 := by decide
  refine xb_newa_i hx hb (hts _ m_d160d5ac) hR hS hA (by decide) (by decide +kernel) (show (((((((((((((((((((((((k + 1) + 1) + 1) + 1) + 1) + 1) + 1) + 1) + 1) + 1) + 1) + 1) + 1) + 1) + 1) + 1) + 1) + 1) + 1) + 1) + 1) + 1) + 1) + 1 ≤ MC by omega) (show (((((((((((((((((((((((n + 65536) + 16384) + 64) + 64) + 768) + 768) + 256) + 2048) + 2048) + 70000) + 70000) + 202) + 202) + 202) + 202) + 202) + 24) + 24) + 1024) + 24) + 24) + 24) + 24) + _ ≤ MS by rw [enq94]; omega) (xb_d D_M_init 96 rfl) (fun q94 H hqq94 hR hS => ?_)
  rw [enq94] at hR ⊢
  have hw := hw q94 hqq94
  obtain ⟨h95, eh95⟩ : ∃ x : xb_H, x = xb_new h93 q94 102 4100 := ⟨_, rfl⟩
  rw [← eh95] at hR
  have hw := hw h95 eh95
  have hE : xb_ext h0 h95 := by rw [eh95]; exact hE.new _ _ hqq94
  have hk96 : xb_k h95 q94 = 102 := by rw [eh95]; exact xb_new_k _ _ _ _
  have hk4 : xb_k h93 x0 = 9 := by rw [eh93]; exact hk4
  have hk4 : xb_k h95 x0 = 9 := by rw [eh95]; exact xb_nk hqq94 hk4
  refine xb_putPF (C := R_M) (T := F_M) (N := 97) (ty := .array .int) (x := (some q94)) hx hb 8 39 hts fin_M t_M t_M_ok n_M hown hR hS hk4 (by decide) rfl (by decide) rfl (hts _ m_c7ddbadb) (fun _ h9 => h9) rfl hnm rfl (by decide +kernel) (xb_pnA _ _).1 (xb_pnA _ _).2 (xb_d D_M_init 97 rfl) (fun H locs hR hS => ?_)
  obtain ⟨h97, eh97⟩ : ∃ x : xb_H, x = xb_P h95 x0 39 (some q94) := ⟨_, rfl⟩
  rw [← eh97] at hR
  have hw := hw h97 eh97
  have hE : xb_ext h0 h97 := by rw [eh97]; exact hE
  refine lv_aload_n hx hb (xb_d D_M_init 98 rfl) rfl (lv_at hl 0 rfl) ?_
  refine lv_sipush (v := 4100) hx hb (xb_d D_M_init 99 rfl) (by decide) ?_
  obtain ⟨hcq98, hsq98, hw⟩ := hw
  have enq98 : (4100 : Int32).toNatClampNeg = 4100 := by decide
  refine xb_newa_i hx hb (hts _ m_d160d5ac) hR hS hA (by decide) (by decide +kernel) (show ((((((((((((((((((((((((k + 1) + 1) + 1) + 1) + 1) + 1) + 1) + 1) + 1) + 1) + 1) + 1) + 1) + 1) + 1) + 1) + 1) + 1) + 1) + 1) + 1) + 1) + 1) + 1) + 1 ≤ MC by omega) (show ((((((((((((((((((((((((n + 65536) + 16384) + 64) + 64) + 768) + 768) + 256) + 2048) + 2048) + 70000) + 70000) + 202) + 202) + 202) + 202) + 202) + 24) + 24) + 1024) + 24) + 24) + 24) + 24) + 4100) + _ ≤ MS by rw [enq98]; omega) (xb_d D_M_init 100 rfl) (fun q98 H hqq98 hR hS => ?_)
  rw [enq98] at hR ⊢
  have hw := hw q98 hqq98
  obtain ⟨h99, eh99⟩ : ∃ x : xb_H, x = xb_new h97 q98 102 4100 := ⟨_, rfl⟩
  rw [← eh99] at hR
  have hw := hw h99 eh99
  have hE : xb_ext h0 h99 := by rw [eh99]; exact hE.new _ _ hqq98
  have hk100 : xb_k h99 q98 = 102 := by rw [eh99]; exact xb_new_k _ _ _ _
  have hk4 : xb_k h97 x0 = 9 := by rw [eh97]; exact hk4
  have hk4 : xb_k h99 x0 = 9 := by rw [eh99]; exact xb_nk hqq98 hk4
  refine xb_putPF (C := R_M) (T := F_M) (N := 97) (ty := .array .int) (x := (some q98)) hx hb 8 40 hts fin_M t_M t_M_ok n_M hown hR hS hk4 (by decide) rfl (by decide) rfl (hts _ m_48bc85e4) (fun _ h9 => h9) rfl hnm rfl (by decide +kernel) (xb_pnA _ _).1 (xb_pnA _ _).2 (xb_d D_M_init 101 rfl) (fun H locs hR hS => ?_)
  obtain ⟨h101, eh101⟩ : ∃ x : xb_H, x = xb_P h99 x0 40 (some q98) := ⟨_, rfl⟩
  rw [← eh101] at hR
  have hw := hw h101 eh101
  have hE : xb_ext h0 h101 := by rw [eh101]; exact hE
  refine lv_aload_n hx hb (xb_d D_M_init 102 rfl) rfl (lv_at hl 0 rfl) ?_
  refine lv_sipush (v := 4100) hx hb (xb_d D_M_init 103 rfl) (by decide) ?_
  obtain ⟨hcq102, hsq102, hw⟩ := hw
  have enq102 : (4100 : Int32).toNatClampNeg = 4100 := by decide
  refine xb_newa_i hx hb (hts _ m_d160d5ac) hR hS hA (by decide) (by decide +kernel) (show (((((((((((((((((((((((((k + 1) + 1) + 1) + 1) + 1) + 1) + 1) + 1) + 1) + 1) + 1) + 1) + 1) + 1) + 1) + 1) + 1) + 1) + 1) + 1) + 1) + 1) + 1) + 1) + 1) + 1 ≤ MC by omega) (show (((((((((((((((((((((((((n + 65536) + 16384) + 64) + 64) + 768) + 768) + 256) + 2048) + 2048) + 70000) + 70000) + 202) + 202) + 202) + 202) + 202) + 24) + 24) + 1024) + 24) + 24) + 24) + 24) + 4100) + 4100) + _ ≤ MS by rw [enq102]; omega) (xb_d D_M_init 104 rfl) (fun q102 H hqq102 hR hS => ?_)
  rw [enq102] at hR ⊢
  have hw := hw q102 hqq102
  obtain ⟨h103, eh103⟩ : ∃ x : xb_H, x = xb_new h101 q102 102 4100 := ⟨_, rfl⟩
  rw [← eh103] at hR
  have hw := hw h103 eh103
  have hE : xb_ext h0 h103 := by rw [eh103]; exact hE.new _ _ hqq102
  have hk104 : xb_k h103 q102 = 102 := by rw [eh103]; exact xb_new_k _ _ _ _
  have hk4 : xb_k h101 x0 = 9 := by rw [eh101]; exact hk4
  have hk4 : xb_k h103 x0 = 9 := by rw [eh103]; exact xb_nk hqq102 hk4
  refine xb_putPF (C := R_M) (T := F_M) (N := 97) (ty := .array .int) (x := (some q102)) hx hb 8 41 hts fin_M t_M t_M_ok n_M hown hR hS hk4 (by decide) rfl (by decide) rfl (hts _ m_b88bfd37) (fun _ h9 => h9) rfl hnm rfl (by decide +kernel) (xb_pnA _ _).1 (xb_pnA _ _).2 (xb_d D_M_init 105 rfl) (fun H locs hR hS => ?_)
  obtain ⟨h105, eh105⟩ : ∃ x : xb_H, x = xb_P h103 x0 41 (some q102) := ⟨_, rfl⟩
  rw [← eh105] at hR
  have hw := hw h105 eh105
  have hE : xb_ext h0 h105 := by rw [eh105]; exact hE
  refine lv_aload_n hx hb (xb_d D_M_init 106 rfl) rfl (lv_at hl 0 rfl) ?_
  refine lv_sipush (v := 8192) hx hb (xb_d D_M_init 107 rfl) (by decide) ?_
  obtain ⟨hcq106, hsq106, hw⟩ := hw
  have enq106 : (8192 : Int32).toNatClampNeg = 8192 := by decide
  refine xb_newa_i hx hb (hts _ m_d160d5ac) hR hS hA (by decide) (by decide +kernel) (show ((((((((((((((((((((((((((k + 1) + 1) + 1) + 1) + 1) + 1) + 1) + 1) + 1) + 1) + 1) + 1) + 1) + 1) + 1) + 1) + 1) + 1) + 1) + 1) + 1) + 1) + 1) + 1) + 1) + 1) + 1 ≤ MC by omega) (show ((((((((((((((((((((((((((n + 65536) + 16384) + 64) + 64) + 768) + 768) + 256) + 2048) + 2048) + 70000) + 70000) + 202) + 202) + 202) + 202) + 202) + 24) + 24) + 1024) + 24) + 24) + 24) + 24) + 4100) + 4100) + 4100) + _ ≤ MS by rw [enq106]; omega) (xb_d D_M_init 108 rfl) (fun q106 H hqq106 hR hS => ?_)
  rw [enq106] at hR ⊢
  have hw := hw q106 hqq106
  obtain ⟨h107, eh107⟩ : ∃ x : xb_H, x = xb_new h105 q106 102 8192 := ⟨_, rfl⟩
  rw [← eh107] at hR
  have hw := hw h107 eh107
  have hE : xb_ext h0 h107 := by rw [eh107]; exact hE.new _ _ hqq106
  have hk108 : xb_k h107 q106 = 102 := by rw [eh107]; exact xb_new_k _ _ _ _
  have hk4 : xb_k h105 x0 = 9 := by rw [eh105]; exact hk4
  have hk4 : xb_k h107 x0 = 9 := by rw [eh107]; exact xb_nk hqq106 hk4
  refine xb_putPF (C := R_M) (T := F_M) (N := 97) (ty := .array .int) (x := (some q106)) hx hb 8 44 hts fin_M t_M t_M_ok n_M hown hR hS hk4 (by decide) rfl (by decide) rfl (hts _ m_ad0cc5a3) (fun _ h9 => h9) rfl hnm rfl (by decide +kernel) (xb_pnA _ _).1 (xb_pnA _ _).2 (xb_d D_M_init 109 rfl) (fun H locs hR hS => ?_)
  obtain ⟨h109, eh109⟩ : ∃ x : xb_H, x = xb_P h107 x0 44 (some q106) := ⟨_, rfl⟩
  rw [← eh109] at hR
  have hw := hw h109 eh109
  have hE : xb_ext h0 h109 := by rw [eh109]; exact hE
  refine lv_aload_n hx hb (xb_d D_M_init 110 rfl) rfl (lv_at hl 0 rfl) ?_
  refine lv_sipush (v := 8192) hx hb (xb_d D_M_init 111 rfl) (by decide) ?_
  obtain ⟨hcq110, hsq110, hw⟩ := hw
  have enq110 : (8192 : Int32).toNatClampNeg = 8192 := by decide
  refine xb_newa_i hx hb (hts _ m_d160d5ac) hR hS hA (by decide) (by decide +kernel) (show (((((((((((((((((((((((((((k + 1) + 1) + 1) + 1) + 1) + 1) + 1) + 1) + 1) + 1) + 1) + 1) + 1) + 1) + 1) + 1) + 1) + 1) + 1) + 1) + 1) + 1) + 1) + 1) + 1) + 1) + 1) + 1 ≤ MC by omega) (show (((((((((((((((((((((((((((n + 65536) + 16384) + 64) + 64) + 768) + 768) + 256) + 2048) + 2048) + 70000) + 70000) + 202) + 202) + 202) + 202) + 202) + 24) + 24) + 1024) + 24) + 24) + 24) + 24) + 4100) + 4100) + 4100) + 8192) + _ ≤ MS by rw [enq110]; omega) (xb_d D_M_init 112 rfl) (fun q110 H hqq110 hR hS => ?_)
  rw [enq110] at hR ⊢
  have hw := hw q110 hqq110
  obtain ⟨h111, eh111⟩ : ∃ x : xb_H, x = xb_new h109 q110 102 8192 := ⟨_, rfl⟩
  rw [← eh111] at hR
  have hw := hw h111 eh111
  have hE : xb_ext h0 h111 := by rw [eh111]; exact hE.new _ _ hqq110
  have hk112 : xb_k h111 q110 = 102 := by rw [eh111]; exact xb_new_k _ _ _ _
  have hk4 : xb_k h109 x0 = 9 := by rw [eh109]; exact hk4
  have hk4 : xb_k h111 x0 = 9 := by rw [eh111]; exact xb_nk hqq110 hk4
  refine xb_putPF (C := R_M) (T := F_M) (N := 97) (ty := .array .int) (x := (some q110)) hx hb 8 45 hts fin_M t_M t_M_ok n_M hown hR hS hk4 (by decide) rfl (by decide) rfl (hts _ m_4c98e665) (fun _ h9 => h9) rfl hnm rfl (by decide +kernel) (xb_pnA _ _).1 (xb_pnA _ _).2 (xb_d D_M_init 113 rfl) (fun H locs hR hS => ?_)
  obtain ⟨h113, eh113⟩ : ∃ x : xb_H, x = xb_P h111 x0 45 (some q110) := ⟨_, rfl⟩
  rw [← eh113] at hR
  have hw := hw h113 eh113
  have hE : xb_ext h0 h113 := by rw [eh113]; exact hE
  refine lv_aload_n hx hb (xb_d D_M_init 114 rfl) rfl (lv_at hl 0 rfl) ?_
  refine lv_bipush (v := 24) hx hb (xb_d D_M_init 115 rfl) (by decide) ?_
  obtain ⟨hcq114, hsq114, hw⟩ := hw
  have enq114 : (24 : Int32).toNatClampNeg = 24 := by decide
  refine xb_newa_i hx hb (hts _ m_d160d5ac) hR hS hA (by decide) (by decide +kernel) (show ((((((((((((((((((((((((((((k + 1) + 1) + 1) + 1) + 1) + 1) + 1) + 1) + 1) + 1) + 1) + 1) + 1) + 1) + 1) + 1) + 1) + 1) + 1) + 1) + 1) + 1) + 1) + 1) + 1) + 1) + 1) + 1) + 1 ≤ MC by omega) (show ((((((((((((((((((((((((((((n + 65536) + 16384) + 64) + 64) + 768) + 768) + 256) + 2048) + 2048) + 70000) + 70000) + 202) + 202) + 202) + 202) + 202) + 24) + 24) + 1024) + 24) + 24) + 24) + 24) + 4100) + 4100) + 4100) + 8192) + 8192) + _ ≤ MS by rw [enq114]; omega) (xb_d D_M_init 116 rfl) (fun q114 H hqq114 hR hS => ?_)
  rw [enq114] at hR ⊢
  have hw := hw q114 hqq114
  obtain ⟨h115, eh115⟩ : ∃ x : xb_H, x = xb_new h113 q114 102 24 := ⟨_, rfl⟩
  rw [← eh115] at hR
  have hw := hw h115 eh115
  have hE : xb_ext h0 h115 := by rw [eh115]; exact hE.new _ _ hqq114
  have hk116 : xb_k h115 q114 = 102 := by rw [eh115]; exact xb_new_k _ _ _ _
  have hk4 : xb_k h113 x0 = 9 := by rw [eh113]; exact hk4
  have hk4 : xb_k h115 x0 = 9 := by rw [eh115]; exact xb_nk hqq114 hk4
  refine xb_putPF (C := R_M) (T := F_M) (N := 97) (ty := .array .int) (x := (some q114)) hx hb 8 48 hts fin_M t_M t_M_ok n_M hown hR hS hk4 (by decide) rfl (by decide) rfl (hts _ m_f28a3cfc) (fun _ h9 => h9) rfl hnm rfl (by decide +kernel) (xb_pnA _ _).1 (xb_pnA _ _).2 (xb_d D_M_init 117 rfl) (fun H locs hR hS => ?_)
  obtain ⟨h117, eh117⟩ : ∃ x : xb_H, x = xb_P h115 x0 48 (some q114) := ⟨_, rfl⟩
  rw [← eh117] at hR
  have hw := hw h117 eh117
  have hE : xb_ext h0 h117 := by rw [eh117]; exact hE
  refine lv_aload_n hx hb (xb_d D_M_init 118 rfl) rfl (lv_at hl 0 rfl) ?_
  refine lv_bipush (v := 24) hx hb (xb_d D_M_init 119 rfl) (by decide) ?_
  obtain ⟨hcq118, hsq118, hw⟩ := hw
  have enq118 : (24 : Int32).toNatClampNeg = 24 := by decide
  refine xb_newa_i hx hb (hts _ m_d160d5ac) hR hS hA (by decide) (by decide +kernel) (show (((((((((((((((((((((((((((((k + 1) + 1) + 1) + 1) + 1) + 1) + 1) + 1) + 1) + 1) + 1) + 1) + 1) + 1) + 1) + 1) + 1) + 1) + 1) + 1) + 1) + 1) + 1) + 1) + 1) + 1) + 1) + 1) + 1) + 1 ≤ MC by omega) (show (((((((((((((((((((((((((((((n + 65536) + 16384) + 64) + 64) + 768) + 768) + 256) + 2048) + 2048) + 70000) + 70000) + 202) + 202) + 202) + 202) + 202) + 24) + 24) + 1024) + 24) + 24) + 24) + 24) + 4100) + 4100) + 4100) + 8192) + 8192) + 24) + _ ≤ MS by rw [enq118]; omega) (xb_d D_M_init 120 rfl) (fun q118 H hqq118 hR hS => ?_)
  rw [enq118] at hR ⊢
  have hw := hw q118 hqq118
  obtain ⟨h119, eh119⟩ : ∃ x : xb_H, x = xb_new h117 q118 102 24 := ⟨_, rfl⟩
  rw [← eh119] at hR
  have hw := hw h119 eh119
  have hE : xb_ext h0 h119 := by rw [eh119]; exact hE.new _ _ hqq118
  have hk120 : xb_k h119 q118 = 102 := by rw [eh119]; exact xb_new_k _ _ _ _
  have hk4 : xb_k h117 x0 = 9 := by rw [eh117]; exact hk4
  have hk4 : xb_k h119 x0 = 9 := by rw [eh119]; exact xb_nk hqq118 hk4
  refine xb_putPF (C := R_M) (T := F_M) (N := 97) (ty := .array .int) (x := (some q118)) hx hb 8 49 hts fin_M t_M t_M_ok n_M hown hR hS hk4 (by decide) rfl (by decide) rfl (hts _ m_0c329d74) (fun _ h9 => h9) rfl hnm rfl (by decide +kernel) (xb_pnA _ _).1 (xb_pnA _ _).2 (xb_d D_M_init 121 rfl) (fun H locs hR hS => ?_)
  obtain ⟨h121, eh121⟩ : ∃ x : xb_H, x = xb_P h119 x0 49 (some q118) := ⟨_, rfl⟩
  rw [← eh121] at hR
  have hw := hw h121 eh121
  have hE : xb_ext h0 h121 := by rw [eh121]; exact hE
  refine lv_aload_n hx hb (xb_d D_M_init 122 rfl) rfl (lv_at hl 0 rfl) ?_
  refine lv_bipush (v := 24) hx hb (xb_d D_M_init 123 rfl) (by decide) ?_
  obtain ⟨hcq122, hsq122, hw⟩ := hw
  have enq122 : (24 : Int32).toNatClampNeg = 24 := by decide
  refine xb_newa_l hx hb (hts _ m_f2af499d) hR hS hA (by decide) (by decide +kernel) (show ((((((((((((((((((((((((((((((k + 1) + 1) + 1) + 1) + 1) + 1) + 1) + 1) + 1) + 1) + 1) + 1) + 1) + 1) + 1) + 1) + 1) + 1) + 1) + 1) + 1) + 1) + 1) + 1) + 1) + 1) + 1) + 1) + 1) + 1) + 1 ≤ MC by omega) (show ((((((((((((((((((((((((((((((n + 65536) + 16384) + 64) + 64) + 768) + 768) + 256) + 2048) + 2048) + 70000) + 70000) + 202) + 202) + 202) + 202) + 202) + 24) + 24) + 1024) + 24) + 24) + 24) + 24) + 4100) + 4100) + 4100) + 8192) + 8192) + 24) + 24) + _ ≤ MS by rw [enq122]; omega) (xb_d D_M_init 124 rfl) (fun q122 H hqq122 hR hS => ?_)
  rw [enq122] at hR ⊢
  have hw := hw q122 hqq122
  obtain ⟨h123, eh123⟩ : ∃ x : xb_H, x = xb_new h121 q122 103 24 := ⟨_, rfl⟩
  rw [← eh123] at hR
  have hw := hw h123 eh123
  have hE : xb_ext h0 h123 := by rw [eh123]; exact hE.new _ _ hqq122
  have hk124 : xb_k h123 q122 = 103 := by rw [eh123]; exact xb_new_k _ _ _ _
  have hk4 : xb_k h121 x0 = 9 := by rw [eh121]; exact hk4
  have hk4 : xb_k h123 x0 = 9 := by rw [eh123]; exact xb_nk hqq122 hk4
  refine xb_putPF (C := R_M) (T := F_M) (N := 97) (ty := .array .long) (x := (some q122)) hx hb 8 50 hts fin_M t_M t_M_ok n_M hown hR hS hk4 (by decide) rfl (by decide) rfl (hts _ m_e0cd2898) (fun _ h9 => h9) rfl hnm rfl (by decide +kernel) (xb_pnA _ _).1 (xb_pnA _ _).2 (xb_d D_M_init 125 rfl) (fun H locs hR hS => ?_)
  obtain ⟨h125, eh125⟩ : ∃ x : xb_H, x = xb_P h123 x0 50 (some q122) := ⟨_, rfl⟩
  rw [← eh125] at hR
  have hw := hw h125 eh125
  have hE : xb_ext h0 h125 := by rw [eh125]; exact hE
  refine lv_aload_n hx hb (xb_d D_M_init 126 rfl) rfl (lv_at hl 0 rfl) ?_
  refine lv_sipush (v := 16384) hx hb (xb_d D_M_init 127 rfl) (by decide) ?_
  obtain ⟨hcq126, hsq126, hw⟩ := hw
  have enq126 : (16384 : Int32).toNatClampNeg = 16384 := by decide
  refine xb_newa_i hx hb (hts _ m_d160d5ac) hR hS hA (by decide) (by decide +kernel) (show (((((((((((((((((((((((((((((((k + 1) + 1) + 1) + 1) + 1) + 1) + 1) + 1) + 1) + 1) + 1) + 1) + 1) + 1) + 1) + 1) + 1) + 1) + 1) + 1) + 1) + 1) + 1) + 1) + 1) + 1) + 1) + 1) + 1) + 1) + 1) + 1 ≤ MC by omega) (show (((((((((((((((((((((((((((((((n + 65536) + 16384) + 64) + 64) + 768) + 768) + 256) + 2048) + 2048) + 70000) + 70000) + 202) + 202) + 202) + 202) + 202) + 24) + 24) + 1024) + 24) + 24) + 24) + 24) + 4100) + 4100) + 4100) + 8192) + 8192) + 24) + 24) + 24) + _ ≤ MS by rw [enq126]; omega) (xb_d D_M_init 128 rfl) (fun q126 H hqq126 hR hS => ?_)
  rw [enq126] at hR ⊢
  have hw := hw q126 hqq126
  obtain ⟨h127, eh127⟩ : ∃ x : xb_H, x = xb_new h125 q126 102 16384 := ⟨_, rfl⟩
  rw [← eh127] at hR
  have hw := hw h127 eh127
  have hE : xb_ext h0 h127 := by rw [eh127]; exact hE.new _ _ hqq126
  have hk128 : xb_k h127 q126 = 102 := by rw [eh127]; exact xb_new_k _ _ _ _
  have hk4 : xb_k h125 x0 = 9 := by rw [eh125]; exact hk4
  have hk4 : xb_k h127 x0 = 9 := by rw [eh127]; exact xb_nk hqq126 hk4
  refine xb_putPF (C := R_M) (T := F_M) (N := 97) (ty := .array .int) (x := (some q126)) hx hb 8 51 hts fin_M t_M t_M_ok n_M hown hR hS hk4 (by decide) rfl (by decide) rfl (hts _ m_c18d3c89) (fun _ h9 => h9) rfl hnm rfl (by decide +kernel) (xb_pnA _ _).1 (xb_pnA _ _).2 (xb_d D_M_init 129 rfl) (fun H locs hR hS => ?_)
  obtain ⟨h129, eh129⟩ : ∃ x : xb_H, x = xb_P h127 x0 51 (some q126) := ⟨_, rfl⟩
  rw [← eh129] at hR
  have hw := hw h129 eh129
  have hE : xb_ext h0 h129 := by rw [eh129]; exact hE
  refine lv_aload_n hx hb (xb_d D_M_init 130 rfl) rfl (lv_at hl 0 rfl) ?_
  refine lv_bipush (v := 24) hx hb (xb_d D_M_init 131 rfl) (by decide) ?_
  obtain ⟨hcq130, hsq130, hw⟩ := hw
  have enq130 : (24 : Int32).toNatClampNeg = 24 := by decide
  refine xb_newa_i hx hb (hts _ m_d160d5ac) hR hS hA (by decide) (by decide +kernel) (show ((((((((((((((((((((((((((((((((k + 1) + 1) + 1) + 1) + 1) + 1) + 1) + 1) + 1) + 1) + 1) + 1) + 1) + 1) + 1) + 1) + 1) + 1) + 1) + 1) + 1) + 1) + 1) + 1) + 1) + 1) + 1) + 1) + 1) + 1) + 1) + 1) + 1 ≤ MC by omega) (show ((((((((((((((((((((((((((((((((n + 65536) + 16384) + 64) + 64) + 768) + 768) + 256) + 2048) + 2048) + 70000) + 70000) + 202) + 202) + 202) + 202) + 202) + 24) + 24) + 1024) + 24) + 24) + 24) + 24) + 4100) + 4100) + 4100) + 8192) + 8192) + 24) + 24) + 24) + 16384) + _ ≤ MS by rw [enq130]; omega) (xb_d D_M_init 132 rfl) (fun q130 H hqq130 hR hS => ?_)
  rw [enq130] at hR ⊢
  have hw := hw q130 hqq130
  obtain ⟨h131, eh131⟩ : ∃ x : xb_H, x = xb_new h129 q130 102 24 := ⟨_, rfl⟩
  rw [← eh131] at hR
  have hw := hw h131 eh131
  have hE : xb_ext h0 h131 := by rw [eh131]; exact hE.new _ _ hqq130
  have hk132 : xb_k h131 q130 = 102 := by rw [eh131]; exact xb_new_k _ _ _ _
  have hk4 : xb_k h129 x0 = 9 := by rw [eh129]; exact hk4
  have hk4 : xb_k h131 x0 = 9 := by rw [eh131]; exact xb_nk hqq130 hk4
  refine xb_putPF (C := R_M) (T := F_M) (N := 97) (ty := .array .int) (x := (some q130)) hx hb 8 54 hts fin_M t_M t_M_ok n_M hown hR hS hk4 (by decide) rfl (by decide) rfl (hts _ m_605483d9) (fun _ h9 => h9) rfl hnm rfl (by decide +kernel) (xb_pnA _ _).1 (xb_pnA _ _).2 (xb_d D_M_init 133 rfl) (fun H locs hR hS => ?_)
  obtain ⟨h133, eh133⟩ : ∃ x : xb_H, x = xb_P h131 x0 54 (some q130) := ⟨_, rfl⟩
  rw [← eh133] at hR
  have hw := hw h133 eh133
  have hE : xb_ext h0 h133 := by rw [eh133]; exact hE
  refine lv_aload_n hx hb (xb_d D_M_init 134 rfl) rfl (lv_at hl 0 rfl) ?_
  refine lv_bipush (v := 24) hx hb (xb_d D_M_init 135 rfl) (by decide) ?_
  obtain ⟨hcq134, hsq134, hw⟩ := hw
  have enq134 : (24 : Int32).toNatClampNeg = 24 := by decide
  refine xb_newa_l hx hb (hts _ m_f2af499d) hR hS hA (by decide) (by decide +kernel) (show (((((((((((((((((((((((((((((((((k + 1) + 1) + 1) + 1) + 1) + 1) + 1) + 1) + 1) + 1) + 1) + 1) + 1) + 1) + 1) + 1) + 1) + 1) + 1) + 1) + 1) + 1) + 1) + 1) + 1) + 1) + 1) + 1) + 1) + 1) + 1) + 1) + 1) + 1 ≤ MC by omega) (show (((((((((((((((((((((((((((((((((n + 65536) + 16384) + 64) + 64) + 768) + 768) + 256) + 2048) + 2048) + 70000) + 70000) + 202) + 202) + 202) + 202) + 202) + 24) + 24) + 1024) + 24) + 24) + 24) + 24) + 4100) + 4100) + 4100) + 8192) + 8192) + 24) + 24) + 24) + 16384) + 24) + _ ≤ MS by rw [enq134]; omega) (xb_d D_M_init 136 rfl) (fun q134 H hqq134 hR hS => ?_)
  rw [enq134] at hR ⊢
  have hw := hw q134 hqq134
  obtain ⟨h135, eh135⟩ : ∃ x : xb_H, x = xb_new h133 q134 103 24 := ⟨_, rfl⟩
  rw [← eh135] at hR
  have hw := hw h135 eh135
  have hE : xb_ext h0 h135 := by rw [eh135]; exact hE.new _ _ hqq134
  have hk136 : xb_k h135 q134 = 103 := by rw [eh135]; exact xb_new_k _ _ _ _
  have hk4 : xb_k h133 x0 = 9 := by rw [eh133]; exact hk4
  have hk4 : xb_k h135 x0 = 9 := by rw [eh135]; exact xb_nk hqq134 hk4
  refine xb_putPF (C := R_M) (T := F_M) (N := 97) (ty := .array .long) (x := (some q134)) hx hb 8 55 hts fin_M t_M t_M_ok n_M hown hR hS hk4 (by decide) rfl (by decide) rfl (hts _ m_e77abcfd) (fun _ h9 => h9) rfl hnm rfl (by decide +kernel) (xb_pnA _ _).1 (xb_pnA _ _).2 (xb_d D_M_init 137 rfl) (fun H locs hR hS => ?_)
  obtain ⟨h137, eh137⟩ : ∃ x : xb_H, x = xb_P h135 x0 55 (some q134) := ⟨_, rfl⟩
  rw [← eh137] at hR
  have hw := hw h137 eh137
  have hE : xb_ext h0 h137 := by rw [eh137]; exact hE
  refine lv_aload_n hx hb (xb_d D_M_init 138 rfl) rfl (lv_at hl 0 rfl) ?_
  refine lv_sipush (v := 384) hx hb (xb_d D_M_init 139 rfl) (by decide) ?_
  obtain ⟨hcq138, hsq138, hw⟩ := hw
  have enq138 : (384 : Int32).toNatClampNeg = 384 := by decide
  refine xb_newa_i hx hb (hts _ m_d160d5ac) hR hS hA (by decide) (by decide +kernel) (show ((((((((((((((((((((((((((((((((((k + 1) + 1) + 1) + 1) + 1) + 1) + 1) + 1) + 1) + 1) + 1) + 1) + 1) + 1) + 1) + 1) + 1) + 1) + 1) + 1) + 1) + 1) + 1) + 1) + 1) + 1) + 1) + 1) + 1) + 1) + 1) + 1) + 1) + 1) + 1 ≤ MC by omega) (show ((((((((((((((((((((((((((((((((((n + 65536) + 16384) + 64) + 64) + 768) + 768) + 256) + 2048) + 2048) + 70000) + 70000) + 202) + 202) + 202) + 202) + 202) + 24) + 24) + 1024) + 24) + 24) + 24) + 24) + 4100) + 4100) + 4100) + 8192) + 8192) + 24) + 24) + 24) + 16384) + 24) + 24) + _ ≤ MS by rw [enq138]; omega) (xb_d D_M_init 140 rfl) (fun q138 H hqq138 hR hS => ?_)
  rw [enq138] at hR ⊢
  have hw := hw q138 hqq138
  obtain ⟨h139, eh139⟩ : ∃ x : xb_H, x = xb_new h137 q138 102 384 := ⟨_, rfl⟩
  rw [← eh139] at hR
  have hw := hw h139 eh139
  have hE : xb_ext h0 h139 := by rw [eh139]; exact hE.new _ _ hqq138
  have hk140 : xb_k h139 q138 = 102 := by rw [eh139]; exact xb_new_k _ _ _ _
  have hk4 : xb_k h137 x0 = 9 := by rw [eh137]; exact hk4
  have hk4 : xb_k h139 x0 = 9 := by rw [eh139]; exact xb_nk hqq138 hk4
  refine xb_putPF (C := R_M) (T := F_M) (N := 97) (ty := .array .int) (x := (some q138)) hx hb 8 56 hts fin_M t_M t_M_ok n_M hown hR hS hk4 (by decide) rfl (by decide) rfl (hts _ m_e7f615b2) (fun _ h9 => h9) rfl hnm rfl (by decide +kernel) (xb_pnA _ _).1 (xb_pnA _ _).2 (xb_d D_M_init 141 rfl) (fun H locs hR hS => ?_)
  obtain ⟨h141, eh141⟩ : ∃ x : xb_H, x = xb_P h139 x0 56 (some q138) := ⟨_, rfl⟩
  rw [← eh141] at hR
  have hw := hw h141 eh141
  have hE : xb_ext h0 h141 := by rw [eh141]; exact hE
  refine lv_aload_n hx hb (xb_d D_M_init 142 rfl) rfl (lv_at hl 0 rfl) ?_
  refine lv_ldc (v := 1048576) hx hb hown (hts _ m_83aeecf2) (xb_d D_M_init 143 rfl) ?_
  obtain ⟨hcq142, hsq142, hw⟩ := hw
  have enq142 : (1048576 : Int32).toNatClampNeg = 1048576 := by decide
  refine xb_newa_b hx hb (hts _ m_2503b19f) hR hS hA (by decide) (by decide +kernel) (show (((((((((((((((((((((((((((((((((((k + 1) + 1) + 1) + 1) + 1) + 1) + 1) + 1) + 1) + 1) + 1) + 1) + 1) + 1) + 1) + 1) + 1) + 1) + 1) + 1) + 1) + 1) + 1) + 1) + 1) + 1) + 1) + 1) + 1) + 1) + 1) + 1) + 1) + 1) + 1) + 1 ≤ MC by omega) (show (((((((((((((((((((((((((((((((((((n + 65536) + 16384) + 64) + 64) + 768) + 768) + 256) + 2048) + 2048) + 70000) + 70000) + 202) + 202) + 202) + 202) + 202) + 24) + 24) + 1024) + 24) + 24) + 24) + 24) + 4100) + 4100) + 4100) + 8192) + 8192) + 24) + 24) + 24) + 16384) + 24) + 24) + 384) + _ ≤ MS by rw [enq142]; omega) (xb_d D_M_init 144 rfl) (fun q142 H hqq142 hR hS => ?_)
  rw [enq142] at hR ⊢
  have hw := hw q142 hqq142
  obtain ⟨h143, eh143⟩ : ∃ x : xb_H, x = xb_new h141 q142 100 1048576 := ⟨_, rfl⟩
  rw [← eh143] at hR
  have hw := hw h143 eh143
  have hE : xb_ext h0 h143 := by rw [eh143]; exact hE.new _ _ hqq142
  have hk144 : xb_k h143 q142 = 100 := by rw [eh143]; exact xb_new_k _ _ _ _
  have hk4 : xb_k h141 x0 = 9 := by rw [eh141]; exact hk4
  have hk4 : xb_k h143 x0 = 9 := by rw [eh143]; exact xb_nk hqq142 hk4
  refine xb_putPF (C := R_M) (T := F_M) (N := 97) (ty := .array .byte) (x := (some q142)) hx hb 8 57 hts fin_M t_M t_M_ok n_M hown hR hS hk4 (by decide) rfl (by decide) rfl (hts _ m_2087260c) (fun _ h9 => h9) rfl hnm rfl (by decide +kernel) (xb_pnA _ _).1 (xb_pnA _ _).2 (xb_d D_M_init 145 rfl) (fun H locs hR hS => ?_)
  obtain ⟨h145, eh145⟩ : ∃ x : xb_H, x = xb_P h143 x0 57 (some q142) := ⟨_, rfl⟩
  rw [← eh145] at hR
  have hw := hw h145 eh145
  have hE : xb_ext h0 h145 := by rw [eh145]; exact hE
  refine lv_aload_n hx hb (xb_d D_M_init 146 rfl) rfl (lv_at hl 0 rfl) ?_
  refine lv_sipush (v := 4096) hx hb (xb_d D_M_init 147 rfl) (by decide) ?_
  obtain ⟨hcq146, hsq146, hw⟩ := hw
  have enq146 : (4096 : Int32).toNatClampNeg = 4096 := by decide
  refine xb_newa_i hx hb (hts _ m_d160d5ac) hR hS hA (by decide) (by decide +kernel) (show ((((((((((((((((((((((((((((((((((((k + 1) + 1) + 1) + 1) + 1) + 1) + 1) + 1) + 1) + 1) + 1) + 1) + 1) + 1) + 1) + 1) + 1) + 1) + 1) + 1) + 1) + 1) + 1) + 1) + 1) + 1) + 1) + 1) + 1) + 1) + 1) + 1) + 1) + 1) + 1) + 1) + 1 ≤ MC by omega) (show ((((((((((((((((((((((((((((((((((((n + 65536) + 16384) + 64) + 64) + 768) + 768) + 256) + 2048) + 2048) + 70000) + 70000) + 202) + 202) + 202) + 202) + 202) + 24) + 24) + 1024) + 24) + 24) + 24) + 24) + 4100) + 4100) + 4100) + 8192) + 8192) + 24) + 24) + 24) + 16384) + 24) + 24) + 384) + 1048576) + _ ≤ MS by rw [enq146]; omega) (xb_d D_M_init 148 rfl) (fun q146 H hqq146 hR hS => ?_)
  rw [enq146] at hR ⊢
  have hw := hw q146 hqq146
  obtain ⟨h147, eh147⟩ : ∃ x : xb_H, x = xb_new h145 q146 102 4096 := ⟨_, rfl⟩
  rw [← eh147] at hR
  have hw := hw h147 eh147
  have hE : xb_ext h0 h147 := by rw [eh147]; exact hE.new _ _ hqq146
  have hk148 : xb_k h147 q146 = 102 := by rw [eh147]; exact xb_new_k _ _ _ _
  have hk4 : xb_k h145 x0 = 9 := by rw [eh145]; exact hk4
  have hk4 : xb_k h147 x0 = 9 := by rw [eh147]; exact xb_nk hqq146 hk4
  refine xb_putPF (C := R_M) (T := F_M) (N := 97) (ty := .array .int) (x := (some q146)) hx hb 8 59 hts fin_M t_M t_M_ok n_M hown hR hS hk4 (by decide) rfl (by decide) rfl (hts _ m_3369fcb7) (fun _ h9 => h9) rfl hnm rfl (by decide +kernel) (xb_pnA _ _).1 (xb_pnA _ _).2 (xb_d D_M_init 149 rfl) (fun H locs hR hS => ?_)
  obtain ⟨h149, eh149⟩ : ∃ x : xb_H, x = xb_P h147 x0 59 (some q146) := ⟨_, rfl⟩
  rw [← eh149] at hR
  have hw := hw h149 eh149
  have hE : xb_ext h0 h149 := by rw [eh149]; exact hE
  refine lv_aload_n hx hb (xb_d D_M_init 150 rfl) rfl (lv_at hl 0 rfl) ?_
  refine lv_sipush (v := 4096) hx hb (xb_d D_M_init 151 rfl) (by decide) ?_
  obtain ⟨hcq150, hsq150, hw⟩ := hw
  have enq150 : (4096 : Int32).toNatClampNeg = 4096 := by decide
  refine xb_newa_z hx hb (hts _ m_3be30871) hR hS hA (by decide) (by decide +kernel) (show (((((((((((((((((((((((((((((((((((((k + 1) + 1) + 1) + 1) + 1) + 1) + 1) + 1) + 1) + 1) + 1) + 1) + 1) + 1) + 1) + 1) + 1) + 1) + 1) + 1) + 1) + 1) + 1) + 1) + 1) + 1) + 1) + 1) + 1) + 1) + 1) + 1) + 1) + 1) + 1) + 1) + 1) + 1 ≤ MC by omega) (show (((((((((((((((((((((((((((((((((((((n + 65536) + 16384) + 64) + 64) + 768) + 768) + 256) + 2048) + 2048) + 70000) + 70000) + 202) + 202) + 202) + 202) + 202) + 24) + 24) + 1024) + 24) + 24) + 24) + 24) + 4100) + 4100) + 4100) + 8192) + 8192) + 24) + 24) + 24) + 16384) + 24) + 24) + 384) + 1048576) + 4096) + _ ≤ MS by rw [enq150]; omega) (xb_d D_M_init 152 rfl) (fun q150 H hqq150 hR hS => ?_)
  rw [enq150] at hR ⊢
  have hw := hw q150 hqq150
  obtain ⟨h151, eh151⟩ : ∃ x : xb_H, x = xb_new h149 q150 101 4096 := ⟨_, rfl⟩
  rw [← eh151] at hR
  have hw := hw h151 eh151
  have hE : xb_ext h0 h151 := by rw [eh151]; exact hE.new _ _ hqq150
  have hk152 : xb_k h151 q150 = 101 := by rw [eh151]; exact xb_new_k _ _ _ _
  have hk4 : xb_k h149 x0 = 9 := by rw [eh149]; exact hk4
  have hk4 : xb_k h151 x0 = 9 := by rw [eh151]; exact xb_nk hqq150 hk4
  refine xb_putPF (C := R_M) (T := F_M) (N := 97) (ty := .array .boolean) (x := (some q150)) hx hb 8 60 hts fin_M t_M t_M_ok n_M hown hR hS hk4 (by decide) rfl (by decide) rfl (hts _ m_b875e939) (fun _ h9 => h9) rfl hnm rfl (by decide +kernel) (xb_pnA _ _).1 (xb_pnA _ _).2 (xb_d D_M_init 153 rfl) (fun H locs hR hS => ?_)
  obtain ⟨h153, eh153⟩ : ∃ x : xb_H, x = xb_P h151 x0 60 (some q150) := ⟨_, rfl⟩
  rw [← eh153] at hR
  have hw := hw h153 eh153
  have hE : xb_ext h0 h153 := by rw [eh153]; exact hE
  refine lv_aload_n hx hb (xb_d D_M_init 154 rfl) rfl (lv_at hl 0 rfl) ?_
  refine lv_sipush (v := 4096) hx hb (xb_d D_M_init 155 rfl) (by decide) ?_
  obtain ⟨hcq154, hsq154, hw⟩ := hw
  have enq154 : (4096 : Int32).toNatClampNeg = 4096 := by decide
  refine xb_newa_l hx hb (hts _ m_f2af499d) hR hS hA (by decide) (by decide +kernel) (show ((((((((((((((((((((((((((((((((((((((k + 1) + 1) + 1) + 1) + 1) + 1) + 1) + 1) + 1) + 1) + 1) + 1) + 1) + 1) + 1) + 1) + 1) + 1) + 1) + 1) + 1) + 1) + 1) + 1) + 1) + 1) + 1) + 1) + 1) + 1) + 1) + 1) + 1) + 1) + 1) + 1) + 1) + 1) + 1 ≤ MC by omega) (show ((((((((((((((((((((((((((((((((((((((n + 65536) + 16384) + 64) + 64) + 768) + 768) + 256) + 2048) + 2048) + 70000) + 70000) + 202) + 202) + 202) + 202) + 202) + 24) + 24) + 1024) + 24) + 24) + 24) + 24) + 4100) + 4100) + 4100) + 8192) + 8192) + 24) + 24) + 24) + 16384) + 24) + 24) + 384) + 1048576) + 4096) + 4096) + _ ≤ MS by rw [enq154]; omega) (xb_d D_M_init 156 rfl) (fun q154 H hqq154 hR hS => ?_)
  rw [enq154] at hR ⊢
  have hw := hw q154 hqq154
  obtain ⟨h155, eh155⟩ : ∃ x : xb_H, x = xb_new h153 q154 103 4096 := ⟨_, rfl⟩
  rw [← eh155] at hR
  have hw := hw h155 eh155
  have hE : xb_ext h0 h155 := by rw [eh155]; exact hE.new _ _ hqq154
  have hk156 : xb_k h155 q154 = 103 := by rw [eh155]; exact xb_new_k _ _ _ _
  have hk4 : xb_k h153 x0 = 9 := by rw [eh153]; exact hk4
  have hk4 : xb_k h155 x0 = 9 := by rw [eh155]; exact xb_nk hqq154 hk4
  refine xb_putPF (C := R_M) (T := F_M) (N := 97) (ty := .array .long) (x := (some q154)) hx hb 8 61 hts fin_M t_M t_M_ok n_M hown hR hS hk4 (by decide) rfl (by decide) rfl (hts _ m_418ce3a7) (fun _ h9 => h9) rfl hnm rfl (by decide +kernel) (xb_pnA _ _).1 (xb_pnA _ _).2 (xb_d D_M_init 157 rfl) (fun H locs hR hS => ?_)
  obtain ⟨h157, eh157⟩ : ∃ x : xb_H, x = xb_P h155 x0 61 (some q154) := ⟨_, rfl⟩
  rw [← eh157] at hR
  have hw := hw h157 eh157
  have hE : xb_ext h0 h157 := by rw [eh157]; exact hE
  refine lv_aload_n hx hb (xb_d D_M_init 158 rfl) rfl (lv_at hl 0 rfl) ?_
  refine lv_sipush (v := 1000) hx hb (xb_d D_M_init 159 rfl) (by decide) ?_
  obtain ⟨hcq158, hsq158, hw⟩ := hw
  have enq158 : (1000 : Int32).toNatClampNeg = 1000 := by decide
  refine xb_newa_l hx hb (hts _ m_f2af499d) hR hS hA (by decide) (by decide +kernel) (show (((((((((((((((((((((((((((((((((((((((k + 1) + 1) + 1) + 1) + 1) + 1) + 1) + 1) + 1) + 1) + 1) + 1) + 1) + 1) + 1) + 1) + 1) + 1) + 1) + 1) + 1) + 1) + 1) + 1) + 1) + 1) + 1) + 1) + 1) + 1) + 1) + 1) + 1) + 1) + 1) + 1) + 1) + 1) + 1) + 1 ≤ MC by omega) (show (((((((((((((((((((((((((((((((((((((((n + 65536) + 16384) + 64) + 64) + 768) + 768) + 256) + 2048) + 2048) + 70000) + 70000) + 202) + 202) + 202) + 202) + 202) + 24) + 24) + 1024) + 24) + 24) + 24) + 24) + 4100) + 4100) + 4100) + 8192) + 8192) + 24) + 24) + 24) + 16384) + 24) + 24) + 384) + 1048576) + 4096) + 4096) + 4096) + _ ≤ MS by rw [enq158]; omega) (xb_d D_M_init 160 rfl) (fun q158 H hqq158 hR hS => ?_)
  rw [enq158] at hR ⊢
  have hw := hw q158 hqq158
  obtain ⟨h159, eh159⟩ : ∃ x : xb_H, x = xb_new h157 q158 103 1000 := ⟨_, rfl⟩
  rw [← eh159] at hR
  have hw := hw h159 eh159
  have hE : xb_ext h0 h159 := by rw [eh159]; exact hE.new _ _ hqq158
  have hk160 : xb_k h159 q158 = 103 := by rw [eh159]; exact xb_new_k _ _ _ _
  have hk4 : xb_k h157 x0 = 9 := by rw [eh157]; exact hk4
  have hk4 : xb_k h159 x0 = 9 := by rw [eh159]; exact xb_nk hqq158 hk4
  refine xb_putPF (C := R_M) (T := F_M) (N := 97) (ty := .array .long) (x := (some q158)) hx hb 8 65 hts fin_M t_M t_M_ok n_M hown hR hS hk4 (by decide) rfl (by decide) rfl (hts _ m_37875847) (fun _ h9 => h9) rfl hnm rfl (by decide +kernel) (xb_pnA _ _).1 (xb_pnA _ _).2 (xb_d D_M_init 161 rfl) (fun H locs hR hS => ?_)
  obtain ⟨h161, eh161⟩ : ∃ x : xb_H, x = xb_P h159 x0 65 (some q158) := ⟨_, rfl⟩
  rw [← eh161] at hR
  have hw := hw h161 eh161
  have hE : xb_ext h0 h161 := by rw [eh161]; exact hE
  refine lv_aload_n hx hb (xb_d D_M_init 162 rfl) rfl (lv_at hl 0 rfl) ?_
  refine lv_sipush (v := 1000) hx hb (xb_d D_M_init 163 rfl) (by decide) ?_
  obtain ⟨hcq162, hsq162, hw⟩ := hw
  have enq162 : (1000 : Int32).toNatClampNeg = 1000 := by decide
  refine xb_newa_l hx hb (hts _ m_f2af499d) hR hS hA (by decide) (by decide +kernel) (show ((((((((((((((((((((((((((((((((((((((((k + 1) + 1) + 1) + 1) + 1) + 1) + 1) + 1) + 1) + 1) + 1) + 1) + 1) + 1) + 1) + 1) + 1) + 1) + 1) + 1) + 1) + 1) + 1) + 1) + 1) + 1) + 1) + 1) + 1) + 1) + 1) + 1) + 1) + 1) + 1) + 1) + 1) + 1) + 1) + 1) + 1 ≤ MC by omega) (show ((((((((((((((((((((((((((((((((((((((((n + 65536) + 16384) + 64) + 64) + 768) + 768) + 256) + 2048) + 2048) + 70000) + 70000) + 202) + 202) + 202) + 202) + 202) + 24) + 24) + 1024) + 24) + 24) + 24) + 24) + 4100) + 4100) + 4100) + 8192) + 8192) + 24) + 24) + 24) + 16384) + 24) + 24) + 384) + 1048576) + 4096) + 4096) + 4096) + 1000) + _ ≤ MS by rw [enq162]; omega) (xb_d D_M_init 164 rfl) (fun q162 H hqq162 hR hS => ?_)
  rw [enq162] at hR ⊢
  have hw := hw q162 hqq162
  obtain ⟨h163, eh163⟩ : ∃ x : xb_H, x = xb_new h161 q162 103 1000 := ⟨_, rfl⟩
  rw [← eh163] at hR
  have hw := hw h163 eh163
  have hE : xb_ext h0 h163 := by rw [eh163]; exact hE.new _ _ hqq162
  have hk164 : xb_k h163 q162 = 103 := by rw [eh163]; exact xb_new_k _ _ _ _
  have hk4 : xb_k h161 x0 = 9 := by rw [eh161]; exact hk4
  have hk4 : xb_k h163 x0 = 9 := by rw [eh163]; exact xb_nk hqq162 hk4
  refine xb_putPF (C := R_M) (T := F_M) (N := 97) (ty := .array .long) (x := (some q162)) hx hb 8 67 hts fin_M t_M t_M_ok n_M hown hR hS hk4 (by decide) rfl (by decide) rfl (hts _ m_8147510a) (fun _ h9 => h9) rfl hnm rfl (by decide +kernel) (xb_pnA _ _).1 (xb_pnA _ _).2 (xb_d D_M_init 165 rfl) (fun H locs hR hS => ?_)
  obtain ⟨h165, eh165⟩ : ∃ x : xb_H, x = xb_P h163 x0 67 (some q162) := ⟨_, rfl⟩
  rw [← eh165] at hR
  have hw := hw h165 eh165
  have hE : xb_ext h0 h165 := by rw [eh165]; exact hE
  refine lv_aload_n hx hb (xb_d D_M_init 166 rfl) rfl (lv_at hl 0 rfl) ?_
  refine lv_sipush (v := 200) hx hb (xb_d D_M_init 167 rfl) (by decide) ?_
  obtain ⟨hcq166, hsq166, hw⟩ := hw
  have enq166 : (200 : Int32).toNatClampNeg = 200 := by decide
  refine xb_newa_i hx hb (hts _ m_d160d5ac) hR hS hA (by decide) (by decide +kernel) (show (((((((((((((((((((((((((((((((((((((((((k + 1) + 1) + 1) + 1) + 1) + 1) + 1) + 1) + 1) + 1) + 1) + 1) + 1) + 1) + 1) + 1) + 1) + 1) + 1) + 1) + 1) + 1) + 1) + 1) + 1) + 1) + 1) + 1) + 1) + 1) + 1) + 1) + 1) + 1) + 1) + 1) + 1) + 1) + 1) + 1) + 1) + 1 ≤ MC by omega) (show (((((((((((((((((((((((((((((((((((((((((n + 65536) + 16384) + 64) + 64) + 768) + 768) + 256) + 2048) + 2048) + 70000) + 70000) + 202) + 202) + 202) + 202) + 202) + 24) + 24) + 1024) + 24) + 24) + 24) + 24) + 4100) + 4100) + 4100) + 8192) + 8192) + 24) + 24) + 24) + 16384) + 24) + 24) + 384) + 1048576) + 4096) + 4096) + 4096) + 1000) + 1000) + _ ≤ MS by rw [enq166]; omega) (xb_d D_M_init 168 rfl) (fun q166 H hqq166 hR hS => ?_)
  rw [enq166] at hR ⊢
  have hw := hw q166 hqq166
  obtain ⟨h167, eh167⟩ : ∃ x : xb_H, x = xb_new h165 q166 102 200 := ⟨_, rfl⟩
  rw [← eh167] at hR
  have hw := hw h167 eh167
  have hE : xb_ext h0 h167 := by rw [eh167]; exact hE.new _ _ hqq166
  have hk168 : xb_k h167 q166 = 102 := by rw [eh167]; exact xb_new_k _ _ _ _
  have hk4 : xb_k h165 x0 = 9 := by rw [eh165]; exact hk4
  have hk4 : xb_k h167 x0 = 9 := by rw [eh167]; exact xb_nk hqq166 hk4
  refine xb_putPF (C := R_M) (T := F_M) (N := 97) (ty := .array .int) (x := (some q166)) hx hb 8 69 hts fin_M t_M t_M_ok n_M hown hR hS hk4 (by decide) rfl (by decide) rfl (hts _ m_70e943ac) (fun _ h9 => h9) rfl hnm rfl (by decide +kernel) (xb_pnA _ _).1 (xb_pnA _ _).2 (xb_d D_M_init 169 rfl) (fun H locs hR hS => ?_)
  obtain ⟨h169, eh169⟩ : ∃ x : xb_H, x = xb_P h167 x0 69 (some q166) := ⟨_, rfl⟩
  rw [← eh169] at hR
  have hw := hw h169 eh169
  have hE : xb_ext h0 h169 := by rw [eh169]; exact hE
  refine lv_aload_n hx hb (xb_d D_M_init 170 rfl) rfl (lv_at hl 0 rfl) ?_
  refine lv_sipush (v := 200) hx hb (xb_d D_M_init 171 rfl) (by decide) ?_
  obtain ⟨hcq170, hsq170, hw⟩ := hw
  have enq170 : (200 : Int32).toNatClampNeg = 200 := by decide
  refine xb_newa_i hx hb (hts _ m_d160d5ac) hR hS hA (by decide) (by decide +kernel) (show ((((((((((((((((((((((((((((((((((((((((((k + 1) + 1) + 1) + 1) + 1) + 1) + 1) + 1) + 1) + 1) + 1) + 1) + 1) + 1) + 1) + 1) + 1) + 1) + 1) + 1) + 1) + 1) + 1) + 1) + 1) + 1) + 1) + 1) + 1) + 1) + 1) + 1) + 1) + 1) + 1) + 1) + 1) + 1) + 1) + 1) + 1) + 1) + 1 ≤ MC by omega) (show ((((((((((((((((((((((((((((((((((((((((((n + 65536) + 16384) + 64) + 64) + 768) + 768) + 256) + 2048) + 2048) + 70000) + 70000) + 202) + 202) + 202) + 202) + 202) + 24) + 24) + 1024) + 24) + 24) + 24) + 24) + 4100) + 4100) + 4100) + 8192) + 8192) + 24) + 24) + 24) + 16384) + 24) + 24) + 384) + 1048576) + 4096) + 4096) + 4096) + 1000) + 1000) + 200) + _ ≤ MS by rw [enq170]; omega) (xb_d D_M_init 172 rfl) (fun q170 H hqq170 hR hS => ?_)
  rw [enq170] at hR ⊢
  have hw := hw q170 hqq170
  obtain ⟨h171, eh171⟩ : ∃ x : xb_H, x = xb_new h169 q170 102 200 := ⟨_, rfl⟩
  rw [← eh171] at hR
  have hw := hw h171 eh171
  have hE : xb_ext h0 h171 := by rw [eh171]; exact hE.new _ _ hqq170
  have hk172 : xb_k h171 q170 = 102 := by rw [eh171]; exact xb_new_k _ _ _ _
  have hk4 : xb_k h169 x0 = 9 := by rw [eh169]; exact hk4
  have hk4 : xb_k h171 x0 = 9 := by rw [eh171]; exact xb_nk hqq170 hk4
  refine xb_putPF (C := R_M) (T := F_M) (N := 97) (ty := .array .int) (x := (some q170)) hx hb 8 70 hts fin_M t_M t_M_ok n_M hown hR hS hk4 (by decide) rfl (by decide) rfl (hts _ m_ab98e9c9) (fun _ h9 => h9) rfl hnm rfl (by decide +kernel) (xb_pnA _ _).1 (xb_pnA _ _).2 (xb_d D_M_init 173 rfl) (fun H locs hR hS => ?_)
  obtain ⟨h173, eh173⟩ : ∃ x : xb_H, x = xb_P h171 x0 70 (some q170) := ⟨_, rfl⟩
  rw [← eh173] at hR
  have hw := hw h173 eh173
  have hE : xb_ext h0 h173 := by rw [eh173]; exact hE
  refine lv_aload_n hx hb (xb_d D_M_init 174 rfl) rfl (lv_at hl 0 rfl) ?_
  refine lv_sipush (v := 200) hx hb (xb_d D_M_init 175 rfl) (by decide) ?_
  obtain ⟨hcq174, hsq174, hw⟩ := hw
  have enq174 : (200 : Int32).toNatClampNeg = 200 := by decide
  refine xb_newa_i hx hb (hts _ m_d160d5ac) hR hS hA (by decide) (by decide +kernel) (show (((((((((((((((((((((((((((((((((((((((((((k + 1) + 1) + 1) + 1) + 1) + 1) + 1) + 1) + 1) + 1) + 1) + 1) + 1) + 1) + 1) + 1) + 1) + 1) + 1) + 1) + 1) + 1) + 1) + 1) + 1) + 1) + 1) + 1) + 1) + 1) + 1) + 1) + 1) + 1) + 1) + 1) + 1) + 1) + 1) + 1) + 1) + 1) + 1) + 1 ≤ MC by omega) (show (((((((((((((((((((((((((((((((((((((((((((n + 65536) + 16384) + 64) + 64) + 768) + 768) + 256) + 2048) + 2048) + 70000) + 70000) + 202) + 202) + 202) + 202) + 202) + 24) + 24) + 1024) + 24) + 24) + 24) + 24) + 4100) + 4100) + 4100) + 8192) + 8192) + 24) + 24) + 24) + 16384) + 24) + 24) + 384) + 1048576) + 4096) + 4096) + 4096) + 1000) + 1000) + 200) + 200) + _ ≤ MS by rw [enq174]; omega) (xb_d D_M_init 176 rfl) (fun q174 H hqq174 hR hS => ?_)
  rw [enq174] at hR ⊢
  have hw := hw q174 hqq174
  obtain ⟨h175, eh175⟩ : ∃ x : xb_H, x = xb_new h173 q174 102 200 := ⟨_, rfl⟩
  rw [← eh175] at hR
  have hw := hw h175 eh175
  have hE : xb_ext h0 h175 := by rw [eh175]; exact hE.new _ _ hqq174
  have hk176 : xb_k h175 q174 = 102 := by rw [eh175]; exact xb_new_k _ _ _ _
  have hk4 : xb_k h173 x0 = 9 := by rw [eh173]; exact hk4
  have hk4 : xb_k h175 x0 = 9 := by rw [eh175]; exact xb_nk hqq174 hk4
  refine xb_putPF (C := R_M) (T := F_M) (N := 97) (ty := .array .int) (x := (some q174)) hx hb 8 71 hts fin_M t_M t_M_ok n_M hown hR hS hk4 (by decide) rfl (by decide) rfl (hts _ m_fa00c728) (fun _ h9 => h9) rfl hnm rfl (by decide +kernel) (xb_pnA _ _).1 (xb_pnA _ _).2 (xb_d D_M_init 177 rfl) (fun H locs hR hS => ?_)
  obtain ⟨h177, eh177⟩ : ∃ x : xb_H, x = xb_P h175 x0 71 (some q174) := ⟨_, rfl⟩
  rw [← eh177] at hR
  have hw := hw h177 eh177
  have hE : xb_ext h0 h177 := by rw [eh177]; exact hE
  refine lv_aload_n hx hb (xb_d D_M_init 178 rfl) rfl (lv_at hl 0 rfl) ?_
  refine lv_sipush (v := 200) hx hb (xb_d D_M_init 179 rfl) (by decide) ?_
  obtain ⟨hcq178, hsq178, hw⟩ := hw
  have enq178 : (200 : Int32).toNatClampNeg = 200 := by decide
  refine xb_newa_i hx hb (hts _ m_d160d5ac) hR hS hA (by decide) (by decide +kernel) (show ((((((((((((((((((((((((((((((((((((((((((((k + 1) + 1) + 1) + 1) + 1) + 1) + 1) + 1) + 1) + 1) + 1) + 1) + 1) + 1) + 1) + 1) + 1) + 1) + 1) + 1) + 1) + 1) + 1) + 1) + 1) + 1) + 1) + 1) + 1) + 1) + 1) + 1) + 1) + 1) + 1) + 1) + 1) + 1) + 1) + 1) + 1) + 1) + 1) + 1) + 1 ≤ MC by omega) (show ((((((((((((((((((((((((((((((((((((((((((((n + 65536) + 16384) + 64) + 64) + 768) + 768) + 256) + 2048) + 2048) + 70000) + 70000) + 202) + 202) + 202) + 202) + 202) + 24) + 24) + 1024) + 24) + 24) + 24) + 24) + 4100) + 4100) + 4100) + 8192) + 8192) + 24) + 24) + 24) + 16384) + 24) + 24) + 384) + 1048576) + 4096) + 4096) + 4096) + 1000) + 1000) + 200) + 200) + 200) + _ ≤ MS by rw [enq178]; omega) (xb_d D_M_init 180 rfl) (fun q178 H hqq178 hR hS => ?_)
  rw [enq178] at hR ⊢
  have hw := hw q178 hqq178
  obtain ⟨h179, eh179⟩ : ∃ x : xb_H, x = xb_new h177 q178 102 200 := ⟨_, rfl⟩
  rw [← eh179] at hR
  have hw := hw h179 eh179
  have hE : xb_ext h0 h179 := by rw [eh179]; exact hE.new _ _ hqq178
  have hk180 : xb_k h179 q178 = 102 := by rw [eh179]; exact xb_new_k _ _ _ _
  have hk4 : xb_k h177 x0 = 9 := by rw [eh177]; exact hk4
  have hk4 : xb_k h179 x0 = 9 := by rw [eh179]; exact xb_nk hqq178 hk4
  refine xb_putPF (C := R_M) (T := F_M) (N := 97) (ty := .array .int) (x := (some q178)) hx hb 8 72 hts fin_M t_M t_M_ok n_M hown hR hS hk4 (by decide) rfl (by decide) rfl (hts _ m_a9102de0) (fun _ h9 => h9) rfl hnm rfl (by decide +kernel) (xb_pnA _ _).1 (xb_pnA _ _).2 (xb_d D_M_init 181 rfl) (fun H locs hR hS => ?_)
  obtain ⟨h181, eh181⟩ : ∃ x : xb_H, x = xb_P h179 x0 72 (some q178) := ⟨_, rfl⟩
  rw [← eh181] at hR
  have hw := hw h181 eh181
  have hE : xb_ext h0 h181 := by rw [eh181]; exact hE
  refine lv_aload_n hx hb (xb_d D_M_init 182 rfl) rfl (lv_at hl 0 rfl) ?_
  refine lv_sipush (v := 200) hx hb (xb_d D_M_init 183 rfl) (by decide) ?_
  obtain ⟨hcq182, hsq182, hw⟩ := hw
  have enq182 : (200 : Int32).toNatClampNeg = 200 := by decide
  refine xb_newa_i hx hb (hts _ m_d160d5ac) hR hS hA (by decide) (by decide +kernel) (show (((((((((((((((((((((((((((((((((((((((((((((k + 1) + 1) + 1) + 1) + 1) + 1) + 1) + 1) + 1) + 1) + 1) + 1) + 1) + 1) + 1) + 1) + 1) + 1) + 1) + 1) + 1) + 1) + 1) + 1) + 1) + 1) + 1) + 1) + 1) + 1) + 1) + 1) + 1) + 1) + 1) + 1) + 1) + 1) + 1) + 1) + 1) + 1) + 1) + 1) + 1) + 1 ≤ MC by omega) (show (((((((((((((((((((((((((((((((((((((((((((((n + 65536) + 16384) + 64) + 64) + 768) + 768) + 256) + 2048) + 2048) + 70000) + 70000) + 202) + 202) + 202) + 202) + 202) + 24) + 24) + 1024) + 24) + 24) + 24) + 24) + 4100) + 4100) + 4100) + 8192) + 8192) + 24) + 24) + 24) + 16384) + 24) + 24) + 384) + 1048576) + 4096) + 4096) + 4096) + 1000) + 1000) + 200) + 200) + 200) + 200) + _ ≤ MS by rw [enq182]; omega) (xb_d D_M_init 184 rfl) (fun q182 H hqq182 hR hS => ?_)
  rw [enq182] at hR ⊢
  have hw := hw q182 hqq182
  obtain ⟨h183, eh183⟩ : ∃ x : xb_H, x = xb_new h181 q182 102 200 := ⟨_, rfl⟩
  rw [← eh183] at hR
  have hw := hw h183 eh183
  have hE : xb_ext h0 h183 := by rw [eh183]; exact hE.new _ _ hqq182
  have hk184 : xb_k h183 q182 = 102 := by rw [eh183]; exact xb_new_k _ _ _ _
  have hk4 : xb_k h181 x0 = 9 := by rw [eh181]; exact hk4
  have hk4 : xb_k h183 x0 = 9 := by rw [eh183]; exact xb_nk hqq182 hk4
  refine xb_putPF (C := R_M) (T := F_M) (N := 97) (ty := .array .int) (x := (some q182)) hx hb 8 73 hts fin_M t_M t_M_ok n_M hown hR hS hk4 (by decide) rfl (by decide) rfl (hts _ m_6c9efdee) (fun _ h9 => h9) rfl hnm rfl (by decide +kernel) (xb_pnA _ _).1 (xb_pnA _ _).2 (xb_d D_M_init 185 rfl) (fun H locs hR hS => ?_)
  obtain ⟨h185, eh185⟩ : ∃ x : xb_H, x = xb_P h183 x0 73 (some q182) := ⟨_, rfl⟩
  rw [← eh185] at hR
  have hw := hw h185 eh185
  have hE : xb_ext h0 h185 := by rw [eh185]; exact hE
  refine lv_aload_n hx hb (xb_d D_M_init 186 rfl) rfl (lv_at hl 0 rfl) ?_
  refine lv_sipush (v := 18384) hx hb (xb_d D_M_init 187 rfl) (by decide) ?_
  obtain ⟨hcq186, hsq186, hw⟩ := hw
  have enq186 : (18384 : Int32).toNatClampNeg = 18384 := by decide
  refine xb_newa_l hx hb (hts _ m_f2af499d) hR hS hA (by decide) (by decide +kernel) (show ((((((((((((((((((((((((((((((((((((((((((((((k + 1) + 1) + 1) + 1) + 1) + 1) + 1) + 1) + 1) + 1) + 1) + 1) + 1) + 1) + 1) + 1) + 1) + 1) + 1) + 1) + 1) + 1) + 1) + 1) + 1) + 1) + 1) + 1) + 1) + 1) + 1) + 1) + 1) + 1) + 1) + 1) + 1) + 1) + 1) + 1) + 1) + 1) + 1) + 1) + 1) + 1) + 1 ≤ MC by omega) (show ((((((((((((((((((((((((((((((((((((((((((((((n + 65536) + 16384) + 64) + 64) + 768) + 768) + 256) + 2048) + 2048) + 70000) + 70000) + 202) + 202) + 202) + 202) + 202) + 24) + 24) + 1024) + 24) + 24) + 24) + 24) + 4100) + 4100) + 4100) + 8192) + 8192) + 24) + 24) + 24) + 16384) + 24) + 24) + 384) + 1048576) + 4096) + 4096) + 4096) + 1000) + 1000) + 200) + 200) + 200) + 200) + 200) + _ ≤ MS by rw [enq186]; omega) (xb_d D_M_init 188 rfl) (fun q186 H hqq186 hR hS => ?_)
  rw [enq186] at hR ⊢
  have hw := hw q186 hqq186
  obtain ⟨h187, eh187⟩ : ∃ x : xb_H, x = xb_new h185 q186 103 18384 := ⟨_, rfl⟩
  rw [← eh187] at hR
  have hw := hw h187 eh187
  have hE : xb_ext h0 h187 := by rw [eh187]; exact hE.new _ _ hqq186
  have hk188 : xb_k h187 q186 = 103 := by rw [eh187]; exact xb_new_k _ _ _ _
  have hk4 : xb_k h185 x0 = 9 := by rw [eh185]; exact hk4
  have hk4 : xb_k h187 x0 = 9 := by rw [eh187]; exact xb_nk hqq186 hk4
  refine xb_putPF (C := R_M) (T := F_M) (N := 97) (ty := .array .long) (x := (some q186)) hx hb 8 74 hts fin_M t_M t_M_ok n_M hown hR hS hk4 (by decide) rfl (by decide) rfl (hts _ m_f82105f7) (fun _ h9 => h9) rfl hnm rfl (by decide +kernel) (xb_pnA _ _).1 (xb_pnA _ _).2 (xb_d D_M_init 189 rfl) (fun H locs hR hS => ?_)
  obtain ⟨h189, eh189⟩ : ∃ x : xb_H, x = xb_P h187 x0 74 (some q186) := ⟨_, rfl⟩
  rw [← eh189] at hR
  have hw := hw h189 eh189
  have hE : xb_ext h0 h189 := by rw [eh189]; exact hE
  refine lv_aload_n hx hb (xb_d D_M_init 190 rfl) rfl (lv_at hl 0 rfl) ?_
  refine lv_sipush (v := 18384) hx hb (xb_d D_M_init 191 rfl) (by decide) ?_
  obtain ⟨hcq190, hsq190, hw⟩ := hw
  have enq190 : (18384 : Int32).toNatClampNeg = 18384 := by decide
  refine xb_newa_b hx hb (hts _ m_2503b19f) hR hS hA (by decide) (by decide +kernel) (show (((((((((((((((((((((((((((((((((((((((((((((((k + 1) + 1) + 1) + 1) + 1) + 1) + 1) + 1) + 1) + 1) + 1) + 1) + 1) + 1) + 1) + 1) + 1) + 1) + 1) + 1) + 1) + 1) + 1) + 1) + 1) + 1) + 1) + 1) + 1) + 1) + 1) + 1) + 1) + 1) + 1) + 1) + 1) + 1) + 1) + 1) + 1) + 1) + 1) + 1) + 1) + 1) + 1) + 1 ≤ MC by omega) (show (((((((((((((((((((((((((((((((((((((((((((((((n + 65536) + 16384) + 64) + 64) + 768) + 768) + 256) + 2048) + 2048) + 70000) + 70000) + 202) + 202) + 202) + 202) + 202) + 24) + 24) + 1024) + 24) + 24) + 24) + 24) + 4100) + 4100) + 4100) + 8192) + 8192) + 24) + 24) + 24) + 16384) + 24) + 24) + 384) + 1048576) + 4096) + 4096) + 4096) + 1000) + 1000) + 200) + 200) + 200) + 200) + 200) + 18384) + _ ≤ MS by rw [enq190]; omega) (xb_d D_M_init 192 rfl) (fun q190 H hqq190 hR hS => ?_)
  rw [enq190] at hR ⊢
  have hw := hw q190 hqq190
  obtain ⟨h191, eh191⟩ : ∃ x : xb_H, x = xb_new h189 q190 100 18384 := ⟨_, rfl⟩
  rw [← eh191] at hR
  have hw := hw h191 eh191
  have hE : xb_ext h0 h191 := by rw [eh191]; exact hE.new _ _ hqq190
  have hk192 : xb_k h191 q190 = 100 := by rw [eh191]; exact xb_new_k _ _ _ _
  have hk4 : xb_k h189 x0 = 9 := by rw [eh189]; exact hk4
  have hk4 : xb_k h191 x0 = 9 := by rw [eh191]; exact xb_nk hqq190 hk4
  refine xb_putPF (C := R_M) (T := F_M) (N := 97) (ty := .array .byte) (x := (some q190)) hx hb 8 75 hts fin_M t_M t_M_ok n_M hown hR hS hk4 (by decide) rfl (by decide) rfl (hts _ m_6b215119) (fun _ h9 => h9) rfl hnm rfl (by decide +kernel) (xb_pnA _ _).1 (xb_pnA _ _).2 (xb_d D_M_init 193 rfl) (fun H locs hR hS => ?_)
  obtain ⟨h193, eh193⟩ : ∃ x : xb_H, x = xb_P h191 x0 75 (some q190) := ⟨_, rfl⟩
  rw [← eh193] at hR
  have hw := hw h193 eh193
  have hE : xb_ext h0 h193 := by rw [eh193]; exact hE
  refine lv_aload_n hx hb (xb_d D_M_init 194 rfl) rfl (lv_at hl 0 rfl) ?_
  refine lv_ldc (v := 40400) hx hb hown (hts _ m_a751d0c3) (xb_d D_M_init 195 rfl) ?_
  obtain ⟨hcq194, hsq194, hw⟩ := hw
  have enq194 : (40400 : Int32).toNatClampNeg = 40400 := by decide
  refine xb_newa_i hx hb (hts _ m_d160d5ac) hR hS hA (by decide) (by decide +kernel) (show ((((((((((((((((((((((((((((((((((((((((((((((((k + 1) + 1) + 1) + 1) + 1) + 1) + 1) + 1) + 1) + 1) + 1) + 1) + 1) + 1) + 1) + 1) + 1) + 1) + 1) + 1) + 1) + 1) + 1) + 1) + 1) + 1) + 1) + 1) + 1) + 1) + 1) + 1) + 1) + 1) + 1) + 1) + 1) + 1) + 1) + 1) + 1) + 1) + 1) + 1) + 1) + 1) + 1) + 1) + 1 ≤ MC by omega) (show ((((((((((((((((((((((((((((((((((((((((((((((((n + 65536) + 16384) + 64) + 64) + 768) + 768) + 256) + 2048) + 2048) + 70000) + 70000) + 202) + 202) + 202) + 202) + 202) + 24) + 24) + 1024) + 24) + 24) + 24) + 24) + 4100) + 4100) + 4100) + 8192) + 8192) + 24) + 24) + 24) + 16384) + 24) + 24) + 384) + 1048576) + 4096) + 4096) + 4096) + 1000) + 1000) + 200) + 200) + 200) + 200) + 200) + 18384) + 18384) + _ ≤ MS by rw [enq194]; omega) (xb_d D_M_init 196 rfl) (fun q194 H hqq194 hR hS => ?_)
  rw [enq194] at hR ⊢
  have hw := hw q194 hqq194
  obtain ⟨h195, eh195⟩ : ∃ x : xb_H, x = xb_new h193 q194 102 40400 := ⟨_, rfl⟩
  rw [← eh195] at hR
  have hw := hw h195 eh195
  have hE : xb_ext h0 h195 := by rw [eh195]; exact hE.new _ _ hqq194
  have hk196 : xb_k h195 q194 = 102 := by rw [eh195]; exact xb_new_k _ _ _ _
  have hk4 : xb_k h193 x0 = 9 := by rw [eh193]; exact hk4
  have hk4 : xb_k h195 x0 = 9 := by rw [eh195]; exact xb_nk hqq194 hk4
  refine xb_putPF (C := R_M) (T := F_M) (N := 97) (ty := .array .int) (x := (some q194)) hx hb 8 77 hts fin_M t_M t_M_ok n_M hown hR hS hk4 (by decide) rfl (by decide) rfl (hts _ m_3921a746) (fun _ h9 => h9) rfl hnm rfl (by decide +kernel) (xb_pnA _ _).1 (xb_pnA _ _).2 (xb_d D_M_init 197 rfl) (fun H locs hR hS => ?_)
  obtain ⟨h197, eh197⟩ : ∃ x : xb_H, x = xb_P h195 x0 77 (some q194) := ⟨_, rfl⟩
  rw [← eh197] at hR
  have hw := hw h197 eh197
  have hE : xb_ext h0 h197 := by rw [eh197]; exact hE
  refine lv_aload_n hx hb (xb_d D_M_init 198 rfl) rfl (lv_at hl 0 rfl) ?_
  refine lv_ldc (v := 40400) hx hb hown (hts _ m_a751d0c3) (xb_d D_M_init 199 rfl) ?_
  obtain ⟨hcq198, hsq198, hw⟩ := hw
  have enq198 : (40400 : Int32).toNatClampNeg = 40400 := by decide
  refine xb_newa_i hx hb (hts _ m_d160d5ac) hR hS hA (by decide) (by decide +kernel) (show (((((((((((((((((((((((((((((((((((((((((((((((((k + 1) + 1) + 1) + 1) + 1) + 1) + 1) + 1) + 1) + 1) + 1) + 1) + 1) + 1) + 1) + 1) + 1) + 1) + 1) + 1) + 1) + 1) + 1) + 1) + 1) + 1) + 1) + 1) + 1) + 1) + 1) + 1) + 1) + 1) + 1) + 1) + 1) + 1) + 1) + 1) + 1) + 1) + 1) + 1) + 1) + 1) + 1) + 1) + 1) + 1 ≤ MC by omega) (show (((((((((((((((((((((((((((((((((((((((((((((((((n + 65536) + 16384) + 64) + 64) + 768) + 768) + 256) + 2048) + 2048) + 70000) + 70000) + 202) + 202) + 202) + 202) + 202) + 24) + 24) + 1024) + 24) + 24) + 24) + 24) + 4100) + 4100) + 4100) + 8192) + 8192) + 24) + 24) + 24) + 16384) + 24) + 24) + 384) + 1048576) + 4096) + 4096) + 4096) + 1000) + 1000) + 200) + 200) + 200) + 200) + 200) + 18384) + 18384) + 40400) + _ ≤ MS by rw [enq198]; omega) (xb_d D_M_init 200 rfl) (fun q198 H hqq198 hR hS => ?_)
  rw [enq198] at hR ⊢
  have hw := hw q198 hqq198
  obtain ⟨h199, eh199⟩ : ∃ x : xb_H, x = xb_new h197 q198 102 40400 := ⟨_, rfl⟩
  rw [← eh199] at hR
  have hw := hw h199 eh199
  have hE : xb_ext h0 h199 := by rw [eh199]; exact hE.new _ _ hqq198
  have hk200 : xb_k h199 q198 = 102 := by rw [eh199]; exact xb_new_k _ _ _ _
  have hk4 : xb_k h197 x0 = 9 := by rw [eh197]; exact hk4
  have hk4 : xb_k h199 x0 = 9 := by rw [eh199]; exact xb_nk hqq198 hk4
  refine xb_putPF (C := R_M) (T := F_M) (N := 97) (ty := .array .int) (x := (some q198)) hx hb 8 78 hts fin_M t_M t_M_ok n_M hown hR hS hk4 (by decide) rfl (by decide) rfl (hts _ m_6fbbe4c1) (fun _ h9 => h9) rfl hnm rfl (by decide +kernel) (xb_pnA _ _).1 (xb_pnA _ _).2 (xb_d D_M_init 201 rfl) (fun H locs hR hS => ?_)
  obtain ⟨h201, eh201⟩ : ∃ x : xb_H, x = xb_P h199 x0 78 (some q198) := ⟨_, rfl⟩
  rw [← eh201] at hR
  have hw := hw h201 eh201
  have hE : xb_ext h0 h201 := by rw [eh201]; exact hE
  refine lv_aload_n hx hb (xb_d D_M_init 202 rfl) rfl (lv_at hl 0 rfl) ?_
  refine lv_ldc (v := 40400) hx hb hown (hts _ m_a751d0c3) (xb_d D_M_init 203 rfl) ?_
  obtain ⟨hcq202, hsq202, hw⟩ := hw
  have enq202 : (40400 : Int32).toNatClampNeg = 40400 := by decide
  refine xb_newa_i hx hb (hts _ m_d160d5ac) hR hS hA (by decide) (by decide +kernel) (show ((((((((((((((((((((((((((((((((((((((((((((((((((k + 1) + 1) + 1) + 1) + 1) + 1) + 1) + 1) + 1) + 1) + 1) + 1) + 1) + 1) + 1) + 1) + 1) + 1) + 1) + 1) + 1) + 1) + 1) + 1) + 1) + 1) + 1) + 1) + 1) + 1) + 1) + 1) + 1) + 1) + 1) + 1) + 1) + 1) + 1) + 1) + 1) + 1) + 1) + 1) + 1) + 1) + 1) + 1) + 1) + 1) + 1 ≤ MC by omega) (show ((((((((((((((((((((((((((((((((((((((((((((((((((n + 65536) + 16384) + 64) + 64) + 768) + 768) + 256) + 2048) + 2048) + 70000) + 70000) + 202) + 202) + 202) + 202) + 202) + 24) + 24) + 1024) + 24) + 24) + 24) + 24) + 4100) + 4100) + 4100) + 8192) + 8192) + 24) + 24) + 24) + 16384) + 24) + 24) + 384) + 1048576) + 4096) + 4096) + 4096) + 1000) + 1000) + 200) + 200) + 200) + 200) + 200) + 18384) + 18384) + 40400) + 40400) + _ ≤ MS by rw [enq202]; omega) (xb_d D_M_init 204 rfl) (fun q202 H hqq202 hR hS => ?_)
  rw [enq202] at hR ⊢
  have hw := hw q202 hqq202
  obtain ⟨h203, eh203⟩ : ∃ x : xb_H, x = xb_new h201 q202 102 40400 := ⟨_, rfl⟩
  rw [← eh203] at hR
  have hw := hw h203 eh203
  have hE : xb_ext h0 h203 := by rw [eh203]; exact hE.new _ _ hqq202
  have hk204 : xb_k h203 q202 = 102 := by rw [eh203]; exact xb_new_k _ _ _ _
  have hk4 : xb_k h201 x0 = 9 := by rw [eh201]; exact hk4
  have hk4 : xb_k h203 x0 = 9 := by rw [eh203]; exact xb_nk hqq202 hk4
  refine xb_putPF (C := R_M) (T := F_M) (N := 97) (ty := .array .int) (x := (some q202)) hx hb 8 79 hts fin_M t_M t_M_ok n_M hown hR hS hk4 (by decide) rfl (by decide) rfl (hts _ m_0f6cf014) (fun _ h9 => h9) rfl hnm rfl (by decide +kernel) (xb_pnA _ _).1 (xb_pnA _ _).2 (xb_d D_M_init 205 rfl) (fun H locs hR hS => ?_)
  obtain ⟨h205, eh205⟩ : ∃ x : xb_H, x = xb_P h203 x0 79 (some q202) := ⟨_, rfl⟩
  rw [← eh205] at hR
  have hw := hw h205 eh205
  have hE : xb_ext h0 h205 := by rw [eh205]; exact hE
  refine lv_aload_n hx hb (xb_d D_M_init 206 rfl) rfl (lv_at hl 0 rfl) ?_
  refine lv_ldc (v := 40400) hx hb hown (hts _ m_a751d0c3) (xb_d D_M_init 207 rfl) ?_
  obtain ⟨hcq206, hsq206, hw⟩ := hw
  have enq206 : (40400 : Int32).toNatClampNeg = 40400 := by decide
  refine xb_newa_i hx hb (hts _ m_d160d5ac) hR hS hA (by decide) (by decide +kernel) (show (((((((((((((((((((((((((((((((((((((((((((((((((((k + 1) + 1) + 1) + 1) + 1) + 1) + 1) + 1) + 1) + 1) + 1) + 1) + 1) + 1) + 1) + 1) + 1) + 1) + 1) + 1) + 1) + 1) + 1) + 1) + 1) + 1) + 1) + 1) + 1) + 1) + 1) + 1) + 1) + 1) + 1) + 1) + 1) + 1) + 1) + 1) + 1) + 1) + 1) + 1) + 1) + 1) + 1) + 1) + 1) + 1) + 1) + 1 ≤ MC by omega) (show (((((((((((((((((((((((((((((((((((((((((((((((((((n + 65536) + 16384) + 64) + 64) + 768) + 768) + 256) + 2048) + 2048) + 70000) + 70000) + 202) + 202) + 202) + 202) + 202) + 24) + 24) + 1024) + 24) + 24) + 24) + 24) + 4100) + 4100) + 4100) + 8192) + 8192) + 24) + 24) + 24) + 16384) + 24) + 24) + 384) + 1048576) + 4096) + 4096) + 4096) + 1000) + 1000) + 200) + 200) + 200) + 200) + 200) + 18384) + 18384) + 40400) + 40400) + 40400) + _ ≤ MS by rw [enq206]; omega) (xb_d D_M_init 208 rfl) (fun q206 H hqq206 hR hS => ?_)
  rw [enq206] at hR ⊢
  have hw := hw q206 hqq206
  obtain ⟨h207, eh207⟩ : ∃ x : xb_H, x = xb_new h205 q206 102 40400 := ⟨_, rfl⟩
  rw [← eh207] at hR
  have hw := hw h207 eh207
  have hE : xb_ext h0 h207 := by rw [eh207]; exact hE.new _ _ hqq206
  have hk208 : xb_k h207 q206 = 102 := by rw [eh207]; exact xb_new_k _ _ _ _
  have hk4 : xb_k h205 x0 = 9 := by rw [eh205]; exact hk4
  have hk4 : xb_k h207 x0 = 9 := by rw [eh207]; exact xb_nk hqq206 hk4
  refine xb_putPF (C := R_M) (T := F_M) (N := 97) (ty := .array .int) (x := (some q206)) hx hb 8 80 hts fin_M t_M t_M_ok n_M hown hR hS hk4 (by decide) rfl (by decide) rfl (hts _ m_24ba043b) (fun _ h9 => h9) rfl hnm rfl (by decide +kernel) (xb_pnA _ _).1 (xb_pnA _ _).2 (xb_d D_M_init 209 rfl) (fun H locs hR hS => ?_)
  obtain ⟨h209, eh209⟩ : ∃ x : xb_H, x = xb_P h207 x0 80 (some q206) := ⟨_, rfl⟩
  rw [← eh209] at hR
  have hw := hw h209 eh209
  have hE : xb_ext h0 h209 := by rw [eh209]; exact hE
  refine lv_aload_n hx hb (xb_d D_M_init 210 rfl) rfl (lv_at hl 0 rfl) ?_
  refine lv_iconst (v := 4) hx hb (xb_d D_M_init 211 rfl) (by decide) ?_
  obtain ⟨hcq210, hsq210, hw⟩ := hw
  have enq210 : (4 : Int32).toNatClampNeg = 4 := by decide
  refine xb_newa_i hx hb (hts _ m_d160d5ac) hR hS hA (by decide) (by decide +kernel) (show ((((((((((((((((((((((((((((((((((((((((((((((((((((k + 1) + 1) + 1) + 1) + 1) + 1) + 1) + 1) + 1) + 1) + 1) + 1) + 1) + 1) + 1) + 1) + 1) + 1) + 1) + 1) + 1) + 1) + 1) + 1) + 1) + 1) + 1) + 1) + 1) + 1) + 1) + 1) + 1) + 1) + 1) + 1) + 1) + 1) + 1) + 1) + 1) + 1) + 1) + 1) + 1) + 1) + 1) + 1) + 1) + 1) + 1) + 1) + 1 ≤ MC by omega) (show ((((((((((((((((((((((((((((((((((((((((((((((((((((n + 65536) + 16384) + 64) + 64) + 768) + 768) + 256) + 2048) + 2048) + 70000) + 70000) + 202) + 202) + 202) + 202) + 202) + 24) + 24) + 1024) + 24) + 24) + 24) + 24) + 4100) + 4100) + 4100) + 8192) + 8192) + 24) + 24) + 24) + 16384) + 24) + 24) + 384) + 1048576) + 4096) + 4096) + 4096) + 1000) + 1000) + 200) + 200) + 200) + 200) + 200) + 18384) + 18384) + 40400) + 40400) + 40400) + 40400) + _ ≤ MS by rw [enq210]; omega) (xb_d D_M_init 212 rfl) (fun q210 H hqq210 hR hS => ?_)
  rw [enq210] at hR ⊢
  have hw := hw q210 hqq210
  obtain ⟨h211, eh211⟩ : ∃ x : xb_H, x = xb_new h209 q210 102 4 := ⟨_, rfl⟩
  rw [← eh211] at hR
  have hw := hw h211 eh211
  have hE : xb_ext h0 h211 := by rw [eh211]; exact hE.new _ _ hqq210
  have hk212 : xb_k h211 q210 = 102 := by rw [eh211]; exact xb_new_k _ _ _ _
  refine lv_dup hx hb (xb_d D_M_init 213 rfl) rfl ?_
  refine lv_iconst (v := 0) hx hb (xb_d D_M_init 214 rfl) (by decide) ?_
  refine lv_iconst (v := 0) hx hb (xb_d D_M_init 215 rfl) (by decide) ?_
  obtain ⟨hi213, hw⟩ := hw
  refine xb_iast hx hb hR hS hk212 hi213 (xb_d D_M_init 216 rfl) (fun H locs hR hS => ?_)
  obtain ⟨h214, eh214⟩ : ∃ x : xb_H, x = xb_I h211 q210 (Int32.toNatClampNeg 0) 0 := ⟨_, rfl⟩
  rw [← eh214] at hR
  have hw := hw h214 eh214
  have hE : xb_ext h0 h214 := by rw [eh214]; exact hE
  refine lv_dup hx hb (xb_d D_M_init 217 rfl) rfl ?_
  refine lv_iconst (v := 1) hx hb (xb_d D_M_init 218 rfl) (by decide) ?_
  refine lv_iconst (v := (-1)) hx hb (xb_d D_M_init 219 rfl) (by decide) ?_
  have hk212 : xb_k h214 q210 = 102 := by rw [eh214]; exact hk212
  obtain ⟨hi215, hw⟩ := hw
  refine xb_iast hx hb hR hS hk212 hi215 (xb_d D_M_init 220 rfl) (fun H locs hR hS => ?_)
  obtain ⟨h216, eh216⟩ : ∃ x : xb_H, x = xb_I h214 q210 (Int32.toNatClampNeg 1) (-1) := ⟨_, rfl⟩
  rw [← eh216] at hR
  have hw := hw h216 eh216
  have hE : xb_ext h0 h216 := by rw [eh216]; exact hE
  refine lv_dup hx hb (xb_d D_M_init 221 rfl) rfl ?_
  refine lv_iconst (v := 2) hx hb (xb_d D_M_init 222 rfl) (by decide) ?_
  refine lv_iconst (v := (-1)) hx hb (xb_d D_M_init 223 rfl) (by decide) ?_
  have hk212 : xb_k h216 q210 = 102 := by rw [eh216]; exact hk212
  obtain ⟨hi217, hw⟩ := hw
  refine xb_iast hx hb hR hS hk212 hi217 (xb_d D_M_init 224 rfl) (fun H locs hR hS => ?_)
  obtain ⟨h218, eh218⟩ : ∃ x : xb_H, x = xb_I h216 q210 (Int32.toNatClampNeg 2) (-1) := ⟨_, rfl⟩
  rw [← eh218] at hR
  have hw := hw h218 eh218
  have hE : xb_ext h0 h218 := by rw [eh218]; exact hE
  refine lv_dup hx hb (xb_d D_M_init 225 rfl) rfl ?_
  refine lv_iconst (v := 3) hx hb (xb_d D_M_init 226 rfl) (by decide) ?_
  refine lv_iconst (v := (-1)) hx hb (xb_d D_M_init 227 rfl) (by decide) ?_
  have hk212 : xb_k h218 q210 = 102 := by rw [eh218]; exact hk212
  obtain ⟨hi219, hw⟩ := hw
  refine xb_iast hx hb hR hS hk212 hi219 (xb_d D_M_init 228 rfl) (fun H locs hR hS => ?_)
  obtain ⟨h220, eh220⟩ : ∃ x : xb_H, x = xb_I h218 q210 (Int32.toNatClampNeg 3) (-1) := ⟨_, rfl⟩
  rw [← eh220] at hR
  have hw := hw h220 eh220
  have hE : xb_ext h0 h220 := by rw [eh220]; exact hE
  have hk4 : xb_k h209 x0 = 9 := by rw [eh209]; exact hk4
  have hk4 : xb_k h211 x0 = 9 := by rw [eh211]; exact xb_nk hqq210 hk4
  have hk4 : xb_k h214 x0 = 9 := by rw [eh214]; exact hk4
  have hk4 : xb_k h216 x0 = 9 := by rw [eh216]; exact hk4
  have hk4 : xb_k h218 x0 = 9 := by rw [eh218]; exact hk4
  have hk4 : xb_k h220 x0 = 9 := by rw [eh220]; exact hk4
  refine xb_putPF (C := R_M) (T := F_M) (N := 97) (ty := .array .int) (x := (some q210)) hx hb 8 86 hts fin_M t_M t_M_ok n_M hown hR hS hk4 (by decide) rfl (by decide) rfl (hts _ m_6e1e432a) (fun _ h9 => h9) rfl hnm rfl (by decide +kernel) (xb_pnA _ _).1 (xb_pnA _ _).2 (xb_d D_M_init 229 rfl) (fun H locs hR hS => ?_)
  obtain ⟨h221, eh221⟩ : ∃ x : xb_H, x = xb_P h220 x0 86 (some q210) := ⟨_, rfl⟩
  rw [← eh221] at hR
  have hw := hw h221 eh221
  have hE : xb_ext h0 h221 := by rw [eh221]; exact hE
  refine lv_aload_n hx hb (xb_d D_M_init 230 rfl) rfl (lv_at hl 0 rfl) ?_
  refine lv_sipush (v := 4096) hx hb (xb_d D_M_init 231 rfl) (by decide) ?_
  obtain ⟨hcq222, hsq222, hw⟩ := hw
  have enq222 : (4096 : Int32).toNatClampNeg = 4096 := by decide
  refine xb_newa_l hx hb (hts _ m_f2af499d) hR hS hA (by decide) (by decide +kernel) (show (((((((((((((((((((((((((((((((((((((((((((((((((((((k + 1) + 1) + 1) + 1) + 1) + 1) + 1) + 1) + 1) + 1) + 1) + 1) + 1) + 1) + 1) + 1) + 1) + 1) + 1) + 1) + 1) + 1) + 1) + 1) + 1) + 1) + 1) + 1) + 1) + 1) + 1) + 1) + 1) + 1) + 1) + 1) + 1) + 1) + 1) + 1) + 1) + 1) + 1) + 1) + 1) + 1) + 1) + 1) + 1) + 1) + 1) + 1) + 1) + 1 ≤ MC by omega) (show (((((((((((((((((((((((((((((((((((((((((((((((((((((n + 65536) + 16384) + 64) + 64) + 768) + 768) + 256) + 2048) + 2048) + 70000) + 70000) + 202) + 202) + 202) + 202) + 202) + 24) + 24) + 1024) + 24) + 24) + 24) + 24) + 4100) + 4100) + 4100) + 8192) + 8192) + 24) + 24) + 24) + 16384) + 24) + 24) + 384) + 1048576) + 4096) + 4096) + 4096) + 1000) + 1000) + 200) + 200) + 200) + 200) + 200) + 18384) + 18384) + 40400) + 40400) + 40400) + 40400) + 4) + _ ≤ MS by rw [enq222]; omega) (xb_d D_M_init 232 rfl) (fun q222 H hqq222 hR hS => ?_)
  rw [enq222] at hR ⊢
  have hw := hw q222 hqq222
  obtain ⟨h223, eh223⟩ : ∃ x : xb_H, x = xb_new h221 q222 103 4096 := ⟨_, rfl⟩
  rw [← eh223] at hR
  have hw := hw h223 eh223
  have hE : xb_ext h0 h223 := by rw [eh223]; exact hE.new _ _ hqq222
  have hk224 : xb_k h223 q222 = 103 := by rw [eh223]; exact xb_new_k _ _ _ _
  have hk4 : xb_k h221 x0 = 9 := by rw [eh221]; exact hk4
  have hk4 : xb_k h223 x0 = 9 := by rw [eh223]; exact xb_nk hqq222 hk4
  refine xb_putPF (C := R_M) (T := F_M) (N := 97) (ty := .array .long) (x := (some q222)) hx hb 8 87 hts fin_M t_M t_M_ok n_M hown hR hS hk4 (by decide) rfl (by decide) rfl (hts _ m_82d42698) (fun _ h9 => h9) rfl hnm rfl (by decide +kernel) (xb_pnA _ _).1 (xb_pnA _ _).2 (xb_d D_M_init 233 rfl) (fun H locs hR hS => ?_)
  obtain ⟨h225, eh225⟩ : ∃ x : xb_H, x = xb_P h223 x0 87 (some q222) := ⟨_, rfl⟩
  rw [← eh225] at hR
  have hw := hw h225 eh225
  have hE : xb_ext h0 h225 := by rw [eh225]; exact hE
  refine lv_aload_n hx hb (xb_d D_M_init 234 rfl) rfl (lv_at hl 0 rfl) ?_
  refine lv_iconst (v := 2) hx hb (xb_d D_M_init 235 rfl) (by decide) ?_
  obtain ⟨hcq226, hsq226, hw⟩ := hw
  have enq226 : (2 : Int32).toNatClampNeg = 2 := by decide
  refine xb_newa_i hx hb (hts _ m_d160d5ac) hR hS hA (by decide) (by decide +kernel) (show ((((((((((((((((((((((((((((((((((((((((((((((((((((((k + 1) + 1) + 1) + 1) + 1) + 1) + 1) + 1) + 1) + 1) + 1) + 1) + 1) + 1) + 1) + 1) + 1) + 1) + 1) + 1) + 1) + 1) + 1) + 1) + 1) + 1) + 1) + 1) + 1) + 1) + 1) + 1) + 1) + 1) + 1) + 1) + 1) + 1) + 1) + 1) + 1) + 1) + 1) + 1) + 1) + 1) + 1) + 1) + 1) + 1) + 1) + 1) + 1) + 1) + 1 ≤ MC by omega) (show ((((((((((((((((((((((((((((((((((((((((((((((((((((((n + 65536) + 16384) + 64) + 64) + 768) + 768) + 256) + 2048) + 2048) + 70000) + 70000) + 202) + 202) + 202) + 202) + 202) + 24) + 24) + 1024) + 24) + 24) + 24) + 24) + 4100) + 4100) + 4100) + 8192) + 8192) + 24) + 24) + 24) + 16384) + 24) + 24) + 384) + 1048576) + 4096) + 4096) + 4096) + 1000) + 1000) + 200) + 200) + 200) + 200) + 200) + 18384) + 18384) + 40400) + 40400) + 40400) + 40400) + 4) + 4096) + _ ≤ MS by rw [enq226]; omega) (xb_d D_M_init 236 rfl) (fun q226 H hqq226 hR hS => ?_)
  rw [enq226] at hR ⊢
  have hw := hw q226 hqq226
  obtain ⟨h227, eh227⟩ : ∃ x : xb_H, x = xb_new h225 q226 102 2 := ⟨_, rfl⟩
  rw [← eh227] at hR
  have hw := hw h227 eh227
  have hE : xb_ext h0 h227 := by rw [eh227]; exact hE.new _ _ hqq226
  have hk228 : xb_k h227 q226 = 102 := by rw [eh227]; exact xb_new_k _ _ _ _
  have hk4 : xb_k h225 x0 = 9 := by rw [eh225]; exact hk4
  have hk4 : xb_k h227 x0 = 9 := by rw [eh227]; exact xb_nk hqq226 hk4
  refine xb_putPF (C := R_M) (T := F_M) (N := 97) (ty := .array .int) (x := (some q226)) hx hb 8 89 hts fin_M t_M t_M_ok n_M hown hR hS hk4 (by decide) rfl (by decide) rfl (hts _ m_8367c681) (fun _ h9 => h9) rfl hnm rfl (by decide +kernel) (xb_pnA _ _).1 (xb_pnA _ _).2 (xb_d D_M_init 237 rfl) (fun H locs hR hS => ?_)
  obtain ⟨h229, eh229⟩ : ∃ x : xb_H, x = xb_P h227 x0 89 (some q226) := ⟨_, rfl⟩
  rw [← eh229] at hR
  have hw := hw h229 eh229
  have hE : xb_ext h0 h229 := by rw [eh229]; exact hE
  refine lv_aload_n hx hb (xb_d D_M_init 238 rfl) rfl (lv_at hl 0 rfl) ?_
  obtain ⟨hcq230, hsq230, hw⟩ := hw
  refine xb_newo (C := R_Exact) (T := F_Exact) (N := 11) hx hb 9 hts fin_Exact t_Exact t_Exact_ok hown (hts _ m_42f159d2) (hts _ m_93e9c7d5) (hts _ m_b807310b) hR hS hA (by decide) rfl dg_Exact (show (((((((((((((((((((((((((((((((((((((((((((((((((((((((k + 1) + 1) + 1) + 1) + 1) + 1) + 1) + 1) + 1) + 1) + 1) + 1) + 1) + 1) + 1) + 1) + 1) + 1) + 1) + 1) + 1) + 1) + 1) + 1) + 1) + 1) + 1) + 1) + 1) + 1) + 1) + 1) + 1) + 1) + 1) + 1) + 1) + 1) + 1) + 1) + 1) + 1) + 1) + 1) + 1) + 1) + 1) + 1) + 1) + 1) + 1) + 1) + 1) + 1) + 1) + 1 ≤ MC by omega) (show (((((((((((((((((((((((((((((((((((((((((((((((((((((((n + 65536) + 16384) + 64) + 64) + 768) + 768) + 256) + 2048) + 2048) + 70000) + 70000) + 202) + 202) + 202) + 202) + 202) + 24) + 24) + 1024) + 24) + 24) + 24) + 24) + 4100) + 4100) + 4100) + 8192) + 8192) + 24) + 24) + 24) + 16384) + 24) + 24) + 384) + 1048576) + 4096) + 4096) + 4096) + 1000) + 1000) + 200) + 200) + 200) + 200) + 200) + 18384) + 18384) + 40400) + 40400) + 40400) + 40400) + 4) + 4096) + 2) + 11 ≤ MS by omega) (xb_d D_M_init 239 rfl) (fun q230 H hqq230 hR hS => ?_)
  have hw := hw q230 hqq230
  obtain ⟨h231, eh231⟩ : ∃ x : xb_H, x = xb_new h229 q230 10 0 := ⟨_, rfl⟩
  rw [← eh231] at hR
  have hw := hw h231 eh231
  have hE : xb_ext h0 h231 := by rw [eh231]; exact hE.new _ _ hqq230
  have hk232 : xb_k h231 q230 = 10 := by rw [eh231]; exact xb_new_k _ _ _ _
  refine lv_dup hx hb (xb_d D_M_init 240 rfl) rfl ?_
  refine xb_call (D := D) (A := A) (σ := σ) (h := h231) (d := 2) (mc := ((((((((((((((((((((((((((((((((((((((((((((((((((((((((bc - 1) - 1) - 1) - 1) - 1) - 1) - 1) - 1) - 1) - 1) - 1) - 1) - 1) - 1) - 1) - 1) - 1) - 1) - 1) - 1) - 1) - 1) - 1) - 1) - 1) - 1) - 1) - 1) - 1) - 1) - 1) - 1) - 1) - 1) - 1) - 1) - 1) - 1) - 1) - 1) - 1) - 1) - 1) - 1) - 1) - 1) - 1) - 1) - 1) - 1) - 1) - 1) - 1) - 1) - 1) - 1)) (ms := ((((((((((((((((((((((((((((((((((((((((((((((((((((((((bs - 65536) - 16384) - 64) - 64) - 768) - 768) - 256) - 2048) - 2048) - 70000) - 70000) - 202) - 202) - 202) - 202) - 202) - 24) - 24) - 1024) - 24) - 24) - 24) - 24) - 4100) - 4100) - 4100) - 8192) - 8192) - 24) - 24) - 24) - 16384) - 24) - 24) - 384) - 1048576) - 4096) - 4096) - 4096) - 1000) - 1000) - 200) - 200) - 200) - 200) - 200) - 18384) - 18384) - 40400) - 40400) - 40400) - 40400) - 4) - 4096) - 2) - 11)) (maxL := 1) (rest := [.ref q230, .ref x0]) (av := [.ref q230]) (fun T hT X => xt_invIN X hx hown rfl (hts _ m_1a87b221) (hts _ m_313d0272) (hts _ m_50d79f2a) nm_Exact_init (g := F0 m 495 ls [.ref q230, .ref q230, .ref x0]) rfl (b := q230) (argsL := []) (rest := [.ref q230, .ref x0]) rfl rfl (by rw [hb]; exact (xb_d D_M_init 241 rfl))) (ok_Exact_init l hfl D A σ q230 h231 ((((((((((((((((((((((((((((((((((((((((((((((((((((((((bc - 1) - 1) - 1) - 1) - 1) - 1) - 1) - 1) - 1) - 1) - 1) - 1) - 1) - 1) - 1) - 1) - 1) - 1) - 1) - 1) - 1) - 1) - 1) - 1) - 1) - 1) - 1) - 1) - 1) - 1) - 1) - 1) - 1) - 1) - 1) - 1) - 1) - 1) - 1) - 1) - 1) - 1) - 1) - 1) - 1) - 1) - 1) - 1) - 1) - 1) - 1) - 1) - 1) - 1) - 1) - 1) ((((((((((((((((((((((((((((((((((((((((((((((((((((((((bs - 65536) - 16384) - 64) - 64) - 768) - 768) - 256) - 2048) - 2048) - 70000) - 70000) - 202) - 202) - 202) - 202) - 202) - 24) - 24) - 1024) - 24) - 24) - 24) - 24) - 4100) - 4100) - 4100) - 8192) - 8192) - 24) - 24) - 24) - 16384) - 24) - 24) - 384) - 1048576) - 4096) - 4096) - 4096) - 1000) - 1000) - 200) - 200) - 200) - 200) - 200) - 18384) - 18384) - 40400) - 40400) - 40400) - 40400) - 4) - 4096) - 2) - 11) _ hw) (hml.trans hl.1.symm) (by rw [hb]; exact (xb_d D_M_init 241 rfl)) (Nat.le_of_ble_eq_true rfl) (Nat.le_of_ble_eq_true rfl) (Nat.le_of_ble_eq_true rfl) (show ((((((((((((((((((((((((((((((((((((((((((((((((((((((((k + 1) + 1) + 1) + 1) + 1) + 1) + 1) + 1) + 1) + 1) + 1) + 1) + 1) + 1) + 1) + 1) + 1) + 1) + 1) + 1) + 1) + 1) + 1) + 1) + 1) + 1) + 1) + 1) + 1) + 1) + 1) + 1) + 1) + 1) + 1) + 1) + 1) + 1) + 1) + 1) + 1) + 1) + 1) + 1) + 1) + 1) + 1) + 1) + 1) + 1) + 1) + 1) + 1) + 1) + 1) + 1) + ((((((((((((((((((((((((((((((((((((((((((((((((((((((((bc - 1) - 1) - 1) - 1) - 1) - 1) - 1) - 1) - 1) - 1) - 1) - 1) - 1) - 1) - 1) - 1) - 1) - 1) - 1) - 1) - 1) - 1) - 1) - 1) - 1) - 1) - 1) - 1) - 1) - 1) - 1) - 1) - 1) - 1) - 1) - 1) - 1) - 1) - 1) - 1) - 1) - 1) - 1) - 1) - 1) - 1) - 1) - 1) - 1) - 1) - 1) - 1) - 1) - 1) - 1) - 1) ≤ MC by omega) (show ((((((((((((((((((((((((((((((((((((((((((((((((((((((((n + 65536) + 16384) + 64) + 64) + 768) + 768) + 256) + 2048) + 2048) + 70000) + 70000) + 202) + 202) + 202) + 202) + 202) + 24) + 24) + 1024) + 24) + 24) + 24) + 24) + 4100) + 4100) + 4100) + 8192) + 8192) + 24) + 24) + 24) + 16384) + 24) + 24) + 384) + 1048576) + 4096) + 4096) + 4096) + 1000) + 1000) + 200) + 200) + 200) + 200) + 200) + 18384) + 18384) + 40400) + 40400) + 40400) + 40400) + 4) + 4096) + 2) + 11) + ((((((((((((((((((((((((((((((((((((((((((((((((((((((((bs - 65536) - 16384) - 64) - 64) - 768) - 768) - 256) - 2048) - 2048) - 70000) - 70000) - 202) - 202) - 202) - 202) - 202) - 24) - 24) - 1024) - 24) - 24) - 24) - 24) - 4100) - 4100) - 4100) - 8192) - 8192) - 24) - 24) - 24) - 16384) - 24) - 24) - 384) - 1048576) - 4096) - 4096) - 4096) - 1000) - 1000) - 200) - 200) - 200) - 200) - 200) - 18384) - 18384) - 40400) - 40400) - 40400) - 40400) - 4) - 4096) - 2) - 11) ≤ MS by omega) (xt_w1 hB.1 m_50d79f2a) (xt_cdOf hB.1 m_50d79f2a) (hts _ m_b807310b) hB hR hS hA (fun vv h233 bc234 bs234 kk234 nn234 H locs hk234 hn234 hq hEh233 hR hS => ?_) (fun XX ax h233 bc234 bs234 kk234 nn234 H locs hk234 hn234 hq hEh233 hex hR hS => ?_)
  · obtain ⟨rfl, hw⟩ := hq
    have hw := hw hEh233
    have hE := hE.tr hEh233
    refine W.eq (g2 := F0 m 498 ls [.ref q230, .ref x0]) rfl ?_
    have hk4 : xb_k h229 x0 = 9 := by rw [eh229]; exact hk4
    have hk4 : xb_k h231 x0 = 9 := by rw [eh231]; exact xb_nk hqq230 hk4
    have hk4 : xb_k h233 x0 = 9 := hEh233.k hk4
    refine xb_putPF (C := R_M) (T := F_M) (N := 97) (ty := .object "StackHostModel$Exact") (x := (some q230)) hx hb 8 90 hts fin_M t_M t_M_ok n_M hown hR hS hk4 (by decide) rfl (by decide) rfl (hts _ m_58f0444c) (fun _ h9 => h9) rfl hnm rfl (by decide +kernel) (xb_pnO _ _).1 (xb_pnO _ _).2 (xb_d D_M_init 242 rfl) (fun H locs hR hS => ?_)
    obtain ⟨h235, eh235⟩ : ∃ x : xb_H, x = xb_P h233 x0 90 (some q230) := ⟨_, rfl⟩
    rw [← eh235] at hR
    have hw := hw h235 eh235
    have hE : xb_ext h0 h235 := by rw [eh235]; exact hE
    exact xb_vret bc234 bs234 hx hb hr hlocks (show (((((((((((((((((((((((((((((((((((((((((((((((((((((((((k + 1) + 1) + 1) + 1) + 1) + 1) + 1) + 1) + 1) + 1) + 1) + 1) + 1) + 1) + 1) + 1) + 1) + 1) + 1) + 1) + 1) + 1) + 1) + 1) + 1) + 1) + 1) + 1) + 1) + 1) + 1) + 1) + 1) + 1) + 1) + 1) + 1) + 1) + 1) + 1) + 1) + 1) + 1) + 1) + 1) + 1) + 1) + 1) + 1) + 1) + 1) + 1) + 1) + 1) + 1) + 1) + kk234) + bc234 ≤ MC by omega) (show (((((((((((((((((((((((((((((((((((((((((((((((((((((((((n + 65536) + 16384) + 64) + 64) + 768) + 768) + 256) + 2048) + 2048) + 70000) + 70000) + 202) + 202) + 202) + 202) + 202) + 24) + 24) + 1024) + 24) + 24) + 24) + 24) + 4100) + 4100) + 4100) + 8192) + 8192) + 24) + 24) + 24) + 16384) + 24) + 24) + 384) + 1048576) + 4096) + 4096) + 4096) + 1000) + 1000) + 200) + 200) + 200) + 200) + 200) + 18384) + 18384) + 40400) + 40400) + 40400) + 40400) + 4) + 4096) + 2) + 11) + nn234) + bs234 ≤ MS by omega) hE hR hS (xb_d D_M_init 243 rfl) hw
  · exact False.elim hq

theorem m_3664d9ce : (.methodLink "StackHostModel" 535 y_M_ofMemory : Cond) ∈ xt_tbl := xt_in (xt_t12 (List.mem_of_getElem? (i := 113) (by decide +kernel))) (by decide +kernel)
theorem m_a99d37f4 : (.instanceMethod y_M_ofMemory : Cond) ∈ xt_tbl := xt_in (xt_t12 (List.mem_of_getElem? (i := 115) (by decide +kernel))) (by decide +kernel)
theorem m_971acc01 : (.selects "StackHostModel" y_M_ofMemory y_M_ofMemory : Cond) ∈ xt_tbl := xt_in (xt_v14 (q := (⟨"StackHostModel", "ofMemory", "(IJ)I"⟩, 97)) (List.mem_of_getElem? (i := 4) (by decide +kernel))) (by decide +kernel)
theorem m_9aac1411 : (.code y_M_ofMemory b_M_ofMemory 5 (some .int) : Cond) ∈ xt_tbl := xt_in (xt_t12 (List.mem_of_getElem? (i := 116) (by decide +kernel))) (by decide +kernel)
theorem m_d5ed7bed : (.initialized "StackHostModel" : Cond) ∈ xt_tbl := xt_in (xt_t1 (List.mem_of_getElem? (i := 8) (by decide +kernel))) (by decide +kernel)
theorem nm_M_ofMemory : xt_nm y_M_ofMemory 2 := ⟨by decide +kernel, by decide +kernel⟩
set_option maxRecDepth 100000 in
def T_M_byteAt : List (Nat × Instr × Nat) := [(0, .aload_n 0, 1), (1, .getfield 121, 3), (4, .aload_n 0, 1), (5, .iload_n 1, 1), (6, .lload_n 2, 1), (7, .invokevirtual 535, 3), (10, .baload, 1), (11, .sipush 255, 3), (14, .iand, 1), (15, .ireturn, 1)]
theorem D_M_byteAt : ∀ q ∈ T_M_byteAt, decode b_M_byteAt q.1 = .ok (q.2.1, q.2.2) := by decide +kernel

set_option maxHeartbeats 4000000 in
set_option maxRecDepth 100000 in
theorem ok_M_byteAt (l : Launch) (hfl : l.flags = pinnedFlags ++ [noTraceFlag]) (D : va_G) (A : Nat → Prop) (σ : Nat) (x0 : Nat) (x1 : Int32) (x2 : Int64) (h : xb_H) (Qr : Int32 → xb_H → Prop) (hw : w_M_byteAt x0 x1 x2 h Qr) : xb_Met l y_M_byteAt [.code y_M_byteAt b_M_byteAt 4 (some .int)] (xb_rm 3 0 0) (xb_Pc D A σ h [.ref x0, .int x1, .long x2]) (xb_Qc D A h 0 0 (fun v h _ _ => ∃ r, v = some (.int r) ∧ Qr r h) (fun _ _ _ _ => False)) A := by
  refine xb_ofAm (cc := b_M_byteAt) (by decide) (Nat.le_of_ble_eq_true rfl) ?_
  unfold w_M_byteAt at hw
  show xb_am l D A σ 3 0 0 h (fun v h _ _ => ∃ r, v = some (.int r) ∧ Qr r h) (fun _ _ _ _ => False) y_M_byteAt.cls y_M_byteAt.name b_M_byteAt 4 ([] : List ExceptionTableEntry) (some .int) 0 [(0, .ref x0), (1, .int x1), (2, .long x2)] [] h 0 0
  obtain ⟨MC, hMC⟩ : ∃ x, x = 0 := ⟨_, rfl⟩
  obtain ⟨MS, hMS⟩ : ∃ x, x = 0 := ⟨_, rfl⟩
  rw [show xb_am l D A σ 3 0 0 = xb_am l D A σ 3 MC MS by rw [hMC, hMS]]
  obtain ⟨h0, hh0⟩ : ∃ x, x = h := ⟨_, rfl⟩
  rw [show xb_am l D A σ 3 MC MS h = xb_am l D A σ 3 MC MS h0 by rw [hh0]]
  intro p e s m args below meth c hC H locs ls k n hE hl hR hS hk hn
  obtain ⟨hx, hb, hown, hlocks, htab, hml, hr, hB, hA, hnm⟩ := id hC
  have hts := hB.1.1.at args
  refine lv_aload_n hx hb (xb_d D_M_byteAt 0 rfl) rfl (lv_at hl 0 rfl) ?_
  obtain ⟨hk1, hw⟩ := hw
  refine xb_getP (C := R_M) (T := F_M) (N := 97) hx hb 8 57 hts fin_M hown hR hk1 (by decide) rfl (by decide) rfl (hts _ m_2087260c) (fun _ h9 => h9) (xb_d D_M_byteAt 1 rfl) ?_
  obtain ⟨b2, eb2, hw⟩ := hw
  refine xb_some eb2 ?_
  refine lv_aload_n hx hb (xb_d D_M_byteAt 2 rfl) rfl (lv_at hl 0 rfl) ?_
  refine lv_iload_n hx hb (xb_d D_M_byteAt 3 rfl) rfl (lv_at hl 1 rfl) ?_
  refine lv_lload_n hx hb (xb_d D_M_byteAt 4 rfl) rfl (lv_at hl 2 rfl) ?_
  refine xb_call0 (D := D) (A := A) (σ := σ) (h := h) (d := 2) (maxL := 5) (rest := [.ref b2]) (av := [.ref x0, .int x1, .long x2]) (fun T hT X => by obtain ⟨cb9, ra9, rb9, rc9⟩ := xb_recv (ci := 8) hR rfl hk1 (by decide); exact xt_invV X hx hown (hts _ m_3664d9ce) (hts _ m_a99d37f4) (hts _ m_971acc01) (xt_sigOf (hts _ m_9aac1411)) nm_M_ofMemory (by rw [hT]; exact ra9) rb9 rc9 (g := F0 m 7 ls [.long x2, .int x1, .ref x0, .ref b2]) rfl (argsL := [.int x1, .long x2]) (rest := [.ref b2]) rfl rfl (by rw [hb]; exact (xb_d D_M_byteAt 5 rfl))) (ok_M_ofMemory l hfl D A σ x0 x1 x2 h _ hw) (hml.trans hl.1.symm) (by rw [hb]; exact (xb_d D_M_byteAt 5 rfl)) (Nat.le_of_ble_eq_true rfl) (Nat.le_of_ble_eq_true rfl) (Nat.le_of_ble_eq_true rfl) (show k ≤ MC by omega) (show n ≤ MS by omega) (xt_w1 hB.1 m_9aac1411) (xt_cdOf hB.1 m_9aac1411) (hts _ m_d5ed7bed) hB hR hS hA (fun vv h3 H locs hq hEh3 hR hS => ?_)
  obtain ⟨r4, rfl, hw⟩ := hq
  have hw := hw hEh3
  have hE := hE.tr hEh3
  refine W.eq (g2 := F0 m 10 ls [.int r4, .ref b2]) rfl ?_
  obtain ⟨hk6, hw⟩ := hw
  obtain ⟨hi5, hw⟩ := hw
  refine xb_bald hx hb hR hk6 hi5 (xb_d D_M_byteAt 6 rfl) ?_
  refine lv_sipush (v := 255) hx hb (xb_d D_M_byteAt 7 rfl) (by decide) ?_
  refine lv_iand hx hb (xb_d D_M_byteAt 8 rfl) ?_
  exact xb_iret 0 0 hx hb hr hlocks (show k + 0 ≤ MC by omega) (show n + 0 ≤ MS by omega) hE hR hS (xb_d D_M_byteAt 9 rfl) hw

theorem m_ec7c79cd : (.methodLink "StackHostModel" 592 y_M_isInstance : Cond) ∈ xt_tbl := xt_in (xt_t12 (List.mem_of_getElem? (i := 121) (by decide +kernel))) (by decide +kernel)
theorem m_cefd1701 : (.instanceMethod y_M_isInstance : Cond) ∈ xt_tbl := xt_in (xt_t12 (List.mem_of_getElem? (i := 123) (by decide +kernel))) (by decide +kernel)
theorem m_d2ca0421 : (.selects "StackHostModel" y_M_isInstance y_M_isInstance : Cond) ∈ xt_tbl := xt_in (xt_v14 (q := (⟨"StackHostModel", "isInstance", "(I)Z"⟩, 97)) (List.mem_of_getElem? (i := 5) (by decide +kernel))) (by decide +kernel)
theorem m_5aaa69eb : (.code y_M_isInstance b_M_isInstance 2 (some .boolean) : Cond) ∈ xt_tbl := xt_in (xt_t12 (List.mem_of_getElem? (i := 124) (by decide +kernel))) (by decide +kernel)
theorem m_b47f62c2 : (.methodLink "StackHostModel" 316 y_M_manyOf : Cond) ∈ xt_tbl := xt_in (xt_t11 (List.mem_of_getElem? (i := 64) (by decide +kernel))) (by decide +kernel)
theorem m_9f071faf : (.instanceMethod y_M_manyOf : Cond) ∈ xt_tbl := xt_in (xt_t11 (List.mem_of_getElem? (i := 66) (by decide +kernel))) (by decide +kernel)
theorem m_e1bb5c84 : (.selects "StackHostModel" y_M_manyOf y_M_manyOf : Cond) ∈ xt_tbl := xt_in (xt_v10 (q := (⟨"StackHostModel", "manyOf", "(II)I"⟩, 97)) (List.mem_of_getElem? (i := 8) (by decide +kernel))) (by decide +kernel)
theorem m_3a6212d6 : (.code y_M_manyOf b_M_manyOf 3 (some .int) : Cond) ∈ xt_tbl := xt_in (xt_t11 (List.mem_of_getElem? (i := 67) (by decide +kernel))) (by decide +kernel)
theorem nm_M_isInstance : xt_nm y_M_isInstance 1 := ⟨by decide +kernel, by decide +kernel⟩
theorem nm_M_manyOf : xt_nm y_M_manyOf 2 := ⟨by decide +kernel, by decide +kernel⟩
set_option maxRecDepth 100000 in
def T_M_isExport : List (Nat × Instr × Nat) := [(0, .aload_n 0, 1), (1, .iload_n 1, 1), (2, .invokevirtual 592, 3), (5, .ifCond .eq 27, 3), (8, .iload_n 2, 1), (9, .ifCond .lt 23, 3), (12, .iload_n 2, 1), (13, .aload_n 0, 1), (14, .aload_n 0, 1), (15, .getfield 62, 3), (18, .iload_n 1, 1), (19, .iaload, 1), (20, .bipush 7, 2), (22, .invokevirtual 316, 3), (25, .if_icmp .ge 7, 3), (28, .iconst 1, 1), (29, .goto 4, 3), (32, .iconst 0, 1), (33, .ireturn, 1)]
theorem D_M_isExport : ∀ q ∈ T_M_isExport, decode b_M_isExport q.1 = .ok (q.2.1, q.2.2) := by decide +kernel

set_option maxHeartbeats 4000000 in
set_option maxRecDepth 100000 in
theorem am_M_isExport_L33 (l : Launch) (hfl : l.flags = pinnedFlags ++ [noTraceFlag]) (D : va_G) (A : Nat → Prop) (σ MC MS : Nat) (h0 : xb_H) (Qr : Int32 → xb_H → Prop) (y0 : Int32) (h : xb_H) (hw : w_M_isExport_L33 Qr y0 h) : xb_am l D A σ 3 MC MS h0 (fun v h _ _ => ∃ r, v = some (.int r) ∧ Qr r h) (fun _ _ _ _ => False) y_M_isExport.cls y_M_isExport.name b_M_isExport 3 ([] : List ExceptionTableEntry) (some .boolean) 33 [] [.int y0] h 0 0 := by
  unfold w_M_isExport_L33 at hw
  intro p e s m args below meth c hC H locs ls k n hE hl hR hS hk hn
  obtain ⟨hx, hb, hown, hlocks, htab, hml, hr, hB, hA, hnm⟩ := id hC
  have hts := hB.1.1.at args
  exact xb_zret 0 0 hx hb hr hlocks (show k + 0 ≤ MC by omega) (show n + 0 ≤ MS by omega) hw.1 hE hR hS (xb_d D_M_isExport 18 rfl) hw.2

set_option maxHeartbeats 4000000 in
set_option maxRecDepth 100000 in
theorem am_M_isExport_L32 (l : Launch) (hfl : l.flags = pinnedFlags ++ [noTraceFlag]) (D : va_G) (A : Nat → Prop) (σ MC MS : Nat) (h0 : xb_H) (Qr : Int32 → xb_H → Prop) (h : xb_H) (hw : w_M_isExport_L32 Qr h) : xb_am l D A σ 3 MC MS h0 (fun v h _ _ => ∃ r, v = some (.int r) ∧ Qr r h) (fun _ _ _ _ => False) y_M_isExport.cls y_M_isExport.name b_M_isExport 3 ([] : List ExceptionTableEntry) (some .boolean) 32 [] [] h 0 0 := by
  unfold w_M_isExport_L32 at hw
  intro p e s m args below meth c hC H locs ls k n hE hl hR hS hk hn
  obtain ⟨hx, hb, hown, hlocks, htab, hml, hr, hB, hA, hnm⟩ := id hC
  have hts := hB.1.1.at args
  refine lv_iconst (v := 0) hx hb (xb_d D_M_isExport 17 rfl) (by decide) ?_
  exact am_M_isExport_L33 l hfl D A σ MC MS h0 Qr 0 h hw p e s m args below meth c hC H locs ls k n hE (lv_sub hl [] rfl) hR hS (by omega) (by omega)

set_option maxHeartbeats 4000000 in
set_option maxRecDepth 100000 in
theorem ok_M_isExport (l : Launch) (hfl : l.flags = pinnedFlags ++ [noTraceFlag]) (D : va_G) (A : Nat → Prop) (σ : Nat) (x0 : Nat) (x1 : Int32) (x2 : Int32) (h : xb_H) (Qr : Int32 → xb_H → Prop) (hw : w_M_isExport x0 x1 x2 h Qr) : xb_Met l y_M_isExport [.code y_M_isExport b_M_isExport 3 (some .boolean)] (xb_rm 3 0 0) (xb_Pc D A σ h [.ref x0, .int x1, .int x2]) (xb_Qc D A h 0 0 (fun v h _ _ => ∃ r, v = some (.int r) ∧ Qr r h) (fun _ _ _ _ => False)) A := by
  refine xb_ofAm (cc := b_M_isExport) (by decide) (Nat.le_of_ble_eq_true rfl) ?_
  unfold w_M_isExport at hw
  show xb_am l D A σ 3 0 0 h (fun v h _ _ => ∃ r, v = some (.int r) ∧ Qr r h) (fun _ _ _ _ => False) y_M_isExport.cls y_M_isExport.name b_M_isExport 3 ([] : List ExceptionTableEntry) (some .boolean) 0 [(0, .ref x0), (1, .int x1), (2, .int x2)] [] h 0 0
  obtain ⟨MC, hMC⟩ : ∃ x, x = 0 := ⟨_, rfl⟩
  obtain ⟨MS, hMS⟩ : ∃ x, x = 0 := ⟨_, rfl⟩
  rw [show xb_am l D A σ 3 0 0 = xb_am l D A σ 3 MC MS by rw [hMC, hMS]]
  obtain ⟨h0, hh0⟩ : ∃ x, x = h := ⟨_, rfl⟩
  rw [show xb_am l D A σ 3 MC MS h = xb_am l D A σ 3 MC MS h0 by rw [hh0]]
  intro p e s m args below meth c hC H locs ls k n hE hl hR hS hk hn
  obtain ⟨hx, hb, hown, hlocks, htab, hml, hr, hB, hA, hnm⟩ := id hC
  have hts := hB.1.1.at args
  refine lv_aload_n hx hb (xb_d D_M_isExport 0 rfl) rfl (lv_at hl 0 rfl) ?_
  refine lv_iload_n hx hb (xb_d D_M_isExport 1 rfl) rfl (lv_at hl 1 rfl) ?_
  obtain ⟨hk1, hw⟩ := hw
  refine xb_call0 (D := D) (A := A) (σ := σ) (h := h) (d := 2) (maxL := 2) (rest := []) (av := [.ref x0, .int x1]) (fun T hT X => by obtain ⟨cb9, ra9, rb9, rc9⟩ := xb_recv (ci := 8) hR rfl hk1 (by decide); exact xt_invV X hx hown (hts _ m_ec7c79cd) (hts _ m_cefd1701) (hts _ m_d2ca0421) (xt_sigOf (hts _ m_5aaa69eb)) nm_M_isInstance (by rw [hT]; exact ra9) rb9 rc9 (g := F0 m 2 ls [.int x1, .ref x0]) rfl (argsL := [.int x1]) (rest := []) rfl rfl (by rw [hb]; exact (xb_d D_M_isExport 2 rfl))) (ok_M_isInstance l hfl D A σ x0 x1 h _ hw) (hml.trans hl.1.symm) (by rw [hb]; exact (xb_d D_M_isExport 2 rfl)) (Nat.le_of_ble_eq_true rfl) (Nat.le_of_ble_eq_true rfl) (Nat.le_of_ble_eq_true rfl) (show k ≤ MC by omega) (show n ≤ MS by omega) (xt_w1 hB.1 m_5aaa69eb) (xt_cdOf hB.1 m_5aaa69eb) (hts _ m_d5ed7bed) hB hR hS hA (fun vv h2 H locs hq hEh2 hR hS => ?_)
  obtain ⟨r3, rfl, hw⟩ := hq
  have hw := hw hEh2
  have hE := hE.tr hEh2
  refine W.eq (g2 := F0 m 5 ls [.int r3]) rfl ?_
  refine lv_if_eq (tgt := 32) hx hb (xb_d D_M_isExport 3 rfl) rfl (fun hc4 => ?_) (fun hc4 => ?_)
  · have hw := hw.1 hc4
    exact am_M_isExport_L32 l hfl D A σ MC MS h0 Qr h2 hw p e s m args below meth c hC H locs ls k n hE (lv_sub hl [] rfl) hR hS (by omega) (by omega)
  · have hw := hw.2 hc4
    refine lv_iload_n hx hb (xb_d D_M_isExport 4 rfl) rfl (lv_at hl 2 rfl) ?_
    refine lv_if_lt (tgt := 32) hx hb (xb_d D_M_isExport 5 rfl) rfl (fun hc5 => ?_) (fun hc5 => ?_)
    · have hw := hw.1 hc5
      exact am_M_isExport_L32 l hfl D A σ MC MS h0 Qr h2 hw p e s m args below meth c hC H locs ls k n hE (lv_sub hl [] rfl) hR hS (by omega) (by omega)
    · have hw := hw.2 hc5
      refine lv_iload_n hx hb (xb_d D_M_isExport 6 rfl) rfl (lv_at hl 2 rfl) ?_
      refine lv_aload_n hx hb (xb_d D_M_isExport 7 rfl) rfl (lv_at hl 0 rfl) ?_
      refine lv_aload_n hx hb (xb_d D_M_isExport 8 rfl) rfl (lv_at hl 0 rfl) ?_
      have hk1 : xb_k h2 x0 = 9 := hEh2.k hk1
      refine xb_getP (C := R_M) (T := F_M) (N := 97) hx hb 8 31 hts fin_M hown hR hk1 (by decide) rfl (by decide) rfl (hts _ m_691d5f47) (fun _ h9 => h9) (xb_d D_M_isExport 9 rfl) ?_
      obtain ⟨b6, eb6, hw⟩ := hw
      refine xb_some eb6 ?_
      refine lv_iload_n hx hb (xb_d D_M_isExport 10 rfl) rfl (lv_at hl 1 rfl) ?_
      obtain ⟨hk8, hw⟩ := hw
      obtain ⟨hi7, hw⟩ := hw
      refine xb_iald hx hb hR hk8 hi7 (xb_d D_M_isExport 11 rfl) ?_
      refine lv_bipush (v := 7) hx hb (xb_d D_M_isExport 12 rfl) (by decide) ?_
      refine xb_call0 (D := D) (A := A) (σ := σ) (h := h2) (d := 2) (maxL := 3) (rest := [.int x2]) (av := [.ref x0, .int (xb_i h2 b6 (Int32.toNatClampNeg x1)), .int 7]) (fun T hT X => by obtain ⟨cb9, ra9, rb9, rc9⟩ := xb_recv (ci := 8) hR rfl hk1 (by decide); exact xt_invV X hx hown (hts _ m_b47f62c2) (hts _ m_9f071faf) (hts _ m_e1bb5c84) (xt_sigOf (hts _ m_3a6212d6)) nm_M_manyOf (by rw [hT]; exact ra9) rb9 rc9 (g := F0 m 22 ls [.int 7, .int (xb_i h2 b6 (Int32.toNatClampNeg x1)), .ref x0, .int x2]) rfl (argsL := [.int (xb_i h2 b6 (Int32.toNatClampNeg x1)), .int 7]) (rest := [.int x2]) rfl rfl (by rw [hb]; exact (xb_d D_M_isExport 13 rfl))) (ok_M_manyOf l hfl D A σ x0 (xb_i h2 b6 (Int32.toNatClampNeg x1)) 7 h2 _ hw) (hml.trans hl.1.symm) (by rw [hb]; exact (xb_d D_M_isExport 13 rfl)) (Nat.le_of_ble_eq_true rfl) (Nat.le_of_ble_eq_true rfl) (Nat.le_of_ble_eq_true rfl) (show k ≤ MC by omega) (show n ≤ MS by omega) (xt_w1 hB.1 m_3a6212d6) (xt_cdOf hB.1 m_3a6212d6) (hts _ m_d5ed7bed) hB hR hS hA (fun vv h9 H locs hq hEh9 hR hS => ?_)
      obtain ⟨r10, rfl, hw⟩ := hq
      have hw := hw hEh9
      have hE := hE.tr hEh9
      refine W.eq (g2 := F0 m 25 ls [.int r10, .int x2]) rfl ?_
      refine lv_icmp_ge (tgt := 32) hx hb (xb_d D_M_isExport 14 rfl) rfl (fun hc11 => ?_) (fun hc11 => ?_)
      · have hw := hw.1 hc11
        exact am_M_isExport_L32 l hfl D A σ MC MS h0 Qr h9 hw p e s m args below meth c hC H locs ls k n hE (lv_sub hl [] rfl) hR hS (by omega) (by omega)
      · have hw := hw.2 hc11
        refine lv_iconst (v := 1) hx hb (xb_d D_M_isExport 15 rfl) (by decide) ?_
        refine lv_goto (tgt := 33) hx hb (xb_d D_M_isExport 16 rfl) rfl ?_
        exact am_M_isExport_L33 l hfl D A σ MC MS h0 Qr 1 h9 hw p e s m args below meth c hC H locs ls k n hE (lv_sub hl [] rfl) hR hS (by omega) (by omega)

theorem m_28c949a3 : (.methodLink "StackHostModel" 268 y_M_reserve : Cond) ∈ xt_tbl := xt_in (xt_t10 (List.mem_of_getElem? (i := 202) (by decide +kernel))) (by decide +kernel)
theorem m_31f93020 : (.instanceMethod y_M_reserve : Cond) ∈ xt_tbl := xt_in (xt_t10 (List.mem_of_getElem? (i := 204) (by decide +kernel))) (by decide +kernel)
theorem m_2b14e8ed : (.selects "StackHostModel" y_M_reserve y_M_reserve : Cond) ∈ xt_tbl := xt_in (xt_v9 (q := (⟨"StackHostModel", "reserve", "(I)V"⟩, 97)) (List.mem_of_getElem? (i := 1) (by decide +kernel))) (by decide +kernel)
theorem m_4a983344 : (.code y_M_reserve b_M_reserve 4 none : Cond) ∈ xt_tbl := xt_in (xt_t10 (List.mem_of_getElem? (i := 205) (by decide +kernel))) (by decide +kernel)
theorem nm_M_reserve : xt_nm y_M_reserve 1 := ⟨by decide +kernel, by decide +kernel⟩
set_option maxRecDepth 100000 in
def T_M_keepTape : List (Nat × Instr × Nat) := [(0, .aload_n 0, 1), (1, .aload_n 0, 1), (2, .getfield 265, 3), (5, .invokevirtual 268, 3), (8, .iconst 0, 1), (9, .istore_n 1, 1), (10, .iload_n 1, 1), (11, .aload_n 0, 1), (12, .getfield 265, 3), (15, .if_icmp .ge 26, 3), (18, .aload_n 0, 1), (19, .getfield 14, 3), (22, .aload_n 0, 1), (23, .getfield 262, 3), (26, .iload_n 1, 1), (27, .iadd, 1), (28, .aload_n 0, 1), (29, .getfield 8, 3), (32, .iload_n 1, 1), (33, .baload, 1), (34, .bastore, 1), (35, .iinc 1 1, 3), (38, .goto (-28), 3), (41, .aload_n 0, 1), (42, .getfield 262, 3), (45, .istore_n 1, 1), (46, .aload_n 0, 1), (47, .aload_n 0, 1), (48, .getfield 262, 3), (51, .aload_n 0, 1), (52, .getfield 265, 3), (55, .iadd, 1), (56, .putfield 262, 3), (59, .aload_n 0, 1), (60, .iconst 0, 1), (61, .putfield 265, 3), (64, .iload_n 1, 1), (65, .ireturn, 1)]
theorem D_M_keepTape : ∀ q ∈ T_M_keepTape, decode b_M_keepTape q.1 = .ok (q.2.1, q.2.2) := by decide +kernel

set_option maxHeartbeats 4000000 in
set_option maxRecDepth 100000 in
theorem am_M_keepTape_L10 (l : Launch) (hfl : l.flags = pinnedFlags ++ [noTraceFlag]) (D : va_G) (A : Nat → Prop) (σ MC MS : Nat) (h0 : xb_H) (Qr : Int32 → xb_H → Nat → Nat → Prop) (n9 : Nat) : ∀ (x0 : Nat) (x1 : Int32) (h : xb_H) (bc : Nat) (bs : Nat), w_M_keepTape_L10 Qr n9 x0 x1 h bc bs → xb_am l D A σ 3 MC MS h0 (fun v h bc bs => ∃ r, v = some (.int r) ∧ Qr r h bc bs) (fun _ _ _ _ => False) y_M_keepTape.cls y_M_keepTape.name b_M_keepTape 2 ([] : List ExceptionTableEntry) (some .int) 10 [(0, .ref x0), (1, .int x1)] [] h bc bs := by
  induction n9 with
  | zero => intro x0 x1 h bc bs hw; exact False.elim hw
  | succ n9 ih =>
    intro x0 x1 h bc bs hw
    unfold w_M_keepTape_L10 at hw
    intro p e s m args below meth c hC H locs ls k n hE hl hR hS hk hn
    obtain ⟨hx, hb, hown, hlocks, htab, hml, hr, hB, hA, hnm⟩ := id hC
    have hts := hB.1.1.at args
    refine lv_iload_n hx hb (xb_d D_M_keepTape 6 rfl) rfl (lv_at hl 1 rfl) ?_
    refine lv_aload_n hx hb (xb_d D_M_keepTape 7 rfl) rfl (lv_at hl 0 rfl) ?_
    obtain ⟨hk1, hw⟩ := hw
    refine xb_getI (C := R_M) (T := F_M) (N := 97) hx hb 8 2 hts fin_M hown hR hk1 (by decide) rfl (by decide) rfl (hts _ m_7895fa0a) (fun _ h9 => h9) (xb_d D_M_keepTape 8 rfl) ?_
    refine lv_icmp_ge (tgt := 41) hx hb (xb_d D_M_keepTape 9 rfl) rfl (fun hc2 => ?_) (fun hc2 => ?_)
    · have hw := hw.1 hc2
      refine lv_aload_n hx hb (xb_d D_M_keepTape 23 rfl) rfl (lv_at hl 0 rfl) ?_
      refine xb_getI (C := R_M) (T := F_M) (N := 97) hx hb 8 4 hts fin_M hown hR hk1 (by decide) rfl (by decide) rfl (hts _ m_a4223f90) (fun _ h9 => h9) (xb_d D_M_keepTape 24 rfl) ?_
      obtain ⟨v3, ev3⟩ : ∃ x : Int32, x = (xb_i h x0 4) := ⟨_, rfl⟩
      have hw := hw v3 ev3
      refine xt_numi (y := v3) ev3.symm ?_
      refine lv_istore_n hx hb (xb_d D_M_keepTape 25 rfl) rfl hl (by decide) rfl (fun ls hl => ?_)
      have hl : lv_has ls 2 [(1, .int v3), (0, .ref x0)] := hl
      refine lv_aload_n hx hb (xb_d D_M_keepTape 26 rfl) rfl (lv_at hl 1 rfl) ?_
      refine lv_aload_n hx hb (xb_d D_M_keepTape 27 rfl) rfl (lv_at hl 1 rfl) ?_
      refine xb_getI (C := R_M) (T := F_M) (N := 97) hx hb 8 4 hts fin_M hown hR hk1 (by decide) rfl (by decide) rfl (hts _ m_a4223f90) (fun _ h9 => h9) (xb_d D_M_keepTape 28 rfl) ?_
      refine lv_aload_n hx hb (xb_d D_M_keepTape 29 rfl) rfl (lv_at hl 1 rfl) ?_
      refine xb_getI (C := R_M) (T := F_M) (N := 97) hx hb 8 2 hts fin_M hown hR hk1 (by decide) rfl (by decide) rfl (hts _ m_7895fa0a) (fun _ h9 => h9) (xb_d D_M_keepTape 30 rfl) ?_
      refine lv_iadd hx hb (xb_d D_M_keepTape 31 rfl) ?_
      refine xb_putI (C := R_M) (T := F_M) (N := 97) (ty := .int) (x := ((xb_i h x0 4) + (xb_i h x0 2))) hx hb 8 4 hts fin_M t_M t_M_ok n_M hown hR hS hk1 (by decide) rfl (by decide) rfl (hts _ m_a4223f90) (fun _ h9 => h9) rfl (by decide +kernel) rfl rfl (xb_d D_M_keepTape 32 rfl) (fun H locs hR hS => ?_)
      obtain ⟨h4, eh4⟩ : ∃ x : xb_H, x = xb_I h x0 4 ((xb_i h x0 4) + (xb_i h x0 2)) := ⟨_, rfl⟩
      rw [← eh4] at hR
      have hw := hw h4 eh4
      have hE : xb_ext h0 h4 := by rw [eh4]; exact hE
      refine lv_aload_n hx hb (xb_d D_M_keepTape 33 rfl) rfl (lv_at hl 1 rfl) ?_
      refine lv_iconst (v := 0) hx hb (xb_d D_M_keepTape 34 rfl) (by decide) ?_
      have hk1 : xb_k h4 x0 = 9 := by rw [eh4]; exact hk1
      refine xb_putI (C := R_M) (T := F_M) (N := 97) (ty := .int) (x := 0) hx hb 8 2 hts fin_M t_M t_M_ok n_M hown hR hS hk1 (by decide) rfl (by decide) rfl (hts _ m_7895fa0a) (fun _ h9 => h9) rfl (by decide +kernel) rfl rfl (xb_d D_M_keepTape 35 rfl) (fun H locs hR hS => ?_)
      obtain ⟨h5, eh5⟩ : ∃ x : xb_H, x = xb_I h4 x0 2 0 := ⟨_, rfl⟩
      rw [← eh5] at hR
      have hw := hw h5 eh5
      have hE : xb_ext h0 h5 := by rw [eh5]; exact hE
      refine lv_iload_n hx hb (xb_d D_M_keepTape 36 rfl) rfl (lv_at hl 0 rfl) ?_
      exact xb_iret bc bs hx hb hr hlocks (show k + bc ≤ MC by omega) (show n + bs ≤ MS by omega) hE hR hS (xb_d D_M_keepTape 37 rfl) hw
    · have hw := hw.2 hc2
      refine lv_aload_n hx hb (xb_d D_M_keepTape 10 rfl) rfl (lv_at hl 0 rfl) ?_
      refine xb_getP (C := R_M) (T := F_M) (N := 97) hx hb 8 3 hts fin_M hown hR hk1 (by decide) rfl (by decide) rfl (hts _ m_4f0568af) (fun _ h9 => h9) (xb_d D_M_keepTape 11 rfl) ?_
      obtain ⟨b6, eb6, hw⟩ := hw
      refine xb_some eb6 ?_
      refine lv_aload_n hx hb (xb_d D_M_keepTape 12 rfl) rfl (lv_at hl 0 rfl) ?_
      refine xb_getI (C := R_M) (T := F_M) (N := 97) hx hb 8 4 hts fin_M hown hR hk1 (by decide) rfl (by decide) rfl (hts _ m_a4223f90) (fun _ h9 => h9) (xb_d D_M_keepTape 13 rfl) ?_
      refine lv_iload_n hx hb (xb_d D_M_keepTape 14 rfl) rfl (lv_at hl 1 rfl) ?_
      refine lv_iadd hx hb (xb_d D_M_keepTape 15 rfl) ?_
      refine lv_aload_n hx hb (xb_d D_M_keepTape 16 rfl) rfl (lv_at hl 0 rfl) ?_
      refine xb_getP (C := R_M) (T := F_M) (N := 97) hx hb 8 1 hts fin_M hown hR hk1 (by decide) rfl (by decide) rfl (hts _ m_95b40228) (fun _ h9 => h9) (xb_d D_M_keepTape 17 rfl) ?_
      obtain ⟨b7, eb7, hw⟩ := hw
      refine xb_some eb7 ?_
      refine lv_iload_n hx hb (xb_d D_M_keepTape 18 rfl) rfl (lv_at hl 1 rfl) ?_
      obtain ⟨hk9, hw⟩ := hw
      obtain ⟨hi8, hw⟩ := hw
      refine xb_bald hx hb hR hk9 hi8 (xb_d D_M_keepTape 19 rfl) ?_
      obtain ⟨hk10, hw⟩ := hw
      obtain ⟨hi11, hw⟩ := hw
      refine xb_bast hx hb hR hS hk10 hi11 (xb_d D_M_keepTape 20 rfl) (fun H locs hR hS => ?_)
      obtain ⟨h12, eh12⟩ : ∃ x : xb_H, x = xb_I h b6 (Int32.toNatClampNeg ((xb_i h x0 4) + x1)) (vp_nar .byte (xb_i h b7 (Int32.toNatClampNeg x1))) := ⟨_, rfl⟩
      rw [← eh12] at hR
      have hw := hw h12 eh12
      have hE : xb_ext h0 h12 := by rw [eh12]; exact hE
      refine lv_iinc (v := (x1 + 1)) (k := 1) hx hb (xb_d D_M_keepTape 21 rfl) hl rfl (by first | rfl | decide) (by decide) rfl (fun ls hl => ?_)
      have hl : lv_has ls 2 [(1, .int (x1 + 1)), (0, .ref x0)] := hl
      refine lv_goto (tgt := 10) hx hb (xb_d D_M_keepTape 22 rfl) rfl ?_
      exact ih x0 (x1 + 1) h12 bc bs hw p e s m args below meth c hC H locs ls k n hE (lv_sub hl [1, 0] rfl) hR hS (by omega) (by omega)

set_option maxHeartbeats 4000000 in
set_option maxRecDepth 100000 in
theorem ok_M_keepTape (l : Launch) (hfl : l.flags = pinnedFlags ++ [noTraceFlag]) (D : va_G) (A : Nat → Prop) (σ : Nat) (x0 : Nat) (h : xb_H) (bc : Nat) (bs : Nat) (Qr : Int32 → xb_H → Nat → Nat → Prop) (hw : w_M_keepTape x0 h bc bs Qr) : xb_Met l y_M_keepTape [.code y_M_keepTape b_M_keepTape 2 (some .int)] (xb_rm 3 bc bs) (xb_Pc D A σ h [.ref x0]) (xb_Qc D A h bc bs (fun v h bc bs => ∃ r, v = some (.int r) ∧ Qr r h bc bs) (fun _ _ _ _ => False)) A := by
  refine xb_ofAm (cc := b_M_keepTape) (by decide) (Nat.le_of_ble_eq_true rfl) ?_
  unfold w_M_keepTape at hw
  show xb_am l D A σ 3 bc bs h (fun v h bc bs => ∃ r, v = some (.int r) ∧ Qr r h bc bs) (fun _ _ _ _ => False) y_M_keepTape.cls y_M_keepTape.name b_M_keepTape 2 ([] : List ExceptionTableEntry) (some .int) 0 [(0, .ref x0)] [] h bc bs
  obtain ⟨MC, hMC⟩ : ∃ x, x = bc := ⟨_, rfl⟩
  obtain ⟨MS, hMS⟩ : ∃ x, x = bs := ⟨_, rfl⟩
  rw [show xb_am l D A σ 3 bc bs = xb_am l D A σ 3 MC MS by rw [hMC, hMS]]
  obtain ⟨h0, hh0⟩ : ∃ x, x = h := ⟨_, rfl⟩
  rw [show xb_am l D A σ 3 MC MS h = xb_am l D A σ 3 MC MS h0 by rw [hh0]]
  intro p e s m args below meth c hC H locs ls k n hE hl hR hS hk hn
  obtain ⟨hx, hb, hown, hlocks, htab, hml, hr, hB, hA, hnm⟩ := id hC
  have hts := hB.1.1.at args
  refine lv_aload_n hx hb (xb_d D_M_keepTape 0 rfl) rfl (lv_at hl 0 rfl) ?_
  refine lv_aload_n hx hb (xb_d D_M_keepTape 1 rfl) rfl (lv_at hl 0 rfl) ?_
  obtain ⟨hk1, hw⟩ := hw
  refine xb_getI (C := R_M) (T := F_M) (N := 97) hx hb 8 2 hts fin_M hown hR hk1 (by decide) rfl (by decide) rfl (hts _ m_7895fa0a) (fun _ h9 => h9) (xb_d D_M_keepTape 2 rfl) ?_
  refine xb_call (D := D) (A := A) (σ := σ) (h := h) (d := 2) (mc := bc) (ms := bs) (maxL := 4) (rest := []) (av := [.ref x0, .int (xb_i h x0 2)]) (fun T hT X => by obtain ⟨cb9, ra9, rb9, rc9⟩ := xb_recv (ci := 8) hR rfl hk1 (by decide); exact xt_invV X hx hown (hts _ m_28c949a3) (hts _ m_31f93020) (hts _ m_2b14e8ed) (xt_sigOf (hts _ m_4a983344)) nm_M_reserve (by rw [hT]; exact ra9) rb9 rc9 (g := F0 m 5 ls [.int (xb_i h x0 2), .ref x0]) rfl (argsL := [.int (xb_i h x0 2)]) (rest := []) rfl rfl (by rw [hb]; exact (xb_d D_M_keepTape 3 rfl))) (ok_M_reserve l hfl D A σ x0 (xb_i h x0 2) h bc bs _ hw) (hml.trans hl.1.symm) (by rw [hb]; exact (xb_d D_M_keepTape 3 rfl)) (Nat.le_of_ble_eq_true rfl) (Nat.le_of_ble_eq_true rfl) (Nat.le_of_ble_eq_true rfl) (show k + bc ≤ MC by omega) (show n + bs ≤ MS by omega) (xt_w1 hB.1 m_4a983344) (xt_cdOf hB.1 m_4a983344) (hts _ m_d5ed7bed) hB hR hS hA (fun vv h2 bc3 bs3 kk3 nn3 H locs hk3 hn3 hq hEh2 hR hS => ?_) (fun XX ax h2 bc3 bs3 kk3 nn3 H locs hk3 hn3 hq hEh2 hex hR hS => ?_)
  · obtain ⟨rfl, hw⟩ := hq
    have hw := hw hEh2
    have hE := hE.tr hEh2
    refine W.eq (g2 := F0 m 8 ls []) rfl ?_
    refine lv_iconst (v := 0) hx hb (xb_d D_M_keepTape 4 rfl) (by decide) ?_
    refine lv_istore_n hx hb (xb_d D_M_keepTape 5 rfl) rfl hl (by decide) rfl (fun ls hl => ?_)
    have hl : lv_has ls 2 [(1, .int 0), (0, .ref x0)] := hl
    obtain ⟨n8, hw⟩ := hw
    exact am_M_keepTape_L10 l hfl D A σ MC MS h0 Qr n8 x0 0 h2 bc3 bs3 hw p e s m args below meth c hC H locs ls (k + kk3) (n + nn3) hE (lv_sub hl [1, 0] rfl) hR hS (by omega) (by omega)
  · exact False.elim hq

