theorem m_2899aa38 : (.fieldLink "StackHost$Reader" 152 "StackHost$StackModule" "imports" "LStackHost$Row;" : Cond) ∈ xt_tbl := xt_in (xt_t3 (List.mem_of_getElem? (i := 64) (by decide +kernel))) (by decide +kernel)
theorem m_8d503518 : (.fieldLink "StackHost$Reader" 67 "StackHost$StackModule" "imported" "[I" : Cond) ∈ xt_tbl := xt_in (xt_t3 (List.mem_of_getElem? (i := 113) (by decide +kernel))) (by decide +kernel)
theorem m_544cf043 : (.methodLink "StackHost$Reader" 158 y_Reader_readVariableType : Cond) ∈ xt_tbl := xt_in (xt_t4 (List.mem_of_getElem? (i := 15) (by decide +kernel))) (by decide +kernel)
theorem m_43060829 : (.instanceMethod y_Reader_readVariableType : Cond) ∈ xt_tbl := xt_in (xt_t4 (List.mem_of_getElem? (i := 17) (by decide +kernel))) (by decide +kernel)
theorem m_ec78475f : (.selects "StackHost$Reader" y_Reader_readVariableType y_Reader_readVariableType : Cond) ∈ xt_tbl := xt_in (xt_v2 (q := (⟨"StackHost$Reader", "readVariableType", "(I)V"⟩, 6)) (List.mem_of_getElem? (i := 0) (by decide +kernel))) (by decide +kernel)
theorem m_a4ac8e6b : (.code y_Reader_readVariableType b_Reader_readVariableType 2 none : Cond) ∈ xt_tbl := xt_in (xt_t4 (List.mem_of_getElem? (i := 18) (by decide +kernel))) (by decide +kernel)
theorem m_aacfe790 : (.fieldLink "StackHost$Reader" 94 "StackHost$StackModule" "memories" "LStackHost$Row;" : Cond) ∈ xt_tbl := xt_in (xt_t3 (List.mem_of_getElem? (i := 76) (by decide +kernel))) (by decide +kernel)
theorem m_8deb7e3b : (.methodLink "StackHost$Reader" 97 y_Reader_readLimits : Cond) ∈ xt_tbl := xt_in (xt_t4 (List.mem_of_getElem? (i := 10) (by decide +kernel))) (by decide +kernel)
theorem m_592ab943 : (.instanceMethod y_Reader_readLimits : Cond) ∈ xt_tbl := xt_in (xt_t4 (List.mem_of_getElem? (i := 12) (by decide +kernel))) (by decide +kernel)
theorem m_602d511d : (.selects "StackHost$Reader" y_Reader_readLimits y_Reader_readLimits : Cond) ∈ xt_tbl := xt_in (xt_v1 (q := (⟨"StackHost$Reader", "readLimits", "(LStackHost$Row;I)V"⟩, 6)) (List.mem_of_getElem? (i := 15) (by decide +kernel))) (by decide +kernel)
theorem m_06c7cb4a : (.code y_Reader_readLimits b_Reader_readLimits 4 none : Cond) ∈ xt_tbl := xt_in (xt_t4 (List.mem_of_getElem? (i := 13) (by decide +kernel))) (by decide +kernel)
theorem m_e81580da : (.fieldLink "StackHost$Reader" 155 "StackHost$StackModule" "tables" "LStackHost$Row;" : Cond) ∈ xt_tbl := xt_in (xt_t3 (List.mem_of_getElem? (i := 74) (by decide +kernel))) (by decide +kernel)
theorem m_08af5762 : (.fieldLink "StackHost$Reader" 64 "StackHost$StackModule" "functions" "LStackHost$Row;" : Cond) ∈ xt_tbl := xt_in (xt_t3 (List.mem_of_getElem? (i := 66) (by decide +kernel))) (by decide +kernel)
theorem nm_Reader_readVariableType : xt_nm y_Reader_readVariableType 1 := ⟨by decide +kernel, by decide +kernel⟩
theorem nm_Reader_readLimits : xt_nm y_Reader_readLimits 2 := ⟨by decide +kernel, by decide +kernel⟩
set_option maxRecDepth 100000 in
def T_Reader_readImport : List (Nat × Instr × Nat) := [(0, .aload_n 0, 1), (1, .getfield 41, 3), (4, .istore_n 1, 1), (5, .aload_n 0, 1), (6, .invokevirtual 78, 3), (9, .istore_n 2, 1), (10, .aload_n 0, 1), (11, .getfield 41, 3), (14, .iload_n 2, 1), (15, .isub, 1), (16, .istore_n 3, 1), (17, .aload_n 0, 1), (18, .invokevirtual 78, 3), (21, .istore 4, 2), (23, .aload_n 0, 1), (24, .getfield 41, 3), (27, .iload 4, 2), (29, .isub, 1), (30, .istore 5, 2), (32, .aload_n 0, 1), (33, .iconst 3, 1), (34, .invokevirtual 148, 3), (37, .istore 6, 2), (39, .aload_n 0, 1), (40, .getfield 15, 3), (43, .getfield 152, 3), (46, .iload_n 1, 1), (47, .i2l, 1), (48, .invokevirtual 87, 3), (51, .aload_n 0, 1), (52, .getfield 15, 3), (55, .getfield 152, 3), (58, .iload 6, 2), (60, .i2l, 1), (61, .invokevirtual 87, 3), (64, .aload_n 0, 1), (65, .getfield 15, 3), (68, .getfield 152, 3), (71, .aload_n 0, 1), (72, .getfield 15, 3), (75, .getfield 67, 3), (78, .iload 6, 2), (80, .iaload, 1), (81, .i2l, 1), (82, .invokevirtual 87, 3), (85, .aload_n 0, 1), (86, .getfield 15, 3), (89, .getfield 152, 3), (92, .iload_n 3, 1), (93, .i2l, 1), (94, .invokevirtual 87, 3), (97, .aload_n 0, 1), (98, .getfield 15, 3), (101, .getfield 152, 3), (104, .iload_n 2, 1), (105, .i2l, 1), (106, .invokevirtual 87, 3), (109, .aload_n 0, 1), (110, .getfield 15, 3), (113, .getfield 152, 3), (116, .iload 5, 2), (118, .i2l, 1), (119, .invokevirtual 87, 3), (122, .aload_n 0, 1), (123, .getfield 15, 3), (126, .getfield 152, 3), (129, .iload 4, 2), (131, .i2l, 1), (132, .invokevirtual 87, 3), (135, .aload_n 0, 1), (136, .getfield 15, 3), (139, .getfield 67, 3), (142, .iload 6, 2), (144, .dup2, 1), (145, .iaload, 1), (146, .iconst 1, 1), (147, .iadd, 1), (148, .iastore, 1), (149, .iload 6, 2), (151, .ifCond .ne 37, 3), (154, .aload_n 0, 1), (155, .getfield 15, 3), (158, .getfield 64, 3), (161, .iload_n 1, 1), (162, .i2l, 1), (163, .invokevirtual 87, 3), (166, .aload_n 0, 1), (167, .getfield 15, 3), (170, .getfield 64, 3), (173, .aload_n 0, 1), (174, .invokevirtual 70, 3), (177, .i2l, 1), (178, .ldc2_w 76, 3), (181, .land, 1), (182, .invokevirtual 87, 3), (185, .goto 69, 3), (188, .iload 6, 2), (190, .iconst 1, 1), (191, .if_icmp .ne 24, 3), (194, .aload_n 0, 1), (195, .bipush 112, 2), (197, .invokevirtual 134, 3), (200, .aload_n 0, 1), (201, .aload_n 0, 1), (202, .getfield 15, 3), (205, .getfield 155, 3), (208, .iload_n 1, 1), (209, .invokevirtual 97, 3), (212, .goto 42, 3), (215, .iload 6, 2), (217, .iconst 2, 1), (218, .if_icmp .ne 18, 3), (221, .aload_n 0, 1), (222, .aload_n 0, 1), (223, .getfield 15, 3), (226, .getfield 94, 3), (229, .iload_n 1, 1), (230, .invokevirtual 97, 3), (233, .goto 21, 3), (236, .aload_n 0, 1), (237, .iload_n 1, 1), (238, .invokevirtual 158, 3), (241, .aload_n 0, 1), (242, .getfield 15, 3), (245, .getfield 161, 3), (248, .ldc2_w 164, 3), (251, .invokevirtual 87, 3), (254, .return_, 1)]
theorem D_Reader_readImport : ∀ q ∈ T_Reader_readImport, decode b_Reader_readImport q.1 = .ok (q.2.1, q.2.2) := by decide +kernel
def w_Reader_readImport_L254 (Qr : xb_H → Prop) (Qt : String → xb_H → Prop) (h : xb_H) (bc : Nat) (bs : Nat) : Prop :=
    Qr h

def w_Reader_readImport (x0 : Nat) (h : xb_H) (bc : Nat) (bs : Nat) (Qr : xb_H → Prop) (Qt : String → xb_H → Prop) : Prop :=
    xb_k h x0 = 4 ∧ ∀ v2 : Int32, v2 = (xb_i h x0 3) → ∃ c5 sc5 : Nat, c5 ≤ bc ∧ sc5 ≤ bs ∧ w_Reader_readName x0 h c5 sc5 (fun (r4 : Int32) (h3 : xb_H) => xb_ext h h3 → ∀ v6 : Int32, v6 = ((xb_i h3 x0 3) - r4) → ∃ c9 sc9 : Nat, c9 ≤ (bc - c5) ∧ sc9 ≤ (bs - sc5) ∧ w_Reader_readName x0 h3 c9 sc9 (fun (r8 : Int32) (h7 : xb_H) => xb_ext h3 h7 → ∀ v10 : Int32, v10 = ((xb_i h7 x0 3) - r8) → ∃ c13 sc13 : Nat, c13 ≤ ((bc - c5) - c9) ∧ sc13 ≤ ((bs - sc5) - sc9) ∧ w_Reader_byteUpTo x0 3 h7 c13 sc13 (fun (r12 : Int32) (h11 : xb_H) => xb_ext h7 h11 → ∃ b14 : Nat, (xb_r h11 x0 0) = some b14 ∧ xb_k h11 b14 = 3 ∧ ∃ b16 : Nat, (xb_r h11 b14 3) = some b16 ∧ xb_k h11 b16 = 2 ∧ ∃ c20 sc20 : Nat, c20 ≤ (((bc - c5) - c9) - c13) ∧ sc20 ≤ (((bs - sc5) - sc9) - sc13) ∧ w_Row_add b16 (Int32.toInt64 v2) h11 c20 sc20 (fun (h18 : xb_H) => xb_ext h11 h18 → ∃ b21 : Nat, (xb_r h18 x0 0) = some b21 ∧ xb_k h18 b21 = 3 ∧ ∃ b23 : Nat, (xb_r h18 b21 3) = some b23 ∧ xb_k h18 b23 = 2 ∧ ∃ c27 sc27 : Nat, c27 ≤ ((((bc - c5) - c9) - c13) - c20) ∧ sc27 ≤ ((((bs - sc5) - sc9) - sc13) - sc20) ∧ w_Row_add b23 (Int32.toInt64 r12) h18 c27 sc27 (fun (h25 : xb_H) => xb_ext h18 h25 → ∃ b28 : Nat, (xb_r h25 x0 0) = some b28 ∧ xb_k h25 b28 = 3 ∧ ∃ b30 : Nat, (xb_r h25 b28 3) = some b30 ∧ ∃ b31 : Nat, (xb_r h25 x0 0) = some b31 ∧ xb_k h25 b31 = 3 ∧ ∃ b33 : Nat, (xb_r h25 b31 14) = some b33 ∧ xb_k h25 b33 = 102 ∧ vp_in r12 (xb_n h25 b33) ∧ xb_k h25 b30 = 2 ∧ ∃ c39 sc39 : Nat, c39 ≤ (((((bc - c5) - c9) - c13) - c20) - c27) ∧ sc39 ≤ (((((bs - sc5) - sc9) - sc13) - sc20) - sc27) ∧ w_Row_add b30 (Int32.toInt64 (xb_i h25 b33 (Int32.toNatClampNeg r12))) h25 c39 sc39 (fun (h37 : xb_H) => xb_ext h25 h37 → ∃ b40 : Nat, (xb_r h37 x0 0) = some b40 ∧ xb_k h37 b40 = 3 ∧ ∃ b42 : Nat, (xb_r h37 b40 3) = some b42 ∧ xb_k h37 b42 = 2 ∧ ∃ c46 sc46 : Nat, c46 ≤ ((((((bc - c5) - c9) - c13) - c20) - c27) - c39) ∧ sc46 ≤ ((((((bs - sc5) - sc9) - sc13) - sc20) - sc27) - sc39) ∧ w_Row_add b42 (Int32.toInt64 v6) h37 c46 sc46 (fun (h44 : xb_H) => xb_ext h37 h44 → ∃ b47 : Nat, (xb_r h44 x0 0) = some b47 ∧ xb_k h44 b47 = 3 ∧ ∃ b49 : Nat, (xb_r h44 b47 3) = some b49 ∧ xb_k h44 b49 = 2 ∧ ∃ c53 sc53 : Nat, c53 ≤ (((((((bc - c5) - c9) - c13) - c20) - c27) - c39) - c46) ∧ sc53 ≤ (((((((bs - sc5) - sc9) - sc13) - sc20) - sc27) - sc39) - sc46) ∧ w_Row_add b49 (Int32.toInt64 r4) h44 c53 sc53 (fun (h51 : xb_H) => xb_ext h44 h51 → ∃ b54 : Nat, (xb_r h51 x0 0) = some b54 ∧ xb_k h51 b54 = 3 ∧ ∃ b56 : Nat, (xb_r h51 b54 3) = some b56 ∧ xb_k h51 b56 = 2 ∧ ∃ c60 sc60 : Nat, c60 ≤ ((((((((bc - c5) - c9) - c13) - c20) - c27) - c39) - c46) - c53) ∧ sc60 ≤ ((((((((bs - sc5) - sc9) - sc13) - sc20) - sc27) - sc39) - sc46) - sc53) ∧ w_Row_add b56 (Int32.toInt64 v10) h51 c60 sc60 (fun (h58 : xb_H) => xb_ext h51 h58 → ∃ b61 : Nat, (xb_r h58 x0 0) = some b61 ∧ xb_k h58 b61 = 3 ∧ ∃ b63 : Nat, (xb_r h58 b61 3) = some b63 ∧ xb_k h58 b63 = 2 ∧ ∃ c67 sc67 : Nat, c67 ≤ (((((((((bc - c5) - c9) - c13) - c20) - c27) - c39) - c46) - c53) - c60) ∧ sc67 ≤ (((((((((bs - sc5) - sc9) - sc13) - sc20) - sc27) - sc39) - sc46) - sc53) - sc60) ∧ w_Row_add b63 (Int32.toInt64 r8) h58 c67 sc67 (fun (h65 : xb_H) => xb_ext h58 h65 → ∃ b68 : Nat, (xb_r h65 x0 0) = some b68 ∧ xb_k h65 b68 = 3 ∧ ∃ b70 : Nat, (xb_r h65 b68 14) = some b70 ∧ xb_k h65 b70 = 102 ∧ vp_in r12 (xb_n h65 b70) ∧ vp_in r12 (xb_n h65 b70) ∧ ∀ h74 : xb_H, h74 = xb_I h65 b70 (Int32.toNatClampNeg r12) ((xb_i h65 b70 (Int32.toNatClampNeg r12)) + 1) → ((¬ r12 = (0 : Int32) → ((¬ r12 = (1 : Int32) → ((¬ r12 = (2 : Int32) → ∃ c80 sc80 : Nat, c80 ≤ ((((((((((bc - c5) - c9) - c13) - c20) - c27) - c39) - c46) - c53) - c60) - c67) ∧ sc80 ≤ ((((((((((bs - sc5) - sc9) - sc13) - sc20) - sc27) - sc39) - sc46) - sc53) - sc60) - sc67) ∧ w_Reader_readVariableType x0 v2 h74 c80 sc80 (fun (h78 : xb_H) => xb_ext h74 h78 → ∃ b81 : Nat, (xb_r h78 x0 0) = some b81 ∧ xb_k h78 b81 = 3 ∧ ∃ b83 : Nat, (xb_r h78 b81 7) = some b83 ∧ xb_k h78 b83 = 2 ∧ ∃ c87 sc87 : Nat, c87 ≤ (((((((((((bc - c5) - c9) - c13) - c20) - c27) - c39) - c46) - c53) - c60) - c67) - c80) ∧ sc87 ≤ (((((((((((bs - sc5) - sc9) - sc13) - sc20) - sc27) - sc39) - sc46) - sc53) - sc60) - sc67) - sc80) ∧ w_Row_add b83 (-1) h78 c87 sc87 (fun (h85 : xb_H) => xb_ext h78 h85 → w_Reader_readImport_L254 Qr Qt h85 ((((((((((((bc - c5) - c9) - c13) - c20) - c27) - c39) - c46) - c53) - c60) - c67) - c80) - c87) ((((((((((((bs - sc5) - sc9) - sc13) - sc20) - sc27) - sc39) - sc46) - sc53) - sc60) - sc67) - sc80) - sc87))) Qt) ∧ (r12 = (2 : Int32) → ∃ b88 : Nat, (xb_r h74 x0 0) = some b88 ∧ xb_k h74 b88 = 3 ∧ ∃ b90 : Nat, (xb_r h74 b88 6) = some b90 ∧ ∃ c93 sc93 : Nat, c93 ≤ ((((((((((bc - c5) - c9) - c13) - c20) - c27) - c39) - c46) - c53) - c60) - c67) ∧ sc93 ≤ ((((((((((bs - sc5) - sc9) - sc13) - sc20) - sc27) - sc39) - sc46) - sc53) - sc60) - sc67) ∧ w_Reader_readLimits x0 b90 v2 h74 c93 sc93 (fun (h91 : xb_H) => xb_ext h74 h91 → w_Reader_readImport_L254 Qr Qt h91 (((((((((((bc - c5) - c9) - c13) - c20) - c27) - c39) - c46) - c53) - c60) - c67) - c93) (((((((((((bs - sc5) - sc9) - sc13) - sc20) - sc27) - sc39) - sc46) - sc53) - sc60) - sc67) - sc93)) Qt))) ∧ (r12 = (1 : Int32) → ∃ c96 sc96 : Nat, c96 ≤ ((((((((((bc - c5) - c9) - c13) - c20) - c27) - c39) - c46) - c53) - c60) - c67) ∧ sc96 ≤ ((((((((((bs - sc5) - sc9) - sc13) - sc20) - sc27) - sc39) - sc46) - sc53) - sc60) - sc67) ∧ w_Reader_readMark x0 112 h74 c96 sc96 (fun (h94 : xb_H) => xb_ext h74 h94 → ∃ b97 : Nat, (xb_r h94 x0 0) = some b97 ∧ xb_k h94 b97 = 3 ∧ ∃ b99 : Nat, (xb_r h94 b97 5) = some b99 ∧ ∃ c102 sc102 : Nat, c102 ≤ (((((((((((bc - c5) - c9) - c13) - c20) - c27) - c39) - c46) - c53) - c60) - c67) - c96) ∧ sc102 ≤ (((((((((((bs - sc5) - sc9) - sc13) - sc20) - sc27) - sc39) - sc46) - sc53) - sc60) - sc67) - sc96) ∧ w_Reader_readLimits x0 b99 v2 h94 c102 sc102 (fun (h100 : xb_H) => xb_ext h94 h100 → w_Reader_readImport_L254 Qr Qt h100 ((((((((((((bc - c5) - c9) - c13) - c20) - c27) - c39) - c46) - c53) - c60) - c67) - c96) - c102) ((((((((((((bs - sc5) - sc9) - sc13) - sc20) - sc27) - sc39) - sc46) - sc53) - sc60) - sc67) - sc96) - sc102)) Qt) Qt))) ∧ (r12 = (0 : Int32) → ∃ b103 : Nat, (xb_r h74 x0 0) = some b103 ∧ xb_k h74 b103 = 3 ∧ ∃ b105 : Nat, (xb_r h74 b103 4) = some b105 ∧ xb_k h74 b105 = 2 ∧ ∃ c109 sc109 : Nat, c109 ≤ ((((((((((bc - c5) - c9) - c13) - c20) - c27) - c39) - c46) - c53) - c60) - c67) ∧ sc109 ≤ ((((((((((bs - sc5) - sc9) - sc13) - sc20) - sc27) - sc39) - sc46) - sc53) - sc60) - sc67) ∧ w_Row_add b105 (Int32.toInt64 v2) h74 c109 sc109 (fun (h107 : xb_H) => xb_ext h74 h107 → ∃ b110 : Nat, (xb_r h107 x0 0) = some b110 ∧ xb_k h107 b110 = 3 ∧ ∃ b112 : Nat, (xb_r h107 b110 4) = some b112 ∧ ∃ c115 sc115 : Nat, c115 ≤ (((((((((((bc - c5) - c9) - c13) - c20) - c27) - c39) - c46) - c53) - c60) - c67) - c109) ∧ sc115 ≤ (((((((((((bs - sc5) - sc9) - sc13) - sc20) - sc27) - sc39) - sc46) - sc53) - sc60) - sc67) - sc109) ∧ w_Reader_count x0 h107 c115 sc115 (fun (r114 : Int32) (h113 : xb_H) => xb_ext h107 h113 → xb_k h113 b112 = 2 ∧ ∃ c119 sc119 : Nat, c119 ≤ ((((((((((((bc - c5) - c9) - c13) - c20) - c27) - c39) - c46) - c53) - c60) - c67) - c109) - c115) ∧ sc119 ≤ ((((((((((((bs - sc5) - sc9) - sc13) - sc20) - sc27) - sc39) - sc46) - sc53) - sc60) - sc67) - sc109) - sc115) ∧ w_Row_add b112 ((Int32.toInt64 r114) &&& 4294967295) h113 c119 sc119 (fun (h117 : xb_H) => xb_ext h113 h117 → w_Reader_readImport_L254 Qr Qt h117 (((((((((((((bc - c5) - c9) - c13) - c20) - c27) - c39) - c46) - c53) - c60) - c67) - c109) - c115) - c119) (((((((((((((bs - sc5) - sc9) - sc13) - sc20) - sc27) - sc39) - sc46) - sc53) - sc60) - sc67) - sc109) - sc115) - sc119))) Qt))))))))))) Qt) Qt) Qt

set_option maxHeartbeats 4000000 in
set_option maxRecDepth 100000 in
theorem am_Reader_readImport_L254 (l : Launch) (hfl : l.flags = pinnedFlags ++ [noTraceFlag]) (D : va_G) (A : Nat → Prop) (σ MC MS : Nat) (h0 : xb_H) (Qr : xb_H → Prop) (Qt : String → xb_H → Prop) (h : xb_H) (bc : Nat) (bs : Nat) (hw : w_Reader_readImport_L254 Qr Qt h bc bs) : xb_am l D A σ 6 MC MS h0 (fun v h => v = none ∧ Qr h) Qt y_Reader_readImport.cls y_Reader_readImport.name b_Reader_readImport 7 ([] : List ExceptionTableEntry) none 254 [] [] h bc bs := by
  unfold w_Reader_readImport_L254 at hw
  intro p e s m args below meth c hC H locs ls k n hE hl hR hS hk hn
  obtain ⟨hx, hb, hown, hlocks, htab, hml, hr, hB, hA, hnm⟩ := id hC
  have hts := hB.1.1.at args
  exact xb_vret hx hb hr hlocks (show k ≤ MC by omega) (show n ≤ MS by omega) hE hR hS (xb_d D_Reader_readImport 127 rfl) hw

set_option maxHeartbeats 4000000 in
set_option maxRecDepth 100000 in
theorem ok_Reader_readImport (l : Launch) (hfl : l.flags = pinnedFlags ++ [noTraceFlag]) (D : va_G) (A : Nat → Prop) (σ : Nat) (x0 : Nat) (h : xb_H) (bc : Nat) (bs : Nat) (Qr : xb_H → Prop) (Qt : String → xb_H → Prop) (hw : w_Reader_readImport x0 h bc bs Qr Qt) : xt_Met l y_Reader_readImport [.code y_Reader_readImport b_Reader_readImport 7 none] (xb_rm 6 bc bs) (xb_Pc D A σ h [.ref x0]) (xb_Qc D A h (fun v h => v = none ∧ Qr h) Qt) bc bs A := by
  refine xb_ofAm (cc := b_Reader_readImport) (by decide) (Nat.le_of_ble_eq_true rfl) ?_
  unfold w_Reader_readImport at hw
  show xb_am l D A σ 6 bc bs h (fun v h => v = none ∧ Qr h) Qt y_Reader_readImport.cls y_Reader_readImport.name b_Reader_readImport 7 ([] : List ExceptionTableEntry) none 0 [(0, .ref x0)] [] h bc bs
  obtain ⟨MC, hMC⟩ : ∃ x, x = bc := ⟨_, rfl⟩
  obtain ⟨MS, hMS⟩ : ∃ x, x = bs := ⟨_, rfl⟩
  rw [show xb_am l D A σ 6 bc bs = xb_am l D A σ 6 MC MS by rw [hMC, hMS]]
  obtain ⟨h0, hh0⟩ : ∃ x, x = h := ⟨_, rfl⟩
  rw [show xb_am l D A σ 6 MC MS h = xb_am l D A σ 6 MC MS h0 by rw [hh0]]
  intro p e s m args below meth c hC H locs ls k n hE hl hR hS hk hn
  obtain ⟨hx, hb, hown, hlocks, htab, hml, hr, hB, hA, hnm⟩ := id hC
  have hts := hB.1.1.at args
  refine lv_aload_n hx hb (xb_d D_Reader_readImport 0 rfl) rfl (lv_at hl 0 rfl) ?_
  obtain ⟨hk1, hw⟩ := hw
  refine xb_getI (C := R_Reader) (T := F_Reader) (N := 6) hx hb 3 3 hts fin_Reader hown hR hk1 (by decide) rfl (by decide) rfl (hts _ m_a9b84ac2) (fun _ h9 => h9) (xb_d D_Reader_readImport 1 rfl) ?_
  obtain ⟨v2, ev2⟩ : ∃ x : Int32, x = (xb_i h x0 3) := ⟨_, rfl⟩
  have hw := hw v2 ev2
  refine xt_numi (y := v2) ev2.symm ?_
  refine lv_istore_n hx hb (xb_d D_Reader_readImport 2 rfl) rfl hl (by decide) rfl (fun ls hl => ?_)
  have hl : lv_has ls 7 [(1, .int v2), (0, .ref x0)] := hl
  refine lv_aload_n hx hb (xb_d D_Reader_readImport 3 rfl) rfl (lv_at hl 1 rfl) ?_
  obtain ⟨c5, sc5, hlc5, hlsc5, hw⟩ := hw
  refine xb_call (D := D) (A := A) (σ := σ) (h := h) (d := 4) (mc := c5) (ms := sc5) (maxL := 5) (rest := []) (av := [.ref x0]) (fun T hT X => by obtain ⟨cb, r1, r2, r3⟩ := xb_recv (ci := 3) hR rfl hk1 (by decide); exact xt_invV X hx hown (hts _ m_fae64a5e) (hts _ m_a35a3722) (hts _ m_7a3ebdc0) (xt_sigOf (hts _ m_76a677e7)) nm_Reader_readName (by rw [hT]; exact r1) r2 r3 (g := F0 m 6 ls [.ref x0]) rfl (argsL := []) (rest := []) rfl rfl (by rw [hb]; exact (xb_d D_Reader_readImport 4 rfl))) (ok_Reader_readName l hfl D A σ x0 h c5 sc5 _ _ hw) (hml.trans hl.1.symm) (by rw [hb]; exact (xb_d D_Reader_readImport 4 rfl)) (Nat.le_of_ble_eq_true rfl) (Nat.le_of_ble_eq_true rfl) (Nat.le_of_ble_eq_true rfl) (show k + c5 ≤ MC by omega) (show n + sc5 ≤ MS by omega) (xt_w1 hB.1 m_76a677e7) (xt_cdOf hB.1 m_76a677e7) (hts _ m_938fcec4) hB hR hS hA (fun vv h3 H locs hq hEh3 hR hS => ?_) (fun XX ax h3 H locs hq hEh3 hex hR hS => ?_)
  · obtain ⟨r4, rfl, hw⟩ := hq
    have hw := hw hEh3
    have hE := hE.tr hEh3
    refine W.eq (g2 := F0 m 9 ls [.int r4]) rfl ?_
    refine lv_istore_n hx hb (xb_d D_Reader_readImport 5 rfl) rfl hl (by decide) rfl (fun ls hl => ?_)
    have hl : lv_has ls 7 [(2, .int r4), (1, .int v2), (0, .ref x0)] := hl
    refine lv_aload_n hx hb (xb_d D_Reader_readImport 6 rfl) rfl (lv_at hl 2 rfl) ?_
    have hk1 : xb_k h3 x0 = 4 := hEh3.k hk1
    refine xb_getI (C := R_Reader) (T := F_Reader) (N := 6) hx hb 3 3 hts fin_Reader hown hR hk1 (by decide) rfl (by decide) rfl (hts _ m_a9b84ac2) (fun _ h9 => h9) (xb_d D_Reader_readImport 7 rfl) ?_
    refine lv_iload_n hx hb (xb_d D_Reader_readImport 8 rfl) rfl (lv_at hl 0 rfl) ?_
    refine lv_isub hx hb (xb_d D_Reader_readImport 9 rfl) ?_
    obtain ⟨v6, ev6⟩ : ∃ x : Int32, x = ((xb_i h3 x0 3) - r4) := ⟨_, rfl⟩
    have hw := hw v6 ev6
    refine xt_numi (y := v6) ev6.symm ?_
    refine lv_istore_n hx hb (xb_d D_Reader_readImport 10 rfl) rfl hl (by decide) rfl (fun ls hl => ?_)
    have hl : lv_has ls 7 [(3, .int v6), (2, .int r4), (1, .int v2), (0, .ref x0)] := hl
    refine lv_aload_n hx hb (xb_d D_Reader_readImport 11 rfl) rfl (lv_at hl 3 rfl) ?_
    obtain ⟨c9, sc9, hlc9, hlsc9, hw⟩ := hw
    refine xb_call (D := D) (A := A) (σ := σ) (h := h3) (d := 4) (mc := c9) (ms := sc9) (maxL := 5) (rest := []) (av := [.ref x0]) (fun T hT X => by obtain ⟨cb, r1, r2, r3⟩ := xb_recv (ci := 3) hR rfl hk1 (by decide); exact xt_invV X hx hown (hts _ m_fae64a5e) (hts _ m_a35a3722) (hts _ m_7a3ebdc0) (xt_sigOf (hts _ m_76a677e7)) nm_Reader_readName (by rw [hT]; exact r1) r2 r3 (g := F0 m 18 ls [.ref x0]) rfl (argsL := []) (rest := []) rfl rfl (by rw [hb]; exact (xb_d D_Reader_readImport 12 rfl))) (ok_Reader_readName l hfl D A σ x0 h3 c9 sc9 _ _ hw) (hml.trans hl.1.symm) (by rw [hb]; exact (xb_d D_Reader_readImport 12 rfl)) (Nat.le_of_ble_eq_true rfl) (Nat.le_of_ble_eq_true rfl) (Nat.le_of_ble_eq_true rfl) (show (k + c5) + c9 ≤ MC by omega) (show (n + sc5) + sc9 ≤ MS by omega) (xt_w1 hB.1 m_76a677e7) (xt_cdOf hB.1 m_76a677e7) (hts _ m_938fcec4) hB hR hS hA (fun vv h7 H locs hq hEh7 hR hS => ?_) (fun XX ax h7 H locs hq hEh7 hex hR hS => ?_)
    · obtain ⟨r8, rfl, hw⟩ := hq
      have hw := hw hEh7
      have hE := hE.tr hEh7
      refine W.eq (g2 := F0 m 21 ls [.int r8]) rfl ?_
      refine lv_istore hx hb (xb_d D_Reader_readImport 13 rfl) hl (by decide) rfl (fun ls hl => ?_)
      have hl : lv_has ls 7 [(4, .int r8), (3, .int v6), (2, .int r4), (1, .int v2), (0, .ref x0)] := hl
      refine lv_aload_n hx hb (xb_d D_Reader_readImport 14 rfl) rfl (lv_at hl 4 rfl) ?_
      have hk1 : xb_k h7 x0 = 4 := hEh7.k hk1
      refine xb_getI (C := R_Reader) (T := F_Reader) (N := 6) hx hb 3 3 hts fin_Reader hown hR hk1 (by decide) rfl (by decide) rfl (hts _ m_a9b84ac2) (fun _ h9 => h9) (xb_d D_Reader_readImport 15 rfl) ?_
      refine lv_iload hx hb (xb_d D_Reader_readImport 16 rfl) (lv_at hl 0 rfl) ?_
      refine lv_isub hx hb (xb_d D_Reader_readImport 17 rfl) ?_
      obtain ⟨v10, ev10⟩ : ∃ x : Int32, x = ((xb_i h7 x0 3) - r8) := ⟨_, rfl⟩
      have hw := hw v10 ev10
      refine xt_numi (y := v10) ev10.symm ?_
      refine lv_istore hx hb (xb_d D_Reader_readImport 18 rfl) hl (by decide) rfl (fun ls hl => ?_)
      have hl : lv_has ls 7 [(5, .int v10), (4, .int r8), (3, .int v6), (2, .int r4), (1, .int v2), (0, .ref x0)] := hl
      refine lv_aload_n hx hb (xb_d D_Reader_readImport 19 rfl) rfl (lv_at hl 5 rfl) ?_
      refine lv_iconst (v := 3) hx hb (xb_d D_Reader_readImport 20 rfl) (by decide) ?_
      obtain ⟨c13, sc13, hlc13, hlsc13, hw⟩ := hw
      refine xb_call (D := D) (A := A) (σ := σ) (h := h7) (d := 4) (mc := c13) (ms := sc13) (maxL := 3) (rest := []) (av := [.ref x0, .int 3]) (fun T hT X => by obtain ⟨cb, r1, r2, r3⟩ := xb_recv (ci := 3) hR rfl hk1 (by decide); exact xt_invV X hx hown (hts _ m_13cda130) (hts _ m_a9ff337d) (hts _ m_af3157e6) (xt_sigOf (hts _ m_8a19f6ff)) nm_Reader_byteUpTo (by rw [hT]; exact r1) r2 r3 (g := F0 m 34 ls [.int 3, .ref x0]) rfl (argsL := [.int 3]) (rest := []) rfl rfl (by rw [hb]; exact (xb_d D_Reader_readImport 21 rfl))) (ok_Reader_byteUpTo l hfl D A σ x0 3 h7 c13 sc13 _ _ hw) (hml.trans hl.1.symm) (by rw [hb]; exact (xb_d D_Reader_readImport 21 rfl)) (Nat.le_of_ble_eq_true rfl) (Nat.le_of_ble_eq_true rfl) (Nat.le_of_ble_eq_true rfl) (show ((k + c5) + c9) + c13 ≤ MC by omega) (show ((n + sc5) + sc9) + sc13 ≤ MS by omega) (xt_w1 hB.1 m_8a19f6ff) (xt_cdOf hB.1 m_8a19f6ff) (hts _ m_938fcec4) hB hR hS hA (fun vv h11 H locs hq hEh11 hR hS => ?_) (fun XX ax h11 H locs hq hEh11 hex hR hS => ?_)
      · obtain ⟨r12, rfl, hw⟩ := hq
        have hw := hw hEh11
        have hE := hE.tr hEh11
        refine W.eq (g2 := F0 m 37 ls [.int r12]) rfl ?_
        refine lv_istore hx hb (xb_d D_Reader_readImport 22 rfl) hl (by decide) rfl (fun ls hl => ?_)
        have hl : lv_has ls 7 [(6, .int r12), (5, .int v10), (4, .int r8), (3, .int v6), (2, .int r4), (1, .int v2), (0, .ref x0)] := hl
        refine lv_aload_n hx hb (xb_d D_Reader_readImport 23 rfl) rfl (lv_at hl 6 rfl) ?_
        have hk1 : xb_k h11 x0 = 4 := hEh11.k hk1
        refine xb_getP (C := R_Reader) (T := F_Reader) (N := 6) hx hb 3 0 hts fin_Reader hown hR hk1 (by decide) rfl (by decide) rfl (hts _ m_76d8349c) (fun _ h9 => h9) (xb_d D_Reader_readImport 24 rfl) ?_
        obtain ⟨b14, eb14, hw⟩ := hw
        refine xb_some eb14 ?_
        obtain ⟨hk15, hw⟩ := hw
        refine xb_getP (C := R_StackModule) (T := F_StackModule) (N := 19) hx hb 2 3 hts fin_StackModule hown hR hk15 (by decide) rfl (by decide) rfl (hts _ m_2899aa38) (fun _ h9 => h9) (xb_d D_Reader_readImport 25 rfl) ?_
        obtain ⟨b16, eb16, hw⟩ := hw
        refine xb_some eb16 ?_
        refine lv_iload_n hx hb (xb_d D_Reader_readImport 26 rfl) rfl (lv_at hl 5 rfl) ?_
        refine lv_i2l hx hb (xb_d D_Reader_readImport 27 rfl) rfl ?_
        obtain ⟨hk17, hw⟩ := hw
        obtain ⟨c20, sc20, hlc20, hlsc20, hw⟩ := hw
        refine xb_call (D := D) (A := A) (σ := σ) (h := h11) (d := 4) (mc := c20) (ms := sc20) (maxL := 3) (rest := []) (av := [.ref b16, .long (Int32.toInt64 v2)]) (fun T hT X => by obtain ⟨cb, r1, r2, r3⟩ := xb_recv (ci := 1) hR rfl hk17 (by decide); exact xt_invV X hx hown (hts _ m_da067afc) (hts _ m_7e8d081f) (hts _ m_4e47f51a) (xt_sigOf (hts _ m_4f1bdc54)) nm_Row_add (by rw [hT]; exact r1) r2 r3 (g := F0 m 48 ls [.long (Int32.toInt64 v2), .ref b16]) rfl (argsL := [.long (Int32.toInt64 v2)]) (rest := []) rfl rfl (by rw [hb]; exact (xb_d D_Reader_readImport 28 rfl))) (ok_Row_add l hfl D A σ b16 (Int32.toInt64 v2) h11 c20 sc20 _ hw) (hml.trans hl.1.symm) (by rw [hb]; exact (xb_d D_Reader_readImport 28 rfl)) (Nat.le_of_ble_eq_true rfl) (Nat.le_of_ble_eq_true rfl) (Nat.le_of_ble_eq_true rfl) (show (((k + c5) + c9) + c13) + c20 ≤ MC by omega) (show (((n + sc5) + sc9) + sc13) + sc20 ≤ MS by omega) (xt_w1 hB.1 m_4f1bdc54) (xt_cdOf hB.1 m_4f1bdc54) (hts _ m_c1bef504) hB hR hS hA (fun vv h18 H locs hq hEh18 hR hS => ?_) (fun XX ax h18 H locs hq hEh18 hex hR hS => ?_)
        · obtain ⟨rfl, hw⟩ := hq
          have hw := hw hEh18
          have hE := hE.tr hEh18
          refine W.eq (g2 := F0 m 51 ls []) rfl ?_
          refine lv_aload_n hx hb (xb_d D_Reader_readImport 29 rfl) rfl (lv_at hl 6 rfl) ?_
          have hk1 : xb_k h18 x0 = 4 := hEh18.k hk1
          refine xb_getP (C := R_Reader) (T := F_Reader) (N := 6) hx hb 3 0 hts fin_Reader hown hR hk1 (by decide) rfl (by decide) rfl (hts _ m_76d8349c) (fun _ h9 => h9) (xb_d D_Reader_readImport 30 rfl) ?_
          obtain ⟨b21, eb21, hw⟩ := hw
          refine xb_some eb21 ?_
          obtain ⟨hk22, hw⟩ := hw
          refine xb_getP (C := R_StackModule) (T := F_StackModule) (N := 19) hx hb 2 3 hts fin_StackModule hown hR hk22 (by decide) rfl (by decide) rfl (hts _ m_2899aa38) (fun _ h9 => h9) (xb_d D_Reader_readImport 31 rfl) ?_
          obtain ⟨b23, eb23, hw⟩ := hw
          refine xb_some eb23 ?_
          refine lv_iload hx hb (xb_d D_Reader_readImport 32 rfl) (lv_at hl 0 rfl) ?_
          refine lv_i2l hx hb (xb_d D_Reader_readImport 33 rfl) rfl ?_
          obtain ⟨hk24, hw⟩ := hw
          obtain ⟨c27, sc27, hlc27, hlsc27, hw⟩ := hw
          refine xb_call (D := D) (A := A) (σ := σ) (h := h18) (d := 4) (mc := c27) (ms := sc27) (maxL := 3) (rest := []) (av := [.ref b23, .long (Int32.toInt64 r12)]) (fun T hT X => by obtain ⟨cb, r1, r2, r3⟩ := xb_recv (ci := 1) hR rfl hk24 (by decide); exact xt_invV X hx hown (hts _ m_da067afc) (hts _ m_7e8d081f) (hts _ m_4e47f51a) (xt_sigOf (hts _ m_4f1bdc54)) nm_Row_add (by rw [hT]; exact r1) r2 r3 (g := F0 m 61 ls [.long (Int32.toInt64 r12), .ref b23]) rfl (argsL := [.long (Int32.toInt64 r12)]) (rest := []) rfl rfl (by rw [hb]; exact (xb_d D_Reader_readImport 34 rfl))) (ok_Row_add l hfl D A σ b23 (Int32.toInt64 r12) h18 c27 sc27 _ hw) (hml.trans hl.1.symm) (by rw [hb]; exact (xb_d D_Reader_readImport 34 rfl)) (Nat.le_of_ble_eq_true rfl) (Nat.le_of_ble_eq_true rfl) (Nat.le_of_ble_eq_true rfl) (show ((((k + c5) + c9) + c13) + c20) + c27 ≤ MC by omega) (show ((((n + sc5) + sc9) + sc13) + sc20) + sc27 ≤ MS by omega) (xt_w1 hB.1 m_4f1bdc54) (xt_cdOf hB.1 m_4f1bdc54) (hts _ m_c1bef504) hB hR hS hA (fun vv h25 H locs hq hEh25 hR hS => ?_) (fun XX ax h25 H locs hq hEh25 hex hR hS => ?_)
          · obtain ⟨rfl, hw⟩ := hq
            have hw := hw hEh25
            have hE := hE.tr hEh25
            refine W.eq (g2 := F0 m 64 ls []) rfl ?_
            refine lv_aload_n hx hb (xb_d D_Reader_readImport 35 rfl) rfl (lv_at hl 6 rfl) ?_
            have hk1 : xb_k h25 x0 = 4 := hEh25.k hk1
            refine xb_getP (C := R_Reader) (T := F_Reader) (N := 6) hx hb 3 0 hts fin_Reader hown hR hk1 (by decide) rfl (by decide) rfl (hts _ m_76d8349c) (fun _ h9 => h9) (xb_d D_Reader_readImport 36 rfl) ?_
            obtain ⟨b28, eb28, hw⟩ := hw
            refine xb_some eb28 ?_
            obtain ⟨hk29, hw⟩ := hw
            refine xb_getP (C := R_StackModule) (T := F_StackModule) (N := 19) hx hb 2 3 hts fin_StackModule hown hR hk29 (by decide) rfl (by decide) rfl (hts _ m_2899aa38) (fun _ h9 => h9) (xb_d D_Reader_readImport 37 rfl) ?_
            obtain ⟨b30, eb30, hw⟩ := hw
            refine xb_some eb30 ?_
            refine lv_aload_n hx hb (xb_d D_Reader_readImport 38 rfl) rfl (lv_at hl 6 rfl) ?_
            refine xb_getP (C := R_Reader) (T := F_Reader) (N := 6) hx hb 3 0 hts fin_Reader hown hR hk1 (by decide) rfl (by decide) rfl (hts _ m_76d8349c) (fun _ h9 => h9) (xb_d D_Reader_readImport 39 rfl) ?_
            obtain ⟨b31, eb31, hw⟩ := hw
            refine xb_some eb31 ?_
            obtain ⟨hk32, hw⟩ := hw
            refine xb_getP (C := R_StackModule) (T := F_StackModule) (N := 19) hx hb 2 14 hts fin_StackModule hown hR hk32 (by decide) rfl (by decide) rfl (hts _ m_8d503518) (fun _ h9 => h9) (xb_d D_Reader_readImport 40 rfl) ?_
            obtain ⟨b33, eb33, hw⟩ := hw
            refine xb_some eb33 ?_
            refine lv_iload hx hb (xb_d D_Reader_readImport 41 rfl) (lv_at hl 0 rfl) ?_
            obtain ⟨hk35, hw⟩ := hw
            obtain ⟨hi34, hw⟩ := hw
            refine xb_iald hx hb hR hk35 hi34 (xb_d D_Reader_readImport 42 rfl) ?_
            refine lv_i2l hx hb (xb_d D_Reader_readImport 43 rfl) rfl ?_
            obtain ⟨hk36, hw⟩ := hw
            obtain ⟨c39, sc39, hlc39, hlsc39, hw⟩ := hw
            refine xb_call (D := D) (A := A) (σ := σ) (h := h25) (d := 4) (mc := c39) (ms := sc39) (maxL := 3) (rest := []) (av := [.ref b30, .long (Int32.toInt64 (xb_i h25 b33 (Int32.toNatClampNeg r12)))]) (fun T hT X => by obtain ⟨cb, r1, r2, r3⟩ := xb_recv (ci := 1) hR rfl hk36 (by decide); exact xt_invV X hx hown (hts _ m_da067afc) (hts _ m_7e8d081f) (hts _ m_4e47f51a) (xt_sigOf (hts _ m_4f1bdc54)) nm_Row_add (by rw [hT]; exact r1) r2 r3 (g := F0 m 82 ls [.long (Int32.toInt64 (xb_i h25 b33 (Int32.toNatClampNeg r12))), .ref b30]) rfl (argsL := [.long (Int32.toInt64 (xb_i h25 b33 (Int32.toNatClampNeg r12)))]) (rest := []) rfl rfl (by rw [hb]; exact (xb_d D_Reader_readImport 44 rfl))) (ok_Row_add l hfl D A σ b30 (Int32.toInt64 (xb_i h25 b33 (Int32.toNatClampNeg r12))) h25 c39 sc39 _ hw) (hml.trans hl.1.symm) (by rw [hb]; exact (xb_d D_Reader_readImport 44 rfl)) (Nat.le_of_ble_eq_true rfl) (Nat.le_of_ble_eq_true rfl) (Nat.le_of_ble_eq_true rfl) (show (((((k + c5) + c9) + c13) + c20) + c27) + c39 ≤ MC by omega) (show (((((n + sc5) + sc9) + sc13) + sc20) + sc27) + sc39 ≤ MS by omega) (xt_w1 hB.1 m_4f1bdc54) (xt_cdOf hB.1 m_4f1bdc54) (hts _ m_c1bef504) hB hR hS hA (fun vv h37 H locs hq hEh37 hR hS => ?_) (fun XX ax h37 H locs hq hEh37 hex hR hS => ?_)
            · obtain ⟨rfl, hw⟩ := hq
              have hw := hw hEh37
              have hE := hE.tr hEh37
              refine W.eq (g2 := F0 m 85 ls []) rfl ?_
              refine lv_aload_n hx hb (xb_d D_Reader_readImport 45 rfl) rfl (lv_at hl 6 rfl) ?_
              have hk1 : xb_k h37 x0 = 4 := hEh37.k hk1
              refine xb_getP (C := R_Reader) (T := F_Reader) (N := 6) hx hb 3 0 hts fin_Reader hown hR hk1 (by decide) rfl (by decide) rfl (hts _ m_76d8349c) (fun _ h9 => h9) (xb_d D_Reader_readImport 46 rfl) ?_
              obtain ⟨b40, eb40, hw⟩ := hw
              refine xb_some eb40 ?_
              obtain ⟨hk41, hw⟩ := hw
              refine xb_getP (C := R_StackModule) (T := F_StackModule) (N := 19) hx hb 2 3 hts fin_StackModule hown hR hk41 (by decide) rfl (by decide) rfl (hts _ m_2899aa38) (fun _ h9 => h9) (xb_d D_Reader_readImport 47 rfl) ?_
              obtain ⟨b42, eb42, hw⟩ := hw
              refine xb_some eb42 ?_
              refine lv_iload_n hx hb (xb_d D_Reader_readImport 48 rfl) rfl (lv_at hl 3 rfl) ?_
              refine lv_i2l hx hb (xb_d D_Reader_readImport 49 rfl) rfl ?_
              obtain ⟨hk43, hw⟩ := hw
              obtain ⟨c46, sc46, hlc46, hlsc46, hw⟩ := hw
              refine xb_call (D := D) (A := A) (σ := σ) (h := h37) (d := 4) (mc := c46) (ms := sc46) (maxL := 3) (rest := []) (av := [.ref b42, .long (Int32.toInt64 v6)]) (fun T hT X => by obtain ⟨cb, r1, r2, r3⟩ := xb_recv (ci := 1) hR rfl hk43 (by decide); exact xt_invV X hx hown (hts _ m_da067afc) (hts _ m_7e8d081f) (hts _ m_4e47f51a) (xt_sigOf (hts _ m_4f1bdc54)) nm_Row_add (by rw [hT]; exact r1) r2 r3 (g := F0 m 94 ls [.long (Int32.toInt64 v6), .ref b42]) rfl (argsL := [.long (Int32.toInt64 v6)]) (rest := []) rfl rfl (by rw [hb]; exact (xb_d D_Reader_readImport 50 rfl))) (ok_Row_add l hfl D A σ b42 (Int32.toInt64 v6) h37 c46 sc46 _ hw) (hml.trans hl.1.symm) (by rw [hb]; exact (xb_d D_Reader_readImport 50 rfl)) (Nat.le_of_ble_eq_true rfl) (Nat.le_of_ble_eq_true rfl) (Nat.le_of_ble_eq_true rfl) (show ((((((k + c5) + c9) + c13) + c20) + c27) + c39) + c46 ≤ MC by omega) (show ((((((n + sc5) + sc9) + sc13) + sc20) + sc27) + sc39) + sc46 ≤ MS by omega) (xt_w1 hB.1 m_4f1bdc54) (xt_cdOf hB.1 m_4f1bdc54) (hts _ m_c1bef504) hB hR hS hA (fun vv h44 H locs hq hEh44 hR hS => ?_) (fun XX ax h44 H locs hq hEh44 hex hR hS => ?_)
              · obtain ⟨rfl, hw⟩ := hq
                have hw := hw hEh44
                have hE := hE.tr hEh44
                refine W.eq (g2 := F0 m 97 ls []) rfl ?_
                refine lv_aload_n hx hb (xb_d D_Reader_readImport 51 rfl) rfl (lv_at hl 6 rfl) ?_
                have hk1 : xb_k h44 x0 = 4 := hEh44.k hk1
                refine xb_getP (C := R_Reader) (T := F_Reader) (N := 6) hx hb 3 0 hts fin_Reader hown hR hk1 (by decide) rfl (by decide) rfl (hts _ m_76d8349c) (fun _ h9 => h9) (xb_d D_Reader_readImport 52 rfl) ?_
                obtain ⟨b47, eb47, hw⟩ := hw
                refine xb_some eb47 ?_
                obtain ⟨hk48, hw⟩ := hw
                refine xb_getP (C := R_StackModule) (T := F_StackModule) (N := 19) hx hb 2 3 hts fin_StackModule hown hR hk48 (by decide) rfl (by decide) rfl (hts _ m_2899aa38) (fun _ h9 => h9) (xb_d D_Reader_readImport 53 rfl) ?_
                obtain ⟨b49, eb49, hw⟩ := hw
                refine xb_some eb49 ?_
                refine lv_iload_n hx hb (xb_d D_Reader_readImport 54 rfl) rfl (lv_at hl 4 rfl) ?_
                refine lv_i2l hx hb (xb_d D_Reader_readImport 55 rfl) rfl ?_
                obtain ⟨hk50, hw⟩ := hw
                obtain ⟨c53, sc53, hlc53, hlsc53, hw⟩ := hw
                refine xb_call (D := D) (A := A) (σ := σ) (h := h44) (d := 4) (mc := c53) (ms := sc53) (maxL := 3) (rest := []) (av := [.ref b49, .long (Int32.toInt64 r4)]) (fun T hT X => by obtain ⟨cb, r1, r2, r3⟩ := xb_recv (ci := 1) hR rfl hk50 (by decide); exact xt_invV X hx hown (hts _ m_da067afc) (hts _ m_7e8d081f) (hts _ m_4e47f51a) (xt_sigOf (hts _ m_4f1bdc54)) nm_Row_add (by rw [hT]; exact r1) r2 r3 (g := F0 m 106 ls [.long (Int32.toInt64 r4), .ref b49]) rfl (argsL := [.long (Int32.toInt64 r4)]) (rest := []) rfl rfl (by rw [hb]; exact (xb_d D_Reader_readImport 56 rfl))) (ok_Row_add l hfl D A σ b49 (Int32.toInt64 r4) h44 c53 sc53 _ hw) (hml.trans hl.1.symm) (by rw [hb]; exact (xb_d D_Reader_readImport 56 rfl)) (Nat.le_of_ble_eq_true rfl) (Nat.le_of_ble_eq_true rfl) (Nat.le_of_ble_eq_true rfl) (show (((((((k + c5) + c9) + c13) + c20) + c27) + c39) + c46) + c53 ≤ MC by omega) (show (((((((n + sc5) + sc9) + sc13) + sc20) + sc27) + sc39) + sc46) + sc53 ≤ MS by omega) (xt_w1 hB.1 m_4f1bdc54) (xt_cdOf hB.1 m_4f1bdc54) (hts _ m_c1bef504) hB hR hS hA (fun vv h51 H locs hq hEh51 hR hS => ?_) (fun XX ax h51 H locs hq hEh51 hex hR hS => ?_)
                · obtain ⟨rfl, hw⟩ := hq
                  have hw := hw hEh51
                  have hE := hE.tr hEh51
                  refine W.eq (g2 := F0 m 109 ls []) rfl ?_
                  refine lv_aload_n hx hb (xb_d D_Reader_readImport 57 rfl) rfl (lv_at hl 6 rfl) ?_
                  have hk1 : xb_k h51 x0 = 4 := hEh51.k hk1
                  refine xb_getP (C := R_Reader) (T := F_Reader) (N := 6) hx hb 3 0 hts fin_Reader hown hR hk1 (by decide) rfl (by decide) rfl (hts _ m_76d8349c) (fun _ h9 => h9) (xb_d D_Reader_readImport 58 rfl) ?_
                  obtain ⟨b54, eb54, hw⟩ := hw
                  refine xb_some eb54 ?_
                  obtain ⟨hk55, hw⟩ := hw
                  refine xb_getP (C := R_StackModule) (T := F_StackModule) (N := 19) hx hb 2 3 hts fin_StackModule hown hR hk55 (by decide) rfl (by decide) rfl (hts _ m_2899aa38) (fun _ h9 => h9) (xb_d D_Reader_readImport 59 rfl) ?_
                  obtain ⟨b56, eb56, hw⟩ := hw
                  refine xb_some eb56 ?_
                  refine lv_iload hx hb (xb_d D_Reader_readImport 60 rfl) (lv_at hl 1 rfl) ?_
                  refine lv_i2l hx hb (xb_d D_Reader_readImport 61 rfl) rfl ?_
                  obtain ⟨hk57, hw⟩ := hw
                  obtain ⟨c60, sc60, hlc60, hlsc60, hw⟩ := hw
                  refine xb_call (D := D) (A := A) (σ := σ) (h := h51) (d := 4) (mc := c60) (ms := sc60) (maxL := 3) (rest := []) (av := [.ref b56, .long (Int32.toInt64 v10)]) (fun T hT X => by obtain ⟨cb, r1, r2, r3⟩ := xb_recv (ci := 1) hR rfl hk57 (by decide); exact xt_invV X hx hown (hts _ m_da067afc) (hts _ m_7e8d081f) (hts _ m_4e47f51a) (xt_sigOf (hts _ m_4f1bdc54)) nm_Row_add (by rw [hT]; exact r1) r2 r3 (g := F0 m 119 ls [.long (Int32.toInt64 v10), .ref b56]) rfl (argsL := [.long (Int32.toInt64 v10)]) (rest := []) rfl rfl (by rw [hb]; exact (xb_d D_Reader_readImport 62 rfl))) (ok_Row_add l hfl D A σ b56 (Int32.toInt64 v10) h51 c60 sc60 _ hw) (hml.trans hl.1.symm) (by rw [hb]; exact (xb_d D_Reader_readImport 62 rfl)) (Nat.le_of_ble_eq_true rfl) (Nat.le_of_ble_eq_true rfl) (Nat.le_of_ble_eq_true rfl) (show ((((((((k + c5) + c9) + c13) + c20) + c27) + c39) + c46) + c53) + c60 ≤ MC by omega) (show ((((((((n + sc5) + sc9) + sc13) + sc20) + sc27) + sc39) + sc46) + sc53) + sc60 ≤ MS by omega) (xt_w1 hB.1 m_4f1bdc54) (xt_cdOf hB.1 m_4f1bdc54) (hts _ m_c1bef504) hB hR hS hA (fun vv h58 H locs hq hEh58 hR hS => ?_) (fun XX ax h58 H locs hq hEh58 hex hR hS => ?_)
                  · obtain ⟨rfl, hw⟩ := hq
                    have hw := hw hEh58
                    have hE := hE.tr hEh58
                    refine W.eq (g2 := F0 m 122 ls []) rfl ?_
                    refine lv_aload_n hx hb (xb_d D_Reader_readImport 63 rfl) rfl (lv_at hl 6 rfl) ?_
                    have hk1 : xb_k h58 x0 = 4 := hEh58.k hk1
                    refine xb_getP (C := R_Reader) (T := F_Reader) (N := 6) hx hb 3 0 hts fin_Reader hown hR hk1 (by decide) rfl (by decide) rfl (hts _ m_76d8349c) (fun _ h9 => h9) (xb_d D_Reader_readImport 64 rfl) ?_
                    obtain ⟨b61, eb61, hw⟩ := hw
                    refine xb_some eb61 ?_
                    obtain ⟨hk62, hw⟩ := hw
                    refine xb_getP (C := R_StackModule) (T := F_StackModule) (N := 19) hx hb 2 3 hts fin_StackModule hown hR hk62 (by decide) rfl (by decide) rfl (hts _ m_2899aa38) (fun _ h9 => h9) (xb_d D_Reader_readImport 65 rfl) ?_
                    obtain ⟨b63, eb63, hw⟩ := hw
                    refine xb_some eb63 ?_
                    refine lv_iload hx hb (xb_d D_Reader_readImport 66 rfl) (lv_at hl 2 rfl) ?_
                    refine lv_i2l hx hb (xb_d D_Reader_readImport 67 rfl) rfl ?_
                    obtain ⟨hk64, hw⟩ := hw
                    obtain ⟨c67, sc67, hlc67, hlsc67, hw⟩ := hw
                    refine xb_call (D := D) (A := A) (σ := σ) (h := h58) (d := 4) (mc := c67) (ms := sc67) (maxL := 3) (rest := []) (av := [.ref b63, .long (Int32.toInt64 r8)]) (fun T hT X => by obtain ⟨cb, r1, r2, r3⟩ := xb_recv (ci := 1) hR rfl hk64 (by decide); exact xt_invV X hx hown (hts _ m_da067afc) (hts _ m_7e8d081f) (hts _ m_4e47f51a) (xt_sigOf (hts _ m_4f1bdc54)) nm_Row_add (by rw [hT]; exact r1) r2 r3 (g := F0 m 132 ls [.long (Int32.toInt64 r8), .ref b63]) rfl (argsL := [.long (Int32.toInt64 r8)]) (rest := []) rfl rfl (by rw [hb]; exact (xb_d D_Reader_readImport 68 rfl))) (ok_Row_add l hfl D A σ b63 (Int32.toInt64 r8) h58 c67 sc67 _ hw) (hml.trans hl.1.symm) (by rw [hb]; exact (xb_d D_Reader_readImport 68 rfl)) (Nat.le_of_ble_eq_true rfl) (Nat.le_of_ble_eq_true rfl) (Nat.le_of_ble_eq_true rfl) (show (((((((((k + c5) + c9) + c13) + c20) + c27) + c39) + c46) + c53) + c60) + c67 ≤ MC by omega) (show (((((((((n + sc5) + sc9) + sc13) + sc20) + sc27) + sc39) + sc46) + sc53) + sc60) + sc67 ≤ MS by omega) (xt_w1 hB.1 m_4f1bdc54) (xt_cdOf hB.1 m_4f1bdc54) (hts _ m_c1bef504) hB hR hS hA (fun vv h65 H locs hq hEh65 hR hS => ?_) (fun XX ax h65 H locs hq hEh65 hex hR hS => ?_)
                    · obtain ⟨rfl, hw⟩ := hq
                      have hw := hw hEh65
                      have hE := hE.tr hEh65
                      refine W.eq (g2 := F0 m 135 ls []) rfl ?_
                      refine lv_aload_n hx hb (xb_d D_Reader_readImport 69 rfl) rfl (lv_at hl 6 rfl) ?_
                      have hk1 : xb_k h65 x0 = 4 := hEh65.k hk1
                      refine xb_getP (C := R_Reader) (T := F_Reader) (N := 6) hx hb 3 0 hts fin_Reader hown hR hk1 (by decide) rfl (by decide) rfl (hts _ m_76d8349c) (fun _ h9 => h9) (xb_d D_Reader_readImport 70 rfl) ?_
                      obtain ⟨b68, eb68, hw⟩ := hw
                      refine xb_some eb68 ?_
                      obtain ⟨hk69, hw⟩ := hw
                      refine xb_getP (C := R_StackModule) (T := F_StackModule) (N := 19) hx hb 2 14 hts fin_StackModule hown hR hk69 (by decide) rfl (by decide) rfl (hts _ m_8d503518) (fun _ h9 => h9) (xb_d D_Reader_readImport 71 rfl) ?_
                      obtain ⟨b70, eb70, hw⟩ := hw
                      refine xb_some eb70 ?_
                      refine lv_iload hx hb (xb_d D_Reader_readImport 72 rfl) (lv_at hl 0 rfl) ?_
                      refine lv_dup2_11 hx hb (xb_d D_Reader_readImport 73 rfl) rfl rfl ?_
                      obtain ⟨hk72, hw⟩ := hw
                      obtain ⟨hi71, hw⟩ := hw
                      refine xb_iald hx hb hR hk72 hi71 (xb_d D_Reader_readImport 74 rfl) ?_
                      refine lv_iconst (v := 1) hx hb (xb_d D_Reader_readImport 75 rfl) (by decide) ?_
                      refine lv_iadd hx hb (xb_d D_Reader_readImport 76 rfl) ?_
                      obtain ⟨hi73, hw⟩ := hw
                      refine xb_iast hx hb hR hS hk72 hi73 (xb_d D_Reader_readImport 77 rfl) (fun H locs hR hS => ?_)
                      obtain ⟨h74, eh74⟩ : ∃ x : xb_H, x = xb_I h65 b70 (Int32.toNatClampNeg r12) ((xb_i h65 b70 (Int32.toNatClampNeg r12)) + 1) := ⟨_, rfl⟩
                      rw [← eh74] at hR
                      have hw := hw h74 eh74
                      have hE : xb_ext h0 h74 := by rw [eh74]; exact hE
                      refine lv_iload hx hb (xb_d D_Reader_readImport 78 rfl) (lv_at hl 0 rfl) ?_
                      refine lv_if_ne (tgt := 188) hx hb (xb_d D_Reader_readImport 79 rfl) rfl (fun hc75 => ?_) (fun hc75 => ?_)
                      · have hw := hw.1 hc75
                        refine lv_iload hx hb (xb_d D_Reader_readImport 96 rfl) (lv_at hl 0 rfl) ?_
                        refine lv_iconst (v := 1) hx hb (xb_d D_Reader_readImport 97 rfl) (by decide) ?_
                        refine lv_icmp_ne (tgt := 215) hx hb (xb_d D_Reader_readImport 98 rfl) rfl (fun hc76 => ?_) (fun hc76 => ?_)
                        · have hw := hw.1 hc76
                          refine lv_iload hx hb (xb_d D_Reader_readImport 109 rfl) (lv_at hl 0 rfl) ?_
                          refine lv_iconst (v := 2) hx hb (xb_d D_Reader_readImport 110 rfl) (by decide) ?_
                          refine lv_icmp_ne (tgt := 236) hx hb (xb_d D_Reader_readImport 111 rfl) rfl (fun hc77 => ?_) (fun hc77 => ?_)
                          · have hw := hw.1 hc77
                            refine lv_aload_n hx hb (xb_d D_Reader_readImport 119 rfl) rfl (lv_at hl 6 rfl) ?_
                            refine lv_iload_n hx hb (xb_d D_Reader_readImport 120 rfl) rfl (lv_at hl 5 rfl) ?_
                            have hk1 : xb_k h74 x0 = 4 := by rw [eh74]; exact hk1
                            obtain ⟨c80, sc80, hlc80, hlsc80, hw⟩ := hw
                            refine xb_call (D := D) (A := A) (σ := σ) (h := h74) (d := 5) (mc := c80) (ms := sc80) (maxL := 2) (rest := []) (av := [.ref x0, .int v2]) (fun T hT X => by obtain ⟨cb, r1, r2, r3⟩ := xb_recv (ci := 3) hR rfl hk1 (by decide); exact xt_invV X hx hown (hts _ m_544cf043) (hts _ m_43060829) (hts _ m_ec78475f) (xt_sigOf (hts _ m_a4ac8e6b)) nm_Reader_readVariableType (by rw [hT]; exact r1) r2 r3 (g := F0 m 238 ls [.int v2, .ref x0]) rfl (argsL := [.int v2]) (rest := []) rfl rfl (by rw [hb]; exact (xb_d D_Reader_readImport 121 rfl))) (ok_Reader_readVariableType l hfl D A σ x0 v2 h74 c80 sc80 _ _ hw) (hml.trans hl.1.symm) (by rw [hb]; exact (xb_d D_Reader_readImport 121 rfl)) (Nat.le_of_ble_eq_true rfl) (Nat.le_of_ble_eq_true rfl) (Nat.le_of_ble_eq_true rfl) (show ((((((((((k + c5) + c9) + c13) + c20) + c27) + c39) + c46) + c53) + c60) + c67) + c80 ≤ MC by omega) (show ((((((((((n + sc5) + sc9) + sc13) + sc20) + sc27) + sc39) + sc46) + sc53) + sc60) + sc67) + sc80 ≤ MS by omega) (xt_w1 hB.1 m_a4ac8e6b) (xt_cdOf hB.1 m_a4ac8e6b) (hts _ m_938fcec4) hB hR hS hA (fun vv h78 H locs hq hEh78 hR hS => ?_) (fun XX ax h78 H locs hq hEh78 hex hR hS => ?_)
                            · obtain ⟨rfl, hw⟩ := hq
                              have hw := hw hEh78
                              have hE := hE.tr hEh78
                              refine W.eq (g2 := F0 m 241 ls []) rfl ?_
                              refine lv_aload_n hx hb (xb_d D_Reader_readImport 122 rfl) rfl (lv_at hl 6 rfl) ?_
                              have hk1 : xb_k h78 x0 = 4 := hEh78.k hk1
                              refine xb_getP (C := R_Reader) (T := F_Reader) (N := 6) hx hb 3 0 hts fin_Reader hown hR hk1 (by decide) rfl (by decide) rfl (hts _ m_76d8349c) (fun _ h9 => h9) (xb_d D_Reader_readImport 123 rfl) ?_
                              obtain ⟨b81, eb81, hw⟩ := hw
                              refine xb_some eb81 ?_
                              obtain ⟨hk82, hw⟩ := hw
                              refine xb_getP (C := R_StackModule) (T := F_StackModule) (N := 19) hx hb 2 7 hts fin_StackModule hown hR hk82 (by decide) rfl (by decide) rfl (hts _ m_040d1f1f) (fun _ h9 => h9) (xb_d D_Reader_readImport 124 rfl) ?_
                              obtain ⟨b83, eb83, hw⟩ := hw
                              refine xb_some eb83 ?_
                              refine lv_ldc2 (v := (-1)) hx hb hown (hts _ m_85744c42) (xb_d D_Reader_readImport 125 rfl) ?_
                              obtain ⟨hk84, hw⟩ := hw
                              obtain ⟨c87, sc87, hlc87, hlsc87, hw⟩ := hw
                              refine xb_call (D := D) (A := A) (σ := σ) (h := h78) (d := 4) (mc := c87) (ms := sc87) (maxL := 3) (rest := []) (av := [.ref b83, .long (-1)]) (fun T hT X => by obtain ⟨cb, r1, r2, r3⟩ := xb_recv (ci := 1) hR rfl hk84 (by decide); exact xt_invV X hx hown (hts _ m_da067afc) (hts _ m_7e8d081f) (hts _ m_4e47f51a) (xt_sigOf (hts _ m_4f1bdc54)) nm_Row_add (by rw [hT]; exact r1) r2 r3 (g := F0 m 251 ls [.long (-1), .ref b83]) rfl (argsL := [.long (-1)]) (rest := []) rfl rfl (by rw [hb]; exact (xb_d D_Reader_readImport 126 rfl))) (ok_Row_add l hfl D A σ b83 (-1) h78 c87 sc87 _ hw) (hml.trans hl.1.symm) (by rw [hb]; exact (xb_d D_Reader_readImport 126 rfl)) (Nat.le_of_ble_eq_true rfl) (Nat.le_of_ble_eq_true rfl) (Nat.le_of_ble_eq_true rfl) (show (((((((((((k + c5) + c9) + c13) + c20) + c27) + c39) + c46) + c53) + c60) + c67) + c80) + c87 ≤ MC by omega) (show (((((((((((n + sc5) + sc9) + sc13) + sc20) + sc27) + sc39) + sc46) + sc53) + sc60) + sc67) + sc80) + sc87 ≤ MS by omega) (xt_w1 hB.1 m_4f1bdc54) (xt_cdOf hB.1 m_4f1bdc54) (hts _ m_c1bef504) hB hR hS hA (fun vv h85 H locs hq hEh85 hR hS => ?_) (fun XX ax h85 H locs hq hEh85 hex hR hS => ?_)
                              · obtain ⟨rfl, hw⟩ := hq
                                have hw := hw hEh85
                                have hE := hE.tr hEh85
                                refine W.eq (g2 := F0 m 254 ls []) rfl ?_
                                exact am_Reader_readImport_L254 l hfl D A σ MC MS h0 Qr Qt h85 ((((((((((((bc - c5) - c9) - c13) - c20) - c27) - c39) - c46) - c53) - c60) - c67) - c80) - c87) ((((((((((((bs - sc5) - sc9) - sc13) - sc20) - sc27) - sc39) - sc46) - sc53) - sc60) - sc67) - sc80) - sc87) hw p e s m args below meth c hC H locs ls ((((((((((((k + c5) + c9) + c13) + c20) + c27) + c39) + c46) + c53) + c60) + c67) + c80) + c87) ((((((((((((n + sc5) + sc9) + sc13) + sc20) + sc27) + sc39) + sc46) + sc53) + sc60) + sc67) + sc80) + sc87) hE (lv_sub hl [] rfl) hR hS (by omega) (by omega)
                              · exact False.elim hq
                            · exact xb_pass hlocks (fun x hx9 => by rw [htab] at hx9; first | cases hx9 | (simp [tableOf] at hx9; rcases hx9 with rfl | rfl | rfl <;> decide)) (show (((((((((((k + c5) + c9) + c13) + c20) + c27) + c39) + c46) + c53) + c60) + c67) + c80) ≤ MC by omega) (show (((((((((((n + sc5) + sc9) + sc13) + sc20) + sc27) + sc39) + sc46) + sc53) + sc60) + sc67) + sc80) ≤ MS by omega) (hE.tr hEh78) hR hS hex hq
                          · have hw := hw.2 hc77
                            refine lv_aload_n hx hb (xb_d D_Reader_readImport 112 rfl) rfl (lv_at hl 6 rfl) ?_
                            refine lv_aload_n hx hb (xb_d D_Reader_readImport 113 rfl) rfl (lv_at hl 6 rfl) ?_
                            have hk1 : xb_k h74 x0 = 4 := by rw [eh74]; exact hk1
                            refine xb_getP (C := R_Reader) (T := F_Reader) (N := 6) hx hb 3 0 hts fin_Reader hown hR hk1 (by decide) rfl (by decide) rfl (hts _ m_76d8349c) (fun _ h9 => h9) (xb_d D_Reader_readImport 114 rfl) ?_
                            obtain ⟨b88, eb88, hw⟩ := hw
                            refine xb_some eb88 ?_
                            obtain ⟨hk89, hw⟩ := hw
                            refine xb_getP (C := R_StackModule) (T := F_StackModule) (N := 19) hx hb 2 6 hts fin_StackModule hown hR hk89 (by decide) rfl (by decide) rfl (hts _ m_aacfe790) (fun _ h9 => h9) (xb_d D_Reader_readImport 115 rfl) ?_
                            obtain ⟨b90, eb90, hw⟩ := hw
                            refine xb_some eb90 ?_
                            refine lv_iload_n hx hb (xb_d D_Reader_readImport 116 rfl) rfl (lv_at hl 5 rfl) ?_
                            obtain ⟨c93, sc93, hlc93, hlsc93, hw⟩ := hw
                            refine xb_call (D := D) (A := A) (σ := σ) (h := h74) (d := 5) (mc := c93) (ms := sc93) (maxL := 4) (rest := []) (av := [.ref x0, .ref b90, .int v2]) (fun T hT X => by obtain ⟨cb, r1, r2, r3⟩ := xb_recv (ci := 3) hR rfl hk1 (by decide); exact xt_invV X hx hown (hts _ m_8deb7e3b) (hts _ m_592ab943) (hts _ m_602d511d) (xt_sigOf (hts _ m_06c7cb4a)) nm_Reader_readLimits (by rw [hT]; exact r1) r2 r3 (g := F0 m 230 ls [.int v2, .ref b90, .ref x0]) rfl (argsL := [.ref b90, .int v2]) (rest := []) rfl rfl (by rw [hb]; exact (xb_d D_Reader_readImport 117 rfl))) (ok_Reader_readLimits l hfl D A σ x0 b90 v2 h74 c93 sc93 _ _ hw) (hml.trans hl.1.symm) (by rw [hb]; exact (xb_d D_Reader_readImport 117 rfl)) (Nat.le_of_ble_eq_true rfl) (Nat.le_of_ble_eq_true rfl) (Nat.le_of_ble_eq_true rfl) (show ((((((((((k + c5) + c9) + c13) + c20) + c27) + c39) + c46) + c53) + c60) + c67) + c93 ≤ MC by omega) (show ((((((((((n + sc5) + sc9) + sc13) + sc20) + sc27) + sc39) + sc46) + sc53) + sc60) + sc67) + sc93 ≤ MS by omega) (xt_w1 hB.1 m_06c7cb4a) (xt_cdOf hB.1 m_06c7cb4a) (hts _ m_938fcec4) hB hR hS hA (fun vv h91 H locs hq hEh91 hR hS => ?_) (fun XX ax h91 H locs hq hEh91 hex hR hS => ?_)
                            · obtain ⟨rfl, hw⟩ := hq
                              have hw := hw hEh91
                              have hE := hE.tr hEh91
                              refine W.eq (g2 := F0 m 233 ls []) rfl ?_
                              refine lv_goto (tgt := 254) hx hb (xb_d D_Reader_readImport 118 rfl) rfl ?_
                              exact am_Reader_readImport_L254 l hfl D A σ MC MS h0 Qr Qt h91 (((((((((((bc - c5) - c9) - c13) - c20) - c27) - c39) - c46) - c53) - c60) - c67) - c93) (((((((((((bs - sc5) - sc9) - sc13) - sc20) - sc27) - sc39) - sc46) - sc53) - sc60) - sc67) - sc93) hw p e s m args below meth c hC H locs ls (((((((((((k + c5) + c9) + c13) + c20) + c27) + c39) + c46) + c53) + c60) + c67) + c93) (((((((((((n + sc5) + sc9) + sc13) + sc20) + sc27) + sc39) + sc46) + sc53) + sc60) + sc67) + sc93) hE (lv_sub hl [] rfl) hR hS (by omega) (by omega)
                            · exact xb_pass hlocks (fun x hx9 => by rw [htab] at hx9; first | cases hx9 | (simp [tableOf] at hx9; rcases hx9 with rfl | rfl | rfl <;> decide)) (show (((((((((((k + c5) + c9) + c13) + c20) + c27) + c39) + c46) + c53) + c60) + c67) + c93) ≤ MC by omega) (show (((((((((((n + sc5) + sc9) + sc13) + sc20) + sc27) + sc39) + sc46) + sc53) + sc60) + sc67) + sc93) ≤ MS by omega) (hE.tr hEh91) hR hS hex hq
                        · have hw := hw.2 hc76
                          refine lv_aload_n hx hb (xb_d D_Reader_readImport 99 rfl) rfl (lv_at hl 6 rfl) ?_
                          refine lv_bipush (v := 112) hx hb (xb_d D_Reader_readImport 100 rfl) (by decide) ?_
                          have hk1 : xb_k h74 x0 = 4 := by rw [eh74]; exact hk1
                          obtain ⟨c96, sc96, hlc96, hlsc96, hw⟩ := hw
                          refine xb_call (D := D) (A := A) (σ := σ) (h := h74) (d := 3) (mc := c96) (ms := sc96) (maxL := 2) (rest := []) (av := [.ref x0, .int 112]) (fun T hT X => by obtain ⟨cb, r1, r2, r3⟩ := xb_recv (ci := 3) hR rfl hk1 (by decide); exact xt_invV X hx hown (hts _ m_bc6f1cef) (hts _ m_6ae404a7) (hts _ m_7b6b2ffe) (xt_sigOf (hts _ m_e431c1f6)) nm_Reader_readMark (by rw [hT]; exact r1) r2 r3 (g := F0 m 197 ls [.int 112, .ref x0]) rfl (argsL := [.int 112]) (rest := []) rfl rfl (by rw [hb]; exact (xb_d D_Reader_readImport 101 rfl))) (ok_Reader_readMark l hfl D A σ x0 112 h74 c96 sc96 _ _ hw) (hml.trans hl.1.symm) (by rw [hb]; exact (xb_d D_Reader_readImport 101 rfl)) (Nat.le_of_ble_eq_true rfl) (Nat.le_of_ble_eq_true rfl) (Nat.le_of_ble_eq_true rfl) (show ((((((((((k + c5) + c9) + c13) + c20) + c27) + c39) + c46) + c53) + c60) + c67) + c96 ≤ MC by omega) (show ((((((((((n + sc5) + sc9) + sc13) + sc20) + sc27) + sc39) + sc46) + sc53) + sc60) + sc67) + sc96 ≤ MS by omega) (xt_w1 hB.1 m_e431c1f6) (xt_cdOf hB.1 m_e431c1f6) (hts _ m_938fcec4) hB hR hS hA (fun vv h94 H locs hq hEh94 hR hS => ?_) (fun XX ax h94 H locs hq hEh94 hex hR hS => ?_)
                          · obtain ⟨rfl, hw⟩ := hq
                            have hw := hw hEh94
                            have hE := hE.tr hEh94
                            refine W.eq (g2 := F0 m 200 ls []) rfl ?_
                            refine lv_aload_n hx hb (xb_d D_Reader_readImport 102 rfl) rfl (lv_at hl 6 rfl) ?_
                            refine lv_aload_n hx hb (xb_d D_Reader_readImport 103 rfl) rfl (lv_at hl 6 rfl) ?_
                            have hk1 : xb_k h94 x0 = 4 := hEh94.k hk1
                            refine xb_getP (C := R_Reader) (T := F_Reader) (N := 6) hx hb 3 0 hts fin_Reader hown hR hk1 (by decide) rfl (by decide) rfl (hts _ m_76d8349c) (fun _ h9 => h9) (xb_d D_Reader_readImport 104 rfl) ?_
                            obtain ⟨b97, eb97, hw⟩ := hw
                            refine xb_some eb97 ?_
                            obtain ⟨hk98, hw⟩ := hw
                            refine xb_getP (C := R_StackModule) (T := F_StackModule) (N := 19) hx hb 2 5 hts fin_StackModule hown hR hk98 (by decide) rfl (by decide) rfl (hts _ m_e81580da) (fun _ h9 => h9) (xb_d D_Reader_readImport 105 rfl) ?_
                            obtain ⟨b99, eb99, hw⟩ := hw
                            refine xb_some eb99 ?_
                            refine lv_iload_n hx hb (xb_d D_Reader_readImport 106 rfl) rfl (lv_at hl 5 rfl) ?_
                            obtain ⟨c102, sc102, hlc102, hlsc102, hw⟩ := hw
                            refine xb_call (D := D) (A := A) (σ := σ) (h := h94) (d := 5) (mc := c102) (ms := sc102) (maxL := 4) (rest := []) (av := [.ref x0, .ref b99, .int v2]) (fun T hT X => by obtain ⟨cb, r1, r2, r3⟩ := xb_recv (ci := 3) hR rfl hk1 (by decide); exact xt_invV X hx hown (hts _ m_8deb7e3b) (hts _ m_592ab943) (hts _ m_602d511d) (xt_sigOf (hts _ m_06c7cb4a)) nm_Reader_readLimits (by rw [hT]; exact r1) r2 r3 (g := F0 m 209 ls [.int v2, .ref b99, .ref x0]) rfl (argsL := [.ref b99, .int v2]) (rest := []) rfl rfl (by rw [hb]; exact (xb_d D_Reader_readImport 107 rfl))) (ok_Reader_readLimits l hfl D A σ x0 b99 v2 h94 c102 sc102 _ _ hw) (hml.trans hl.1.symm) (by rw [hb]; exact (xb_d D_Reader_readImport 107 rfl)) (Nat.le_of_ble_eq_true rfl) (Nat.le_of_ble_eq_true rfl) (Nat.le_of_ble_eq_true rfl) (show (((((((((((k + c5) + c9) + c13) + c20) + c27) + c39) + c46) + c53) + c60) + c67) + c96) + c102 ≤ MC by omega) (show (((((((((((n + sc5) + sc9) + sc13) + sc20) + sc27) + sc39) + sc46) + sc53) + sc60) + sc67) + sc96) + sc102 ≤ MS by omega) (xt_w1 hB.1 m_06c7cb4a) (xt_cdOf hB.1 m_06c7cb4a) (hts _ m_938fcec4) hB hR hS hA (fun vv h100 H locs hq hEh100 hR hS => ?_) (fun XX ax h100 H locs hq hEh100 hex hR hS => ?_)
                            · obtain ⟨rfl, hw⟩ := hq
                              have hw := hw hEh100
                              have hE := hE.tr hEh100
                              refine W.eq (g2 := F0 m 212 ls []) rfl ?_
                              refine lv_goto (tgt := 254) hx hb (xb_d D_Reader_readImport 108 rfl) rfl ?_
                              exact am_Reader_readImport_L254 l hfl D A σ MC MS h0 Qr Qt h100 ((((((((((((bc - c5) - c9) - c13) - c20) - c27) - c39) - c46) - c53) - c60) - c67) - c96) - c102) ((((((((((((bs - sc5) - sc9) - sc13) - sc20) - sc27) - sc39) - sc46) - sc53) - sc60) - sc67) - sc96) - sc102) hw p e s m args below meth c hC H locs ls ((((((((((((k + c5) + c9) + c13) + c20) + c27) + c39) + c46) + c53) + c60) + c67) + c96) + c102) ((((((((((((n + sc5) + sc9) + sc13) + sc20) + sc27) + sc39) + sc46) + sc53) + sc60) + sc67) + sc96) + sc102) hE (lv_sub hl [] rfl) hR hS (by omega) (by omega)
                            · exact xb_pass hlocks (fun x hx9 => by rw [htab] at hx9; first | cases hx9 | (simp [tableOf] at hx9; rcases hx9 with rfl | rfl | rfl <;> decide)) (show ((((((((((((k + c5) + c9) + c13) + c20) + c27) + c39) + c46) + c53) + c60) + c67) + c96) + c102) ≤ MC by omega) (show ((((((((((((n + sc5) + sc9) + sc13) + sc20) + sc27) + sc39) + sc46) + sc53) + sc60) + sc67) + sc96) + sc102) ≤ MS by omega) (hE.tr hEh100) hR hS hex hq
                          · exact xb_pass hlocks (fun x hx9 => by rw [htab] at hx9; first | cases hx9 | (simp [tableOf] at hx9; rcases hx9 with rfl | rfl | rfl <;> decide)) (show (((((((((((k + c5) + c9) + c13) + c20) + c27) + c39) + c46) + c53) + c60) + c67) + c96) ≤ MC by omega) (show (((((((((((n + sc5) + sc9) + sc13) + sc20) + sc27) + sc39) + sc46) + sc53) + sc60) + sc67) + sc96) ≤ MS by omega) (hE.tr hEh94) hR hS hex hq
                      · have hw := hw.2 hc75
                        refine lv_aload_n hx hb (xb_d D_Reader_readImport 80 rfl) rfl (lv_at hl 6 rfl) ?_
                        have hk1 : xb_k h74 x0 = 4 := by rw [eh74]; exact hk1
                        refine xb_getP (C := R_Reader) (T := F_Reader) (N := 6) hx hb 3 0 hts fin_Reader hown hR hk1 (by decide) rfl (by decide) rfl (hts _ m_76d8349c) (fun _ h9 => h9) (xb_d D_Reader_readImport 81 rfl) ?_
                        obtain ⟨b103, eb103, hw⟩ := hw
                        refine xb_some eb103 ?_
                        obtain ⟨hk104, hw⟩ := hw
                        refine xb_getP (C := R_StackModule) (T := F_StackModule) (N := 19) hx hb 2 4 hts fin_StackModule hown hR hk104 (by decide) rfl (by decide) rfl (hts _ m_08af5762) (fun _ h9 => h9) (xb_d D_Reader_readImport 82 rfl) ?_
                        obtain ⟨b105, eb105, hw⟩ := hw
                        refine xb_some eb105 ?_
                        refine lv_iload_n hx hb (xb_d D_Reader_readImport 83 rfl) rfl (lv_at hl 5 rfl) ?_
                        refine lv_i2l hx hb (xb_d D_Reader_readImport 84 rfl) rfl ?_
                        obtain ⟨hk106, hw⟩ := hw
                        obtain ⟨c109, sc109, hlc109, hlsc109, hw⟩ := hw
                        refine xb_call (D := D) (A := A) (σ := σ) (h := h74) (d := 4) (mc := c109) (ms := sc109) (maxL := 3) (rest := []) (av := [.ref b105, .long (Int32.toInt64 v2)]) (fun T hT X => by obtain ⟨cb, r1, r2, r3⟩ := xb_recv (ci := 1) hR rfl hk106 (by decide); exact xt_invV X hx hown (hts _ m_da067afc) (hts _ m_7e8d081f) (hts _ m_4e47f51a) (xt_sigOf (hts _ m_4f1bdc54)) nm_Row_add (by rw [hT]; exact r1) r2 r3 (g := F0 m 163 ls [.long (Int32.toInt64 v2), .ref b105]) rfl (argsL := [.long (Int32.toInt64 v2)]) (rest := []) rfl rfl (by rw [hb]; exact (xb_d D_Reader_readImport 85 rfl))) (ok_Row_add l hfl D A σ b105 (Int32.toInt64 v2) h74 c109 sc109 _ hw) (hml.trans hl.1.symm) (by rw [hb]; exact (xb_d D_Reader_readImport 85 rfl)) (Nat.le_of_ble_eq_true rfl) (Nat.le_of_ble_eq_true rfl) (Nat.le_of_ble_eq_true rfl) (show ((((((((((k + c5) + c9) + c13) + c20) + c27) + c39) + c46) + c53) + c60) + c67) + c109 ≤ MC by omega) (show ((((((((((n + sc5) + sc9) + sc13) + sc20) + sc27) + sc39) + sc46) + sc53) + sc60) + sc67) + sc109 ≤ MS by omega) (xt_w1 hB.1 m_4f1bdc54) (xt_cdOf hB.1 m_4f1bdc54) (hts _ m_c1bef504) hB hR hS hA (fun vv h107 H locs hq hEh107 hR hS => ?_) (fun XX ax h107 H locs hq hEh107 hex hR hS => ?_)
                        · obtain ⟨rfl, hw⟩ := hq
                          have hw := hw hEh107
                          have hE := hE.tr hEh107
                          refine W.eq (g2 := F0 m 166 ls []) rfl ?_
                          refine lv_aload_n hx hb (xb_d D_Reader_readImport 86 rfl) rfl (lv_at hl 6 rfl) ?_
                          have hk1 : xb_k h107 x0 = 4 := hEh107.k hk1
                          refine xb_getP (C := R_Reader) (T := F_Reader) (N := 6) hx hb 3 0 hts fin_Reader hown hR hk1 (by decide) rfl (by decide) rfl (hts _ m_76d8349c) (fun _ h9 => h9) (xb_d D_Reader_readImport 87 rfl) ?_
                          obtain ⟨b110, eb110, hw⟩ := hw
                          refine xb_some eb110 ?_
                          obtain ⟨hk111, hw⟩ := hw
                          refine xb_getP (C := R_StackModule) (T := F_StackModule) (N := 19) hx hb 2 4 hts fin_StackModule hown hR hk111 (by decide) rfl (by decide) rfl (hts _ m_08af5762) (fun _ h9 => h9) (xb_d D_Reader_readImport 88 rfl) ?_
                          obtain ⟨b112, eb112, hw⟩ := hw
                          refine xb_some eb112 ?_
                          refine lv_aload_n hx hb (xb_d D_Reader_readImport 89 rfl) rfl (lv_at hl 6 rfl) ?_
                          obtain ⟨c115, sc115, hlc115, hlsc115, hw⟩ := hw
                          refine xb_call (D := D) (A := A) (σ := σ) (h := h107) (d := 3) (mc := c115) (ms := sc115) (maxL := 4) (rest := [.ref b112]) (av := [.ref x0]) (fun T hT X => by obtain ⟨cb, r1, r2, r3⟩ := xb_recv (ci := 3) hR rfl hk1 (by decide); exact xt_invV X hx hown (hts _ m_2c379b4d) (hts _ m_a120e786) (hts _ m_e903c73e) (xt_sigOf (hts _ m_99690a98)) nm_Reader_count (by rw [hT]; exact r1) r2 r3 (g := F0 m 174 ls [.ref x0, .ref b112]) rfl (argsL := []) (rest := [.ref b112]) rfl rfl (by rw [hb]; exact (xb_d D_Reader_readImport 90 rfl))) (ok_Reader_count l hfl D A σ x0 h107 c115 sc115 _ _ hw) (hml.trans hl.1.symm) (by rw [hb]; exact (xb_d D_Reader_readImport 90 rfl)) (Nat.le_of_ble_eq_true rfl) (Nat.le_of_ble_eq_true rfl) (Nat.le_of_ble_eq_true rfl) (show (((((((((((k + c5) + c9) + c13) + c20) + c27) + c39) + c46) + c53) + c60) + c67) + c109) + c115 ≤ MC by omega) (show (((((((((((n + sc5) + sc9) + sc13) + sc20) + sc27) + sc39) + sc46) + sc53) + sc60) + sc67) + sc109) + sc115 ≤ MS by omega) (xt_w1 hB.1 m_99690a98) (xt_cdOf hB.1 m_99690a98) (hts _ m_938fcec4) hB hR hS hA (fun vv h113 H locs hq hEh113 hR hS => ?_) (fun XX ax h113 H locs hq hEh113 hex hR hS => ?_)
                          · obtain ⟨r114, rfl, hw⟩ := hq
                            have hw := hw hEh113
                            have hE := hE.tr hEh113
                            refine W.eq (g2 := F0 m 177 ls [.int r114, .ref b112]) rfl ?_
                            refine lv_i2l hx hb (xb_d D_Reader_readImport 91 rfl) rfl ?_
                            refine lv_ldc2 (v := 4294967295) hx hb hown (hts _ m_687f726b) (xb_d D_Reader_readImport 92 rfl) ?_
                            refine lv_land hx hb (xb_d D_Reader_readImport 93 rfl) ?_
                            obtain ⟨hk116, hw⟩ := hw
                            obtain ⟨c119, sc119, hlc119, hlsc119, hw⟩ := hw
                            refine xb_call (D := D) (A := A) (σ := σ) (h := h113) (d := 4) (mc := c119) (ms := sc119) (maxL := 3) (rest := []) (av := [.ref b112, .long ((Int32.toInt64 r114) &&& 4294967295)]) (fun T hT X => by obtain ⟨cb, r1, r2, r3⟩ := xb_recv (ci := 1) hR rfl hk116 (by decide); exact xt_invV X hx hown (hts _ m_da067afc) (hts _ m_7e8d081f) (hts _ m_4e47f51a) (xt_sigOf (hts _ m_4f1bdc54)) nm_Row_add (by rw [hT]; exact r1) r2 r3 (g := F0 m 182 ls [.long ((Int32.toInt64 r114) &&& 4294967295), .ref b112]) rfl (argsL := [.long ((Int32.toInt64 r114) &&& 4294967295)]) (rest := []) rfl rfl (by rw [hb]; exact (xb_d D_Reader_readImport 94 rfl))) (ok_Row_add l hfl D A σ b112 ((Int32.toInt64 r114) &&& 4294967295) h113 c119 sc119 _ hw) (hml.trans hl.1.symm) (by rw [hb]; exact (xb_d D_Reader_readImport 94 rfl)) (Nat.le_of_ble_eq_true rfl) (Nat.le_of_ble_eq_true rfl) (Nat.le_of_ble_eq_true rfl) (show ((((((((((((k + c5) + c9) + c13) + c20) + c27) + c39) + c46) + c53) + c60) + c67) + c109) + c115) + c119 ≤ MC by omega) (show ((((((((((((n + sc5) + sc9) + sc13) + sc20) + sc27) + sc39) + sc46) + sc53) + sc60) + sc67) + sc109) + sc115) + sc119 ≤ MS by omega) (xt_w1 hB.1 m_4f1bdc54) (xt_cdOf hB.1 m_4f1bdc54) (hts _ m_c1bef504) hB hR hS hA (fun vv h117 H locs hq hEh117 hR hS => ?_) (fun XX ax h117 H locs hq hEh117 hex hR hS => ?_)
                            · obtain ⟨rfl, hw⟩ := hq
                              have hw := hw hEh117
                              have hE := hE.tr hEh117
                              refine W.eq (g2 := F0 m 185 ls []) rfl ?_
                              refine lv_goto (tgt := 254) hx hb (xb_d D_Reader_readImport 95 rfl) rfl ?_
                              exact am_Reader_readImport_L254 l hfl D A σ MC MS h0 Qr Qt h117 (((((((((((((bc - c5) - c9) - c13) - c20) - c27) - c39) - c46) - c53) - c60) - c67) - c109) - c115) - c119) (((((((((((((bs - sc5) - sc9) - sc13) - sc20) - sc27) - sc39) - sc46) - sc53) - sc60) - sc67) - sc109) - sc115) - sc119) hw p e s m args below meth c hC H locs ls (((((((((((((k + c5) + c9) + c13) + c20) + c27) + c39) + c46) + c53) + c60) + c67) + c109) + c115) + c119) (((((((((((((n + sc5) + sc9) + sc13) + sc20) + sc27) + sc39) + sc46) + sc53) + sc60) + sc67) + sc109) + sc115) + sc119) hE (lv_sub hl [] rfl) hR hS (by omega) (by omega)
                            · exact False.elim hq
                          · exact xb_pass hlocks (fun x hx9 => by rw [htab] at hx9; first | cases hx9 | (simp [tableOf] at hx9; rcases hx9 with rfl | rfl | rfl <;> decide)) (show ((((((((((((k + c5) + c9) + c13) + c20) + c27) + c39) + c46) + c53) + c60) + c67) + c109) + c115) ≤ MC by omega) (show ((((((((((((n + sc5) + sc9) + sc13) + sc20) + sc27) + sc39) + sc46) + sc53) + sc60) + sc67) + sc109) + sc115) ≤ MS by omega) (hE.tr hEh113) hR hS hex hq
                        · exact False.elim hq
                    · exact False.elim hq
                  · exact False.elim hq
                · exact False.elim hq
              · exact False.elim hq
            · exact False.elim hq
          · exact False.elim hq
        · exact False.elim hq
      · exact xb_pass hlocks (fun x hx9 => by rw [htab] at hx9; first | cases hx9 | (simp [tableOf] at hx9; rcases hx9 with rfl | rfl | rfl <;> decide)) (show (((k + c5) + c9) + c13) ≤ MC by omega) (show (((n + sc5) + sc9) + sc13) ≤ MS by omega) (hE.tr hEh11) hR hS hex hq
    · exact xb_pass hlocks (fun x hx9 => by rw [htab] at hx9; first | cases hx9 | (simp [tableOf] at hx9; rcases hx9 with rfl | rfl | rfl <;> decide)) (show ((k + c5) + c9) ≤ MC by omega) (show ((n + sc5) + sc9) ≤ MS by omega) (hE.tr hEh7) hR hS hex hq
  · exact xb_pass hlocks (fun x hx9 => by rw [htab] at hx9; first | cases hx9 | (simp [tableOf] at hx9; rcases hx9 with rfl | rfl | rfl <;> decide)) (show (k + c5) ≤ MC by omega) (show (n + sc5) ≤ MS by omega) (hE.tr hEh3) hR hS hex hq

set_option maxRecDepth 100000 in
def T_Reader_readTable : List (Nat × Instr × Nat) := [(0, .aload_n 0, 1), (1, .getfield 41, 3), (4, .istore_n 1, 1), (5, .aload_n 0, 1), (6, .bipush 112, 2), (8, .invokevirtual 134, 3), (11, .aload_n 0, 1), (12, .aload_n 0, 1), (13, .getfield 15, 3), (16, .getfield 155, 3), (19, .iload_n 1, 1), (20, .invokevirtual 97, 3), (23, .return_, 1)]
theorem D_Reader_readTable : ∀ q ∈ T_Reader_readTable, decode b_Reader_readTable q.1 = .ok (q.2.1, q.2.2) := by decide +kernel
def w_Reader_readTable (x0 : Nat) (h : xb_H) (bc : Nat) (bs : Nat) (Qr : xb_H → Prop) (Qt : String → xb_H → Prop) : Prop :=
    xb_k h x0 = 4 ∧ ∀ v2 : Int32, v2 = (xb_i h x0 3) → ∃ c5 sc5 : Nat, c5 ≤ bc ∧ sc5 ≤ bs ∧ w_Reader_readMark x0 112 h c5 sc5 (fun (h3 : xb_H) => xb_ext h h3 → ∃ b6 : Nat, (xb_r h3 x0 0) = some b6 ∧ xb_k h3 b6 = 3 ∧ ∃ b8 : Nat, (xb_r h3 b6 5) = some b8 ∧ ∃ c11 sc11 : Nat, c11 ≤ (bc - c5) ∧ sc11 ≤ (bs - sc5) ∧ w_Reader_readLimits x0 b8 v2 h3 c11 sc11 (fun (h9 : xb_H) => xb_ext h3 h9 → Qr h9) Qt) Qt

set_option maxHeartbeats 4000000 in
set_option maxRecDepth 100000 in
theorem ok_Reader_readTable (l : Launch) (hfl : l.flags = pinnedFlags ++ [noTraceFlag]) (D : va_G) (A : Nat → Prop) (σ : Nat) (x0 : Nat) (h : xb_H) (bc : Nat) (bs : Nat) (Qr : xb_H → Prop) (Qt : String → xb_H → Prop) (hw : w_Reader_readTable x0 h bc bs Qr Qt) : xt_Met l y_Reader_readTable [.code y_Reader_readTable b_Reader_readTable 2 none] (xb_rm 6 bc bs) (xb_Pc D A σ h [.ref x0]) (xb_Qc D A h (fun v h => v = none ∧ Qr h) Qt) bc bs A := by
  refine xb_ofAm (cc := b_Reader_readTable) (by decide) (Nat.le_of_ble_eq_true rfl) ?_
  unfold w_Reader_readTable at hw
  show xb_am l D A σ 6 bc bs h (fun v h => v = none ∧ Qr h) Qt y_Reader_readTable.cls y_Reader_readTable.name b_Reader_readTable 2 ([] : List ExceptionTableEntry) none 0 [(0, .ref x0)] [] h bc bs
  obtain ⟨MC, hMC⟩ : ∃ x, x = bc := ⟨_, rfl⟩
  obtain ⟨MS, hMS⟩ : ∃ x, x = bs := ⟨_, rfl⟩
  rw [show xb_am l D A σ 6 bc bs = xb_am l D A σ 6 MC MS by rw [hMC, hMS]]
  obtain ⟨h0, hh0⟩ : ∃ x, x = h := ⟨_, rfl⟩
  rw [show xb_am l D A σ 6 MC MS h = xb_am l D A σ 6 MC MS h0 by rw [hh0]]
  intro p e s m args below meth c hC H locs ls k n hE hl hR hS hk hn
  obtain ⟨hx, hb, hown, hlocks, htab, hml, hr, hB, hA, hnm⟩ := id hC
  have hts := hB.1.1.at args
  refine lv_aload_n hx hb (xb_d D_Reader_readTable 0 rfl) rfl (lv_at hl 0 rfl) ?_
  obtain ⟨hk1, hw⟩ := hw
  refine xb_getI (C := R_Reader) (T := F_Reader) (N := 6) hx hb 3 3 hts fin_Reader hown hR hk1 (by decide) rfl (by decide) rfl (hts _ m_a9b84ac2) (fun _ h9 => h9) (xb_d D_Reader_readTable 1 rfl) ?_
  obtain ⟨v2, ev2⟩ : ∃ x : Int32, x = (xb_i h x0 3) := ⟨_, rfl⟩
  have hw := hw v2 ev2
  refine xt_numi (y := v2) ev2.symm ?_
  refine lv_istore_n hx hb (xb_d D_Reader_readTable 2 rfl) rfl hl (by decide) rfl (fun ls hl => ?_)
  have hl : lv_has ls 2 [(1, .int v2), (0, .ref x0)] := hl
  refine lv_aload_n hx hb (xb_d D_Reader_readTable 3 rfl) rfl (lv_at hl 1 rfl) ?_
  refine lv_bipush (v := 112) hx hb (xb_d D_Reader_readTable 4 rfl) (by decide) ?_
  obtain ⟨c5, sc5, hlc5, hlsc5, hw⟩ := hw
  refine xb_call (D := D) (A := A) (σ := σ) (h := h) (d := 3) (mc := c5) (ms := sc5) (maxL := 2) (rest := []) (av := [.ref x0, .int 112]) (fun T hT X => by obtain ⟨cb, r1, r2, r3⟩ := xb_recv (ci := 3) hR rfl hk1 (by decide); exact xt_invV X hx hown (hts _ m_bc6f1cef) (hts _ m_6ae404a7) (hts _ m_7b6b2ffe) (xt_sigOf (hts _ m_e431c1f6)) nm_Reader_readMark (by rw [hT]; exact r1) r2 r3 (g := F0 m 8 ls [.int 112, .ref x0]) rfl (argsL := [.int 112]) (rest := []) rfl rfl (by rw [hb]; exact (xb_d D_Reader_readTable 5 rfl))) (ok_Reader_readMark l hfl D A σ x0 112 h c5 sc5 _ _ hw) (hml.trans hl.1.symm) (by rw [hb]; exact (xb_d D_Reader_readTable 5 rfl)) (Nat.le_of_ble_eq_true rfl) (Nat.le_of_ble_eq_true rfl) (Nat.le_of_ble_eq_true rfl) (show k + c5 ≤ MC by omega) (show n + sc5 ≤ MS by omega) (xt_w1 hB.1 m_e431c1f6) (xt_cdOf hB.1 m_e431c1f6) (hts _ m_938fcec4) hB hR hS hA (fun vv h3 H locs hq hEh3 hR hS => ?_) (fun XX ax h3 H locs hq hEh3 hex hR hS => ?_)
  · obtain ⟨rfl, hw⟩ := hq
    have hw := hw hEh3
    have hE := hE.tr hEh3
    refine W.eq (g2 := F0 m 11 ls []) rfl ?_
    refine lv_aload_n hx hb (xb_d D_Reader_readTable 6 rfl) rfl (lv_at hl 1 rfl) ?_
    refine lv_aload_n hx hb (xb_d D_Reader_readTable 7 rfl) rfl (lv_at hl 1 rfl) ?_
    have hk1 : xb_k h3 x0 = 4 := hEh3.k hk1
    refine xb_getP (C := R_Reader) (T := F_Reader) (N := 6) hx hb 3 0 hts fin_Reader hown hR hk1 (by decide) rfl (by decide) rfl (hts _ m_76d8349c) (fun _ h9 => h9) (xb_d D_Reader_readTable 8 rfl) ?_
    obtain ⟨b6, eb6, hw⟩ := hw
    refine xb_some eb6 ?_
    obtain ⟨hk7, hw⟩ := hw
    refine xb_getP (C := R_StackModule) (T := F_StackModule) (N := 19) hx hb 2 5 hts fin_StackModule hown hR hk7 (by decide) rfl (by decide) rfl (hts _ m_e81580da) (fun _ h9 => h9) (xb_d D_Reader_readTable 9 rfl) ?_
    obtain ⟨b8, eb8, hw⟩ := hw
    refine xb_some eb8 ?_
    refine lv_iload_n hx hb (xb_d D_Reader_readTable 10 rfl) rfl (lv_at hl 0 rfl) ?_
    obtain ⟨c11, sc11, hlc11, hlsc11, hw⟩ := hw
    refine xb_call (D := D) (A := A) (σ := σ) (h := h3) (d := 5) (mc := c11) (ms := sc11) (maxL := 4) (rest := []) (av := [.ref x0, .ref b8, .int v2]) (fun T hT X => by obtain ⟨cb, r1, r2, r3⟩ := xb_recv (ci := 3) hR rfl hk1 (by decide); exact xt_invV X hx hown (hts _ m_8deb7e3b) (hts _ m_592ab943) (hts _ m_602d511d) (xt_sigOf (hts _ m_06c7cb4a)) nm_Reader_readLimits (by rw [hT]; exact r1) r2 r3 (g := F0 m 20 ls [.int v2, .ref b8, .ref x0]) rfl (argsL := [.ref b8, .int v2]) (rest := []) rfl rfl (by rw [hb]; exact (xb_d D_Reader_readTable 11 rfl))) (ok_Reader_readLimits l hfl D A σ x0 b8 v2 h3 c11 sc11 _ _ hw) (hml.trans hl.1.symm) (by rw [hb]; exact (xb_d D_Reader_readTable 11 rfl)) (Nat.le_of_ble_eq_true rfl) (Nat.le_of_ble_eq_true rfl) (Nat.le_of_ble_eq_true rfl) (show (k + c5) + c11 ≤ MC by omega) (show (n + sc5) + sc11 ≤ MS by omega) (xt_w1 hB.1 m_06c7cb4a) (xt_cdOf hB.1 m_06c7cb4a) (hts _ m_938fcec4) hB hR hS hA (fun vv h9 H locs hq hEh9 hR hS => ?_) (fun XX ax h9 H locs hq hEh9 hex hR hS => ?_)
    · obtain ⟨rfl, hw⟩ := hq
      have hw := hw hEh9
      have hE := hE.tr hEh9
      refine W.eq (g2 := F0 m 23 ls []) rfl ?_
      exact xb_vret hx hb hr hlocks (show ((k + c5) + c11) ≤ MC by omega) (show ((n + sc5) + sc11) ≤ MS by omega) hE hR hS (xb_d D_Reader_readTable 12 rfl) hw
    · exact xb_pass hlocks (fun x hx9 => by rw [htab] at hx9; first | cases hx9 | (simp [tableOf] at hx9; rcases hx9 with rfl | rfl | rfl <;> decide)) (show ((k + c5) + c11) ≤ MC by omega) (show ((n + sc5) + sc11) ≤ MS by omega) (hE.tr hEh9) hR hS hex hq
  · exact xb_pass hlocks (fun x hx9 => by rw [htab] at hx9; first | cases hx9 | (simp [tableOf] at hx9; rcases hx9 with rfl | rfl | rfl <;> decide)) (show (k + c5) ≤ MC by omega) (show (n + sc5) ≤ MS by omega) (hE.tr hEh3) hR hS hex hq

theorem m_a348e64d : (.methodLink "StackHost$Reader" 137 y_Reader_readTypes : Cond) ∈ xt_tbl := xt_in (xt_t3 (List.mem_of_getElem? (i := 212) (by decide +kernel))) (by decide +kernel)
theorem m_3d60cba2 : (.instanceMethod y_Reader_readTypes : Cond) ∈ xt_tbl := xt_in (xt_t3 (List.mem_of_getElem? (i := 214) (by decide +kernel))) (by decide +kernel)
theorem m_3e68a451 : (.selects "StackHost$Reader" y_Reader_readTypes y_Reader_readTypes : Cond) ∈ xt_tbl := xt_in (xt_v1 (q := (⟨"StackHost$Reader", "readTypes", "()I"⟩, 6)) (List.mem_of_getElem? (i := 10) (by decide +kernel))) (by decide +kernel)
theorem m_469228ed : (.code y_Reader_readTypes b_Reader_readTypes 6 (some .int) : Cond) ∈ xt_tbl := xt_in (xt_t3 (List.mem_of_getElem? (i := 215) (by decide +kernel))) (by decide +kernel)
theorem m_292182f2 : (.fieldLink "StackHost$Reader" 140 "StackHost$StackModule" "types" "LStackHost$Row;" : Cond) ∈ xt_tbl := xt_in (xt_t3 (List.mem_of_getElem? (i := 59) (by decide +kernel))) (by decide +kernel)
theorem m_4544bd18 : (.constantLong "StackHost$Reader" 143 64 : Cond) ∈ xt_tbl := xt_in (xt_t4 (List.mem_of_getElem? (i := 1) (by decide +kernel))) (by decide +kernel)
theorem nm_Reader_readTypes : xt_nm y_Reader_readTypes 0 := ⟨by decide +kernel, by decide +kernel⟩
set_option maxRecDepth 100000 in
def T_Reader_readType : List (Nat × Instr × Nat) := [(0, .aload_n 0, 1), (1, .getfield 41, 3), (4, .istore_n 1, 1), (5, .aload_n 0, 1), (6, .bipush 96, 2), (8, .invokevirtual 134, 3), (11, .aload_n 0, 1), (12, .invokevirtual 137, 3), (15, .istore_n 2, 1), (16, .aload_n 0, 1), (17, .getfield 41, 3), (20, .iload_n 2, 1), (21, .isub, 1), (22, .istore_n 3, 1), (23, .aload_n 0, 1), (24, .invokevirtual 137, 3), (27, .istore 4, 2), (29, .aload_n 0, 1), (30, .getfield 15, 3), (33, .getfield 140, 3), (36, .iload_n 1, 1), (37, .i2l, 1), (38, .invokevirtual 87, 3), (41, .aload_n 0, 1), (42, .getfield 15, 3), (45, .getfield 140, 3), (48, .iload_n 3, 1), (49, .i2l, 1), (50, .invokevirtual 87, 3), (53, .aload_n 0, 1), (54, .getfield 15, 3), (57, .getfield 140, 3), (60, .iload_n 2, 1), (61, .i2l, 1), (62, .invokevirtual 87, 3), (65, .aload_n 0, 1), (66, .getfield 15, 3), (69, .getfield 140, 3), (72, .iload 4, 2), (74, .i2l, 1), (75, .invokevirtual 87, 3), (78, .aload_n 0, 1), (79, .getfield 15, 3), (82, .getfield 140, 3), (85, .iload 4, 2), (87, .ifCond .ne 9, 3), (90, .ldc2_w 143, 3), (93, .goto 16, 3), (96, .aload_n 0, 1), (97, .getfield 25, 3), (100, .aload_n 0, 1), (101, .getfield 41, 3), (104, .iload 4, 2), (106, .isub, 1), (107, .baload, 1), (108, .i2l, 1), (109, .invokevirtual 87, 3), (112, .return_, 1)]
theorem D_Reader_readType : ∀ q ∈ T_Reader_readType, decode b_Reader_readType q.1 = .ok (q.2.1, q.2.2) := by decide +kernel
def w_Reader_readType_L109 (Qr : xb_H → Prop) (Qt : String → xb_H → Prop) (y0 : Int64) (y1 : Nat) (h : xb_H) (bc : Nat) (bs : Nat) : Prop :=
    xb_k h y1 = 2 ∧ ∃ c4 sc4 : Nat, c4 ≤ bc ∧ sc4 ≤ bs ∧ w_Row_add y1 y0 h c4 sc4 (fun (h2 : xb_H) => xb_ext h h2 → Qr h2)

def w_Reader_readType (x0 : Nat) (h : xb_H) (bc : Nat) (bs : Nat) (Qr : xb_H → Prop) (Qt : String → xb_H → Prop) : Prop :=
    xb_k h x0 = 4 ∧ ∀ v2 : Int32, v2 = (xb_i h x0 3) → ∃ c5 sc5 : Nat, c5 ≤ bc ∧ sc5 ≤ bs ∧ w_Reader_readMark x0 96 h c5 sc5 (fun (h3 : xb_H) => xb_ext h h3 → ∃ c8 sc8 : Nat, c8 ≤ (bc - c5) ∧ sc8 ≤ (bs - sc5) ∧ w_Reader_readTypes x0 h3 c8 sc8 (fun (r7 : Int32) (h6 : xb_H) => xb_ext h3 h6 → ∀ v9 : Int32, v9 = ((xb_i h6 x0 3) - r7) → ∃ c12 sc12 : Nat, c12 ≤ ((bc - c5) - c8) ∧ sc12 ≤ ((bs - sc5) - sc8) ∧ w_Reader_readTypes x0 h6 c12 sc12 (fun (r11 : Int32) (h10 : xb_H) => xb_ext h6 h10 → ∃ b13 : Nat, (xb_r h10 x0 0) = some b13 ∧ xb_k h10 b13 = 3 ∧ ∃ b15 : Nat, (xb_r h10 b13 2) = some b15 ∧ xb_k h10 b15 = 2 ∧ ∃ c19 sc19 : Nat, c19 ≤ (((bc - c5) - c8) - c12) ∧ sc19 ≤ (((bs - sc5) - sc8) - sc12) ∧ w_Row_add b15 (Int32.toInt64 v2) h10 c19 sc19 (fun (h17 : xb_H) => xb_ext h10 h17 → ∃ b20 : Nat, (xb_r h17 x0 0) = some b20 ∧ xb_k h17 b20 = 3 ∧ ∃ b22 : Nat, (xb_r h17 b20 2) = some b22 ∧ xb_k h17 b22 = 2 ∧ ∃ c26 sc26 : Nat, c26 ≤ ((((bc - c5) - c8) - c12) - c19) ∧ sc26 ≤ ((((bs - sc5) - sc8) - sc12) - sc19) ∧ w_Row_add b22 (Int32.toInt64 v9) h17 c26 sc26 (fun (h24 : xb_H) => xb_ext h17 h24 → ∃ b27 : Nat, (xb_r h24 x0 0) = some b27 ∧ xb_k h24 b27 = 3 ∧ ∃ b29 : Nat, (xb_r h24 b27 2) = some b29 ∧ xb_k h24 b29 = 2 ∧ ∃ c33 sc33 : Nat, c33 ≤ (((((bc - c5) - c8) - c12) - c19) - c26) ∧ sc33 ≤ (((((bs - sc5) - sc8) - sc12) - sc19) - sc26) ∧ w_Row_add b29 (Int32.toInt64 r7) h24 c33 sc33 (fun (h31 : xb_H) => xb_ext h24 h31 → ∃ b34 : Nat, (xb_r h31 x0 0) = some b34 ∧ xb_k h31 b34 = 3 ∧ ∃ b36 : Nat, (xb_r h31 b34 2) = some b36 ∧ xb_k h31 b36 = 2 ∧ ∃ c40 sc40 : Nat, c40 ≤ ((((((bc - c5) - c8) - c12) - c19) - c26) - c33) ∧ sc40 ≤ ((((((bs - sc5) - sc8) - sc12) - sc19) - sc26) - sc33) ∧ w_Row_add b36 (Int32.toInt64 r11) h31 c40 sc40 (fun (h38 : xb_H) => xb_ext h31 h38 → ∃ b41 : Nat, (xb_r h38 x0 0) = some b41 ∧ xb_k h38 b41 = 3 ∧ ∃ b43 : Nat, (xb_r h38 b41 2) = some b43 ∧ ((¬ r11 = (0 : Int32) → ∃ b45 : Nat, (xb_r h38 x0 1) = some b45 ∧ xb_k h38 b45 = 100 ∧ vp_in ((xb_i h38 x0 3) - r11) (xb_n h38 b45) ∧ w_Reader_readType_L109 Qr Qt (Int32.toInt64 (xb_i h38 b45 (Int32.toNatClampNeg ((xb_i h38 x0 3) - r11)))) b43 h38 (((((((bc - c5) - c8) - c12) - c19) - c26) - c33) - c40) (((((((bs - sc5) - sc8) - sc12) - sc19) - sc26) - sc33) - sc40)) ∧ (r11 = (0 : Int32) → w_Reader_readType_L109 Qr Qt 64 b43 h38 (((((((bc - c5) - c8) - c12) - c19) - c26) - c33) - c40) (((((((bs - sc5) - sc8) - sc12) - sc19) - sc26) - sc33) - sc40)))))))) Qt) Qt) Qt

set_option maxHeartbeats 4000000 in
set_option maxRecDepth 100000 in
theorem am_Reader_readType_L109 (l : Launch) (hfl : l.flags = pinnedFlags ++ [noTraceFlag]) (D : va_G) (A : Nat → Prop) (σ MC MS : Nat) (h0 : xb_H) (Qr : xb_H → Prop) (Qt : String → xb_H → Prop) (y0 : Int64) (y1 : Nat) (h : xb_H) (bc : Nat) (bs : Nat) (hw : w_Reader_readType_L109 Qr Qt y0 y1 h bc bs) : xb_am l D A σ 6 MC MS h0 (fun v h => v = none ∧ Qr h) Qt y_Reader_readType.cls y_Reader_readType.name b_Reader_readType 5 ([] : List ExceptionTableEntry) none 109 [] [.long y0, .ref y1] h bc bs := by
  unfold w_Reader_readType_L109 at hw
  intro p e s m args below meth c hC H locs ls k n hE hl hR hS hk hn
  obtain ⟨hx, hb, hown, hlocks, htab, hml, hr, hB, hA, hnm⟩ := id hC
  have hts := hB.1.1.at args
  obtain ⟨hk1, hw⟩ := hw
  obtain ⟨c4, sc4, hlc4, hlsc4, hw⟩ := hw
  refine xb_call (D := D) (A := A) (σ := σ) (h := h) (d := 4) (mc := c4) (ms := sc4) (maxL := 3) (rest := []) (av := [.ref y1, .long y0]) (fun T hT X => by obtain ⟨cb, r1, r2, r3⟩ := xb_recv (ci := 1) hR rfl hk1 (by decide); exact xt_invV X hx hown (hts _ m_da067afc) (hts _ m_7e8d081f) (hts _ m_4e47f51a) (xt_sigOf (hts _ m_4f1bdc54)) nm_Row_add (by rw [hT]; exact r1) r2 r3 (g := F0 m 109 ls [.long y0, .ref y1]) rfl (argsL := [.long y0]) (rest := []) rfl rfl (by rw [hb]; exact (xb_d D_Reader_readType 56 rfl))) (ok_Row_add l hfl D A σ y1 y0 h c4 sc4 _ hw) (hml.trans hl.1.symm) (by rw [hb]; exact (xb_d D_Reader_readType 56 rfl)) (Nat.le_of_ble_eq_true rfl) (Nat.le_of_ble_eq_true rfl) (Nat.le_of_ble_eq_true rfl) (show k + c4 ≤ MC by omega) (show n + sc4 ≤ MS by omega) (xt_w1 hB.1 m_4f1bdc54) (xt_cdOf hB.1 m_4f1bdc54) (hts _ m_c1bef504) hB hR hS hA (fun vv h2 H locs hq hEh2 hR hS => ?_) (fun XX ax h2 H locs hq hEh2 hex hR hS => ?_)
  · obtain ⟨rfl, hw⟩ := hq
    have hw := hw hEh2
    have hE := hE.tr hEh2
    refine W.eq (g2 := F0 m 112 ls []) rfl ?_
    exact xb_vret hx hb hr hlocks (show (k + c4) ≤ MC by omega) (show (n + sc4) ≤ MS by omega) hE hR hS (xb_d D_Reader_readType 57 rfl) hw
  · exact False.elim hq

set_option maxHeartbeats 4000000 in
set_option maxRecDepth 100000 in
theorem ok_Reader_readType (l : Launch) (hfl : l.flags = pinnedFlags ++ [noTraceFlag]) (D : va_G) (A : Nat → Prop) (σ : Nat) (x0 : Nat) (h : xb_H) (bc : Nat) (bs : Nat) (Qr : xb_H → Prop) (Qt : String → xb_H → Prop) (hw : w_Reader_readType x0 h bc bs Qr Qt) : xt_Met l y_Reader_readType [.code y_Reader_readType b_Reader_readType 5 none] (xb_rm 6 bc bs) (xb_Pc D A σ h [.ref x0]) (xb_Qc D A h (fun v h => v = none ∧ Qr h) Qt) bc bs A := by
  refine xb_ofAm (cc := b_Reader_readType) (by decide) (Nat.le_of_ble_eq_true rfl) ?_
  unfold w_Reader_readType at hw
  show xb_am l D A σ 6 bc bs h (fun v h => v = none ∧ Qr h) Qt y_Reader_readType.cls y_Reader_readType.name b_Reader_readType 5 ([] : List ExceptionTableEntry) none 0 [(0, .ref x0)] [] h bc bs
  obtain ⟨MC, hMC⟩ : ∃ x, x = bc := ⟨_, rfl⟩
  obtain ⟨MS, hMS⟩ : ∃ x, x = bs := ⟨_, rfl⟩
  rw [show xb_am l D A σ 6 bc bs = xb_am l D A σ 6 MC MS by rw [hMC, hMS]]
  obtain ⟨h0, hh0⟩ : ∃ x, x = h := ⟨_, rfl⟩
  rw [show xb_am l D A σ 6 MC MS h = xb_am l D A σ 6 MC MS h0 by rw [hh0]]
  intro p e s m args below meth c hC H locs ls k n hE hl hR hS hk hn
  obtain ⟨hx, hb, hown, hlocks, htab, hml, hr, hB, hA, hnm⟩ := id hC
  have hts := hB.1.1.at args
  refine lv_aload_n hx hb (xb_d D_Reader_readType 0 rfl) rfl (lv_at hl 0 rfl) ?_
  obtain ⟨hk1, hw⟩ := hw
  refine xb_getI (C := R_Reader) (T := F_Reader) (N := 6) hx hb 3 3 hts fin_Reader hown hR hk1 (by decide) rfl (by decide) rfl (hts _ m_a9b84ac2) (fun _ h9 => h9) (xb_d D_Reader_readType 1 rfl) ?_
  obtain ⟨v2, ev2⟩ : ∃ x : Int32, x = (xb_i h x0 3) := ⟨_, rfl⟩
  have hw := hw v2 ev2
  refine xt_numi (y := v2) ev2.symm ?_
  refine lv_istore_n hx hb (xb_d D_Reader_readType 2 rfl) rfl hl (by decide) rfl (fun ls hl => ?_)
  have hl : lv_has ls 5 [(1, .int v2), (0, .ref x0)] := hl
  refine lv_aload_n hx hb (xb_d D_Reader_readType 3 rfl) rfl (lv_at hl 1 rfl) ?_
  refine lv_bipush (v := 96) hx hb (xb_d D_Reader_readType 4 rfl) (by decide) ?_
  obtain ⟨c5, sc5, hlc5, hlsc5, hw⟩ := hw
  refine xb_call (D := D) (A := A) (σ := σ) (h := h) (d := 3) (mc := c5) (ms := sc5) (maxL := 2) (rest := []) (av := [.ref x0, .int 96]) (fun T hT X => by obtain ⟨cb, r1, r2, r3⟩ := xb_recv (ci := 3) hR rfl hk1 (by decide); exact xt_invV X hx hown (hts _ m_bc6f1cef) (hts _ m_6ae404a7) (hts _ m_7b6b2ffe) (xt_sigOf (hts _ m_e431c1f6)) nm_Reader_readMark (by rw [hT]; exact r1) r2 r3 (g := F0 m 8 ls [.int 96, .ref x0]) rfl (argsL := [.int 96]) (rest := []) rfl rfl (by rw [hb]; exact (xb_d D_Reader_readType 5 rfl))) (ok_Reader_readMark l hfl D A σ x0 96 h c5 sc5 _ _ hw) (hml.trans hl.1.symm) (by rw [hb]; exact (xb_d D_Reader_readType 5 rfl)) (Nat.le_of_ble_eq_true rfl) (Nat.le_of_ble_eq_true rfl) (Nat.le_of_ble_eq_true rfl) (show k + c5 ≤ MC by omega) (show n + sc5 ≤ MS by omega) (xt_w1 hB.1 m_e431c1f6) (xt_cdOf hB.1 m_e431c1f6) (hts _ m_938fcec4) hB hR hS hA (fun vv h3 H locs hq hEh3 hR hS => ?_) (fun XX ax h3 H locs hq hEh3 hex hR hS => ?_)
  · obtain ⟨rfl, hw⟩ := hq
    have hw := hw hEh3
    have hE := hE.tr hEh3
    refine W.eq (g2 := F0 m 11 ls []) rfl ?_
    refine lv_aload_n hx hb (xb_d D_Reader_readType 6 rfl) rfl (lv_at hl 1 rfl) ?_
    have hk1 : xb_k h3 x0 = 4 := hEh3.k hk1
    obtain ⟨c8, sc8, hlc8, hlsc8, hw⟩ := hw
    refine xb_call (D := D) (A := A) (σ := σ) (h := h3) (d := 5) (mc := c8) (ms := sc8) (maxL := 6) (rest := []) (av := [.ref x0]) (fun T hT X => by obtain ⟨cb, r1, r2, r3⟩ := xb_recv (ci := 3) hR rfl hk1 (by decide); exact xt_invV X hx hown (hts _ m_a348e64d) (hts _ m_3d60cba2) (hts _ m_3e68a451) (xt_sigOf (hts _ m_469228ed)) nm_Reader_readTypes (by rw [hT]; exact r1) r2 r3 (g := F0 m 12 ls [.ref x0]) rfl (argsL := []) (rest := []) rfl rfl (by rw [hb]; exact (xb_d D_Reader_readType 7 rfl))) (ok_Reader_readTypes l hfl D A σ x0 h3 c8 sc8 _ _ hw) (hml.trans hl.1.symm) (by rw [hb]; exact (xb_d D_Reader_readType 7 rfl)) (Nat.le_of_ble_eq_true rfl) (Nat.le_of_ble_eq_true rfl) (Nat.le_of_ble_eq_true rfl) (show (k + c5) + c8 ≤ MC by omega) (show (n + sc5) + sc8 ≤ MS by omega) (xt_w1 hB.1 m_469228ed) (xt_cdOf hB.1 m_469228ed) (hts _ m_938fcec4) hB hR hS hA (fun vv h6 H locs hq hEh6 hR hS => ?_) (fun XX ax h6 H locs hq hEh6 hex hR hS => ?_)
    · obtain ⟨r7, rfl, hw⟩ := hq
      have hw := hw hEh6
      have hE := hE.tr hEh6
      refine W.eq (g2 := F0 m 15 ls [.int r7]) rfl ?_
      refine lv_istore_n hx hb (xb_d D_Reader_readType 8 rfl) rfl hl (by decide) rfl (fun ls hl => ?_)
      have hl : lv_has ls 5 [(2, .int r7), (1, .int v2), (0, .ref x0)] := hl
      refine lv_aload_n hx hb (xb_d D_Reader_readType 9 rfl) rfl (lv_at hl 2 rfl) ?_
      have hk1 : xb_k h6 x0 = 4 := hEh6.k hk1
      refine xb_getI (C := R_Reader) (T := F_Reader) (N := 6) hx hb 3 3 hts fin_Reader hown hR hk1 (by decide) rfl (by decide) rfl (hts _ m_a9b84ac2) (fun _ h9 => h9) (xb_d D_Reader_readType 10 rfl) ?_
      refine lv_iload_n hx hb (xb_d D_Reader_readType 11 rfl) rfl (lv_at hl 0 rfl) ?_
      refine lv_isub hx hb (xb_d D_Reader_readType 12 rfl) ?_
      obtain ⟨v9, ev9⟩ : ∃ x : Int32, x = ((xb_i h6 x0 3) - r7) := ⟨_, rfl⟩
      have hw := hw v9 ev9
      refine xt_numi (y := v9) ev9.symm ?_
      refine lv_istore_n hx hb (xb_d D_Reader_readType 13 rfl) rfl hl (by decide) rfl (fun ls hl => ?_)
      have hl : lv_has ls 5 [(3, .int v9), (2, .int r7), (1, .int v2), (0, .ref x0)] := hl
      refine lv_aload_n hx hb (xb_d D_Reader_readType 14 rfl) rfl (lv_at hl 3 rfl) ?_
      obtain ⟨c12, sc12, hlc12, hlsc12, hw⟩ := hw
      refine xb_call (D := D) (A := A) (σ := σ) (h := h6) (d := 5) (mc := c12) (ms := sc12) (maxL := 6) (rest := []) (av := [.ref x0]) (fun T hT X => by obtain ⟨cb, r1, r2, r3⟩ := xb_recv (ci := 3) hR rfl hk1 (by decide); exact xt_invV X hx hown (hts _ m_a348e64d) (hts _ m_3d60cba2) (hts _ m_3e68a451) (xt_sigOf (hts _ m_469228ed)) nm_Reader_readTypes (by rw [hT]; exact r1) r2 r3 (g := F0 m 24 ls [.ref x0]) rfl (argsL := []) (rest := []) rfl rfl (by rw [hb]; exact (xb_d D_Reader_readType 15 rfl))) (ok_Reader_readTypes l hfl D A σ x0 h6 c12 sc12 _ _ hw) (hml.trans hl.1.symm) (by rw [hb]; exact (xb_d D_Reader_readType 15 rfl)) (Nat.le_of_ble_eq_true rfl) (Nat.le_of_ble_eq_true rfl) (Nat.le_of_ble_eq_true rfl) (show ((k + c5) + c8) + c12 ≤ MC by omega) (show ((n + sc5) + sc8) + sc12 ≤ MS by omega) (xt_w1 hB.1 m_469228ed) (xt_cdOf hB.1 m_469228ed) (hts _ m_938fcec4) hB hR hS hA (fun vv h10 H locs hq hEh10 hR hS => ?_) (fun XX ax h10 H locs hq hEh10 hex hR hS => ?_)
      · obtain ⟨r11, rfl, hw⟩ := hq
        have hw := hw hEh10
        have hE := hE.tr hEh10
        refine W.eq (g2 := F0 m 27 ls [.int r11]) rfl ?_
        refine lv_istore hx hb (xb_d D_Reader_readType 16 rfl) hl (by decide) rfl (fun ls hl => ?_)
        have hl : lv_has ls 5 [(4, .int r11), (3, .int v9), (2, .int r7), (1, .int v2), (0, .ref x0)] := hl
        refine lv_aload_n hx hb (xb_d D_Reader_readType 17 rfl) rfl (lv_at hl 4 rfl) ?_
        have hk1 : xb_k h10 x0 = 4 := hEh10.k hk1
        refine xb_getP (C := R_Reader) (T := F_Reader) (N := 6) hx hb 3 0 hts fin_Reader hown hR hk1 (by decide) rfl (by decide) rfl (hts _ m_76d8349c) (fun _ h9 => h9) (xb_d D_Reader_readType 18 rfl) ?_
        obtain ⟨b13, eb13, hw⟩ := hw
        refine xb_some eb13 ?_
        obtain ⟨hk14, hw⟩ := hw
        refine xb_getP (C := R_StackModule) (T := F_StackModule) (N := 19) hx hb 2 2 hts fin_StackModule hown hR hk14 (by decide) rfl (by decide) rfl (hts _ m_292182f2) (fun _ h9 => h9) (xb_d D_Reader_readType 19 rfl) ?_
        obtain ⟨b15, eb15, hw⟩ := hw
        refine xb_some eb15 ?_
        refine lv_iload_n hx hb (xb_d D_Reader_readType 20 rfl) rfl (lv_at hl 3 rfl) ?_
        refine lv_i2l hx hb (xb_d D_Reader_readType 21 rfl) rfl ?_
        obtain ⟨hk16, hw⟩ := hw
        obtain ⟨c19, sc19, hlc19, hlsc19, hw⟩ := hw
        refine xb_call (D := D) (A := A) (σ := σ) (h := h10) (d := 4) (mc := c19) (ms := sc19) (maxL := 3) (rest := []) (av := [.ref b15, .long (Int32.toInt64 v2)]) (fun T hT X => by obtain ⟨cb, r1, r2, r3⟩ := xb_recv (ci := 1) hR rfl hk16 (by decide); exact xt_invV X hx hown (hts _ m_da067afc) (hts _ m_7e8d081f) (hts _ m_4e47f51a) (xt_sigOf (hts _ m_4f1bdc54)) nm_Row_add (by rw [hT]; exact r1) r2 r3 (g := F0 m 38 ls [.long (Int32.toInt64 v2), .ref b15]) rfl (argsL := [.long (Int32.toInt64 v2)]) (rest := []) rfl rfl (by rw [hb]; exact (xb_d D_Reader_readType 22 rfl))) (ok_Row_add l hfl D A σ b15 (Int32.toInt64 v2) h10 c19 sc19 _ hw) (hml.trans hl.1.symm) (by rw [hb]; exact (xb_d D_Reader_readType 22 rfl)) (Nat.le_of_ble_eq_true rfl) (Nat.le_of_ble_eq_true rfl) (Nat.le_of_ble_eq_true rfl) (show (((k + c5) + c8) + c12) + c19 ≤ MC by omega) (show (((n + sc5) + sc8) + sc12) + sc19 ≤ MS by omega) (xt_w1 hB.1 m_4f1bdc54) (xt_cdOf hB.1 m_4f1bdc54) (hts _ m_c1bef504) hB hR hS hA (fun vv h17 H locs hq hEh17 hR hS => ?_) (fun XX ax h17 H locs hq hEh17 hex hR hS => ?_)
        · obtain ⟨rfl, hw⟩ := hq
          have hw := hw hEh17
          have hE := hE.tr hEh17
          refine W.eq (g2 := F0 m 41 ls []) rfl ?_
          refine lv_aload_n hx hb (xb_d D_Reader_readType 23 rfl) rfl (lv_at hl 4 rfl) ?_
          have hk1 : xb_k h17 x0 = 4 := hEh17.k hk1
          refine xb_getP (C := R_Reader) (T := F_Reader) (N := 6) hx hb 3 0 hts fin_Reader hown hR hk1 (by decide) rfl (by decide) rfl (hts _ m_76d8349c) (fun _ h9 => h9) (xb_d D_Reader_readType 24 rfl) ?_
          obtain ⟨b20, eb20, hw⟩ := hw
          refine xb_some eb20 ?_
          obtain ⟨hk21, hw⟩ := hw
          refine xb_getP (C := R_StackModule) (T := F_StackModule) (N := 19) hx hb 2 2 hts fin_StackModule hown hR hk21 (by decide) rfl (by decide) rfl (hts _ m_292182f2) (fun _ h9 => h9) (xb_d D_Reader_readType 25 rfl) ?_
          obtain ⟨b22, eb22, hw⟩ := hw
          refine xb_some eb22 ?_
          refine lv_iload_n hx hb (xb_d D_Reader_readType 26 rfl) rfl (lv_at hl 1 rfl) ?_
          refine lv_i2l hx hb (xb_d D_Reader_readType 27 rfl) rfl ?_
          obtain ⟨hk23, hw⟩ := hw
          obtain ⟨c26, sc26, hlc26, hlsc26, hw⟩ := hw
          refine xb_call (D := D) (A := A) (σ := σ) (h := h17) (d := 4) (mc := c26) (ms := sc26) (maxL := 3) (rest := []) (av := [.ref b22, .long (Int32.toInt64 v9)]) (fun T hT X => by obtain ⟨cb, r1, r2, r3⟩ := xb_recv (ci := 1) hR rfl hk23 (by decide); exact xt_invV X hx hown (hts _ m_da067afc) (hts _ m_7e8d081f) (hts _ m_4e47f51a) (xt_sigOf (hts _ m_4f1bdc54)) nm_Row_add (by rw [hT]; exact r1) r2 r3 (g := F0 m 50 ls [.long (Int32.toInt64 v9), .ref b22]) rfl (argsL := [.long (Int32.toInt64 v9)]) (rest := []) rfl rfl (by rw [hb]; exact (xb_d D_Reader_readType 28 rfl))) (ok_Row_add l hfl D A σ b22 (Int32.toInt64 v9) h17 c26 sc26 _ hw) (hml.trans hl.1.symm) (by rw [hb]; exact (xb_d D_Reader_readType 28 rfl)) (Nat.le_of_ble_eq_true rfl) (Nat.le_of_ble_eq_true rfl) (Nat.le_of_ble_eq_true rfl) (show ((((k + c5) + c8) + c12) + c19) + c26 ≤ MC by omega) (show ((((n + sc5) + sc8) + sc12) + sc19) + sc26 ≤ MS by omega) (xt_w1 hB.1 m_4f1bdc54) (xt_cdOf hB.1 m_4f1bdc54) (hts _ m_c1bef504) hB hR hS hA (fun vv h24 H locs hq hEh24 hR hS => ?_) (fun XX ax h24 H locs hq hEh24 hex hR hS => ?_)
          · obtain ⟨rfl, hw⟩ := hq
            have hw := hw hEh24
            have hE := hE.tr hEh24
            refine W.eq (g2 := F0 m 53 ls []) rfl ?_
            refine lv_aload_n hx hb (xb_d D_Reader_readType 29 rfl) rfl (lv_at hl 4 rfl) ?_
            have hk1 : xb_k h24 x0 = 4 := hEh24.k hk1
            refine xb_getP (C := R_Reader) (T := F_Reader) (N := 6) hx hb 3 0 hts fin_Reader hown hR hk1 (by decide) rfl (by decide) rfl (hts _ m_76d8349c) (fun _ h9 => h9) (xb_d D_Reader_readType 30 rfl) ?_
            obtain ⟨b27, eb27, hw⟩ := hw
            refine xb_some eb27 ?_
            obtain ⟨hk28, hw⟩ := hw
            refine xb_getP (C := R_StackModule) (T := F_StackModule) (N := 19) hx hb 2 2 hts fin_StackModule hown hR hk28 (by decide) rfl (by decide) rfl (hts _ m_292182f2) (fun _ h9 => h9) (xb_d D_Reader_readType 31 rfl) ?_
            obtain ⟨b29, eb29, hw⟩ := hw
            refine xb_some eb29 ?_
            refine lv_iload_n hx hb (xb_d D_Reader_readType 32 rfl) rfl (lv_at hl 2 rfl) ?_
            refine lv_i2l hx hb (xb_d D_Reader_readType 33 rfl) rfl ?_
            obtain ⟨hk30, hw⟩ := hw
            obtain ⟨c33, sc33, hlc33, hlsc33, hw⟩ := hw
            refine xb_call (D := D) (A := A) (σ := σ) (h := h24) (d := 4) (mc := c33) (ms := sc33) (maxL := 3) (rest := []) (av := [.ref b29, .long (Int32.toInt64 r7)]) (fun T hT X => by obtain ⟨cb, r1, r2, r3⟩ := xb_recv (ci := 1) hR rfl hk30 (by decide); exact xt_invV X hx hown (hts _ m_da067afc) (hts _ m_7e8d081f) (hts _ m_4e47f51a) (xt_sigOf (hts _ m_4f1bdc54)) nm_Row_add (by rw [hT]; exact r1) r2 r3 (g := F0 m 62 ls [.long (Int32.toInt64 r7), .ref b29]) rfl (argsL := [.long (Int32.toInt64 r7)]) (rest := []) rfl rfl (by rw [hb]; exact (xb_d D_Reader_readType 34 rfl))) (ok_Row_add l hfl D A σ b29 (Int32.toInt64 r7) h24 c33 sc33 _ hw) (hml.trans hl.1.symm) (by rw [hb]; exact (xb_d D_Reader_readType 34 rfl)) (Nat.le_of_ble_eq_true rfl) (Nat.le_of_ble_eq_true rfl) (Nat.le_of_ble_eq_true rfl) (show (((((k + c5) + c8) + c12) + c19) + c26) + c33 ≤ MC by omega) (show (((((n + sc5) + sc8) + sc12) + sc19) + sc26) + sc33 ≤ MS by omega) (xt_w1 hB.1 m_4f1bdc54) (xt_cdOf hB.1 m_4f1bdc54) (hts _ m_c1bef504) hB hR hS hA (fun vv h31 H locs hq hEh31 hR hS => ?_) (fun XX ax h31 H locs hq hEh31 hex hR hS => ?_)
            · obtain ⟨rfl, hw⟩ := hq
              have hw := hw hEh31
              have hE := hE.tr hEh31
              refine W.eq (g2 := F0 m 65 ls []) rfl ?_
              refine lv_aload_n hx hb (xb_d D_Reader_readType 35 rfl) rfl (lv_at hl 4 rfl) ?_
              have hk1 : xb_k h31 x0 = 4 := hEh31.k hk1
              refine xb_getP (C := R_Reader) (T := F_Reader) (N := 6) hx hb 3 0 hts fin_Reader hown hR hk1 (by decide) rfl (by decide) rfl (hts _ m_76d8349c) (fun _ h9 => h9) (xb_d D_Reader_readType 36 rfl) ?_
              obtain ⟨b34, eb34, hw⟩ := hw
              refine xb_some eb34 ?_
              obtain ⟨hk35, hw⟩ := hw
              refine xb_getP (C := R_StackModule) (T := F_StackModule) (N := 19) hx hb 2 2 hts fin_StackModule hown hR hk35 (by decide) rfl (by decide) rfl (hts _ m_292182f2) (fun _ h9 => h9) (xb_d D_Reader_readType 37 rfl) ?_
              obtain ⟨b36, eb36, hw⟩ := hw
              refine xb_some eb36 ?_
              refine lv_iload hx hb (xb_d D_Reader_readType 38 rfl) (lv_at hl 0 rfl) ?_
              refine lv_i2l hx hb (xb_d D_Reader_readType 39 rfl) rfl ?_
              obtain ⟨hk37, hw⟩ := hw
              obtain ⟨c40, sc40, hlc40, hlsc40, hw⟩ := hw
              refine xb_call (D := D) (A := A) (σ := σ) (h := h31) (d := 4) (mc := c40) (ms := sc40) (maxL := 3) (rest := []) (av := [.ref b36, .long (Int32.toInt64 r11)]) (fun T hT X => by obtain ⟨cb, r1, r2, r3⟩ := xb_recv (ci := 1) hR rfl hk37 (by decide); exact xt_invV X hx hown (hts _ m_da067afc) (hts _ m_7e8d081f) (hts _ m_4e47f51a) (xt_sigOf (hts _ m_4f1bdc54)) nm_Row_add (by rw [hT]; exact r1) r2 r3 (g := F0 m 75 ls [.long (Int32.toInt64 r11), .ref b36]) rfl (argsL := [.long (Int32.toInt64 r11)]) (rest := []) rfl rfl (by rw [hb]; exact (xb_d D_Reader_readType 40 rfl))) (ok_Row_add l hfl D A σ b36 (Int32.toInt64 r11) h31 c40 sc40 _ hw) (hml.trans hl.1.symm) (by rw [hb]; exact (xb_d D_Reader_readType 40 rfl)) (Nat.le_of_ble_eq_true rfl) (Nat.le_of_ble_eq_true rfl) (Nat.le_of_ble_eq_true rfl) (show ((((((k + c5) + c8) + c12) + c19) + c26) + c33) + c40 ≤ MC by omega) (show ((((((n + sc5) + sc8) + sc12) + sc19) + sc26) + sc33) + sc40 ≤ MS by omega) (xt_w1 hB.1 m_4f1bdc54) (xt_cdOf hB.1 m_4f1bdc54) (hts _ m_c1bef504) hB hR hS hA (fun vv h38 H locs hq hEh38 hR hS => ?_) (fun XX ax h38 H locs hq hEh38 hex hR hS => ?_)
              · obtain ⟨rfl, hw⟩ := hq
                have hw := hw hEh38
                have hE := hE.tr hEh38
                refine W.eq (g2 := F0 m 78 ls []) rfl ?_
                refine lv_aload_n hx hb (xb_d D_Reader_readType 41 rfl) rfl (lv_at hl 4 rfl) ?_
                have hk1 : xb_k h38 x0 = 4 := hEh38.k hk1
                refine xb_getP (C := R_Reader) (T := F_Reader) (N := 6) hx hb 3 0 hts fin_Reader hown hR hk1 (by decide) rfl (by decide) rfl (hts _ m_76d8349c) (fun _ h9 => h9) (xb_d D_Reader_readType 42 rfl) ?_
                obtain ⟨b41, eb41, hw⟩ := hw
                refine xb_some eb41 ?_
                obtain ⟨hk42, hw⟩ := hw
                refine xb_getP (C := R_StackModule) (T := F_StackModule) (N := 19) hx hb 2 2 hts fin_StackModule hown hR hk42 (by decide) rfl (by decide) rfl (hts _ m_292182f2) (fun _ h9 => h9) (xb_d D_Reader_readType 43 rfl) ?_
                obtain ⟨b43, eb43, hw⟩ := hw
                refine xb_some eb43 ?_
                refine lv_iload hx hb (xb_d D_Reader_readType 44 rfl) (lv_at hl 0 rfl) ?_
                refine lv_if_ne (tgt := 96) hx hb (xb_d D_Reader_readType 45 rfl) rfl (fun hc44 => ?_) (fun hc44 => ?_)
                · have hw := hw.1 hc44
                  refine lv_aload_n hx hb (xb_d D_Reader_readType 48 rfl) rfl (lv_at hl 4 rfl) ?_
                  refine xb_getP (C := R_Reader) (T := F_Reader) (N := 6) hx hb 3 1 hts fin_Reader hown hR hk1 (by decide) rfl (by decide) rfl (hts _ m_d1ba4be8) (fun _ h9 => h9) (xb_d D_Reader_readType 49 rfl) ?_
                  obtain ⟨b45, eb45, hw⟩ := hw
                  refine xb_some eb45 ?_
                  refine lv_aload_n hx hb (xb_d D_Reader_readType 50 rfl) rfl (lv_at hl 4 rfl) ?_
                  refine xb_getI (C := R_Reader) (T := F_Reader) (N := 6) hx hb 3 3 hts fin_Reader hown hR hk1 (by decide) rfl (by decide) rfl (hts _ m_a9b84ac2) (fun _ h9 => h9) (xb_d D_Reader_readType 51 rfl) ?_
                  refine lv_iload hx hb (xb_d D_Reader_readType 52 rfl) (lv_at hl 0 rfl) ?_
                  refine lv_isub hx hb (xb_d D_Reader_readType 53 rfl) ?_
                  obtain ⟨hk47, hw⟩ := hw
                  obtain ⟨hi46, hw⟩ := hw
                  refine xb_bald hx hb hR hk47 hi46 (xb_d D_Reader_readType 54 rfl) ?_
                  refine lv_i2l hx hb (xb_d D_Reader_readType 55 rfl) rfl ?_
                  exact am_Reader_readType_L109 l hfl D A σ MC MS h0 Qr Qt (Int32.toInt64 (xb_i h38 b45 (Int32.toNatClampNeg ((xb_i h38 x0 3) - r11)))) b43 h38 (((((((bc - c5) - c8) - c12) - c19) - c26) - c33) - c40) (((((((bs - sc5) - sc8) - sc12) - sc19) - sc26) - sc33) - sc40) hw p e s m args below meth c hC H locs ls (((((((k + c5) + c8) + c12) + c19) + c26) + c33) + c40) (((((((n + sc5) + sc8) + sc12) + sc19) + sc26) + sc33) + sc40) hE (lv_sub hl [] rfl) hR hS (by omega) (by omega)
                · have hw := hw.2 hc44
                  refine lv_ldc2 (v := 64) hx hb hown (hts _ m_4544bd18) (xb_d D_Reader_readType 46 rfl) ?_
                  refine lv_goto (tgt := 109) hx hb (xb_d D_Reader_readType 47 rfl) rfl ?_
                  exact am_Reader_readType_L109 l hfl D A σ MC MS h0 Qr Qt 64 b43 h38 (((((((bc - c5) - c8) - c12) - c19) - c26) - c33) - c40) (((((((bs - sc5) - sc8) - sc12) - sc19) - sc26) - sc33) - sc40) hw p e s m args below meth c hC H locs ls (((((((k + c5) + c8) + c12) + c19) + c26) + c33) + c40) (((((((n + sc5) + sc8) + sc12) + sc19) + sc26) + sc33) + sc40) hE (lv_sub hl [] rfl) hR hS (by omega) (by omega)
              · exact False.elim hq
            · exact False.elim hq
          · exact False.elim hq
        · exact False.elim hq
      · exact xb_pass hlocks (fun x hx9 => by rw [htab] at hx9; first | cases hx9 | (simp [tableOf] at hx9; rcases hx9 with rfl | rfl | rfl <;> decide)) (show (((k + c5) + c8) + c12) ≤ MC by omega) (show (((n + sc5) + sc8) + sc12) ≤ MS by omega) (hE.tr hEh10) hR hS hex hq
    · exact xb_pass hlocks (fun x hx9 => by rw [htab] at hx9; first | cases hx9 | (simp [tableOf] at hx9; rcases hx9 with rfl | rfl | rfl <;> decide)) (show ((k + c5) + c8) ≤ MC by omega) (show ((n + sc5) + sc8) ≤ MS by omega) (hE.tr hEh6) hR hS hex hq
  · exact xb_pass hlocks (fun x hx9 => by rw [htab] at hx9; first | cases hx9 | (simp [tableOf] at hx9; rcases hx9 with rfl | rfl | rfl <;> decide)) (show (k + c5) ≤ MC by omega) (show (n + sc5) ≤ MS by omega) (hE.tr hEh3) hR hS hex hq

set_option maxRecDepth 100000 in
def T_Reader_readVariable : List (Nat × Instr × Nat) := [(0, .aload_n 0, 1), (1, .aload_n 0, 1), (2, .getfield 41, 3), (5, .invokevirtual 158, 3), (8, .aload_n 0, 1), (9, .getfield 15, 3), (12, .getfield 161, 3), (15, .aload_n 0, 1), (16, .getfield 41, 3), (19, .i2l, 1), (20, .invokevirtual 87, 3), (23, .aload_n 0, 1), (24, .invokevirtual 166, 3), (27, .return_, 1)]
theorem D_Reader_readVariable : ∀ q ∈ T_Reader_readVariable, decode b_Reader_readVariable q.1 = .ok (q.2.1, q.2.2) := by decide +kernel
def w_Reader_readVariable (x0 : Nat) (h : xb_H) (bc : Nat) (bs : Nat) (Qr : xb_H → Prop) (Qt : String → xb_H → Prop) : Prop :=
    xb_k h x0 = 4 ∧ ∃ c4 sc4 : Nat, c4 ≤ bc ∧ sc4 ≤ bs ∧ w_Reader_readVariableType x0 (xb_i h x0 3) h c4 sc4 (fun (h2 : xb_H) => xb_ext h h2 → ∃ b5 : Nat, (xb_r h2 x0 0) = some b5 ∧ xb_k h2 b5 = 3 ∧ ∃ b7 : Nat, (xb_r h2 b5 7) = some b7 ∧ xb_k h2 b7 = 2 ∧ ∃ c11 sc11 : Nat, c11 ≤ (bc - c4) ∧ sc11 ≤ (bs - sc4) ∧ w_Row_add b7 (Int32.toInt64 (xb_i h2 x0 3)) h2 c11 sc11 (fun (h9 : xb_H) => xb_ext h2 h9 → ∃ c14 sc14 : Nat, c14 ≤ ((bc - c4) - c11) ∧ sc14 ≤ ((bs - sc4) - sc11) ∧ w_Reader_readExpression x0 h9 c14 sc14 (fun (h12 : xb_H) => xb_ext h9 h12 → Qr h12) Qt)) Qt

set_option maxHeartbeats 4000000 in
set_option maxRecDepth 100000 in
theorem ok_Reader_readVariable (l : Launch) (hfl : l.flags = pinnedFlags ++ [noTraceFlag]) (D : va_G) (A : Nat → Prop) (σ : Nat) (x0 : Nat) (h : xb_H) (bc : Nat) (bs : Nat) (Qr : xb_H → Prop) (Qt : String → xb_H → Prop) (hw : w_Reader_readVariable x0 h bc bs Qr Qt) : xt_Met l y_Reader_readVariable [.code y_Reader_readVariable b_Reader_readVariable 1 none] (xb_rm 6 bc bs) (xb_Pc D A σ h [.ref x0]) (xb_Qc D A h (fun v h => v = none ∧ Qr h) Qt) bc bs A := by
  refine xb_ofAm (cc := b_Reader_readVariable) (by decide) (Nat.le_of_ble_eq_true rfl) ?_
  unfold w_Reader_readVariable at hw
  show xb_am l D A σ 6 bc bs h (fun v h => v = none ∧ Qr h) Qt y_Reader_readVariable.cls y_Reader_readVariable.name b_Reader_readVariable 1 ([] : List ExceptionTableEntry) none 0 [(0, .ref x0)] [] h bc bs
  obtain ⟨MC, hMC⟩ : ∃ x, x = bc := ⟨_, rfl⟩
  obtain ⟨MS, hMS⟩ : ∃ x, x = bs := ⟨_, rfl⟩
  rw [show xb_am l D A σ 6 bc bs = xb_am l D A σ 6 MC MS by rw [hMC, hMS]]
  obtain ⟨h0, hh0⟩ : ∃ x, x = h := ⟨_, rfl⟩
  rw [show xb_am l D A σ 6 MC MS h = xb_am l D A σ 6 MC MS h0 by rw [hh0]]
  intro p e s m args below meth c hC H locs ls k n hE hl hR hS hk hn
  obtain ⟨hx, hb, hown, hlocks, htab, hml, hr, hB, hA, hnm⟩ := id hC
  have hts := hB.1.1.at args
  refine lv_aload_n hx hb (xb_d D_Reader_readVariable 0 rfl) rfl (lv_at hl 0 rfl) ?_
  refine lv_aload_n hx hb (xb_d D_Reader_readVariable 1 rfl) rfl (lv_at hl 0 rfl) ?_
  obtain ⟨hk1, hw⟩ := hw
  refine xb_getI (C := R_Reader) (T := F_Reader) (N := 6) hx hb 3 3 hts fin_Reader hown hR hk1 (by decide) rfl (by decide) rfl (hts _ m_a9b84ac2) (fun _ h9 => h9) (xb_d D_Reader_readVariable 2 rfl) ?_
  obtain ⟨c4, sc4, hlc4, hlsc4, hw⟩ := hw
  refine xb_call (D := D) (A := A) (σ := σ) (h := h) (d := 5) (mc := c4) (ms := sc4) (maxL := 2) (rest := []) (av := [.ref x0, .int (xb_i h x0 3)]) (fun T hT X => by obtain ⟨cb, r1, r2, r3⟩ := xb_recv (ci := 3) hR rfl hk1 (by decide); exact xt_invV X hx hown (hts _ m_544cf043) (hts _ m_43060829) (hts _ m_ec78475f) (xt_sigOf (hts _ m_a4ac8e6b)) nm_Reader_readVariableType (by rw [hT]; exact r1) r2 r3 (g := F0 m 5 ls [.int (xb_i h x0 3), .ref x0]) rfl (argsL := [.int (xb_i h x0 3)]) (rest := []) rfl rfl (by rw [hb]; exact (xb_d D_Reader_readVariable 3 rfl))) (ok_Reader_readVariableType l hfl D A σ x0 (xb_i h x0 3) h c4 sc4 _ _ hw) (hml.trans hl.1.symm) (by rw [hb]; exact (xb_d D_Reader_readVariable 3 rfl)) (Nat.le_of_ble_eq_true rfl) (Nat.le_of_ble_eq_true rfl) (Nat.le_of_ble_eq_true rfl) (show k + c4 ≤ MC by omega) (show n + sc4 ≤ MS by omega) (xt_w1 hB.1 m_a4ac8e6b) (xt_cdOf hB.1 m_a4ac8e6b) (hts _ m_938fcec4) hB hR hS hA (fun vv h2 H locs hq hEh2 hR hS => ?_) (fun XX ax h2 H locs hq hEh2 hex hR hS => ?_)
  · obtain ⟨rfl, hw⟩ := hq
    have hw := hw hEh2
    have hE := hE.tr hEh2
    refine W.eq (g2 := F0 m 8 ls []) rfl ?_
    refine lv_aload_n hx hb (xb_d D_Reader_readVariable 4 rfl) rfl (lv_at hl 0 rfl) ?_
    have hk1 : xb_k h2 x0 = 4 := hEh2.k hk1
    refine xb_getP (C := R_Reader) (T := F_Reader) (N := 6) hx hb 3 0 hts fin_Reader hown hR hk1 (by decide) rfl (by decide) rfl (hts _ m_76d8349c) (fun _ h9 => h9) (xb_d D_Reader_readVariable 5 rfl) ?_
    obtain ⟨b5, eb5, hw⟩ := hw
    refine xb_some eb5 ?_
    obtain ⟨hk6, hw⟩ := hw
    refine xb_getP (C := R_StackModule) (T := F_StackModule) (N := 19) hx hb 2 7 hts fin_StackModule hown hR hk6 (by decide) rfl (by decide) rfl (hts _ m_040d1f1f) (fun _ h9 => h9) (xb_d D_Reader_readVariable 6 rfl) ?_
    obtain ⟨b7, eb7, hw⟩ := hw
    refine xb_some eb7 ?_
    refine lv_aload_n hx hb (xb_d D_Reader_readVariable 7 rfl) rfl (lv_at hl 0 rfl) ?_
    refine xb_getI (C := R_Reader) (T := F_Reader) (N := 6) hx hb 3 3 hts fin_Reader hown hR hk1 (by decide) rfl (by decide) rfl (hts _ m_a9b84ac2) (fun _ h9 => h9) (xb_d D_Reader_readVariable 8 rfl) ?_
    refine lv_i2l hx hb (xb_d D_Reader_readVariable 9 rfl) rfl ?_
    obtain ⟨hk8, hw⟩ := hw
    obtain ⟨c11, sc11, hlc11, hlsc11, hw⟩ := hw
    refine xb_call (D := D) (A := A) (σ := σ) (h := h2) (d := 4) (mc := c11) (ms := sc11) (maxL := 3) (rest := []) (av := [.ref b7, .long (Int32.toInt64 (xb_i h2 x0 3))]) (fun T hT X => by obtain ⟨cb, r1, r2, r3⟩ := xb_recv (ci := 1) hR rfl hk8 (by decide); exact xt_invV X hx hown (hts _ m_da067afc) (hts _ m_7e8d081f) (hts _ m_4e47f51a) (xt_sigOf (hts _ m_4f1bdc54)) nm_Row_add (by rw [hT]; exact r1) r2 r3 (g := F0 m 20 ls [.long (Int32.toInt64 (xb_i h2 x0 3)), .ref b7]) rfl (argsL := [.long (Int32.toInt64 (xb_i h2 x0 3))]) (rest := []) rfl rfl (by rw [hb]; exact (xb_d D_Reader_readVariable 10 rfl))) (ok_Row_add l hfl D A σ b7 (Int32.toInt64 (xb_i h2 x0 3)) h2 c11 sc11 _ hw) (hml.trans hl.1.symm) (by rw [hb]; exact (xb_d D_Reader_readVariable 10 rfl)) (Nat.le_of_ble_eq_true rfl) (Nat.le_of_ble_eq_true rfl) (Nat.le_of_ble_eq_true rfl) (show (k + c4) + c11 ≤ MC by omega) (show (n + sc4) + sc11 ≤ MS by omega) (xt_w1 hB.1 m_4f1bdc54) (xt_cdOf hB.1 m_4f1bdc54) (hts _ m_c1bef504) hB hR hS hA (fun vv h9 H locs hq hEh9 hR hS => ?_) (fun XX ax h9 H locs hq hEh9 hex hR hS => ?_)
    · obtain ⟨rfl, hw⟩ := hq
      have hw := hw hEh9
      have hE := hE.tr hEh9
      refine W.eq (g2 := F0 m 23 ls []) rfl ?_
      refine lv_aload_n hx hb (xb_d D_Reader_readVariable 11 rfl) rfl (lv_at hl 0 rfl) ?_
      have hk1 : xb_k h9 x0 = 4 := hEh9.k hk1
      obtain ⟨c14, sc14, hlc14, hlsc14, hw⟩ := hw
      refine xb_call (D := D) (A := A) (σ := σ) (h := h9) (d := 5) (mc := c14) (ms := sc14) (maxL := 6) (rest := []) (av := [.ref x0]) (fun T hT X => by obtain ⟨cb, r1, r2, r3⟩ := xb_recv (ci := 3) hR rfl hk1 (by decide); exact xt_invV X hx hown (hts _ m_90e667a6) (hts _ m_02684d67) (hts _ m_97aecff3) (xt_sigOf (hts _ m_150d97f6)) nm_Reader_readExpression (by rw [hT]; exact r1) r2 r3 (g := F0 m 24 ls [.ref x0]) rfl (argsL := []) (rest := []) rfl rfl (by rw [hb]; exact (xb_d D_Reader_readVariable 12 rfl))) (ok_Reader_readExpression l hfl D A σ x0 h9 c14 sc14 _ _ hw) (hml.trans hl.1.symm) (by rw [hb]; exact (xb_d D_Reader_readVariable 12 rfl)) (Nat.le_of_ble_eq_true rfl) (Nat.le_of_ble_eq_true rfl) (Nat.le_of_ble_eq_true rfl) (show ((k + c4) + c11) + c14 ≤ MC by omega) (show ((n + sc4) + sc11) + sc14 ≤ MS by omega) (xt_w1 hB.1 m_150d97f6) (xt_cdOf hB.1 m_150d97f6) (hts _ m_938fcec4) hB hR hS hA (fun vv h12 H locs hq hEh12 hR hS => ?_) (fun XX ax h12 H locs hq hEh12 hex hR hS => ?_)
      · obtain ⟨rfl, hw⟩ := hq
        have hw := hw hEh12
        have hE := hE.tr hEh12
        refine W.eq (g2 := F0 m 27 ls []) rfl ?_
        exact xb_vret hx hb hr hlocks (show (((k + c4) + c11) + c14) ≤ MC by omega) (show (((n + sc4) + sc11) + sc14) ≤ MS by omega) hE hR hS (xb_d D_Reader_readVariable 13 rfl) hw
      · exact xb_pass hlocks (fun x hx9 => by rw [htab] at hx9; first | cases hx9 | (simp [tableOf] at hx9; rcases hx9 with rfl | rfl | rfl <;> decide)) (show (((k + c4) + c11) + c14) ≤ MC by omega) (show (((n + sc4) + sc11) + sc14) ≤ MS by omega) (hE.tr hEh12) hR hS hex hq
    · exact False.elim hq
  · exact xb_pass hlocks (fun x hx9 => by rw [htab] at hx9; first | cases hx9 | (simp [tableOf] at hx9; rcases hx9 with rfl | rfl | rfl <;> decide)) (show (k + c4) ≤ MC by omega) (show (n + sc4) ≤ MS by omega) (hE.tr hEh2) hR hS hex hq

theorem m_82571c05 : (.methodLink "StackHost$World" 144 y_World_instanceNamed : Cond) ∈ xt_tbl := xt_in (xt_t6 (List.mem_of_getElem? (i := 152) (by decide +kernel))) (by decide +kernel)
theorem m_d2aefc78 : (.instanceMethod y_World_instanceNamed : Cond) ∈ xt_tbl := xt_in (xt_t6 (List.mem_of_getElem? (i := 154) (by decide +kernel))) (by decide +kernel)
theorem m_ef239df8 : (.selects "StackHost$World" y_World_instanceNamed y_World_instanceNamed : Cond) ∈ xt_tbl := xt_in (xt_v5 (q := (⟨"StackHost$World", "instanceNamed", "([BII)I"⟩, 16)) (List.mem_of_getElem? (i := 4) (by decide +kernel))) (by decide +kernel)
theorem m_d216223b : (.code y_World_instanceNamed b_World_instanceNamed 5 (some .int) : Cond) ∈ xt_tbl := xt_in (xt_t6 (List.mem_of_getElem? (i := 155) (by decide +kernel))) (by decide +kernel)
theorem m_283934a1 : (.methodLink "StackHost$World" 152 y_StackModule_exportNamed : Cond) ∈ xt_tbl := xt_in (xt_t6 (List.mem_of_getElem? (i := 156) (by decide +kernel))) (by decide +kernel)
theorem m_f95700ce : (.fieldLink "StackHost$World" 155 "StackHost$StackModule" "exports" "LStackHost$Row;" : Cond) ∈ xt_tbl := xt_in (xt_t3 (List.mem_of_getElem? (i := 86) (by decide +kernel))) (by decide +kernel)
theorem m_c3811901 : (.methodLink "StackHost$World" 158 y_World_takeOver : Cond) ∈ xt_tbl := xt_in (xt_t6 (List.mem_of_getElem? (i := 162) (by decide +kernel))) (by decide +kernel)
theorem m_54b7b2cd : (.instanceMethod y_World_takeOver : Cond) ∈ xt_tbl := xt_in (xt_t6 (List.mem_of_getElem? (i := 164) (by decide +kernel))) (by decide +kernel)
theorem m_6cd3c2dd : (.selects "StackHost$World" y_World_takeOver y_World_takeOver : Cond) ∈ xt_tbl := xt_in (xt_v5 (q := (⟨"StackHost$World", "takeOver", "(LStackHost$StackModule;ILStackHost$Instance;I)Z"⟩, 16)) (List.mem_of_getElem? (i := 5) (by decide +kernel))) (by decide +kernel)
theorem m_01f582a2 : (.code y_World_takeOver b_World_takeOver 6 (some .boolean) : Cond) ∈ xt_tbl := xt_in (xt_t6 (List.mem_of_getElem? (i := 165) (by decide +kernel))) (by decide +kernel)
theorem m_60a95da7 : (.fieldLinkNest "StackHost$World" 135 "StackHost" "HOST_NAME" "[B" "StackHost" : Cond) ∈ xt_tbl := xt_in (xt_t6 (List.mem_of_getElem? (i := 122) (by decide +kernel))) (by decide +kernel)
theorem m_04d9e99c : (.methodLink "StackHost$World" 141 y_World_lookUpAtHost : Cond) ∈ xt_tbl := xt_in (xt_t6 (List.mem_of_getElem? (i := 125) (by decide +kernel))) (by decide +kernel)
theorem m_42cc9cb7 : (.instanceMethod y_World_lookUpAtHost : Cond) ∈ xt_tbl := xt_in (xt_t6 (List.mem_of_getElem? (i := 127) (by decide +kernel))) (by decide +kernel)
theorem m_ba72ab16 : (.selects "StackHost$World" y_World_lookUpAtHost y_World_lookUpAtHost : Cond) ∈ xt_tbl := xt_in (xt_v5 (q := (⟨"StackHost$World", "lookUpAtHost", "(LStackHost$StackModule;I)I"⟩, 16)) (List.mem_of_getElem? (i := 3) (by decide +kernel))) (by decide +kernel)
theorem m_002f0ab6 : (.code y_World_lookUpAtHost b_World_lookUpAtHost 5 (some .int) : Cond) ∈ xt_tbl := xt_in (xt_t6 (List.mem_of_getElem? (i := 128) (by decide +kernel))) (by decide +kernel)
theorem nm_World_instanceNamed : xt_nm y_World_instanceNamed 3 := ⟨by decide +kernel, by decide +kernel⟩
theorem nm_World_takeOver : xt_nm y_World_takeOver 4 := ⟨by decide +kernel, by decide +kernel⟩
theorem nm_World_lookUpAtHost : xt_nm y_World_lookUpAtHost 2 := ⟨by decide +kernel, by decide +kernel⟩
set_option maxRecDepth 100000 in
def T_World_lookUp : List (Nat × Instr × Nat) := [(0, .aload_n 1, 1), (1, .getfield 102, 3), (4, .astore_n 3, 1), (5, .aload_n 3, 1), (6, .iload_n 2, 1), (7, .iconst 3, 1), (8, .invokevirtual 51, 3), (11, .istore 4, 2), (13, .aload_n 3, 1), (14, .iload_n 2, 1), (15, .iconst 4, 1), (16, .invokevirtual 51, 3), (19, .istore 5, 2), (21, .iload 5, 2), (23, .getstatic 135, 3), (26, .arraylength, 1), (27, .if_icmp .ne 28, 3), (30, .aload_n 1, 1), (31, .getfield 138, 3), (34, .iload 4, 2), (36, .getstatic 135, 3), (39, .iconst 0, 1), (40, .iload 5, 2), (42, .invokestatic 79, 3), (45, .ifCond .eq 10, 3), (48, .aload_n 0, 1), (49, .aload_n 1, 1), (50, .iload_n 2, 1), (51, .invokevirtual 141, 3), (54, .ireturn, 1), (55, .aload_n 0, 1), (56, .aload_n 1, 1), (57, .getfield 138, 3), (60, .iload 4, 2), (62, .iload 5, 2), (64, .invokevirtual 144, 3), (67, .istore 6, 2), (69, .iload 6, 2), (71, .iconst (-1), 1), (72, .if_icmp .ne 6, 3), (75, .bipush 41, 2), (77, .ireturn, 1), (78, .aload_n 0, 1), (79, .getfield 11, 3), (82, .iload 6, 2), (84, .aaload, 1), (85, .getfield 148, 3), (88, .astore 7, 2), (90, .aload_n 3, 1), (91, .iload_n 2, 1), (92, .iconst 5, 1), (93, .invokevirtual 51, 3), (96, .istore 8, 2), (98, .aload 7, 2), (100, .aload_n 1, 1), (101, .getfield 138, 3), (104, .iload 8, 2), (106, .aload_n 3, 1), (107, .iload_n 2, 1), (108, .bipush 6, 2), (110, .invokevirtual 51, 3), (113, .invokevirtual 152, 3), (116, .istore 9, 2), (118, .iload 9, 2), (120, .iconst (-1), 1), (121, .if_icmp .ne 6, 3), (124, .bipush 42, 2), (126, .ireturn, 1), (127, .aload 7, 2), (129, .getfield 155, 3), (132, .iload 9, 2), (134, .iconst 1, 1), (135, .invokevirtual 51, 3), (138, .aload_n 3, 1), (139, .iload_n 2, 1), (140, .iconst 1, 1), (141, .invokevirtual 51, 3), (144, .if_icmp .eq 6, 3), (147, .bipush 43, 2), (149, .ireturn, 1), (150, .aload_n 0, 1), (151, .aload_n 1, 1), (152, .iload_n 2, 1), (153, .aload_n 0, 1), (154, .getfield 11, 3), (157, .iload 6, 2), (159, .aaload, 1), (160, .aload 7, 2), (162, .getfield 155, 3), (165, .iload 9, 2), (167, .iconst 2, 1), (168, .invokevirtual 51, 3), (171, .invokevirtual 158, 3), (174, .ifCond .eq 7, 3), (177, .iconst 0, 1), (178, .goto 5, 3), (181, .bipush 43, 2), (183, .ireturn, 1)]
theorem D_World_lookUp : ∀ q ∈ T_World_lookUp, decode b_World_lookUp q.1 = .ok (q.2.1, q.2.2) := by decide +kernel
def w_World_lookUp_L183 (σ : Nat) (Qr : Int32 → xb_H → Prop) (y0 : Int32) (h : xb_H) (bc : Nat) (bs : Nat) : Prop :=
    Qr y0 h

def w_World_lookUp_L55 (σ : Nat) (Qr : Int32 → xb_H → Prop) (x0 : Nat) (x1 : Nat) (x2 : Int32) (x3 : Nat) (x4 : Int32) (x5 : Int32) (h : xb_H) (bc : Nat) (bs : Nat) : Prop :=
    xb_k h x1 = 3 ∧ ∃ b2 : Nat, (xb_r h x1 0) = some b2 ∧ xb_k h x0 = 7 ∧ w_World_instanceNamed x0 b2 x4 x5 h (fun (r5 : Int32) (h4 : xb_H) => xb_ext h h4 → ((¬ r5 = ((-1) : Int32) → ∃ b7 : Nat, (xb_r h4 x0 0) = some b7 ∧ xb_k h4 b7 = 105 ∧ vp_in r5 (xb_n h4 b7) ∧ ∃ b10 : Nat, (xb_r h4 b7 (Int32.toNatClampNeg r5)) = some b10 ∧ xb_k h4 b10 = 11 ∧ ∃ b12 : Nat, (xb_r h4 b10 1) = some b12 ∧ xb_k h4 x3 = 2 ∧ w_Row_at x3 x2 5 h4 (fun (r15 : Int32) (h14 : xb_H) => xb_ext h4 h14 → ∃ b16 : Nat, (xb_r h14 x1 0) = some b16 ∧ w_Row_at x3 x2 6 h14 (fun (r18 : Int32) (h17 : xb_H) => xb_ext h14 h17 → xb_k h17 b12 = 3 ∧ w_StackModule_exportNamed b12 b16 r15 r18 h17 (fun (r21 : Int32) (h20 : xb_H) => xb_ext h17 h20 → ((¬ r21 = ((-1) : Int32) → ∃ b23 : Nat, (xb_r h20 b12 8) = some b23 ∧ xb_k h20 b23 = 2 ∧ w_Row_at b23 r21 1 h20 (fun (r26 : Int32) (h25 : xb_H) => xb_ext h20 h25 → w_Row_at x3 x2 1 h25 (fun (r28 : Int32) (h27 : xb_H) => xb_ext h25 h27 → ((r26 = r28 → ∃ b30 : Nat, (xb_r h27 x0 0) = some b30 ∧ xb_k h27 b30 = 105 ∧ vp_in r5 (xb_n h27 b30) ∧ ∃ b33 : Nat, (xb_r h27 b30 (Int32.toNatClampNeg r5)) = some b33 ∧ ∃ b34 : Nat, (xb_r h27 b12 8) = some b34 ∧ xb_k h27 b34 = 2 ∧ w_Row_at b34 r21 2 h27 (fun (r37 : Int32) (h36 : xb_H) => xb_ext h27 h36 → ∃ c40 sc40 : Nat, c40 ≤ bc ∧ sc40 ≤ bs ∧ w_World_takeOver x0 x1 x2 b33 r37 h36 c40 sc40 (fun (r39 : Int32) (h38 : xb_H) => xb_ext h36 h38 → ((r39 = (0 : Int32) → w_World_lookUp_L183 σ Qr 43 h38 (bc - c40) (bs - sc40)) ∧ (¬ r39 = (0 : Int32) → w_World_lookUp_L183 σ Qr 0 h38 (bc - c40) (bs - sc40)))))) ∧ (¬ r26 = r28 → Qr 43 h27))))) ∧ (r21 = ((-1) : Int32) → Qr 42 h20)))))) ∧ (r5 = ((-1) : Int32) → Qr 41 h4)))

def w_World_lookUp (σ : Nat) (x0 : Nat) (x1 : Nat) (x2 : Int32) (h : xb_H) (bc : Nat) (bs : Nat) (Qr : Int32 → xb_H → Prop) : Prop :=
    xb_k h x1 = 3 ∧ ∃ b2 : Nat, (xb_r h x1 3) = some b2 ∧ xb_k h b2 = 2 ∧ w_Row_at b2 x2 3 h (fun (r5 : Int32) (h4 : xb_H) => xb_ext h h4 → w_Row_at b2 x2 4 h4 (fun (r7 : Int32) (h6 : xb_H) => xb_ext h4 h6 → xb_k h6 σ = 100 ∧ ((¬ r7 = (nI (xb_n h6 σ)) → w_World_lookUp_L55 σ Qr x0 x1 x2 b2 r5 r7 h6 bc bs) ∧ (r7 = (nI (xb_n h6 σ)) → ∃ b10 : Nat, (xb_r h6 x1 0) = some b10 ∧ w_StackModule_sameBytes b10 r5 σ 0 r7 h6 (fun (r12 : Int32) (h11 : xb_H) => xb_ext h6 h11 → ((r12 = (0 : Int32) → w_World_lookUp_L55 σ Qr x0 x1 x2 b2 r5 r7 h11 bc bs) ∧ (¬ r12 = (0 : Int32) → xb_k h11 x0 = 7 ∧ ∃ c17 sc17 : Nat, c17 ≤ bc ∧ sc17 ≤ bs ∧ w_World_lookUpAtHost x0 x1 x2 h11 c17 sc17 (fun (r16 : Int32) (h15 : xb_H) => xb_ext h11 h15 → Qr r16 h15))))))))

set_option maxHeartbeats 4000000 in
set_option maxRecDepth 100000 in
theorem am_World_lookUp_L183 (l : Launch) (hfl : l.flags = pinnedFlags ++ [noTraceFlag]) (D : va_G) (A : Nat → Prop) (σ MC MS : Nat) (h0 : xb_H) (Qr : Int32 → xb_H → Prop) (y0 : Int32) (h : xb_H) (bc : Nat) (bs : Nat) (hw : w_World_lookUp_L183 σ Qr y0 h bc bs) : xb_am l D A σ 6 MC MS h0 (fun v h => ∃ r, v = some (.int r) ∧ Qr r h) (fun _ _ => False) y_World_lookUp.cls y_World_lookUp.name b_World_lookUp 10 ([] : List ExceptionTableEntry) (some .int) 183 [] [.int y0] h bc bs := by
  unfold w_World_lookUp_L183 at hw
  intro p e s m args below meth c hC H locs ls k n hE hl hR hS hk hn
  obtain ⟨hx, hb, hown, hlocks, htab, hml, hr, hB, hA, hnm⟩ := id hC
  have hts := hB.1.1.at args
  exact xb_iret hx hb hr hlocks (show k ≤ MC by omega) (show n ≤ MS by omega) hE hR hS (xb_d D_World_lookUp 97 rfl) hw

set_option maxHeartbeats 4000000 in
set_option maxRecDepth 100000 in
theorem am_World_lookUp_L55 (l : Launch) (hfl : l.flags = pinnedFlags ++ [noTraceFlag]) (D : va_G) (A : Nat → Prop) (σ MC MS : Nat) (h0 : xb_H) (Qr : Int32 → xb_H → Prop) (x0 : Nat) (x1 : Nat) (x2 : Int32) (x3 : Nat) (x4 : Int32) (x5 : Int32) (h : xb_H) (bc : Nat) (bs : Nat) (hw : w_World_lookUp_L55 σ Qr x0 x1 x2 x3 x4 x5 h bc bs) : xb_am l D A σ 6 MC MS h0 (fun v h => ∃ r, v = some (.int r) ∧ Qr r h) (fun _ _ => False) y_World_lookUp.cls y_World_lookUp.name b_World_lookUp 10 ([] : List ExceptionTableEntry) (some .int) 55 [(0, .ref x0), (1, .ref x1), (2, .int x2), (3, .ref x3), (4, .int x4), (5, .int x5)] [] h bc bs := by
  unfold w_World_lookUp_L55 at hw
  intro p e s m args below meth c hC H locs ls k n hE hl hR hS hk hn
  obtain ⟨hx, hb, hown, hlocks, htab, hml, hr, hB, hA, hnm⟩ := id hC
  have hts := hB.1.1.at args
  refine lv_aload_n hx hb (xb_d D_World_lookUp 30 rfl) rfl (lv_at hl 0 rfl) ?_
  refine lv_aload_n hx hb (xb_d D_World_lookUp 31 rfl) rfl (lv_at hl 1 rfl) ?_
  obtain ⟨hk1, hw⟩ := hw
  refine xb_getP (C := R_StackModule) (T := F_StackModule) (N := 19) hx hb 2 0 hts fin_StackModule hown hR hk1 (by decide) rfl (by decide) rfl (hts _ m_7aa5c58a) (fun _ h9 => h9) (xb_d D_World_lookUp 32 rfl) ?_
  obtain ⟨b2, eb2, hw⟩ := hw
  refine xb_some eb2 ?_
  refine lv_iload hx hb (xb_d D_World_lookUp 33 rfl) (lv_at hl 4 rfl) ?_
  refine lv_iload hx hb (xb_d D_World_lookUp 34 rfl) (lv_at hl 5 rfl) ?_
  obtain ⟨hk3, hw⟩ := hw
  refine xb_call (D := D) (A := A) (σ := σ) (h := h) (d := 3) (mc := 0) (ms := 0) (maxL := 5) (rest := []) (av := [.ref x0, .ref b2, .int x4, .int x5]) (fun T hT X => by obtain ⟨cb, r1, r2, r3⟩ := xb_recv (ci := 6) hR rfl hk3 (by decide); exact xt_invV X hx hown (hts _ m_82571c05) (hts _ m_d2aefc78) (hts _ m_ef239df8) (xt_sigOf (hts _ m_d216223b)) nm_World_instanceNamed (by rw [hT]; exact r1) r2 r3 (g := F0 m 64 ls [.int x5, .int x4, .ref b2, .ref x0]) rfl (argsL := [.ref b2, .int x4, .int x5]) (rest := []) rfl rfl (by rw [hb]; exact (xb_d D_World_lookUp 35 rfl))) (ok_World_instanceNamed l hfl D A σ x0 b2 x4 x5 h _ hw) (hml.trans hl.1.symm) (by rw [hb]; exact (xb_d D_World_lookUp 35 rfl)) (Nat.le_of_ble_eq_true rfl) (Nat.le_of_ble_eq_true rfl) (Nat.le_of_ble_eq_true rfl) (show k + 0 ≤ MC by omega) (show n + 0 ≤ MS by omega) (xt_w1 hB.1 m_d216223b) (xt_cdOf hB.1 m_d216223b) (hts _ m_4534b440) hB hR hS hA (fun vv h4 H locs hq hEh4 hR hS => ?_) (fun XX ax h4 H locs hq hEh4 hex hR hS => ?_)
  · obtain ⟨r5, rfl, hw⟩ := hq
    have hw := hw hEh4
    have hE := hE.tr hEh4
    refine W.eq (g2 := F0 m 67 ls [.int r5]) rfl ?_
    refine lv_istore hx hb (xb_d D_World_lookUp 36 rfl) hl (by decide) rfl (fun ls hl => ?_)
    have hl : lv_has ls 10 [(6, .int r5), (0, .ref x0), (1, .ref x1), (2, .int x2), (3, .ref x3), (4, .int x4), (5, .int x5)] := hl
    refine lv_iload hx hb (xb_d D_World_lookUp 37 rfl) (lv_at hl 0 rfl) ?_
    refine lv_iconst (v := (-1)) hx hb (xb_d D_World_lookUp 38 rfl) (by decide) ?_
    refine lv_icmp_ne (tgt := 78) hx hb (xb_d D_World_lookUp 39 rfl) rfl (fun hc6 => ?_) (fun hc6 => ?_)
    · have hw := hw.1 hc6
      refine lv_aload_n hx hb (xb_d D_World_lookUp 42 rfl) rfl (lv_at hl 1 rfl) ?_
      have hk3 : xb_k h4 x0 = 7 := hEh4.k hk3
      refine xb_getP (C := R_World) (T := F_World) (N := 16) hx hb 6 0 hts fin_World hown hR hk3 (by decide) rfl (by decide) rfl (hts _ m_7dbedc06) (fun _ h9 => h9) (xb_d D_World_lookUp 43 rfl) ?_
      obtain ⟨b7, eb7, hw⟩ := hw
      refine xb_some eb7 ?_
      refine lv_iload hx hb (xb_d D_World_lookUp 44 rfl) (lv_at hl 0 rfl) ?_
      obtain ⟨hk9, hw⟩ := hw
      obtain ⟨hi8, hw⟩ := hw
      refine xb_aald105 hx hb hR hk9 hi8 (xb_d D_World_lookUp 45 rfl) ?_
      obtain ⟨b10, eb10, hw⟩ := hw
      refine xb_some eb10 ?_
      obtain ⟨hk11, hw⟩ := hw
      refine xb_getP (C := R_Instance) (T := F_Instance) (N := 8) hx hb 10 1 hts fin_Instance hown hR hk11 (by decide) rfl (by decide) rfl (hts _ m_22811004) (fun _ h9 => h9) (xb_d D_World_lookUp 46 rfl) ?_
      obtain ⟨b12, eb12, hw⟩ := hw
      refine xb_some eb12 ?_
      refine lv_astore hx hb (xb_d D_World_lookUp 47 rfl) hl (by decide) rfl (fun ls hl => ?_)
      have hl : lv_has ls 10 [(7, .ref b12), (6, .int r5), (0, .ref x0), (1, .ref x1), (2, .int x2), (3, .ref x3), (4, .int x4), (5, .int x5)] := hl
      refine lv_aload_n hx hb (xb_d D_World_lookUp 48 rfl) rfl (lv_at hl 5 rfl) ?_
      refine lv_iload_n hx hb (xb_d D_World_lookUp 49 rfl) rfl (lv_at hl 4 rfl) ?_
      refine lv_iconst (v := 5) hx hb (xb_d D_World_lookUp 50 rfl) (by decide) ?_
      obtain ⟨hk13, hw⟩ := hw
      refine xb_call (D := D) (A := A) (σ := σ) (h := h4) (d := 2) (mc := 0) (ms := 0) (maxL := 3) (rest := []) (av := [.ref x3, .int x2, .int 5]) (fun T hT X => by obtain ⟨cb, r1, r2, r3⟩ := xb_recv (ci := 1) hR rfl hk13 (by decide); exact xt_invV X hx hown (hts _ m_ad29ee25) (hts _ m_8e233096) (hts _ m_27eed10c) (xt_sigOf (hts _ m_ff1c70ae)) nm_Row_at (by rw [hT]; exact r1) r2 r3 (g := F0 m 93 ls [.int 5, .int x2, .ref x3]) rfl (argsL := [.int x2, .int 5]) (rest := []) rfl rfl (by rw [hb]; exact (xb_d D_World_lookUp 51 rfl))) (ok_Row_at l hfl D A σ x3 x2 5 h4 _ hw) (hml.trans hl.1.symm) (by rw [hb]; exact (xb_d D_World_lookUp 51 rfl)) (Nat.le_of_ble_eq_true rfl) (Nat.le_of_ble_eq_true rfl) (Nat.le_of_ble_eq_true rfl) (show k + 0 ≤ MC by omega) (show n + 0 ≤ MS by omega) (xt_w1 hB.1 m_ff1c70ae) (xt_cdOf hB.1 m_ff1c70ae) (hts _ m_c1bef504) hB hR hS hA (fun vv h14 H locs hq hEh14 hR hS => ?_) (fun XX ax h14 H locs hq hEh14 hex hR hS => ?_)
      · obtain ⟨r15, rfl, hw⟩ := hq
        have hw := hw hEh14
        have hE := hE.tr hEh14
        refine W.eq (g2 := F0 m 96 ls [.int r15]) rfl ?_
        refine lv_istore hx hb (xb_d D_World_lookUp 52 rfl) hl (by decide) rfl (fun ls hl => ?_)
        have hl : lv_has ls 10 [(8, .int r15), (7, .ref b12), (6, .int r5), (0, .ref x0), (1, .ref x1), (2, .int x2), (3, .ref x3), (4, .int x4), (5, .int x5)] := hl
        refine lv_aload hx hb (xb_d D_World_lookUp 53 rfl) (lv_at hl 1 rfl) ?_
        refine lv_aload_n hx hb (xb_d D_World_lookUp 54 rfl) rfl (lv_at hl 4 rfl) ?_
        have hk1 : xb_k h4 x1 = 3 := hEh4.k hk1
        have hk1 : xb_k h14 x1 = 3 := hEh14.k hk1
        refine xb_getP (C := R_StackModule) (T := F_StackModule) (N := 19) hx hb 2 0 hts fin_StackModule hown hR hk1 (by decide) rfl (by decide) rfl (hts _ m_7aa5c58a) (fun _ h9 => h9) (xb_d D_World_lookUp 55 rfl) ?_
        obtain ⟨b16, eb16, hw⟩ := hw
        refine xb_some eb16 ?_
        refine lv_iload hx hb (xb_d D_World_lookUp 56 rfl) (lv_at hl 0 rfl) ?_
        refine lv_aload_n hx hb (xb_d D_World_lookUp 57 rfl) rfl (lv_at hl 6 rfl) ?_
        refine lv_iload_n hx hb (xb_d D_World_lookUp 58 rfl) rfl (lv_at hl 5 rfl) ?_
        refine lv_bipush (v := 6) hx hb (xb_d D_World_lookUp 59 rfl) (by decide) ?_
        have hk13 : xb_k h14 x3 = 2 := hEh14.k hk13
        refine xb_call (D := D) (A := A) (σ := σ) (h := h14) (d := 2) (mc := 0) (ms := 0) (maxL := 3) (rest := [.int r15, .ref b16, .ref b12]) (av := [.ref x3, .int x2, .int 6]) (fun T hT X => by obtain ⟨cb, r1, r2, r3⟩ := xb_recv (ci := 1) hR rfl hk13 (by decide); exact xt_invV X hx hown (hts _ m_ad29ee25) (hts _ m_8e233096) (hts _ m_27eed10c) (xt_sigOf (hts _ m_ff1c70ae)) nm_Row_at (by rw [hT]; exact r1) r2 r3 (g := F0 m 110 ls [.int 6, .int x2, .ref x3, .int r15, .ref b16, .ref b12]) rfl (argsL := [.int x2, .int 6]) (rest := [.int r15, .ref b16, .ref b12]) rfl rfl (by rw [hb]; exact (xb_d D_World_lookUp 60 rfl))) (ok_Row_at l hfl D A σ x3 x2 6 h14 _ hw) (hml.trans hl.1.symm) (by rw [hb]; exact (xb_d D_World_lookUp 60 rfl)) (Nat.le_of_ble_eq_true rfl) (Nat.le_of_ble_eq_true rfl) (Nat.le_of_ble_eq_true rfl) (show k + 0 ≤ MC by omega) (show n + 0 ≤ MS by omega) (xt_w1 hB.1 m_ff1c70ae) (xt_cdOf hB.1 m_ff1c70ae) (hts _ m_c1bef504) hB hR hS hA (fun vv h17 H locs hq hEh17 hR hS => ?_) (fun XX ax h17 H locs hq hEh17 hex hR hS => ?_)
        · obtain ⟨r18, rfl, hw⟩ := hq
          have hw := hw hEh17
          have hE := hE.tr hEh17
          refine W.eq (g2 := F0 m 113 ls [.int r18, .int r15, .ref b16, .ref b12]) rfl ?_
          obtain ⟨hk19, hw⟩ := hw
          refine xb_call (D := D) (A := A) (σ := σ) (h := h17) (d := 4) (mc := 0) (ms := 0) (maxL := 4) (rest := []) (av := [.ref b12, .ref b16, .int r15, .int r18]) (fun T hT X => by obtain ⟨cb, r1, r2, r3⟩ := xb_recv (ci := 2) hR rfl hk19 (by decide); exact xt_invV X hx hown (hts _ m_283934a1) (hts _ m_56ec8fb6) (hts _ m_b1e53fc5) (xt_sigOf (hts _ m_bdadcc5e)) nm_StackModule_exportNamed (by rw [hT]; exact r1) r2 r3 (g := F0 m 113 ls [.int r18, .int r15, .ref b16, .ref b12]) rfl (argsL := [.ref b16, .int r15, .int r18]) (rest := []) rfl rfl (by rw [hb]; exact (xb_d D_World_lookUp 61 rfl))) (ok_StackModule_exportNamed l hfl D A σ b12 b16 r15 r18 h17 _ hw) (hml.trans hl.1.symm) (by rw [hb]; exact (xb_d D_World_lookUp 61 rfl)) (Nat.le_of_ble_eq_true rfl) (Nat.le_of_ble_eq_true rfl) (Nat.le_of_ble_eq_true rfl) (show k + 0 ≤ MC by omega) (show n + 0 ≤ MS by omega) (xt_w1 hB.1 m_bdadcc5e) (xt_cdOf hB.1 m_bdadcc5e) (hts _ m_9c375545) hB hR hS hA (fun vv h20 H locs hq hEh20 hR hS => ?_) (fun XX ax h20 H locs hq hEh20 hex hR hS => ?_)
          · obtain ⟨r21, rfl, hw⟩ := hq
            have hw := hw hEh20
            have hE := hE.tr hEh20
            refine W.eq (g2 := F0 m 116 ls [.int r21]) rfl ?_
            refine lv_istore hx hb (xb_d D_World_lookUp 62 rfl) hl (by decide) rfl (fun ls hl => ?_)
            have hl : lv_has ls 10 [(9, .int r21), (8, .int r15), (7, .ref b12), (6, .int r5), (0, .ref x0), (1, .ref x1), (2, .int x2), (3, .ref x3), (4, .int x4), (5, .int x5)] := hl
            refine lv_iload hx hb (xb_d D_World_lookUp 63 rfl) (lv_at hl 0 rfl) ?_
            refine lv_iconst (v := (-1)) hx hb (xb_d D_World_lookUp 64 rfl) (by decide) ?_
            refine lv_icmp_ne (tgt := 127) hx hb (xb_d D_World_lookUp 65 rfl) rfl (fun hc22 => ?_) (fun hc22 => ?_)
            · have hw := hw.1 hc22
              refine lv_aload hx hb (xb_d D_World_lookUp 68 rfl) (lv_at hl 2 rfl) ?_
              have hk19 : xb_k h20 b12 = 3 := hEh20.k hk19
              refine xb_getP (C := R_StackModule) (T := F_StackModule) (N := 19) hx hb 2 8 hts fin_StackModule hown hR hk19 (by decide) rfl (by decide) rfl (hts _ m_f95700ce) (fun _ h9 => h9) (xb_d D_World_lookUp 69 rfl) ?_
              obtain ⟨b23, eb23, hw⟩ := hw
              refine xb_some eb23 ?_
              refine lv_iload hx hb (xb_d D_World_lookUp 70 rfl) (lv_at hl 0 rfl) ?_
              refine lv_iconst (v := 1) hx hb (xb_d D_World_lookUp 71 rfl) (by decide) ?_
              obtain ⟨hk24, hw⟩ := hw
              refine xb_call (D := D) (A := A) (σ := σ) (h := h20) (d := 2) (mc := 0) (ms := 0) (maxL := 3) (rest := []) (av := [.ref b23, .int r21, .int 1]) (fun T hT X => by obtain ⟨cb, r1, r2, r3⟩ := xb_recv (ci := 1) hR rfl hk24 (by decide); exact xt_invV X hx hown (hts _ m_ad29ee25) (hts _ m_8e233096) (hts _ m_27eed10c) (xt_sigOf (hts _ m_ff1c70ae)) nm_Row_at (by rw [hT]; exact r1) r2 r3 (g := F0 m 135 ls [.int 1, .int r21, .ref b23]) rfl (argsL := [.int r21, .int 1]) (rest := []) rfl rfl (by rw [hb]; exact (xb_d D_World_lookUp 72 rfl))) (ok_Row_at l hfl D A σ b23 r21 1 h20 _ hw) (hml.trans hl.1.symm) (by rw [hb]; exact (xb_d D_World_lookUp 72 rfl)) (Nat.le_of_ble_eq_true rfl) (Nat.le_of_ble_eq_true rfl) (Nat.le_of_ble_eq_true rfl) (show k + 0 ≤ MC by omega) (show n + 0 ≤ MS by omega) (xt_w1 hB.1 m_ff1c70ae) (xt_cdOf hB.1 m_ff1c70ae) (hts _ m_c1bef504) hB hR hS hA (fun vv h25 H locs hq hEh25 hR hS => ?_) (fun XX ax h25 H locs hq hEh25 hex hR hS => ?_)
              · obtain ⟨r26, rfl, hw⟩ := hq
                have hw := hw hEh25
                have hE := hE.tr hEh25
                refine W.eq (g2 := F0 m 138 ls [.int r26]) rfl ?_
                refine lv_aload_n hx hb (xb_d D_World_lookUp 73 rfl) rfl (lv_at hl 7 rfl) ?_
                refine lv_iload_n hx hb (xb_d D_World_lookUp 74 rfl) rfl (lv_at hl 6 rfl) ?_
                refine lv_iconst (v := 1) hx hb (xb_d D_World_lookUp 75 rfl) (by decide) ?_
                have hk13 : xb_k h17 x3 = 2 := hEh17.k hk13
                have hk13 : xb_k h20 x3 = 2 := hEh20.k hk13
                have hk13 : xb_k h25 x3 = 2 := hEh25.k hk13
                refine xb_call (D := D) (A := A) (σ := σ) (h := h25) (d := 2) (mc := 0) (ms := 0) (maxL := 3) (rest := [.int r26]) (av := [.ref x3, .int x2, .int 1]) (fun T hT X => by obtain ⟨cb, r1, r2, r3⟩ := xb_recv (ci := 1) hR rfl hk13 (by decide); exact xt_invV X hx hown (hts _ m_ad29ee25) (hts _ m_8e233096) (hts _ m_27eed10c) (xt_sigOf (hts _ m_ff1c70ae)) nm_Row_at (by rw [hT]; exact r1) r2 r3 (g := F0 m 141 ls [.int 1, .int x2, .ref x3, .int r26]) rfl (argsL := [.int x2, .int 1]) (rest := [.int r26]) rfl rfl (by rw [hb]; exact (xb_d D_World_lookUp 76 rfl))) (ok_Row_at l hfl D A σ x3 x2 1 h25 _ hw) (hml.trans hl.1.symm) (by rw [hb]; exact (xb_d D_World_lookUp 76 rfl)) (Nat.le_of_ble_eq_true rfl) (Nat.le_of_ble_eq_true rfl) (Nat.le_of_ble_eq_true rfl) (show k + 0 ≤ MC by omega) (show n + 0 ≤ MS by omega) (xt_w1 hB.1 m_ff1c70ae) (xt_cdOf hB.1 m_ff1c70ae) (hts _ m_c1bef504) hB hR hS hA (fun vv h27 H locs hq hEh27 hR hS => ?_) (fun XX ax h27 H locs hq hEh27 hex hR hS => ?_)
                · obtain ⟨r28, rfl, hw⟩ := hq
                  have hw := hw hEh27
                  have hE := hE.tr hEh27
                  refine W.eq (g2 := F0 m 144 ls [.int r28, .int r26]) rfl ?_
                  refine lv_icmp_eq (tgt := 150) hx hb (xb_d D_World_lookUp 77 rfl) rfl (fun hc29 => ?_) (fun hc29 => ?_)
                  · have hw := hw.1 hc29
                    refine lv_aload_n hx hb (xb_d D_World_lookUp 80 rfl) rfl (lv_at hl 4 rfl) ?_
                    refine lv_aload_n hx hb (xb_d D_World_lookUp 81 rfl) rfl (lv_at hl 5 rfl) ?_
                    refine lv_iload_n hx hb (xb_d D_World_lookUp 82 rfl) rfl (lv_at hl 6 rfl) ?_
                    refine lv_aload_n hx hb (xb_d D_World_lookUp 83 rfl) rfl (lv_at hl 4 rfl) ?_
                    have hk3 : xb_k h14 x0 = 7 := hEh14.k hk3
                    have hk3 : xb_k h17 x0 = 7 := hEh17.k hk3
                    have hk3 : xb_k h20 x0 = 7 := hEh20.k hk3
                    have hk3 : xb_k h25 x0 = 7 := hEh25.k hk3
                    have hk3 : xb_k h27 x0 = 7 := hEh27.k hk3
                    refine xb_getP (C := R_World) (T := F_World) (N := 16) hx hb 6 0 hts fin_World hown hR hk3 (by decide) rfl (by decide) rfl (hts _ m_7dbedc06) (fun _ h9 => h9) (xb_d D_World_lookUp 84 rfl) ?_
                    obtain ⟨b30, eb30, hw⟩ := hw
                    refine xb_some eb30 ?_
                    refine lv_iload hx hb (xb_d D_World_lookUp 85 rfl) (lv_at hl 3 rfl) ?_
                    obtain ⟨hk32, hw⟩ := hw
                    obtain ⟨hi31, hw⟩ := hw
                    refine xb_aald105 hx hb hR hk32 hi31 (xb_d D_World_lookUp 86 rfl) ?_
                    obtain ⟨b33, eb33, hw⟩ := hw
                    refine xb_some eb33 ?_
                    refine lv_aload hx hb (xb_d D_World_lookUp 87 rfl) (lv_at hl 2 rfl) ?_
                    have hk19 : xb_k h25 b12 = 3 := hEh25.k hk19
                    have hk19 : xb_k h27 b12 = 3 := hEh27.k hk19
                    refine xb_getP (C := R_StackModule) (T := F_StackModule) (N := 19) hx hb 2 8 hts fin_StackModule hown hR hk19 (by decide) rfl (by decide) rfl (hts _ m_f95700ce) (fun _ h9 => h9) (xb_d D_World_lookUp 88 rfl) ?_
                    obtain ⟨b34, eb34, hw⟩ := hw
                    refine xb_some eb34 ?_
                    refine lv_iload hx hb (xb_d D_World_lookUp 89 rfl) (lv_at hl 0 rfl) ?_
                    refine lv_iconst (v := 2) hx hb (xb_d D_World_lookUp 90 rfl) (by decide) ?_
                    obtain ⟨hk35, hw⟩ := hw
                    refine xb_call (D := D) (A := A) (σ := σ) (h := h27) (d := 2) (mc := 0) (ms := 0) (maxL := 3) (rest := [.ref b33, .int x2, .ref x1, .ref x0]) (av := [.ref b34, .int r21, .int 2]) (fun T hT X => by obtain ⟨cb, r1, r2, r3⟩ := xb_recv (ci := 1) hR rfl hk35 (by decide); exact xt_invV X hx hown (hts _ m_ad29ee25) (hts _ m_8e233096) (hts _ m_27eed10c) (xt_sigOf (hts _ m_ff1c70ae)) nm_Row_at (by rw [hT]; exact r1) r2 r3 (g := F0 m 168 ls [.int 2, .int r21, .ref b34, .ref b33, .int x2, .ref x1, .ref x0]) rfl (argsL := [.int r21, .int 2]) (rest := [.ref b33, .int x2, .ref x1, .ref x0]) rfl rfl (by rw [hb]; exact (xb_d D_World_lookUp 91 rfl))) (ok_Row_at l hfl D A σ b34 r21 2 h27 _ hw) (hml.trans hl.1.symm) (by rw [hb]; exact (xb_d D_World_lookUp 91 rfl)) (Nat.le_of_ble_eq_true rfl) (Nat.le_of_ble_eq_true rfl) (Nat.le_of_ble_eq_true rfl) (show k + 0 ≤ MC by omega) (show n + 0 ≤ MS by omega) (xt_w1 hB.1 m_ff1c70ae) (xt_cdOf hB.1 m_ff1c70ae) (hts _ m_c1bef504) hB hR hS hA (fun vv h36 H locs hq hEh36 hR hS => ?_) (fun XX ax h36 H locs hq hEh36 hex hR hS => ?_)
                    · obtain ⟨r37, rfl, hw⟩ := hq
                      have hw := hw hEh36
                      have hE := hE.tr hEh36
                      refine W.eq (g2 := F0 m 171 ls [.int r37, .ref b33, .int x2, .ref x1, .ref x0]) rfl ?_
                      have hk3 : xb_k h36 x0 = 7 := hEh36.k hk3
                      obtain ⟨c40, sc40, hlc40, hlsc40, hw⟩ := hw
                      refine xb_call (D := D) (A := A) (σ := σ) (h := h36) (d := 5) (mc := c40) (ms := sc40) (maxL := 6) (rest := []) (av := [.ref x0, .ref x1, .int x2, .ref b33, .int r37]) (fun T hT X => by obtain ⟨cb, r1, r2, r3⟩ := xb_recv (ci := 6) hR rfl hk3 (by decide); exact xt_invV X hx hown (hts _ m_c3811901) (hts _ m_54b7b2cd) (hts _ m_6cd3c2dd) (xt_sigOf (hts _ m_01f582a2)) nm_World_takeOver (by rw [hT]; exact r1) r2 r3 (g := F0 m 171 ls [.int r37, .ref b33, .int x2, .ref x1, .ref x0]) rfl (argsL := [.ref x1, .int x2, .ref b33, .int r37]) (rest := []) rfl rfl (by rw [hb]; exact (xb_d D_World_lookUp 92 rfl))) (ok_World_takeOver l hfl D A σ x0 x1 x2 b33 r37 h36 c40 sc40 _ hw) (hml.trans hl.1.symm) (by rw [hb]; exact (xb_d D_World_lookUp 92 rfl)) (Nat.le_of_ble_eq_true rfl) (Nat.le_of_ble_eq_true rfl) (Nat.le_of_ble_eq_true rfl) (show k + c40 ≤ MC by omega) (show n + sc40 ≤ MS by omega) (xt_w1 hB.1 m_01f582a2) (xt_cdOf hB.1 m_01f582a2) (hts _ m_4534b440) hB hR hS hA (fun vv h38 H locs hq hEh38 hR hS => ?_) (fun XX ax h38 H locs hq hEh38 hex hR hS => ?_)
                      · obtain ⟨r39, rfl, hw⟩ := hq
                        have hw := hw hEh38
                        have hE := hE.tr hEh38
                        refine W.eq (g2 := F0 m 174 ls [.int r39]) rfl ?_
                        refine lv_if_eq (tgt := 181) hx hb (xb_d D_World_lookUp 93 rfl) rfl (fun hc41 => ?_) (fun hc41 => ?_)
                        · have hw := hw.1 hc41
                          refine lv_bipush (v := 43) hx hb (xb_d D_World_lookUp 96 rfl) (by decide) ?_
                          exact am_World_lookUp_L183 l hfl D A σ MC MS h0 Qr 43 h38 (bc - c40) (bs - sc40) hw p e s m args below meth c hC H locs ls (k + c40) (n + sc40) hE (lv_sub hl [] rfl) hR hS (by omega) (by omega)
                        · have hw := hw.2 hc41
                          refine lv_iconst (v := 0) hx hb (xb_d D_World_lookUp 94 rfl) (by decide) ?_
                          refine lv_goto (tgt := 183) hx hb (xb_d D_World_lookUp 95 rfl) rfl ?_
                          exact am_World_lookUp_L183 l hfl D A σ MC MS h0 Qr 0 h38 (bc - c40) (bs - sc40) hw p e s m args below meth c hC H locs ls (k + c40) (n + sc40) hE (lv_sub hl [] rfl) hR hS (by omega) (by omega)
                      · exact False.elim hq
                    · exact False.elim hq
                  · have hw := hw.2 hc29
                    refine lv_bipush (v := 43) hx hb (xb_d D_World_lookUp 78 rfl) (by decide) ?_
                    exact xb_iret hx hb hr hlocks (show k ≤ MC by omega) (show n ≤ MS by omega) hE hR hS (xb_d D_World_lookUp 79 rfl) hw
                · exact False.elim hq
              · exact False.elim hq
            · have hw := hw.2 hc22
              refine lv_bipush (v := 42) hx hb (xb_d D_World_lookUp 66 rfl) (by decide) ?_
              exact xb_iret hx hb hr hlocks (show k ≤ MC by omega) (show n ≤ MS by omega) hE hR hS (xb_d D_World_lookUp 67 rfl) hw
          · exact False.elim hq
        · exact False.elim hq
      · exact False.elim hq
    · have hw := hw.2 hc6
      refine lv_bipush (v := 41) hx hb (xb_d D_World_lookUp 40 rfl) (by decide) ?_
      exact xb_iret hx hb hr hlocks (show k ≤ MC by omega) (show n ≤ MS by omega) hE hR hS (xb_d D_World_lookUp 41 rfl) hw
  · exact False.elim hq

set_option maxHeartbeats 4000000 in
set_option maxRecDepth 100000 in
theorem ok_World_lookUp (l : Launch) (hfl : l.flags = pinnedFlags ++ [noTraceFlag]) (D : va_G) (A : Nat → Prop) (σ : Nat) (x0 : Nat) (x1 : Nat) (x2 : Int32) (h : xb_H) (bc : Nat) (bs : Nat) (Qr : Int32 → xb_H → Prop) (hw : w_World_lookUp σ x0 x1 x2 h bc bs Qr) : xt_Met l y_World_lookUp [.code y_World_lookUp b_World_lookUp 10 (some .int)] (xb_rm 6 bc bs) (xb_Pc D A σ h [.ref x0, .ref x1, .int x2]) (xb_Qc D A h (fun v h => ∃ r, v = some (.int r) ∧ Qr r h) (fun _ _ => False)) bc bs A := by
  refine xb_ofAm (cc := b_World_lookUp) (by decide) (Nat.le_of_ble_eq_true rfl) ?_
  unfold w_World_lookUp at hw
  show xb_am l D A σ 6 bc bs h (fun v h => ∃ r, v = some (.int r) ∧ Qr r h) (fun _ _ => False) y_World_lookUp.cls y_World_lookUp.name b_World_lookUp 10 ([] : List ExceptionTableEntry) (some .int) 0 [(0, .ref x0), (1, .ref x1), (2, .int x2)] [] h bc bs
  obtain ⟨MC, hMC⟩ : ∃ x, x = bc := ⟨_, rfl⟩
  obtain ⟨MS, hMS⟩ : ∃ x, x = bs := ⟨_, rfl⟩
  rw [show xb_am l D A σ 6 bc bs = xb_am l D A σ 6 MC MS by rw [hMC, hMS]]
  obtain ⟨h0, hh0⟩ : ∃ x, x = h := ⟨_, rfl⟩
  rw [show xb_am l D A σ 6 MC MS h = xb_am l D A σ 6 MC MS h0 by rw [hh0]]
  intro p e s m args below meth c hC H locs ls k n hE hl hR hS hk hn
  obtain ⟨hx, hb, hown, hlocks, htab, hml, hr, hB, hA, hnm⟩ := id hC
  have hts := hB.1.1.at args
  refine lv_aload_n hx hb (xb_d D_World_lookUp 0 rfl) rfl (lv_at hl 1 rfl) ?_
  obtain ⟨hk1, hw⟩ := hw
  refine xb_getP (C := R_StackModule) (T := F_StackModule) (N := 19) hx hb 2 3 hts fin_StackModule hown hR hk1 (by decide) rfl (by decide) rfl (hts _ m_73c47404) (fun _ h9 => h9) (xb_d D_World_lookUp 1 rfl) ?_
  obtain ⟨b2, eb2, hw⟩ := hw
  refine xb_some eb2 ?_
  refine lv_astore_n hx hb (xb_d D_World_lookUp 2 rfl) rfl hl (by decide) rfl (fun ls hl => ?_)
  have hl : lv_has ls 10 [(3, .ref b2), (0, .ref x0), (1, .ref x1), (2, .int x2)] := hl
  refine lv_aload_n hx hb (xb_d D_World_lookUp 3 rfl) rfl (lv_at hl 0 rfl) ?_
  refine lv_iload_n hx hb (xb_d D_World_lookUp 4 rfl) rfl (lv_at hl 3 rfl) ?_
  refine lv_iconst (v := 3) hx hb (xb_d D_World_lookUp 5 rfl) (by decide) ?_
  obtain ⟨hk3, hw⟩ := hw
  refine xb_call (D := D) (A := A) (σ := σ) (h := h) (d := 2) (mc := 0) (ms := 0) (maxL := 3) (rest := []) (av := [.ref b2, .int x2, .int 3]) (fun T hT X => by obtain ⟨cb, r1, r2, r3⟩ := xb_recv (ci := 1) hR rfl hk3 (by decide); exact xt_invV X hx hown (hts _ m_ad29ee25) (hts _ m_8e233096) (hts _ m_27eed10c) (xt_sigOf (hts _ m_ff1c70ae)) nm_Row_at (by rw [hT]; exact r1) r2 r3 (g := F0 m 8 ls [.int 3, .int x2, .ref b2]) rfl (argsL := [.int x2, .int 3]) (rest := []) rfl rfl (by rw [hb]; exact (xb_d D_World_lookUp 6 rfl))) (ok_Row_at l hfl D A σ b2 x2 3 h _ hw) (hml.trans hl.1.symm) (by rw [hb]; exact (xb_d D_World_lookUp 6 rfl)) (Nat.le_of_ble_eq_true rfl) (Nat.le_of_ble_eq_true rfl) (Nat.le_of_ble_eq_true rfl) (show k + 0 ≤ MC by omega) (show n + 0 ≤ MS by omega) (xt_w1 hB.1 m_ff1c70ae) (xt_cdOf hB.1 m_ff1c70ae) (hts _ m_c1bef504) hB hR hS hA (fun vv h4 H locs hq hEh4 hR hS => ?_) (fun XX ax h4 H locs hq hEh4 hex hR hS => ?_)
  · obtain ⟨r5, rfl, hw⟩ := hq
    have hw := hw hEh4
    have hE := hE.tr hEh4
    refine W.eq (g2 := F0 m 11 ls [.int r5]) rfl ?_
    refine lv_istore hx hb (xb_d D_World_lookUp 7 rfl) hl (by decide) rfl (fun ls hl => ?_)
    have hl : lv_has ls 10 [(4, .int r5), (3, .ref b2), (0, .ref x0), (1, .ref x1), (2, .int x2)] := hl
    refine lv_aload_n hx hb (xb_d D_World_lookUp 8 rfl) rfl (lv_at hl 1 rfl) ?_
    refine lv_iload_n hx hb (xb_d D_World_lookUp 9 rfl) rfl (lv_at hl 4 rfl) ?_
    refine lv_iconst (v := 4) hx hb (xb_d D_World_lookUp 10 rfl) (by decide) ?_
    have hk3 : xb_k h4 b2 = 2 := hEh4.k hk3
    refine xb_call (D := D) (A := A) (σ := σ) (h := h4) (d := 2) (mc := 0) (ms := 0) (maxL := 3) (rest := []) (av := [.ref b2, .int x2, .int 4]) (fun T hT X => by obtain ⟨cb, r1, r2, r3⟩ := xb_recv (ci := 1) hR rfl hk3 (by decide); exact xt_invV X hx hown (hts _ m_ad29ee25) (hts _ m_8e233096) (hts _ m_27eed10c) (xt_sigOf (hts _ m_ff1c70ae)) nm_Row_at (by rw [hT]; exact r1) r2 r3 (g := F0 m 16 ls [.int 4, .int x2, .ref b2]) rfl (argsL := [.int x2, .int 4]) (rest := []) rfl rfl (by rw [hb]; exact (xb_d D_World_lookUp 11 rfl))) (ok_Row_at l hfl D A σ b2 x2 4 h4 _ hw) (hml.trans hl.1.symm) (by rw [hb]; exact (xb_d D_World_lookUp 11 rfl)) (Nat.le_of_ble_eq_true rfl) (Nat.le_of_ble_eq_true rfl) (Nat.le_of_ble_eq_true rfl) (show k + 0 ≤ MC by omega) (show n + 0 ≤ MS by omega) (xt_w1 hB.1 m_ff1c70ae) (xt_cdOf hB.1 m_ff1c70ae) (hts _ m_c1bef504) hB hR hS hA (fun vv h6 H locs hq hEh6 hR hS => ?_) (fun XX ax h6 H locs hq hEh6 hex hR hS => ?_)
    · obtain ⟨r7, rfl, hw⟩ := hq
      have hw := hw hEh6
      have hE := hE.tr hEh6
      refine W.eq (g2 := F0 m 19 ls [.int r7]) rfl ?_
      refine lv_istore hx hb (xb_d D_World_lookUp 12 rfl) hl (by decide) rfl (fun ls hl => ?_)
      have hl : lv_has ls 10 [(5, .int r7), (4, .int r5), (3, .ref b2), (0, .ref x0), (1, .ref x1), (2, .int x2)] := hl
      refine lv_iload hx hb (xb_d D_World_lookUp 13 rfl) (lv_at hl 0 rfl) ?_
      refine va_getsN hx hb hB.2.2.2.2.2 hS hown (hts _ m_60a95da7) (fun _ h9 => h9) (xb_d D_World_lookUp 14 rfl) ?_
      obtain ⟨hk8, hw⟩ := hw
      refine xb_alen hx hb hR hk8 (by decide) (xb_d D_World_lookUp 15 rfl) ?_
      refine lv_icmp_ne (tgt := 55) hx hb (xb_d D_World_lookUp 16 rfl) rfl (fun hc9 => ?_) (fun hc9 => ?_)
      · have hw := hw.1 hc9
        exact am_World_lookUp_L55 l hfl D A σ MC MS h0 Qr x0 x1 x2 b2 r5 r7 h6 bc bs hw p e s m args below meth c hC H locs ls k n hE (lv_sub hl [3, 4, 5, 2, 1, 0] rfl) hR hS (by omega) (by omega)
      · have hw := hw.2 hc9
        refine lv_aload_n hx hb (xb_d D_World_lookUp 17 rfl) rfl (lv_at hl 4 rfl) ?_
        have hk1 : xb_k h4 x1 = 3 := hEh4.k hk1
        have hk1 : xb_k h6 x1 = 3 := hEh6.k hk1
        refine xb_getP (C := R_StackModule) (T := F_StackModule) (N := 19) hx hb 2 0 hts fin_StackModule hown hR hk1 (by decide) rfl (by decide) rfl (hts _ m_7aa5c58a) (fun _ h9 => h9) (xb_d D_World_lookUp 18 rfl) ?_
        obtain ⟨b10, eb10, hw⟩ := hw
        refine xb_some eb10 ?_
        refine lv_iload hx hb (xb_d D_World_lookUp 19 rfl) (lv_at hl 1 rfl) ?_
        refine va_getsN hx hb hB.2.2.2.2.2 hS hown (hts _ m_60a95da7) (fun _ h9 => h9) (xb_d D_World_lookUp 20 rfl) ?_
        refine lv_iconst (v := 0) hx hb (xb_d D_World_lookUp 21 rfl) (by decide) ?_
        refine lv_iload hx hb (xb_d D_World_lookUp 22 rfl) (lv_at hl 0 rfl) ?_
        refine xb_call (D := D) (A := A) (σ := σ) (h := h6) (d := 2) (mc := 0) (ms := 0) (maxL := 6) (rest := []) (av := [.ref b10, .int r5, .ref σ, .int 0, .int r7]) (fun T hT X => xt_invS X hx hown (hts _ m_1dd644e2) (hts _ m_60db31ff) (hts _ m_9c375545) (xt_sgS (hts _ m_e49b5738)).1 (xt_sgS (hts _ m_e49b5738)).2 nm_StackModule_sameBytes (g := F0 m 42 ls [.int r7, .int 0, .ref σ, .int r5, .ref b10]) rfl (argsL := [.ref b10, .int r5, .ref σ, .int 0, .int r7]) (rest := []) rfl rfl (by rw [hb]; exact (xb_d D_World_lookUp 23 rfl))) (ok_StackModule_sameBytes l hfl D A σ b10 r5 σ 0 r7 h6 _ hw) (hml.trans hl.1.symm) (by rw [hb]; exact (xb_d D_World_lookUp 23 rfl)) (Nat.le_of_ble_eq_true rfl) (Nat.le_of_ble_eq_true rfl) (Nat.le_of_ble_eq_true rfl) (show k + 0 ≤ MC by omega) (show n + 0 ≤ MS by omega) (xt_w1 hB.1 m_e49b5738) (xt_cdOf hB.1 m_e49b5738) (hts _ m_9c375545) hB hR hS hA (fun vv h11 H locs hq hEh11 hR hS => ?_) (fun XX ax h11 H locs hq hEh11 hex hR hS => ?_)
        · obtain ⟨r12, rfl, hw⟩ := hq
          have hw := hw hEh11
          have hE := hE.tr hEh11
          refine W.eq (g2 := F0 m 45 ls [.int r12]) rfl ?_
          refine lv_if_eq (tgt := 55) hx hb (xb_d D_World_lookUp 24 rfl) rfl (fun hc13 => ?_) (fun hc13 => ?_)
          · have hw := hw.1 hc13
            exact am_World_lookUp_L55 l hfl D A σ MC MS h0 Qr x0 x1 x2 b2 r5 r7 h11 bc bs hw p e s m args below meth c hC H locs ls k n hE (lv_sub hl [3, 4, 5, 2, 1, 0] rfl) hR hS (by omega) (by omega)
          · have hw := hw.2 hc13
            refine lv_aload_n hx hb (xb_d D_World_lookUp 25 rfl) rfl (lv_at hl 3 rfl) ?_
            refine lv_aload_n hx hb (xb_d D_World_lookUp 26 rfl) rfl (lv_at hl 4 rfl) ?_
            refine lv_iload_n hx hb (xb_d D_World_lookUp 27 rfl) rfl (lv_at hl 5 rfl) ?_
            obtain ⟨hk14, hw⟩ := hw
            obtain ⟨c17, sc17, hlc17, hlsc17, hw⟩ := hw
            refine xb_call (D := D) (A := A) (σ := σ) (h := h11) (d := 5) (mc := c17) (ms := sc17) (maxL := 5) (rest := []) (av := [.ref x0, .ref x1, .int x2]) (fun T hT X => by obtain ⟨cb, r1, r2, r3⟩ := xb_recv (ci := 6) hR rfl hk14 (by decide); exact xt_invV X hx hown (hts _ m_04d9e99c) (hts _ m_42cc9cb7) (hts _ m_ba72ab16) (xt_sigOf (hts _ m_002f0ab6)) nm_World_lookUpAtHost (by rw [hT]; exact r1) r2 r3 (g := F0 m 51 ls [.int x2, .ref x1, .ref x0]) rfl (argsL := [.ref x1, .int x2]) (rest := []) rfl rfl (by rw [hb]; exact (xb_d D_World_lookUp 28 rfl))) (ok_World_lookUpAtHost l hfl D A σ x0 x1 x2 h11 c17 sc17 _ hw) (hml.trans hl.1.symm) (by rw [hb]; exact (xb_d D_World_lookUp 28 rfl)) (Nat.le_of_ble_eq_true rfl) (Nat.le_of_ble_eq_true rfl) (Nat.le_of_ble_eq_true rfl) (show k + c17 ≤ MC by omega) (show n + sc17 ≤ MS by omega) (xt_w1 hB.1 m_002f0ab6) (xt_cdOf hB.1 m_002f0ab6) (hts _ m_4534b440) hB hR hS hA (fun vv h15 H locs hq hEh15 hR hS => ?_) (fun XX ax h15 H locs hq hEh15 hex hR hS => ?_)
            · obtain ⟨r16, rfl, hw⟩ := hq
              have hw := hw hEh15
              have hE := hE.tr hEh15
              refine W.eq (g2 := F0 m 54 ls [.int r16]) rfl ?_
              exact xb_iret hx hb hr hlocks (show (k + c17) ≤ MC by omega) (show (n + sc17) ≤ MS by omega) hE hR hS (xb_d D_World_lookUp 29 rfl) hw
            · exact False.elim hq
        · exact False.elim hq
    · exact False.elim hq
  · exact False.elim hq

