theorem m_07685ecd : (.methodLink "StackHost$World" 303 y_World_writeElements : Cond) ∈ xt_tbl := xt_in (xt_t7 (List.mem_of_getElem? (i := 96) (by decide +kernel))) (by decide +kernel)
theorem m_0293b320 : (.instanceMethod y_World_writeElements : Cond) ∈ xt_tbl := xt_in (xt_t7 (List.mem_of_getElem? (i := 98) (by decide +kernel))) (by decide +kernel)
theorem m_c98dfaf5 : (.selects "StackHost$World" y_World_writeElements y_World_writeElements : Cond) ∈ xt_tbl := xt_in (xt_v5 (q := (⟨"StackHost$World", "writeElements", "(LStackHost$Instance;)V"⟩, 16)) (List.mem_of_getElem? (i := 15) (by decide +kernel))) (by decide +kernel)
theorem m_422a9df8 : (.code y_World_writeElements b_World_writeElements 8 none : Cond) ∈ xt_tbl := xt_in (xt_t7 (List.mem_of_getElem? (i := 99) (by decide +kernel))) (by decide +kernel)
theorem m_f5717f0b : (.methodLink "StackHost$World" 307 y_World_writeData : Cond) ∈ xt_tbl := xt_in (xt_t7 (List.mem_of_getElem? (i := 100) (by decide +kernel))) (by decide +kernel)
theorem m_ce6b1279 : (.instanceMethod y_World_writeData : Cond) ∈ xt_tbl := xt_in (xt_t7 (List.mem_of_getElem? (i := 102) (by decide +kernel))) (by decide +kernel)
theorem m_6769c531 : (.selects "StackHost$World" y_World_writeData y_World_writeData : Cond) ∈ xt_tbl := xt_in (xt_v6 (q := (⟨"StackHost$World", "writeData", "(LStackHost$Instance;)V"⟩, 16)) (List.mem_of_getElem? (i := 0) (by decide +kernel))) (by decide +kernel)
theorem m_b5526fcc : (.code y_World_writeData b_World_writeData 7 none : Cond) ∈ xt_tbl := xt_in (xt_t7 (List.mem_of_getElem? (i := 103) (by decide +kernel))) (by decide +kernel)
theorem m_63e71238 : (.fieldLink "StackHost$World" 286 "StackHost$Instance" "number" "I" : Cond) ∈ xt_tbl := xt_in (xt_t7 (List.mem_of_getElem? (i := 3) (by decide +kernel))) (by decide +kernel)
theorem m_8de5d078 : (.classLink "StackHost$World" 220 "StackHost$Memory" : Cond) ∈ xt_tbl := xt_in (xt_t7 (List.mem_of_getElem? (i := 67) (by decide +kernel))) (by decide +kernel)
theorem m_d5228154 : (.instantiable "StackHost$Memory" 4 : Cond) ∈ xt_tbl := xt_in (xt_t7 (List.mem_of_getElem? (i := 68) (by decide +kernel))) (by decide +kernel)
theorem m_2e9ea890 : (.methodLink "StackHost$World" 296 y_Memory_init : Cond) ∈ xt_tbl := xt_in (xt_t7 (List.mem_of_getElem? (i := 69) (by decide +kernel))) (by decide +kernel)
theorem m_ef073bcf : (.instanceMethod y_Memory_init : Cond) ∈ xt_tbl := xt_in (xt_t7 (List.mem_of_getElem? (i := 70) (by decide +kernel))) (by decide +kernel)
theorem m_1227e7b8 : (.code y_Memory_init b_Memory_init 4 none : Cond) ∈ xt_tbl := xt_in (xt_t7 (List.mem_of_getElem? (i := 71) (by decide +kernel))) (by decide +kernel)
theorem m_d6721676 : (.methodLink "StackHost$World" 299 y_World_grow : Cond) ∈ xt_tbl := xt_in (xt_t7 (List.mem_of_getElem? (i := 91) (by decide +kernel))) (by decide +kernel)
theorem m_0e5a4c92 : (.classLink "StackHost$World" 203 "StackHost$Table" : Cond) ∈ xt_tbl := xt_in (xt_t7 (List.mem_of_getElem? (i := 44) (by decide +kernel))) (by decide +kernel)
theorem m_3682f7bb : (.instantiable "StackHost$Table" 3 : Cond) ∈ xt_tbl := xt_in (xt_t7 (List.mem_of_getElem? (i := 45) (by decide +kernel))) (by decide +kernel)
theorem m_aceab1b3 : (.initialized "StackHost$Table" : Cond) ∈ xt_tbl := xt_in (xt_t1 (List.mem_of_getElem? (i := 30) (by decide +kernel))) (by decide +kernel)
theorem m_53ba7b3a : (.methodLink "StackHost$World" 293 y_Table_init : Cond) ∈ xt_tbl := xt_in (xt_t7 (List.mem_of_getElem? (i := 46) (by decide +kernel))) (by decide +kernel)
theorem m_d6e213c9 : (.instanceMethod y_Table_init : Cond) ∈ xt_tbl := xt_in (xt_t7 (List.mem_of_getElem? (i := 47) (by decide +kernel))) (by decide +kernel)
theorem m_cdf0d32d : (.code y_Table_init b_Table_init 5 none : Cond) ∈ xt_tbl := xt_in (xt_t7 (List.mem_of_getElem? (i := 48) (by decide +kernel))) (by decide +kernel)
theorem m_542514b3 : (.instantiable "StackHost$Instance" 8 : Cond) ∈ xt_tbl := xt_in (xt_t6 (List.mem_of_getElem? (i := 234) (by decide +kernel))) (by decide +kernel)
theorem m_9684ee69 : (.methodLink "StackHost$World" 283 y_Instance_init : Cond) ∈ xt_tbl := xt_in (xt_t6 (List.mem_of_getElem? (i := 235) (by decide +kernel))) (by decide +kernel)
theorem m_fe0c4d66 : (.instanceMethod y_Instance_init : Cond) ∈ xt_tbl := xt_in (xt_t6 (List.mem_of_getElem? (i := 236) (by decide +kernel))) (by decide +kernel)
theorem m_0de684f8 : (.code y_Instance_init b_Instance_init 4 none : Cond) ∈ xt_tbl := xt_in (xt_t6 (List.mem_of_getElem? (i := 237) (by decide +kernel))) (by decide +kernel)
theorem nm_World_writeElements : xt_nm y_World_writeElements 1 := ⟨by decide +kernel, by decide +kernel⟩
theorem nm_World_writeData : xt_nm y_World_writeData 1 := ⟨by decide +kernel, by decide +kernel⟩
theorem nm_Memory_init : xt_nm y_Memory_init 2 := ⟨by decide +kernel, by decide +kernel⟩
theorem nm_Table_init : xt_nm y_Table_init 3 := ⟨by decide +kernel, by decide +kernel⟩
theorem nm_Instance_init : xt_nm y_Instance_init 3 := ⟨by decide +kernel, by decide +kernel⟩
set_option maxRecDepth 100000 in
def T_World_make : List (Nat × Instr × Nat) := [(0, .new 9, 3), (3, .dup, 1), (4, .aload_n 0, 1), (5, .getfield 243, 3), (8, .aload_n 1, 1), (9, .aload_n 0, 1), (10, .invokespecial 283, 3), (13, .astore_n 2, 1), (14, .aload_n 0, 1), (15, .getfield 11, 3), (18, .aload_n 0, 1), (19, .getfield 243, 3), (22, .aload_n 2, 1), (23, .aastore, 1), (24, .aload_n 0, 1), (25, .dup, 1), (26, .getfield 243, 3), (29, .iconst 1, 1), (30, .iadd, 1), (31, .putfield 243, 3), (34, .aload_n 0, 1), (35, .getfield 22, 3), (38, .aload_n 1, 1), (39, .getfield 246, 3), (42, .invokevirtual 75, 3), (45, .aload_n 1, 1), (46, .getfield 239, 3), (49, .iconst 0, 1), (50, .iaload, 1), (51, .isub, 1), (52, .aload_n 2, 1), (53, .getfield 286, 3), (56, .i2l, 1), (57, .invokevirtual 289, 3), (60, .aload_n 1, 1), (61, .getfield 239, 3), (64, .iconst 3, 1), (65, .iaload, 1), (66, .istore_n 3, 1), (67, .iload_n 3, 1), (68, .aload_n 1, 1), (69, .getfield 238, 3), (72, .invokevirtual 75, 3), (75, .if_icmp .ge 30, 3), (78, .aload_n 0, 1), (79, .getfield 26, 3), (82, .aload_n 0, 1), (83, .aload_n 1, 1), (84, .aload_n 1, 1), (85, .getfield 238, 3), (88, .iload_n 3, 1), (89, .iconst 3, 1), (90, .invokevirtual 51, 3), (93, .invokevirtual 268, 3), (96, .invokevirtual 71, 3), (99, .iinc 3 1, 3), (102, .goto (-35), 3), (105, .aload_n 1, 1), (106, .getfield 199, 3), (109, .invokevirtual 75, 3), (112, .aload_n 1, 1), (113, .getfield 239, 3), (116, .iconst 1, 1), (117, .iaload, 1), (118, .if_icmp .le 53, 3), (121, .aload_n 1, 1), (122, .aload_n 1, 1), (123, .getfield 199, 3), (126, .iconst 1, 1), (127, .invokestatic 249, 3), (130, .l2i, 1), (131, .istore_n 3, 1), (132, .aload_n 2, 1), (133, .new 203, 3), (136, .dup, 1), (137, .aload_n 0, 1), (138, .getfield 29, 3), (141, .getfield 91, 3), (144, .iload_n 3, 1), (145, .aload_n 1, 1), (146, .getfield 199, 3), (149, .iconst 0, 1), (150, .iconst 2, 1), (151, .invokevirtual 232, 3), (154, .invokespecial 293, 3), (157, .putfield 196, 3), (160, .aload_n 0, 1), (161, .getfield 29, 3), (164, .iload_n 3, 1), (165, .ldc2_w 236, 3), (168, .invokevirtual 289, 3), (171, .aload_n 1, 1), (172, .getfield 216, 3), (175, .invokevirtual 75, 3), (178, .aload_n 1, 1), (179, .getfield 239, 3), (182, .iconst 2, 1), (183, .iaload, 1), (184, .if_icmp .le 45, 3), (187, .aload_n 2, 1), (188, .new 220, 3), (191, .dup, 1), (192, .aload_n 0, 1), (193, .getfield 32, 3), (196, .aload_n 1, 1), (197, .getfield 216, 3), (200, .iconst 0, 1), (201, .iconst 2, 1), (202, .invokevirtual 232, 3), (205, .invokespecial 296, 3), (208, .putfield 213, 3), (211, .aload_n 0, 1), (212, .aload_n 2, 1), (213, .getfield 213, 3), (216, .aload_n 1, 1), (217, .aload_n 1, 1), (218, .getfield 216, 3), (221, .iconst 2, 1), (222, .invokestatic 249, 3), (225, .invokevirtual 299, 3), (228, .pop, 1), (229, .aload_n 0, 1), (230, .aload_n 2, 1), (231, .invokevirtual 303, 3), (234, .aload_n 0, 1), (235, .aload_n 2, 1), (236, .invokevirtual 307, 3), (239, .aload_n 2, 1), (240, .getfield 286, 3), (243, .ireturn, 1)]
theorem D_World_make : ∀ q ∈ T_World_make, decode b_World_make q.1 = .ok (q.2.1, q.2.2) := by decide +kernel
def w_World_make_L229 (Qr : Int32 → xb_H → Prop) (x0 : Nat) (x2 : Nat) (h : xb_H) (bc : Nat) (bs : Nat) : Prop :=
    xb_k h x0 = 7 ∧ w_World_writeElements x0 x2 h (fun (h2 : xb_H) => xb_ext h h2 → w_World_writeData x0 x2 h2 (fun (h4 : xb_H) => xb_ext h2 h4 → xb_k h4 x2 = 11 ∧ Qr (xb_i h4 x2 0) h4))

def w_World_make_L171 (Qr : Int32 → xb_H → Prop) (x0 : Nat) (x1 : Nat) (x2 : Nat) (h : xb_H) (bc : Nat) (bs : Nat) : Prop :=
    xb_k h x1 = 3 ∧ ∃ b2 : Nat, (xb_r h x1 6) = some b2 ∧ xb_k h b2 = 2 ∧ w_Row_lines b2 h (fun (r5 : Int32) (h4 : xb_H) => xb_ext h h4 → ∃ b6 : Nat, (xb_r h4 x1 14) = some b6 ∧ xb_k h4 b6 = 102 ∧ vp_in 2 (xb_n h4 b6) ∧ ((r5 ≤ (xb_i h4 b6 2) → w_World_make_L229 Qr x0 x2 h4 bc bs) ∧ (¬ r5 ≤ (xb_i h4 b6 2) → 1 ≤ bc ∧ 4 ≤ bs ∧ ∀ q10 : Nat, xb_k h4 q10 = 0 → ∀ h11 : xb_H, h11 = xb_new h4 q10 13 0 → xb_k h11 x0 = 7 ∧ ∃ b14 : Nat, (xb_r h11 x0 5) = some b14 ∧ ∃ b15 : Nat, (xb_r h11 x1 6) = some b15 ∧ xb_k h11 b15 = 2 ∧ w_Row_longAt b15 0 2 h11 (fun (r18 : Int64) (h17 : xb_H) => xb_ext h11 h17 → ∃ c21 sc21 : Nat, c21 ≤ (bc - 1) ∧ sc21 ≤ (bs - 4) ∧ w_Memory_init q10 b14 r18 h17 c21 sc21 (fun (h19 : xb_H) => xb_ext h17 h19 → xb_k h19 x2 = 11 ∧ ∀ h23 : xb_H, h23 = xb_P h19 x2 7 (some q10) → ∃ b24 : Nat, (xb_r h23 x2 7) = some b24 ∧ ∃ b25 : Nat, (xb_r h23 x1 6) = some b25 ∧ w_World_ownLeast x1 b25 2 h23 (fun (r27 : Int64) (h26 : xb_H) => xb_ext h23 h26 → ∃ c30 sc30 : Nat, c30 ≤ ((bc - 1) - c21) ∧ sc30 ≤ ((bs - 4) - sc21) ∧ w_World_grow x0 b24 r27 h26 c30 sc30 (fun (r29 : Int32) (h28 : xb_H) => xb_ext h26 h28 → w_World_make_L229 Qr x0 x2 h28 (((bc - 1) - c21) - c30) (((bs - 4) - sc21) - sc30))))))))

def w_World_make_L67 (Qr : Int32 → xb_H → Prop) : Nat → Nat → Nat → Nat → Int32 → xb_H → Nat → Nat → Prop
  | 0, _, _, _, _, _, _, _ => False
  | n9 + 1, x0, x1, x2, x3, h, bc, bs =>
    xb_k h x1 = 3 ∧ ∃ b2 : Nat, (xb_r h x1 7) = some b2 ∧ xb_k h b2 = 2 ∧ w_Row_lines b2 h (fun (r5 : Int32) (h4 : xb_H) => xb_ext h h4 → ((r5 ≤ x3 → ∃ b7 : Nat, (xb_r h4 x1 5) = some b7 ∧ xb_k h4 b7 = 2 ∧ w_Row_lines b7 h4 (fun (r10 : Int32) (h9 : xb_H) => xb_ext h4 h9 → ∃ b11 : Nat, (xb_r h9 x1 14) = some b11 ∧ xb_k h9 b11 = 102 ∧ vp_in 1 (xb_n h9 b11) ∧ ((r10 ≤ (xb_i h9 b11 1) → w_World_make_L171 Qr x0 x1 x2 h9 bc bs) ∧ (¬ r10 ≤ (xb_i h9 b11 1) → ∃ b15 : Nat, (xb_r h9 x1 5) = some b15 ∧ w_World_ownLeast x1 b15 1 h9 (fun (r17 : Int64) (h16 : xb_H) => xb_ext h9 h16 → ∀ v18 : Int32, v18 = (Int64.toInt32 r17) → 1 ≤ bc ∧ 3 ≤ bs ∧ ∀ q19 : Nat, xb_k h16 q19 = 0 → ∀ h20 : xb_H, h20 = xb_new h16 q19 12 0 → xb_k h20 x0 = 7 ∧ ∃ b23 : Nat, (xb_r h20 x0 4) = some b23 ∧ xb_k h20 b23 = 2 ∧ ∃ b25 : Nat, (xb_r h20 x1 5) = some b25 ∧ xb_k h20 b25 = 2 ∧ w_Row_longAt b25 0 2 h20 (fun (r28 : Int64) (h27 : xb_H) => xb_ext h20 h27 → w_Table_init q19 (xb_i h20 b23 1) v18 r28 h27 (fun (h29 : xb_H) => xb_ext h27 h29 → xb_k h29 x2 = 11 ∧ ∀ h32 : xb_H, h32 = xb_P h29 x2 6 (some q19) → ∃ b33 : Nat, (xb_r h32 x0 4) = some b33 ∧ xb_k h32 b33 = 2 ∧ ∃ c37 sc37 : Nat, c37 ≤ (bc - 1) ∧ sc37 ≤ (bs - 3) ∧ w_Row_addMany b33 v18 (-1) h32 c37 sc37 (fun (h35 : xb_H) => xb_ext h32 h35 → w_World_make_L171 Qr x0 x1 x2 h35 ((bc - 1) - c37) ((bs - 3) - sc37))))))))) ∧ (¬ r5 ≤ x3 → xb_k h4 x0 = 7 ∧ ∃ b39 : Nat, (xb_r h4 x0 3) = some b39 ∧ ∃ b40 : Nat, (xb_r h4 x1 7) = some b40 ∧ xb_k h4 b40 = 2 ∧ w_Row_at b40 x3 3 h4 (fun (r43 : Int32) (h42 : xb_H) => xb_ext h4 h42 → w_World_valueOf x0 x1 r43 h42 (fun (r45 : Int64) (h44 : xb_H) => xb_ext h42 h44 → xb_k h44 b39 = 2 ∧ ∃ c49 sc49 : Nat, c49 ≤ bc ∧ sc49 ≤ bs ∧ w_Row_add b39 r45 h44 c49 sc49 (fun (h47 : xb_H) => xb_ext h44 h47 → w_World_make_L67 Qr n9 x0 x1 x2 (x3 + 1) h47 (bc - c49) (bs - sc49)))))))

def w_World_make (x0 : Nat) (x1 : Nat) (h : xb_H) (bc : Nat) (bs : Nat) (Qr : Int32 → xb_H → Prop) : Prop :=
    1 ≤ bc ∧ 8 ≤ bs ∧ ∀ q1 : Nat, xb_k h q1 = 0 → ∀ h2 : xb_H, h2 = xb_new h q1 11 0 → xb_k h2 x0 = 7 ∧ ∃ c7 sc7 : Nat, c7 ≤ (bc - 1) ∧ sc7 ≤ (bs - 8) ∧ w_Instance_init q1 (xb_i h2 x0 1) x1 x0 h2 c7 sc7 (fun (h5 : xb_H) => xb_ext h2 h5 → ∃ b8 : Nat, (xb_r h5 x0 0) = some b8 ∧ xb_k h5 b8 = 105 ∧ vp_in (xb_i h5 x0 1) (xb_n h5 b8) ∧ ∀ h11 : xb_H, h11 = xb_P h5 b8 (Int32.toNatClampNeg (xb_i h5 x0 1)) (some q1) → ∀ h12 : xb_H, h12 = xb_I h11 x0 1 ((xb_i h11 x0 1) + 1) → ∃ b13 : Nat, (xb_r h12 x0 2) = some b13 ∧ xb_k h12 x1 = 3 ∧ ∃ b15 : Nat, (xb_r h12 x1 4) = some b15 ∧ xb_k h12 b15 = 2 ∧ w_Row_lines b15 h12 (fun (r18 : Int32) (h17 : xb_H) => xb_ext h12 h17 → ∃ b19 : Nat, (xb_r h17 x1 14) = some b19 ∧ xb_k h17 b19 = 102 ∧ vp_in 0 (xb_n h17 b19) ∧ xb_k h17 b13 = 2 ∧ ∃ c25 sc25 : Nat, c25 ≤ ((bc - 1) - c7) ∧ sc25 ≤ ((bs - 8) - sc7) ∧ w_Row_addMany b13 (r18 - (xb_i h17 b19 0)) (Int32.toInt64 (xb_i h17 q1 0)) h17 c25 sc25 (fun (h23 : xb_H) => xb_ext h17 h23 → ∃ b26 : Nat, (xb_r h23 x1 14) = some b26 ∧ xb_k h23 b26 = 102 ∧ vp_in 3 (xb_n h23 b26) ∧ ∀ v29 : Int32, v29 = (xb_i h23 b26 3) → (∃ n8 : Nat, w_World_make_L67 Qr n8 x0 x1 q1 v29 h23 (((bc - 1) - c7) - c25) (((bs - 8) - sc7) - sc25)))))

set_option maxHeartbeats 4000000 in
set_option maxRecDepth 100000 in
theorem am_World_make_L229 (l : Launch) (hfl : l.flags = pinnedFlags ++ [noTraceFlag]) (D : va_G) (A : Nat → Prop) (σ MC MS : Nat) (h0 : xb_H) (Qr : Int32 → xb_H → Prop) (x0 : Nat) (x2 : Nat) (h : xb_H) (bc : Nat) (bs : Nat) (hw : w_World_make_L229 Qr x0 x2 h bc bs) : xb_am l D A σ 6 MC MS h0 (fun v h => ∃ r, v = some (.int r) ∧ Qr r h) (fun _ _ => False) y_World_make.cls y_World_make.name b_World_make 4 ([] : List ExceptionTableEntry) (some .int) 229 [(0, .ref x0), (2, .ref x2)] [] h bc bs := by
  unfold w_World_make_L229 at hw
  intro p e s m args below meth c hC H locs ls k n hE hl hR hS hk hn
  obtain ⟨hx, hb, hown, hlocks, htab, hml, hr, hB, hA, hnm⟩ := id hC
  have hts := hB.1.1.at args
  refine lv_aload_n hx hb (xb_d D_World_make 121 rfl) rfl (lv_at hl 0 rfl) ?_
  refine lv_aload_n hx hb (xb_d D_World_make 122 rfl) rfl (lv_at hl 1 rfl) ?_
  obtain ⟨hk1, hw⟩ := hw
  refine xb_call (D := D) (A := A) (σ := σ) (h := h) (d := 5) (mc := 0) (ms := 0) (maxL := 8) (rest := []) (av := [.ref x0, .ref x2]) (fun T hT X => by obtain ⟨cb, r1, r2, r3⟩ := xb_recv (ci := 6) hR rfl hk1 (by decide); exact xt_invV X hx hown (hts _ m_07685ecd) (hts _ m_0293b320) (hts _ m_c98dfaf5) (xt_sigOf (hts _ m_422a9df8)) nm_World_writeElements (by rw [hT]; exact r1) r2 r3 (g := F0 m 231 ls [.ref x2, .ref x0]) rfl (argsL := [.ref x2]) (rest := []) rfl rfl (by rw [hb]; exact (xb_d D_World_make 123 rfl))) (ok_World_writeElements l hfl D A σ x0 x2 h _ hw) (hml.trans hl.1.symm) (by rw [hb]; exact (xb_d D_World_make 123 rfl)) (Nat.le_of_ble_eq_true rfl) (Nat.le_of_ble_eq_true rfl) (Nat.le_of_ble_eq_true rfl) (show k + 0 ≤ MC by omega) (show n + 0 ≤ MS by omega) (xt_w1 hB.1 m_422a9df8) (xt_cdOf hB.1 m_422a9df8) (hts _ m_4534b440) hB hR hS hA (fun vv h2 H locs hq hEh2 hR hS => ?_) (fun XX ax h2 H locs hq hEh2 hex hR hS => ?_)
  · obtain ⟨rfl, hw⟩ := hq
    have hw := hw hEh2
    have hE := hE.tr hEh2
    refine W.eq (g2 := F0 m 234 ls []) rfl ?_
    refine lv_aload_n hx hb (xb_d D_World_make 124 rfl) rfl (lv_at hl 0 rfl) ?_
    refine lv_aload_n hx hb (xb_d D_World_make 125 rfl) rfl (lv_at hl 1 rfl) ?_
    have hk1 : xb_k h2 x0 = 7 := hEh2.k hk1
    refine xb_call (D := D) (A := A) (σ := σ) (h := h2) (d := 5) (mc := 0) (ms := 0) (maxL := 7) (rest := []) (av := [.ref x0, .ref x2]) (fun T hT X => by obtain ⟨cb, r1, r2, r3⟩ := xb_recv (ci := 6) hR rfl hk1 (by decide); exact xt_invV X hx hown (hts _ m_f5717f0b) (hts _ m_ce6b1279) (hts _ m_6769c531) (xt_sigOf (hts _ m_b5526fcc)) nm_World_writeData (by rw [hT]; exact r1) r2 r3 (g := F0 m 236 ls [.ref x2, .ref x0]) rfl (argsL := [.ref x2]) (rest := []) rfl rfl (by rw [hb]; exact (xb_d D_World_make 126 rfl))) (ok_World_writeData l hfl D A σ x0 x2 h2 _ hw) (hml.trans hl.1.symm) (by rw [hb]; exact (xb_d D_World_make 126 rfl)) (Nat.le_of_ble_eq_true rfl) (Nat.le_of_ble_eq_true rfl) (Nat.le_of_ble_eq_true rfl) (show k + 0 ≤ MC by omega) (show n + 0 ≤ MS by omega) (xt_w1 hB.1 m_b5526fcc) (xt_cdOf hB.1 m_b5526fcc) (hts _ m_4534b440) hB hR hS hA (fun vv h4 H locs hq hEh4 hR hS => ?_) (fun XX ax h4 H locs hq hEh4 hex hR hS => ?_)
    · obtain ⟨rfl, hw⟩ := hq
      have hw := hw hEh4
      have hE := hE.tr hEh4
      refine W.eq (g2 := F0 m 239 ls []) rfl ?_
      refine lv_aload_n hx hb (xb_d D_World_make 127 rfl) rfl (lv_at hl 1 rfl) ?_
      obtain ⟨hk6, hw⟩ := hw
      refine xb_getI (C := R_Instance) (T := F_Instance) (N := 8) hx hb 10 0 hts fin_Instance hown hR hk6 (by decide) rfl (by decide) rfl (hts _ m_63e71238) (fun _ h9 => h9) (xb_d D_World_make 128 rfl) ?_
      exact xb_iret hx hb hr hlocks (show k ≤ MC by omega) (show n ≤ MS by omega) hE hR hS (xb_d D_World_make 129 rfl) hw
    · exact False.elim hq
  · exact False.elim hq

set_option maxHeartbeats 4000000 in
set_option maxRecDepth 100000 in
theorem am_World_make_L171 (l : Launch) (hfl : l.flags = pinnedFlags ++ [noTraceFlag]) (D : va_G) (A : Nat → Prop) (σ MC MS : Nat) (h0 : xb_H) (Qr : Int32 → xb_H → Prop) (x0 : Nat) (x1 : Nat) (x2 : Nat) (h : xb_H) (bc : Nat) (bs : Nat) (hw : w_World_make_L171 Qr x0 x1 x2 h bc bs) : xb_am l D A σ 6 MC MS h0 (fun v h => ∃ r, v = some (.int r) ∧ Qr r h) (fun _ _ => False) y_World_make.cls y_World_make.name b_World_make 4 ([] : List ExceptionTableEntry) (some .int) 171 [(0, .ref x0), (1, .ref x1), (2, .ref x2)] [] h bc bs := by
  unfold w_World_make_L171 at hw
  intro p e s m args below meth c hC H locs ls k n hE hl hR hS hk hn
  obtain ⟨hx, hb, hown, hlocks, htab, hml, hr, hB, hA, hnm⟩ := id hC
  have hts := hB.1.1.at args
  refine lv_aload_n hx hb (xb_d D_World_make 91 rfl) rfl (lv_at hl 1 rfl) ?_
  obtain ⟨hk1, hw⟩ := hw
  refine xb_getP (C := R_StackModule) (T := F_StackModule) (N := 19) hx hb 2 6 hts fin_StackModule hown hR hk1 (by decide) rfl (by decide) rfl (hts _ m_b7b853d9) (fun _ h9 => h9) (xb_d D_World_make 92 rfl) ?_
  obtain ⟨b2, eb2, hw⟩ := hw
  refine xb_some eb2 ?_
  obtain ⟨hk3, hw⟩ := hw
  refine xb_call (D := D) (A := A) (σ := σ) (h := h) (d := 2) (mc := 0) (ms := 0) (maxL := 1) (rest := []) (av := [.ref b2]) (fun T hT X => by obtain ⟨cb, r1, r2, r3⟩ := xb_recv (ci := 1) hR rfl hk3 (by decide); exact xt_invV X hx hown (hts _ m_5b8308b9) (hts _ m_ded65609) (hts _ m_a4161156) (xt_sigOf (hts _ m_83ba3721)) nm_Row_lines (by rw [hT]; exact r1) r2 r3 (g := F0 m 175 ls [.ref b2]) rfl (argsL := []) (rest := []) rfl rfl (by rw [hb]; exact (xb_d D_World_make 93 rfl))) (ok_Row_lines l hfl D A σ b2 h _ hw) (hml.trans hl.1.symm) (by rw [hb]; exact (xb_d D_World_make 93 rfl)) (Nat.le_of_ble_eq_true rfl) (Nat.le_of_ble_eq_true rfl) (Nat.le_of_ble_eq_true rfl) (show k + 0 ≤ MC by omega) (show n + 0 ≤ MS by omega) (xt_w1 hB.1 m_83ba3721) (xt_cdOf hB.1 m_83ba3721) (hts _ m_c1bef504) hB hR hS hA (fun vv h4 H locs hq hEh4 hR hS => ?_) (fun XX ax h4 H locs hq hEh4 hex hR hS => ?_)
  · obtain ⟨r5, rfl, hw⟩ := hq
    have hw := hw hEh4
    have hE := hE.tr hEh4
    refine W.eq (g2 := F0 m 178 ls [.int r5]) rfl ?_
    refine lv_aload_n hx hb (xb_d D_World_make 94 rfl) rfl (lv_at hl 1 rfl) ?_
    have hk1 : xb_k h4 x1 = 3 := hEh4.k hk1
    refine xb_getP (C := R_StackModule) (T := F_StackModule) (N := 19) hx hb 2 14 hts fin_StackModule hown hR hk1 (by decide) rfl (by decide) rfl (hts _ m_64a182b7) (fun _ h9 => h9) (xb_d D_World_make 95 rfl) ?_
    obtain ⟨b6, eb6, hw⟩ := hw
    refine xb_some eb6 ?_
    refine lv_iconst (v := 2) hx hb (xb_d D_World_make 96 rfl) (by decide) ?_
    obtain ⟨hk8, hw⟩ := hw
    obtain ⟨hi7, hw⟩ := hw
    refine xb_iald hx hb hR hk8 hi7 (xb_d D_World_make 97 rfl) ?_
    refine xt_numi (y := (xb_i h4 b6 2)) (congrArg (xb_i h4 b6) (by decide : (2 : Int32).toNatClampNeg = 2)) ?_
    refine lv_icmp_le (tgt := 229) hx hb (xb_d D_World_make 98 rfl) rfl (fun hc9 => ?_) (fun hc9 => ?_)
    · have hw := hw.1 hc9
      exact am_World_make_L229 l hfl D A σ MC MS h0 Qr x0 x2 h4 bc bs hw p e s m args below meth c hC H locs ls k n hE (lv_sub hl [0, 2] rfl) hR hS (by omega) (by omega)
    · have hw := hw.2 hc9
      refine lv_aload_n hx hb (xb_d D_World_make 99 rfl) rfl (lv_at hl 2 rfl) ?_
      obtain ⟨hcq10, hsq10, hw⟩ := hw
      refine xb_newo (C := R_Memory) (T := F_Memory) (N := 4) hx hb 12 hts fin_Memory t_Memory t_Memory_ok hown (hts _ m_8de5d078) (hts _ m_d5228154) (hts _ m_e7289b5f) hR hS hA (by decide) rfl dg_Memory (show k + 1 ≤ MC by omega) (show n + 4 ≤ MS by omega) (xb_d D_World_make 100 rfl) (fun q10 H hqq10 hR hS => ?_)
      have hw := hw q10 hqq10
      obtain ⟨h11, eh11⟩ : ∃ x : xb_H, x = xb_new h4 q10 13 0 := ⟨_, rfl⟩
      rw [← eh11] at hR
      have hw := hw h11 eh11
      have hE : xb_ext h0 h11 := by rw [eh11]; exact hE.new _ _ hqq10
      have hk12 : xb_k h11 q10 = 13 := by rw [eh11]; exact xb_new_k _ _ _ _
      refine lv_dup hx hb (xb_d D_World_make 101 rfl) rfl ?_
      refine lv_aload_n hx hb (xb_d D_World_make 102 rfl) rfl (lv_at hl 0 rfl) ?_
      obtain ⟨hk13, hw⟩ := hw
      refine xb_getP (C := R_World) (T := F_World) (N := 16) hx hb 6 5 hts fin_World hown hR hk13 (by decide) rfl (by decide) rfl (hts _ m_fb5d2326) (fun _ h9 => h9) (xb_d D_World_make 103 rfl) ?_
      obtain ⟨b14, eb14, hw⟩ := hw
      refine xb_some eb14 ?_
      refine lv_aload_n hx hb (xb_d D_World_make 104 rfl) rfl (lv_at hl 1 rfl) ?_
      have hk1 : xb_k h11 x1 = 3 := by rw [eh11]; exact xb_nk hqq10 hk1
      refine xb_getP (C := R_StackModule) (T := F_StackModule) (N := 19) hx hb 2 6 hts fin_StackModule hown hR hk1 (by decide) rfl (by decide) rfl (hts _ m_b7b853d9) (fun _ h9 => h9) (xb_d D_World_make 105 rfl) ?_
      obtain ⟨b15, eb15, hw⟩ := hw
      refine xb_some eb15 ?_
      refine lv_iconst (v := 0) hx hb (xb_d D_World_make 106 rfl) (by decide) ?_
      refine lv_iconst (v := 2) hx hb (xb_d D_World_make 107 rfl) (by decide) ?_
      obtain ⟨hk16, hw⟩ := hw
      refine xb_call (D := D) (A := A) (σ := σ) (h := h11) (d := 2) (mc := 0) (ms := 0) (maxL := 3) (rest := [.ref b14, .ref q10, .ref q10, .ref x2]) (av := [.ref b15, .int 0, .int 2]) (fun T hT X => by obtain ⟨cb, r1, r2, r3⟩ := xb_recv (ci := 1) hR rfl hk16 (by decide); exact xt_invV X hx hown (hts _ m_25314627) (hts _ m_8db3b24f) (hts _ m_78dc30a4) (xt_sigOf (hts _ m_a4177401)) nm_Row_longAt (by rw [hT]; exact r1) r2 r3 (g := F0 m 202 ls [.int 2, .int 0, .ref b15, .ref b14, .ref q10, .ref q10, .ref x2]) rfl (argsL := [.int 0, .int 2]) (rest := [.ref b14, .ref q10, .ref q10, .ref x2]) rfl rfl (by rw [hb]; exact (xb_d D_World_make 108 rfl))) (ok_Row_longAt l hfl D A σ b15 0 2 h11 _ hw) (hml.trans hl.1.symm) (by rw [hb]; exact (xb_d D_World_make 108 rfl)) (Nat.le_of_ble_eq_true rfl) (Nat.le_of_ble_eq_true rfl) (Nat.le_of_ble_eq_true rfl) (show (k + 1) + 0 ≤ MC by omega) (show (n + 4) + 0 ≤ MS by omega) (xt_w1 hB.1 m_a4177401) (xt_cdOf hB.1 m_a4177401) (hts _ m_c1bef504) hB hR hS hA (fun vv h17 H locs hq hEh17 hR hS => ?_) (fun XX ax h17 H locs hq hEh17 hex hR hS => ?_)
      · obtain ⟨r18, rfl, hw⟩ := hq
        have hw := hw hEh17
        have hE := hE.tr hEh17
        refine W.eq (g2 := F0 m 205 ls [.long r18, .ref b14, .ref q10, .ref q10, .ref x2]) rfl ?_
        obtain ⟨c21, sc21, hlc21, hlsc21, hw⟩ := hw
        refine xb_call (D := D) (A := A) (σ := σ) (h := h17) (d := 2) (mc := c21) (ms := sc21) (maxL := 4) (rest := [.ref q10, .ref x2]) (av := [.ref q10, .ref b14, .long r18]) (fun T hT X => xt_invI X hx hown rfl (hts _ m_2e9ea890) (hts _ m_ef073bcf) (hts _ m_1227e7b8) nm_Memory_init (g := F0 m 205 ls [.long r18, .ref b14, .ref q10, .ref q10, .ref x2]) rfl (b := q10) (argsL := [.ref b14, .long r18]) (rest := [.ref q10, .ref x2]) rfl rfl (by rw [hb]; exact (xb_d D_World_make 109 rfl))) (ok_Memory_init l hfl D A σ q10 b14 r18 h17 c21 sc21 _ hw) (hml.trans hl.1.symm) (by rw [hb]; exact (xb_d D_World_make 109 rfl)) (Nat.le_of_ble_eq_true rfl) (Nat.le_of_ble_eq_true rfl) (Nat.le_of_ble_eq_true rfl) (show (k + 1) + c21 ≤ MC by omega) (show (n + 4) + sc21 ≤ MS by omega) (xt_w1 hB.1 m_1227e7b8) (xt_cdOf hB.1 m_1227e7b8) (hts _ m_e7289b5f) hB hR hS hA (fun vv h19 H locs hq hEh19 hR hS => ?_) (fun XX ax h19 H locs hq hEh19 hex hR hS => ?_)
        · obtain ⟨rfl, hw⟩ := hq
          have hw := hw hEh19
          have hE := hE.tr hEh19
          refine W.eq (g2 := F0 m 208 ls [.ref q10, .ref x2]) rfl ?_
          obtain ⟨hk22, hw⟩ := hw
          refine xb_putP (C := R_Instance) (T := F_Instance) (N := 8) (ty := .object "StackHost$Memory") (x := (some q10)) hx hb 10 7 hts fin_Instance t_Instance t_Instance_ok n_Instance hown hR hS hk22 (by decide) rfl (by decide) rfl (hts _ m_1fb067e2) (fun _ h9 => h9) rfl (by decide +kernel) (xb_pnO _ _).1 (xb_pnO _ _).2 (xb_d D_World_make 110 rfl) (fun H locs hR hS => ?_)
          obtain ⟨h23, eh23⟩ : ∃ x : xb_H, x = xb_P h19 x2 7 (some q10) := ⟨_, rfl⟩
          rw [← eh23] at hR
          have hw := hw h23 eh23
          have hE : xb_ext h0 h23 := by rw [eh23]; exact hE
          refine lv_aload_n hx hb (xb_d D_World_make 111 rfl) rfl (lv_at hl 0 rfl) ?_
          refine lv_aload_n hx hb (xb_d D_World_make 112 rfl) rfl (lv_at hl 2 rfl) ?_
          have hk22 : xb_k h23 x2 = 11 := by rw [eh23]; exact hk22
          refine xb_getP (C := R_Instance) (T := F_Instance) (N := 8) hx hb 10 7 hts fin_Instance hown hR hk22 (by decide) rfl (by decide) rfl (hts _ m_1fb067e2) (fun _ h9 => h9) (xb_d D_World_make 113 rfl) ?_
          obtain ⟨b24, eb24, hw⟩ := hw
          refine xb_some eb24 ?_
          refine lv_aload_n hx hb (xb_d D_World_make 114 rfl) rfl (lv_at hl 1 rfl) ?_
          refine lv_aload_n hx hb (xb_d D_World_make 115 rfl) rfl (lv_at hl 1 rfl) ?_
          have hk1 : xb_k h17 x1 = 3 := hEh17.k hk1
          have hk1 : xb_k h19 x1 = 3 := hEh19.k hk1
          have hk1 : xb_k h23 x1 = 3 := by rw [eh23]; exact hk1
          refine xb_getP (C := R_StackModule) (T := F_StackModule) (N := 19) hx hb 2 6 hts fin_StackModule hown hR hk1 (by decide) rfl (by decide) rfl (hts _ m_b7b853d9) (fun _ h9 => h9) (xb_d D_World_make 116 rfl) ?_
          obtain ⟨b25, eb25, hw⟩ := hw
          refine xb_some eb25 ?_
          refine lv_iconst (v := 2) hx hb (xb_d D_World_make 117 rfl) (by decide) ?_
          refine xb_call (D := D) (A := A) (σ := σ) (h := h23) (d := 3) (mc := 0) (ms := 0) (maxL := 3) (rest := [.ref b24, .ref x0]) (av := [.ref x1, .ref b25, .int 2]) (fun T hT X => xt_invS X hx hown (hts _ m_aaaefe3c) (hts _ m_e4859522) (hts _ m_4534b440) (xt_sgS (hts _ m_c12fcdc9)).1 (xt_sgS (hts _ m_c12fcdc9)).2 nm_World_ownLeast (g := F0 m 222 ls [.int 2, .ref b25, .ref x1, .ref b24, .ref x0]) rfl (argsL := [.ref x1, .ref b25, .int 2]) (rest := [.ref b24, .ref x0]) rfl rfl (by rw [hb]; exact (xb_d D_World_make 118 rfl))) (ok_World_ownLeast l hfl D A σ x1 b25 2 h23 _ hw) (hml.trans hl.1.symm) (by rw [hb]; exact (xb_d D_World_make 118 rfl)) (Nat.le_of_ble_eq_true rfl) (Nat.le_of_ble_eq_true rfl) (Nat.le_of_ble_eq_true rfl) (show ((k + 1) + c21) + 0 ≤ MC by omega) (show ((n + 4) + sc21) + 0 ≤ MS by omega) (xt_w1 hB.1 m_c12fcdc9) (xt_cdOf hB.1 m_c12fcdc9) (hts _ m_4534b440) hB hR hS hA (fun vv h26 H locs hq hEh26 hR hS => ?_) (fun XX ax h26 H locs hq hEh26 hex hR hS => ?_)
          · obtain ⟨r27, rfl, hw⟩ := hq
            have hw := hw hEh26
            have hE := hE.tr hEh26
            refine W.eq (g2 := F0 m 225 ls [.long r27, .ref b24, .ref x0]) rfl ?_
            have hk13 : xb_k h17 x0 = 7 := hEh17.k hk13
            have hk13 : xb_k h19 x0 = 7 := hEh19.k hk13
            have hk13 : xb_k h23 x0 = 7 := by rw [eh23]; exact hk13
            have hk13 : xb_k h26 x0 = 7 := hEh26.k hk13
            obtain ⟨c30, sc30, hlc30, hlsc30, hw⟩ := hw
            refine xb_call (D := D) (A := A) (σ := σ) (h := h26) (d := 5) (mc := c30) (ms := sc30) (maxL := 8) (rest := []) (av := [.ref x0, .ref b24, .long r27]) (fun T hT X => by obtain ⟨cb, r1, r2, r3⟩ := xb_recv (ci := 6) hR rfl hk13 (by decide); exact xt_invV X hx hown (hts _ m_d6721676) (hts _ m_34bae24b) (hts _ m_04718ef1) (xt_sigOf (hts _ m_89170230)) nm_World_grow (by rw [hT]; exact r1) r2 r3 (g := F0 m 225 ls [.long r27, .ref b24, .ref x0]) rfl (argsL := [.ref b24, .long r27]) (rest := []) rfl rfl (by rw [hb]; exact (xb_d D_World_make 119 rfl))) (ok_World_grow l hfl D A σ x0 b24 r27 h26 c30 sc30 _ hw) (hml.trans hl.1.symm) (by rw [hb]; exact (xb_d D_World_make 119 rfl)) (Nat.le_of_ble_eq_true rfl) (Nat.le_of_ble_eq_true rfl) (Nat.le_of_ble_eq_true rfl) (show ((k + 1) + c21) + c30 ≤ MC by omega) (show ((n + 4) + sc21) + sc30 ≤ MS by omega) (xt_w1 hB.1 m_89170230) (xt_cdOf hB.1 m_89170230) (hts _ m_4534b440) hB hR hS hA (fun vv h28 H locs hq hEh28 hR hS => ?_) (fun XX ax h28 H locs hq hEh28 hex hR hS => ?_)
            · obtain ⟨r29, rfl, hw⟩ := hq
              have hw := hw hEh28
              have hE := hE.tr hEh28
              refine W.eq (g2 := F0 m 228 ls [.int r29]) rfl ?_
              refine lv_pop hx hb (xb_d D_World_make 120 rfl) rfl ?_
              exact am_World_make_L229 l hfl D A σ MC MS h0 Qr x0 x2 h28 (((bc - 1) - c21) - c30) (((bs - 4) - sc21) - sc30) hw p e s m args below meth c hC H locs ls (((k + 1) + c21) + c30) (((n + 4) + sc21) + sc30) hE (lv_sub hl [0, 2] rfl) hR hS (by omega) (by omega)
            · exact False.elim hq
          · exact False.elim hq
        · exact False.elim hq
      · exact False.elim hq
  · exact False.elim hq

set_option maxHeartbeats 4000000 in
set_option maxRecDepth 100000 in
theorem am_World_make_L67 (l : Launch) (hfl : l.flags = pinnedFlags ++ [noTraceFlag]) (D : va_G) (A : Nat → Prop) (σ MC MS : Nat) (h0 : xb_H) (Qr : Int32 → xb_H → Prop) (n9 : Nat) : ∀ (x0 : Nat) (x1 : Nat) (x2 : Nat) (x3 : Int32) (h : xb_H) (bc : Nat) (bs : Nat), w_World_make_L67 Qr n9 x0 x1 x2 x3 h bc bs → xb_am l D A σ 6 MC MS h0 (fun v h => ∃ r, v = some (.int r) ∧ Qr r h) (fun _ _ => False) y_World_make.cls y_World_make.name b_World_make 4 ([] : List ExceptionTableEntry) (some .int) 67 [(0, .ref x0), (1, .ref x1), (2, .ref x2), (3, .int x3)] [] h bc bs := by
  induction n9 with
  | zero => intro x0 x1 x2 x3 h bc bs hw; exact False.elim hw
  | succ n9 ih =>
    intro x0 x1 x2 x3 h bc bs hw
    unfold w_World_make_L67 at hw
    intro p e s m args below meth c hC H locs ls k n hE hl hR hS hk hn
    obtain ⟨hx, hb, hown, hlocks, htab, hml, hr, hB, hA, hnm⟩ := id hC
    have hts := hB.1.1.at args
    refine lv_iload_n hx hb (xb_d D_World_make 39 rfl) rfl (lv_at hl 3 rfl) ?_
    refine lv_aload_n hx hb (xb_d D_World_make 40 rfl) rfl (lv_at hl 1 rfl) ?_
    obtain ⟨hk1, hw⟩ := hw
    refine xb_getP (C := R_StackModule) (T := F_StackModule) (N := 19) hx hb 2 7 hts fin_StackModule hown hR hk1 (by decide) rfl (by decide) rfl (hts _ m_86aae10b) (fun _ h9 => h9) (xb_d D_World_make 41 rfl) ?_
    obtain ⟨b2, eb2, hw⟩ := hw
    refine xb_some eb2 ?_
    obtain ⟨hk3, hw⟩ := hw
    refine xb_call (D := D) (A := A) (σ := σ) (h := h) (d := 2) (mc := 0) (ms := 0) (maxL := 1) (rest := [.int x3]) (av := [.ref b2]) (fun T hT X => by obtain ⟨cb, r1, r2, r3⟩ := xb_recv (ci := 1) hR rfl hk3 (by decide); exact xt_invV X hx hown (hts _ m_5b8308b9) (hts _ m_ded65609) (hts _ m_a4161156) (xt_sigOf (hts _ m_83ba3721)) nm_Row_lines (by rw [hT]; exact r1) r2 r3 (g := F0 m 72 ls [.ref b2, .int x3]) rfl (argsL := []) (rest := [.int x3]) rfl rfl (by rw [hb]; exact (xb_d D_World_make 42 rfl))) (ok_Row_lines l hfl D A σ b2 h _ hw) (hml.trans hl.1.symm) (by rw [hb]; exact (xb_d D_World_make 42 rfl)) (Nat.le_of_ble_eq_true rfl) (Nat.le_of_ble_eq_true rfl) (Nat.le_of_ble_eq_true rfl) (show k + 0 ≤ MC by omega) (show n + 0 ≤ MS by omega) (xt_w1 hB.1 m_83ba3721) (xt_cdOf hB.1 m_83ba3721) (hts _ m_c1bef504) hB hR hS hA (fun vv h4 H locs hq hEh4 hR hS => ?_) (fun XX ax h4 H locs hq hEh4 hex hR hS => ?_)
    · obtain ⟨r5, rfl, hw⟩ := hq
      have hw := hw hEh4
      have hE := hE.tr hEh4
      refine W.eq (g2 := F0 m 75 ls [.int r5, .int x3]) rfl ?_
      refine lv_icmp_ge (tgt := 105) hx hb (xb_d D_World_make 43 rfl) rfl (fun hc6 => ?_) (fun hc6 => ?_)
      · have hw := hw.1 hc6
        refine lv_aload_n hx hb (xb_d D_World_make 57 rfl) rfl (lv_at hl 1 rfl) ?_
        have hk1 : xb_k h4 x1 = 3 := hEh4.k hk1
        refine xb_getP (C := R_StackModule) (T := F_StackModule) (N := 19) hx hb 2 5 hts fin_StackModule hown hR hk1 (by decide) rfl (by decide) rfl (hts _ m_dbd9d8fa) (fun _ h9 => h9) (xb_d D_World_make 58 rfl) ?_
        obtain ⟨b7, eb7, hw⟩ := hw
        refine xb_some eb7 ?_
        obtain ⟨hk8, hw⟩ := hw
        refine xb_call (D := D) (A := A) (σ := σ) (h := h4) (d := 2) (mc := 0) (ms := 0) (maxL := 1) (rest := []) (av := [.ref b7]) (fun T hT X => by obtain ⟨cb, r1, r2, r3⟩ := xb_recv (ci := 1) hR rfl hk8 (by decide); exact xt_invV X hx hown (hts _ m_5b8308b9) (hts _ m_ded65609) (hts _ m_a4161156) (xt_sigOf (hts _ m_83ba3721)) nm_Row_lines (by rw [hT]; exact r1) r2 r3 (g := F0 m 109 ls [.ref b7]) rfl (argsL := []) (rest := []) rfl rfl (by rw [hb]; exact (xb_d D_World_make 59 rfl))) (ok_Row_lines l hfl D A σ b7 h4 _ hw) (hml.trans hl.1.symm) (by rw [hb]; exact (xb_d D_World_make 59 rfl)) (Nat.le_of_ble_eq_true rfl) (Nat.le_of_ble_eq_true rfl) (Nat.le_of_ble_eq_true rfl) (show k + 0 ≤ MC by omega) (show n + 0 ≤ MS by omega) (xt_w1 hB.1 m_83ba3721) (xt_cdOf hB.1 m_83ba3721) (hts _ m_c1bef504) hB hR hS hA (fun vv h9 H locs hq hEh9 hR hS => ?_) (fun XX ax h9 H locs hq hEh9 hex hR hS => ?_)
        · obtain ⟨r10, rfl, hw⟩ := hq
          have hw := hw hEh9
          have hE := hE.tr hEh9
          refine W.eq (g2 := F0 m 112 ls [.int r10]) rfl ?_
          refine lv_aload_n hx hb (xb_d D_World_make 60 rfl) rfl (lv_at hl 1 rfl) ?_
          have hk1 : xb_k h9 x1 = 3 := hEh9.k hk1
          refine xb_getP (C := R_StackModule) (T := F_StackModule) (N := 19) hx hb 2 14 hts fin_StackModule hown hR hk1 (by decide) rfl (by decide) rfl (hts _ m_64a182b7) (fun _ h9 => h9) (xb_d D_World_make 61 rfl) ?_
          obtain ⟨b11, eb11, hw⟩ := hw
          refine xb_some eb11 ?_
          refine lv_iconst (v := 1) hx hb (xb_d D_World_make 62 rfl) (by decide) ?_
          obtain ⟨hk13, hw⟩ := hw
          obtain ⟨hi12, hw⟩ := hw
          refine xb_iald hx hb hR hk13 hi12 (xb_d D_World_make 63 rfl) ?_
          refine xt_numi (y := (xb_i h9 b11 1)) (congrArg (xb_i h9 b11) (by decide : (1 : Int32).toNatClampNeg = 1)) ?_
          refine lv_icmp_le (tgt := 171) hx hb (xb_d D_World_make 64 rfl) rfl (fun hc14 => ?_) (fun hc14 => ?_)
          · have hw := hw.1 hc14
            exact am_World_make_L171 l hfl D A σ MC MS h0 Qr x0 x1 x2 h9 bc bs hw p e s m args below meth c hC H locs ls k n hE (lv_sub hl [0, 1, 2] rfl) hR hS (by omega) (by omega)
          · have hw := hw.2 hc14
            refine lv_aload_n hx hb (xb_d D_World_make 65 rfl) rfl (lv_at hl 1 rfl) ?_
            refine lv_aload_n hx hb (xb_d D_World_make 66 rfl) rfl (lv_at hl 1 rfl) ?_
            refine xb_getP (C := R_StackModule) (T := F_StackModule) (N := 19) hx hb 2 5 hts fin_StackModule hown hR hk1 (by decide) rfl (by decide) rfl (hts _ m_dbd9d8fa) (fun _ h9 => h9) (xb_d D_World_make 67 rfl) ?_
            obtain ⟨b15, eb15, hw⟩ := hw
            refine xb_some eb15 ?_
            refine lv_iconst (v := 1) hx hb (xb_d D_World_make 68 rfl) (by decide) ?_
            refine xb_call (D := D) (A := A) (σ := σ) (h := h9) (d := 3) (mc := 0) (ms := 0) (maxL := 3) (rest := []) (av := [.ref x1, .ref b15, .int 1]) (fun T hT X => xt_invS X hx hown (hts _ m_aaaefe3c) (hts _ m_e4859522) (hts _ m_4534b440) (xt_sgS (hts _ m_c12fcdc9)).1 (xt_sgS (hts _ m_c12fcdc9)).2 nm_World_ownLeast (g := F0 m 127 ls [.int 1, .ref b15, .ref x1]) rfl (argsL := [.ref x1, .ref b15, .int 1]) (rest := []) rfl rfl (by rw [hb]; exact (xb_d D_World_make 69 rfl))) (ok_World_ownLeast l hfl D A σ x1 b15 1 h9 _ hw) (hml.trans hl.1.symm) (by rw [hb]; exact (xb_d D_World_make 69 rfl)) (Nat.le_of_ble_eq_true rfl) (Nat.le_of_ble_eq_true rfl) (Nat.le_of_ble_eq_true rfl) (show k + 0 ≤ MC by omega) (show n + 0 ≤ MS by omega) (xt_w1 hB.1 m_c12fcdc9) (xt_cdOf hB.1 m_c12fcdc9) (hts _ m_4534b440) hB hR hS hA (fun vv h16 H locs hq hEh16 hR hS => ?_) (fun XX ax h16 H locs hq hEh16 hex hR hS => ?_)
            · obtain ⟨r17, rfl, hw⟩ := hq
              have hw := hw hEh16
              have hE := hE.tr hEh16
              refine W.eq (g2 := F0 m 130 ls [.long r17]) rfl ?_
              refine lv_l2i hx hb (xb_d D_World_make 70 rfl) rfl ?_
              obtain ⟨v18, ev18⟩ : ∃ x : Int32, x = (Int64.toInt32 r17) := ⟨_, rfl⟩
              have hw := hw v18 ev18
              refine xt_numi (y := v18) ev18.symm ?_
              refine lv_istore_n hx hb (xb_d D_World_make 71 rfl) rfl hl (by decide) rfl (fun ls hl => ?_)
              have hl : lv_has ls 4 [(3, .int v18), (0, .ref x0), (1, .ref x1), (2, .ref x2)] := hl
              refine lv_aload_n hx hb (xb_d D_World_make 72 rfl) rfl (lv_at hl 3 rfl) ?_
              obtain ⟨hcq19, hsq19, hw⟩ := hw
              refine xb_newo (C := R_Table) (T := F_Table) (N := 3) hx hb 11 hts fin_Table t_Table t_Table_ok hown (hts _ m_0e5a4c92) (hts _ m_3682f7bb) (hts _ m_aceab1b3) hR hS hA (by decide) rfl dg_Table (show k + 1 ≤ MC by omega) (show n + 3 ≤ MS by omega) (xb_d D_World_make 73 rfl) (fun q19 H hqq19 hR hS => ?_)
              have hw := hw q19 hqq19
              obtain ⟨h20, eh20⟩ : ∃ x : xb_H, x = xb_new h16 q19 12 0 := ⟨_, rfl⟩
              rw [← eh20] at hR
              have hw := hw h20 eh20
              have hE : xb_ext h0 h20 := by rw [eh20]; exact hE.new _ _ hqq19
              have hk21 : xb_k h20 q19 = 12 := by rw [eh20]; exact xb_new_k _ _ _ _
              refine lv_dup hx hb (xb_d D_World_make 74 rfl) rfl ?_
              refine lv_aload_n hx hb (xb_d D_World_make 75 rfl) rfl (lv_at hl 1 rfl) ?_
              obtain ⟨hk22, hw⟩ := hw
              refine xb_getP (C := R_World) (T := F_World) (N := 16) hx hb 6 4 hts fin_World hown hR hk22 (by decide) rfl (by decide) rfl (hts _ m_1ef9f414) (fun _ h9 => h9) (xb_d D_World_make 76 rfl) ?_
              obtain ⟨b23, eb23, hw⟩ := hw
              refine xb_some eb23 ?_
              obtain ⟨hk24, hw⟩ := hw
              refine xb_getI (C := R_Row) (T := F_Row) (N := 3) hx hb 1 1 hts fin_Row hown hR hk24 (by decide) rfl (by decide) rfl (hts _ m_98336b3d) (fun _ h9 => h9) (xb_d D_World_make 77 rfl) ?_
              refine lv_iload_n hx hb (xb_d D_World_make 78 rfl) rfl (lv_at hl 0 rfl) ?_
              refine lv_aload_n hx hb (xb_d D_World_make 79 rfl) rfl (lv_at hl 2 rfl) ?_
              have hk1 : xb_k h16 x1 = 3 := hEh16.k hk1
              have hk1 : xb_k h20 x1 = 3 := by rw [eh20]; exact xb_nk hqq19 hk1
              refine xb_getP (C := R_StackModule) (T := F_StackModule) (N := 19) hx hb 2 5 hts fin_StackModule hown hR hk1 (by decide) rfl (by decide) rfl (hts _ m_dbd9d8fa) (fun _ h9 => h9) (xb_d D_World_make 80 rfl) ?_
              obtain ⟨b25, eb25, hw⟩ := hw
              refine xb_some eb25 ?_
              refine lv_iconst (v := 0) hx hb (xb_d D_World_make 81 rfl) (by decide) ?_
              refine lv_iconst (v := 2) hx hb (xb_d D_World_make 82 rfl) (by decide) ?_
              obtain ⟨hk26, hw⟩ := hw
              refine xb_call (D := D) (A := A) (σ := σ) (h := h20) (d := 2) (mc := 0) (ms := 0) (maxL := 3) (rest := [.int v18, .int (xb_i h20 b23 1), .ref q19, .ref q19, .ref x2]) (av := [.ref b25, .int 0, .int 2]) (fun T hT X => by obtain ⟨cb, r1, r2, r3⟩ := xb_recv (ci := 1) hR rfl hk26 (by decide); exact xt_invV X hx hown (hts _ m_25314627) (hts _ m_8db3b24f) (hts _ m_78dc30a4) (xt_sigOf (hts _ m_a4177401)) nm_Row_longAt (by rw [hT]; exact r1) r2 r3 (g := F0 m 151 ls [.int 2, .int 0, .ref b25, .int v18, .int (xb_i h20 b23 1), .ref q19, .ref q19, .ref x2]) rfl (argsL := [.int 0, .int 2]) (rest := [.int v18, .int (xb_i h20 b23 1), .ref q19, .ref q19, .ref x2]) rfl rfl (by rw [hb]; exact (xb_d D_World_make 83 rfl))) (ok_Row_longAt l hfl D A σ b25 0 2 h20 _ hw) (hml.trans hl.1.symm) (by rw [hb]; exact (xb_d D_World_make 83 rfl)) (Nat.le_of_ble_eq_true rfl) (Nat.le_of_ble_eq_true rfl) (Nat.le_of_ble_eq_true rfl) (show (k + 1) + 0 ≤ MC by omega) (show (n + 3) + 0 ≤ MS by omega) (xt_w1 hB.1 m_a4177401) (xt_cdOf hB.1 m_a4177401) (hts _ m_c1bef504) hB hR hS hA (fun vv h27 H locs hq hEh27 hR hS => ?_) (fun XX ax h27 H locs hq hEh27 hex hR hS => ?_)
              · obtain ⟨r28, rfl, hw⟩ := hq
                have hw := hw hEh27
                have hE := hE.tr hEh27
                refine W.eq (g2 := F0 m 154 ls [.long r28, .int v18, .int (xb_i h20 b23 1), .ref q19, .ref q19, .ref x2]) rfl ?_
                refine xb_call (D := D) (A := A) (σ := σ) (h := h27) (d := 2) (mc := 0) (ms := 0) (maxL := 5) (rest := [.ref q19, .ref x2]) (av := [.ref q19, .int (xb_i h20 b23 1), .int v18, .long r28]) (fun T hT X => xt_invI X hx hown rfl (hts _ m_53ba7b3a) (hts _ m_d6e213c9) (hts _ m_cdf0d32d) nm_Table_init (g := F0 m 154 ls [.long r28, .int v18, .int (xb_i h20 b23 1), .ref q19, .ref q19, .ref x2]) rfl (b := q19) (argsL := [.int (xb_i h20 b23 1), .int v18, .long r28]) (rest := [.ref q19, .ref x2]) rfl rfl (by rw [hb]; exact (xb_d D_World_make 84 rfl))) (ok_Table_init l hfl D A σ q19 (xb_i h20 b23 1) v18 r28 h27 _ hw) (hml.trans hl.1.symm) (by rw [hb]; exact (xb_d D_World_make 84 rfl)) (Nat.le_of_ble_eq_true rfl) (Nat.le_of_ble_eq_true rfl) (Nat.le_of_ble_eq_true rfl) (show (k + 1) + 0 ≤ MC by omega) (show (n + 3) + 0 ≤ MS by omega) (xt_w1 hB.1 m_cdf0d32d) (xt_cdOf hB.1 m_cdf0d32d) (hts _ m_aceab1b3) hB hR hS hA (fun vv h29 H locs hq hEh29 hR hS => ?_) (fun XX ax h29 H locs hq hEh29 hex hR hS => ?_)
                · obtain ⟨rfl, hw⟩ := hq
                  have hw := hw hEh29
                  have hE := hE.tr hEh29
                  refine W.eq (g2 := F0 m 157 ls [.ref q19, .ref x2]) rfl ?_
                  obtain ⟨hk31, hw⟩ := hw
                  refine xb_putP (C := R_Instance) (T := F_Instance) (N := 8) (ty := .object "StackHost$Table") (x := (some q19)) hx hb 10 6 hts fin_Instance t_Instance t_Instance_ok n_Instance hown hR hS hk31 (by decide) rfl (by decide) rfl (hts _ m_89519114) (fun _ h9 => h9) rfl (by decide +kernel) (xb_pnO _ _).1 (xb_pnO _ _).2 (xb_d D_World_make 85 rfl) (fun H locs hR hS => ?_)
                  obtain ⟨h32, eh32⟩ : ∃ x : xb_H, x = xb_P h29 x2 6 (some q19) := ⟨_, rfl⟩
                  rw [← eh32] at hR
                  have hw := hw h32 eh32
                  have hE : xb_ext h0 h32 := by rw [eh32]; exact hE
                  refine lv_aload_n hx hb (xb_d D_World_make 86 rfl) rfl (lv_at hl 1 rfl) ?_
                  have hk22 : xb_k h27 x0 = 7 := hEh27.k hk22
                  have hk22 : xb_k h29 x0 = 7 := hEh29.k hk22
                  have hk22 : xb_k h32 x0 = 7 := by rw [eh32]; exact hk22
                  refine xb_getP (C := R_World) (T := F_World) (N := 16) hx hb 6 4 hts fin_World hown hR hk22 (by decide) rfl (by decide) rfl (hts _ m_1ef9f414) (fun _ h9 => h9) (xb_d D_World_make 87 rfl) ?_
                  obtain ⟨b33, eb33, hw⟩ := hw
                  refine xb_some eb33 ?_
                  refine lv_iload_n hx hb (xb_d D_World_make 88 rfl) rfl (lv_at hl 0 rfl) ?_
                  refine lv_ldc2 (v := (-1)) hx hb hown (hts _ m_c3be9c29) (xb_d D_World_make 89 rfl) ?_
                  obtain ⟨hk34, hw⟩ := hw
                  obtain ⟨c37, sc37, hlc37, hlsc37, hw⟩ := hw
                  refine xb_call (D := D) (A := A) (σ := σ) (h := h32) (d := 4) (mc := c37) (ms := sc37) (maxL := 4) (rest := []) (av := [.ref b33, .int v18, .long (-1)]) (fun T hT X => by obtain ⟨cb, r1, r2, r3⟩ := xb_recv (ci := 1) hR rfl hk34 (by decide); exact xt_invV X hx hown (hts _ m_45c8cab3) (hts _ m_c1872bd8) (hts _ m_3e031f92) (xt_sigOf (hts _ m_c5b9ceaf)) nm_Row_addMany (by rw [hT]; exact r1) r2 r3 (g := F0 m 168 ls [.long (-1), .int v18, .ref b33]) rfl (argsL := [.int v18, .long (-1)]) (rest := []) rfl rfl (by rw [hb]; exact (xb_d D_World_make 90 rfl))) (ok_Row_addMany l hfl D A σ b33 v18 (-1) h32 c37 sc37 _ hw) (hml.trans hl.1.symm) (by rw [hb]; exact (xb_d D_World_make 90 rfl)) (Nat.le_of_ble_eq_true rfl) (Nat.le_of_ble_eq_true rfl) (Nat.le_of_ble_eq_true rfl) (show (k + 1) + c37 ≤ MC by omega) (show (n + 3) + sc37 ≤ MS by omega) (xt_w1 hB.1 m_c5b9ceaf) (xt_cdOf hB.1 m_c5b9ceaf) (hts _ m_c1bef504) hB hR hS hA (fun vv h35 H locs hq hEh35 hR hS => ?_) (fun XX ax h35 H locs hq hEh35 hex hR hS => ?_)
                  · obtain ⟨rfl, hw⟩ := hq
                    have hw := hw hEh35
                    have hE := hE.tr hEh35
                    refine W.eq (g2 := F0 m 171 ls []) rfl ?_
                    exact am_World_make_L171 l hfl D A σ MC MS h0 Qr x0 x1 x2 h35 ((bc - 1) - c37) ((bs - 3) - sc37) hw p e s m args below meth c hC H locs ls ((k + 1) + c37) ((n + 3) + sc37) hE (lv_sub hl [1, 2, 3] rfl) hR hS (by omega) (by omega)
                  · exact False.elim hq
                · exact False.elim hq
              · exact False.elim hq
            · exact False.elim hq
        · exact False.elim hq
      · have hw := hw.2 hc6
        refine lv_aload_n hx hb (xb_d D_World_make 44 rfl) rfl (lv_at hl 0 rfl) ?_
        obtain ⟨hk38, hw⟩ := hw
        refine xb_getP (C := R_World) (T := F_World) (N := 16) hx hb 6 3 hts fin_World hown hR hk38 (by decide) rfl (by decide) rfl (hts _ m_61bedde9) (fun _ h9 => h9) (xb_d D_World_make 45 rfl) ?_
        obtain ⟨b39, eb39, hw⟩ := hw
        refine xb_some eb39 ?_
        refine lv_aload_n hx hb (xb_d D_World_make 46 rfl) rfl (lv_at hl 0 rfl) ?_
        refine lv_aload_n hx hb (xb_d D_World_make 47 rfl) rfl (lv_at hl 1 rfl) ?_
        refine lv_aload_n hx hb (xb_d D_World_make 48 rfl) rfl (lv_at hl 1 rfl) ?_
        have hk1 : xb_k h4 x1 = 3 := hEh4.k hk1
        refine xb_getP (C := R_StackModule) (T := F_StackModule) (N := 19) hx hb 2 7 hts fin_StackModule hown hR hk1 (by decide) rfl (by decide) rfl (hts _ m_86aae10b) (fun _ h9 => h9) (xb_d D_World_make 49 rfl) ?_
        obtain ⟨b40, eb40, hw⟩ := hw
        refine xb_some eb40 ?_
        refine lv_iload_n hx hb (xb_d D_World_make 50 rfl) rfl (lv_at hl 3 rfl) ?_
        refine lv_iconst (v := 3) hx hb (xb_d D_World_make 51 rfl) (by decide) ?_
        obtain ⟨hk41, hw⟩ := hw
        refine xb_call (D := D) (A := A) (σ := σ) (h := h4) (d := 2) (mc := 0) (ms := 0) (maxL := 3) (rest := [.ref x1, .ref x0, .ref b39]) (av := [.ref b40, .int x3, .int 3]) (fun T hT X => by obtain ⟨cb, r1, r2, r3⟩ := xb_recv (ci := 1) hR rfl hk41 (by decide); exact xt_invV X hx hown (hts _ m_ad29ee25) (hts _ m_8e233096) (hts _ m_27eed10c) (xt_sigOf (hts _ m_ff1c70ae)) nm_Row_at (by rw [hT]; exact r1) r2 r3 (g := F0 m 90 ls [.int 3, .int x3, .ref b40, .ref x1, .ref x0, .ref b39]) rfl (argsL := [.int x3, .int 3]) (rest := [.ref x1, .ref x0, .ref b39]) rfl rfl (by rw [hb]; exact (xb_d D_World_make 52 rfl))) (ok_Row_at l hfl D A σ b40 x3 3 h4 _ hw) (hml.trans hl.1.symm) (by rw [hb]; exact (xb_d D_World_make 52 rfl)) (Nat.le_of_ble_eq_true rfl) (Nat.le_of_ble_eq_true rfl) (Nat.le_of_ble_eq_true rfl) (show k + 0 ≤ MC by omega) (show n + 0 ≤ MS by omega) (xt_w1 hB.1 m_ff1c70ae) (xt_cdOf hB.1 m_ff1c70ae) (hts _ m_c1bef504) hB hR hS hA (fun vv h42 H locs hq hEh42 hR hS => ?_) (fun XX ax h42 H locs hq hEh42 hex hR hS => ?_)
        · obtain ⟨r43, rfl, hw⟩ := hq
          have hw := hw hEh42
          have hE := hE.tr hEh42
          refine W.eq (g2 := F0 m 93 ls [.int r43, .ref x1, .ref x0, .ref b39]) rfl ?_
          have hk38 : xb_k h42 x0 = 7 := hEh42.k hk38
          refine xb_call (D := D) (A := A) (σ := σ) (h := h42) (d := 3) (mc := 0) (ms := 0) (maxL := 3) (rest := [.ref b39]) (av := [.ref x0, .ref x1, .int r43]) (fun T hT X => by obtain ⟨cb, r1, r2, r3⟩ := xb_recv (ci := 6) hR rfl hk38 (by decide); exact xt_invV X hx hown (hts _ m_c1adce89) (hts _ m_ea5253ea) (hts _ m_5eef57a1) (xt_sigOf (hts _ m_e9cf7221)) nm_World_valueOf (by rw [hT]; exact r1) r2 r3 (g := F0 m 93 ls [.int r43, .ref x1, .ref x0, .ref b39]) rfl (argsL := [.ref x1, .int r43]) (rest := [.ref b39]) rfl rfl (by rw [hb]; exact (xb_d D_World_make 53 rfl))) (ok_World_valueOf l hfl D A σ x0 x1 r43 h42 _ hw) (hml.trans hl.1.symm) (by rw [hb]; exact (xb_d D_World_make 53 rfl)) (Nat.le_of_ble_eq_true rfl) (Nat.le_of_ble_eq_true rfl) (Nat.le_of_ble_eq_true rfl) (show k + 0 ≤ MC by omega) (show n + 0 ≤ MS by omega) (xt_w1 hB.1 m_e9cf7221) (xt_cdOf hB.1 m_e9cf7221) (hts _ m_4534b440) hB hR hS hA (fun vv h44 H locs hq hEh44 hR hS => ?_) (fun XX ax h44 H locs hq hEh44 hex hR hS => ?_)
          · obtain ⟨r45, rfl, hw⟩ := hq
            have hw := hw hEh44
            have hE := hE.tr hEh44
            refine W.eq (g2 := F0 m 96 ls [.long r45, .ref b39]) rfl ?_
            obtain ⟨hk46, hw⟩ := hw
            obtain ⟨c49, sc49, hlc49, hlsc49, hw⟩ := hw
            refine xb_call (D := D) (A := A) (σ := σ) (h := h44) (d := 4) (mc := c49) (ms := sc49) (maxL := 3) (rest := []) (av := [.ref b39, .long r45]) (fun T hT X => by obtain ⟨cb, r1, r2, r3⟩ := xb_recv (ci := 1) hR rfl hk46 (by decide); exact xt_invV X hx hown (hts _ m_6ab0aa52) (hts _ m_7e8d081f) (hts _ m_4e47f51a) (xt_sigOf (hts _ m_4f1bdc54)) nm_Row_add (by rw [hT]; exact r1) r2 r3 (g := F0 m 96 ls [.long r45, .ref b39]) rfl (argsL := [.long r45]) (rest := []) rfl rfl (by rw [hb]; exact (xb_d D_World_make 54 rfl))) (ok_Row_add l hfl D A σ b39 r45 h44 c49 sc49 _ hw) (hml.trans hl.1.symm) (by rw [hb]; exact (xb_d D_World_make 54 rfl)) (Nat.le_of_ble_eq_true rfl) (Nat.le_of_ble_eq_true rfl) (Nat.le_of_ble_eq_true rfl) (show k + c49 ≤ MC by omega) (show n + sc49 ≤ MS by omega) (xt_w1 hB.1 m_4f1bdc54) (xt_cdOf hB.1 m_4f1bdc54) (hts _ m_c1bef504) hB hR hS hA (fun vv h47 H locs hq hEh47 hR hS => ?_) (fun XX ax h47 H locs hq hEh47 hex hR hS => ?_)
            · obtain ⟨rfl, hw⟩ := hq
              have hw := hw hEh47
              have hE := hE.tr hEh47
              refine W.eq (g2 := F0 m 99 ls []) rfl ?_
              refine lv_iinc (v := (x3 + 1)) (k := 3) hx hb (xb_d D_World_make 55 rfl) hl rfl (by first | rfl | decide) (by decide) rfl (fun ls hl => ?_)
              have hl : lv_has ls 4 [(3, .int (x3 + 1)), (0, .ref x0), (1, .ref x1), (2, .ref x2)] := hl
              refine lv_goto (tgt := 67) hx hb (xb_d D_World_make 56 rfl) rfl ?_
              exact ih x0 x1 x2 (x3 + 1) h47 (bc - c49) (bs - sc49) hw p e s m args below meth c hC H locs ls (k + c49) (n + sc49) hE (lv_sub hl [1, 2, 3, 0] rfl) hR hS (by omega) (by omega)
            · exact False.elim hq
          · exact False.elim hq
        · exact False.elim hq
    · exact False.elim hq

set_option maxHeartbeats 4000000 in
set_option maxRecDepth 100000 in
theorem ok_World_make (l : Launch) (hfl : l.flags = pinnedFlags ++ [noTraceFlag]) (D : va_G) (A : Nat → Prop) (σ : Nat) (x0 : Nat) (x1 : Nat) (h : xb_H) (bc : Nat) (bs : Nat) (Qr : Int32 → xb_H → Prop) (hw : w_World_make x0 x1 h bc bs Qr) : xt_Met l y_World_make [.code y_World_make b_World_make 4 (some .int)] (xb_rm 6 bc bs) (xb_Pc D A σ h [.ref x0, .ref x1]) (xb_Qc D A h (fun v h => ∃ r, v = some (.int r) ∧ Qr r h) (fun _ _ => False)) bc bs A := by
  refine xb_ofAm (cc := b_World_make) (by decide) (Nat.le_of_ble_eq_true rfl) ?_
  unfold w_World_make at hw
  show xb_am l D A σ 6 bc bs h (fun v h => ∃ r, v = some (.int r) ∧ Qr r h) (fun _ _ => False) y_World_make.cls y_World_make.name b_World_make 4 ([] : List ExceptionTableEntry) (some .int) 0 [(0, .ref x0), (1, .ref x1)] [] h bc bs
  obtain ⟨MC, hMC⟩ : ∃ x, x = bc := ⟨_, rfl⟩
  obtain ⟨MS, hMS⟩ : ∃ x, x = bs := ⟨_, rfl⟩
  rw [show xb_am l D A σ 6 bc bs = xb_am l D A σ 6 MC MS by rw [hMC, hMS]]
  obtain ⟨h0, hh0⟩ : ∃ x, x = h := ⟨_, rfl⟩
  rw [show xb_am l D A σ 6 MC MS h = xb_am l D A σ 6 MC MS h0 by rw [hh0]]
  intro p e s m args below meth c hC H locs ls k n hE hl hR hS hk hn
  obtain ⟨hx, hb, hown, hlocks, htab, hml, hr, hB, hA, hnm⟩ := id hC
  have hts := hB.1.1.at args
  obtain ⟨hcq1, hsq1, hw⟩ := hw
  refine xb_newo (C := R_Instance) (T := F_Instance) (N := 8) hx hb 10 hts fin_Instance t_Instance t_Instance_ok hown (hts _ m_4febb130) (hts _ m_542514b3) (hts _ m_7a4e907b) hR hS hA (by decide) rfl dg_Instance (show k + 1 ≤ MC by omega) (show n + 8 ≤ MS by omega) (xb_d D_World_make 0 rfl) (fun q1 H hqq1 hR hS => ?_)
  have hw := hw q1 hqq1
  obtain ⟨h2, eh2⟩ : ∃ x : xb_H, x = xb_new h q1 11 0 := ⟨_, rfl⟩
  rw [← eh2] at hR
  have hw := hw h2 eh2
  have hE : xb_ext h0 h2 := by rw [eh2]; exact hE.new _ _ hqq1
  have hk3 : xb_k h2 q1 = 11 := by rw [eh2]; exact xb_new_k _ _ _ _
  refine lv_dup hx hb (xb_d D_World_make 1 rfl) rfl ?_
  refine lv_aload_n hx hb (xb_d D_World_make 2 rfl) rfl (lv_at hl 0 rfl) ?_
  obtain ⟨hk4, hw⟩ := hw
  refine xb_getI (C := R_World) (T := F_World) (N := 16) hx hb 6 1 hts fin_World hown hR hk4 (by decide) rfl (by decide) rfl (hts _ m_a27121bd) (fun _ h9 => h9) (xb_d D_World_make 3 rfl) ?_
  refine lv_aload_n hx hb (xb_d D_World_make 4 rfl) rfl (lv_at hl 1 rfl) ?_
  refine lv_aload_n hx hb (xb_d D_World_make 5 rfl) rfl (lv_at hl 0 rfl) ?_
  obtain ⟨c7, sc7, hlc7, hlsc7, hw⟩ := hw
  refine xb_call (D := D) (A := A) (σ := σ) (h := h2) (d := 3) (mc := c7) (ms := sc7) (maxL := 4) (rest := [.ref q1]) (av := [.ref q1, .int (xb_i h2 x0 1), .ref x1, .ref x0]) (fun T hT X => xt_invI X hx hown rfl (hts _ m_9684ee69) (hts _ m_fe0c4d66) (hts _ m_0de684f8) nm_Instance_init (g := F0 m 10 ls [.ref x0, .ref x1, .int (xb_i h2 x0 1), .ref q1, .ref q1]) rfl (b := q1) (argsL := [.int (xb_i h2 x0 1), .ref x1, .ref x0]) (rest := [.ref q1]) rfl rfl (by rw [hb]; exact (xb_d D_World_make 6 rfl))) (ok_Instance_init l hfl D A σ q1 (xb_i h2 x0 1) x1 x0 h2 c7 sc7 _ hw) (hml.trans hl.1.symm) (by rw [hb]; exact (xb_d D_World_make 6 rfl)) (Nat.le_of_ble_eq_true rfl) (Nat.le_of_ble_eq_true rfl) (Nat.le_of_ble_eq_true rfl) (show (k + 1) + c7 ≤ MC by omega) (show (n + 8) + sc7 ≤ MS by omega) (xt_w1 hB.1 m_0de684f8) (xt_cdOf hB.1 m_0de684f8) (hts _ m_7a4e907b) hB hR hS hA (fun vv h5 H locs hq hEh5 hR hS => ?_) (fun XX ax h5 H locs hq hEh5 hex hR hS => ?_)
  · obtain ⟨rfl, hw⟩ := hq
    have hw := hw hEh5
    have hE := hE.tr hEh5
    refine W.eq (g2 := F0 m 13 ls [.ref q1]) rfl ?_
    refine lv_astore_n hx hb (xb_d D_World_make 7 rfl) rfl hl (by decide) rfl (fun ls hl => ?_)
    have hl : lv_has ls 4 [(2, .ref q1), (0, .ref x0), (1, .ref x1)] := hl
    refine lv_aload_n hx hb (xb_d D_World_make 8 rfl) rfl (lv_at hl 1 rfl) ?_
    have hk4 : xb_k h5 x0 = 7 := hEh5.k hk4
    refine xb_getP (C := R_World) (T := F_World) (N := 16) hx hb 6 0 hts fin_World hown hR hk4 (by decide) rfl (by decide) rfl (hts _ m_7dbedc06) (fun _ h9 => h9) (xb_d D_World_make 9 rfl) ?_
    obtain ⟨b8, eb8, hw⟩ := hw
    refine xb_some eb8 ?_
    refine lv_aload_n hx hb (xb_d D_World_make 10 rfl) rfl (lv_at hl 1 rfl) ?_
    refine xb_getI (C := R_World) (T := F_World) (N := 16) hx hb 6 1 hts fin_World hown hR hk4 (by decide) rfl (by decide) rfl (hts _ m_a27121bd) (fun _ h9 => h9) (xb_d D_World_make 11 rfl) ?_
    refine lv_aload_n hx hb (xb_d D_World_make 12 rfl) rfl (lv_at hl 0 rfl) ?_
    obtain ⟨hk9, hw⟩ := hw
    obtain ⟨hi10, hw⟩ := hw
    have hk3 : xb_k h5 q1 = 11 := hEh5.k hk3
    refine xb_aast105 hx hb hR hS hk9 hk3 hi10 (xb_d D_World_make 13 rfl) (fun H locs hR hS => ?_)
    obtain ⟨h11, eh11⟩ : ∃ x : xb_H, x = xb_P h5 b8 (Int32.toNatClampNeg (xb_i h5 x0 1)) (some q1) := ⟨_, rfl⟩
    rw [← eh11] at hR
    have hw := hw h11 eh11
    have hE : xb_ext h0 h11 := by rw [eh11]; exact hE
    refine lv_aload_n hx hb (xb_d D_World_make 14 rfl) rfl (lv_at hl 1 rfl) ?_
    refine lv_dup hx hb (xb_d D_World_make 15 rfl) rfl ?_
    have hk4 : xb_k h11 x0 = 7 := by rw [eh11]; exact hk4
    refine xb_getI (C := R_World) (T := F_World) (N := 16) hx hb 6 1 hts fin_World hown hR hk4 (by decide) rfl (by decide) rfl (hts _ m_a27121bd) (fun _ h9 => h9) (xb_d D_World_make 16 rfl) ?_
    refine lv_iconst (v := 1) hx hb (xb_d D_World_make 17 rfl) (by decide) ?_
    refine lv_iadd hx hb (xb_d D_World_make 18 rfl) ?_
    refine xb_putI (C := R_World) (T := F_World) (N := 16) (ty := .int) (x := ((xb_i h11 x0 1) + 1)) hx hb 6 1 hts fin_World t_World t_World_ok n_World hown hR hS hk4 (by decide) rfl (by decide) rfl (hts _ m_a27121bd) (fun _ h9 => h9) rfl (by decide +kernel) rfl rfl (xb_d D_World_make 19 rfl) (fun H locs hR hS => ?_)
    obtain ⟨h12, eh12⟩ : ∃ x : xb_H, x = xb_I h11 x0 1 ((xb_i h11 x0 1) + 1) := ⟨_, rfl⟩
    rw [← eh12] at hR
    have hw := hw h12 eh12
    have hE : xb_ext h0 h12 := by rw [eh12]; exact hE
    refine lv_aload_n hx hb (xb_d D_World_make 20 rfl) rfl (lv_at hl 1 rfl) ?_
    have hk4 : xb_k h12 x0 = 7 := by rw [eh12]; exact hk4
    refine xb_getP (C := R_World) (T := F_World) (N := 16) hx hb 6 2 hts fin_World hown hR hk4 (by decide) rfl (by decide) rfl (hts _ m_2d976539) (fun _ h9 => h9) (xb_d D_World_make 21 rfl) ?_
    obtain ⟨b13, eb13, hw⟩ := hw
    refine xb_some eb13 ?_
    refine lv_aload_n hx hb (xb_d D_World_make 22 rfl) rfl (lv_at hl 2 rfl) ?_
    obtain ⟨hk14, hw⟩ := hw
    refine xb_getP (C := R_StackModule) (T := F_StackModule) (N := 19) hx hb 2 4 hts fin_StackModule hown hR hk14 (by decide) rfl (by decide) rfl (hts _ m_a2ee8d3c) (fun _ h9 => h9) (xb_d D_World_make 23 rfl) ?_
    obtain ⟨b15, eb15, hw⟩ := hw
    refine xb_some eb15 ?_
    obtain ⟨hk16, hw⟩ := hw
    refine xb_call (D := D) (A := A) (σ := σ) (h := h12) (d := 2) (mc := 0) (ms := 0) (maxL := 1) (rest := [.ref b13]) (av := [.ref b15]) (fun T hT X => by obtain ⟨cb, r1, r2, r3⟩ := xb_recv (ci := 1) hR rfl hk16 (by decide); exact xt_invV X hx hown (hts _ m_5b8308b9) (hts _ m_ded65609) (hts _ m_a4161156) (xt_sigOf (hts _ m_83ba3721)) nm_Row_lines (by rw [hT]; exact r1) r2 r3 (g := F0 m 42 ls [.ref b15, .ref b13]) rfl (argsL := []) (rest := [.ref b13]) rfl rfl (by rw [hb]; exact (xb_d D_World_make 24 rfl))) (ok_Row_lines l hfl D A σ b15 h12 _ hw) (hml.trans hl.1.symm) (by rw [hb]; exact (xb_d D_World_make 24 rfl)) (Nat.le_of_ble_eq_true rfl) (Nat.le_of_ble_eq_true rfl) (Nat.le_of_ble_eq_true rfl) (show ((k + 1) + c7) + 0 ≤ MC by omega) (show ((n + 8) + sc7) + 0 ≤ MS by omega) (xt_w1 hB.1 m_83ba3721) (xt_cdOf hB.1 m_83ba3721) (hts _ m_c1bef504) hB hR hS hA (fun vv h17 H locs hq hEh17 hR hS => ?_) (fun XX ax h17 H locs hq hEh17 hex hR hS => ?_)
    · obtain ⟨r18, rfl, hw⟩ := hq
      have hw := hw hEh17
      have hE := hE.tr hEh17
      refine W.eq (g2 := F0 m 45 ls [.int r18, .ref b13]) rfl ?_
      refine lv_aload_n hx hb (xb_d D_World_make 25 rfl) rfl (lv_at hl 2 rfl) ?_
      have hk14 : xb_k h17 x1 = 3 := hEh17.k hk14
      refine xb_getP (C := R_StackModule) (T := F_StackModule) (N := 19) hx hb 2 14 hts fin_StackModule hown hR hk14 (by decide) rfl (by decide) rfl (hts _ m_64a182b7) (fun _ h9 => h9) (xb_d D_World_make 26 rfl) ?_
      obtain ⟨b19, eb19, hw⟩ := hw
      refine xb_some eb19 ?_
      refine lv_iconst (v := 0) hx hb (xb_d D_World_make 27 rfl) (by decide) ?_
      obtain ⟨hk21, hw⟩ := hw
      obtain ⟨hi20, hw⟩ := hw
      refine xb_iald hx hb hR hk21 hi20 (xb_d D_World_make 28 rfl) ?_
      refine xt_numi (y := (xb_i h17 b19 0)) (congrArg (xb_i h17 b19) (by decide : (0 : Int32).toNatClampNeg = 0)) ?_
      refine lv_isub hx hb (xb_d D_World_make 29 rfl) ?_
      refine lv_aload_n hx hb (xb_d D_World_make 30 rfl) rfl (lv_at hl 0 rfl) ?_
      have hk3 : xb_k h11 q1 = 11 := by rw [eh11]; exact hk3
      have hk3 : xb_k h12 q1 = 11 := by rw [eh12]; exact hk3
      have hk3 : xb_k h17 q1 = 11 := hEh17.k hk3
      refine xb_getI (C := R_Instance) (T := F_Instance) (N := 8) hx hb 10 0 hts fin_Instance hown hR hk3 (by decide) rfl (by decide) rfl (hts _ m_63e71238) (fun _ h9 => h9) (xb_d D_World_make 31 rfl) ?_
      refine lv_i2l hx hb (xb_d D_World_make 32 rfl) rfl ?_
      obtain ⟨hk22, hw⟩ := hw
      obtain ⟨c25, sc25, hlc25, hlsc25, hw⟩ := hw
      refine xb_call (D := D) (A := A) (σ := σ) (h := h17) (d := 4) (mc := c25) (ms := sc25) (maxL := 4) (rest := []) (av := [.ref b13, .int (r18 - (xb_i h17 b19 0)), .long (Int32.toInt64 (xb_i h17 q1 0))]) (fun T hT X => by obtain ⟨cb, r1, r2, r3⟩ := xb_recv (ci := 1) hR rfl hk22 (by decide); exact xt_invV X hx hown (hts _ m_45c8cab3) (hts _ m_c1872bd8) (hts _ m_3e031f92) (xt_sigOf (hts _ m_c5b9ceaf)) nm_Row_addMany (by rw [hT]; exact r1) r2 r3 (g := F0 m 57 ls [.long (Int32.toInt64 (xb_i h17 q1 0)), .int (r18 - (xb_i h17 b19 0)), .ref b13]) rfl (argsL := [.int (r18 - (xb_i h17 b19 0)), .long (Int32.toInt64 (xb_i h17 q1 0))]) (rest := []) rfl rfl (by rw [hb]; exact (xb_d D_World_make 33 rfl))) (ok_Row_addMany l hfl D A σ b13 (r18 - (xb_i h17 b19 0)) (Int32.toInt64 (xb_i h17 q1 0)) h17 c25 sc25 _ hw) (hml.trans hl.1.symm) (by rw [hb]; exact (xb_d D_World_make 33 rfl)) (Nat.le_of_ble_eq_true rfl) (Nat.le_of_ble_eq_true rfl) (Nat.le_of_ble_eq_true rfl) (show ((k + 1) + c7) + c25 ≤ MC by omega) (show ((n + 8) + sc7) + sc25 ≤ MS by omega) (xt_w1 hB.1 m_c5b9ceaf) (xt_cdOf hB.1 m_c5b9ceaf) (hts _ m_c1bef504) hB hR hS hA (fun vv h23 H locs hq hEh23 hR hS => ?_) (fun XX ax h23 H locs hq hEh23 hex hR hS => ?_)
      · obtain ⟨rfl, hw⟩ := hq
        have hw := hw hEh23
        have hE := hE.tr hEh23
        refine W.eq (g2 := F0 m 60 ls []) rfl ?_
        refine lv_aload_n hx hb (xb_d D_World_make 34 rfl) rfl (lv_at hl 2 rfl) ?_
        have hk14 : xb_k h23 x1 = 3 := hEh23.k hk14
        refine xb_getP (C := R_StackModule) (T := F_StackModule) (N := 19) hx hb 2 14 hts fin_StackModule hown hR hk14 (by decide) rfl (by decide) rfl (hts _ m_64a182b7) (fun _ h9 => h9) (xb_d D_World_make 35 rfl) ?_
        obtain ⟨b26, eb26, hw⟩ := hw
        refine xb_some eb26 ?_
        refine lv_iconst (v := 3) hx hb (xb_d D_World_make 36 rfl) (by decide) ?_
        obtain ⟨hk28, hw⟩ := hw
        obtain ⟨hi27, hw⟩ := hw
        refine xb_iald hx hb hR hk28 hi27 (xb_d D_World_make 37 rfl) ?_
        refine xt_numi (y := (xb_i h23 b26 3)) (congrArg (xb_i h23 b26) (by decide : (3 : Int32).toNatClampNeg = 3)) ?_
        obtain ⟨v29, ev29⟩ : ∃ x : Int32, x = (xb_i h23 b26 3) := ⟨_, rfl⟩
        have hw := hw v29 ev29
        refine xt_numi (y := v29) ev29.symm ?_
        refine lv_istore_n hx hb (xb_d D_World_make 38 rfl) rfl hl (by decide) rfl (fun ls hl => ?_)
        have hl : lv_has ls 4 [(3, .int v29), (2, .ref q1), (0, .ref x0), (1, .ref x1)] := hl
        obtain ⟨n8, hw⟩ := hw
        exact am_World_make_L67 l hfl D A σ MC MS h0 Qr n8 x0 x1 q1 v29 h23 (((bc - 1) - c7) - c25) (((bs - 8) - sc7) - sc25) hw p e s m args below meth c hC H locs ls (((k + 1) + c7) + c25) (((n + 8) + sc7) + sc25) hE (lv_sub hl [2, 3, 1, 0] rfl) hR hS (by omega) (by omega)
      · exact False.elim hq
    · exact False.elim hq
  · exact False.elim hq

theorem m_ab3a3b5f : (.methodLink "StackHostLaw" 44 y_H_find : Cond) ∈ xt_tbl := xt_in (xt_t7 (List.mem_of_getElem? (i := 141) (by decide +kernel))) (by decide +kernel)
theorem m_58b262be : (.instanceMethod y_H_find : Cond) ∈ xt_tbl := xt_in (xt_t7 (List.mem_of_getElem? (i := 142) (by decide +kernel))) (by decide +kernel)
theorem m_aa607e03 : (.selects "StackHost" y_H_find y_H_find : Cond) ∈ xt_tbl := xt_in (xt_t7 (List.mem_of_getElem? (i := 143) (by decide +kernel))) (by decide +kernel)
theorem m_58733faf : (.code y_H_find b_H_find 4 (some .int) : Cond) ∈ xt_tbl := xt_in (xt_t7 (List.mem_of_getElem? (i := 144) (by decide +kernel))) (by decide +kernel)
theorem nm_H_find : xt_nm y_H_find 1 := ⟨by decide +kernel, by decide +kernel⟩
set_option maxRecDepth 100000 in
def T_Law_find : List (Nat × Instr × Nat) := [(0, .aload_n 2, 1), (1, .iconst 0, 1), (2, .aload_n 0, 1), (3, .iload_n 1, 1), (4, .invokevirtual 44, 3), (7, .i2l, 1), (8, .lastore, 1), (9, .goto 6, 3), (12, .astore_n 3, 1), (13, .iconst 1, 1), (14, .ireturn, 1), (15, .iconst 0, 1), (16, .ireturn, 1)]
theorem D_Law_find : ∀ q ∈ T_Law_find, decode b_Law_find q.1 = .ok (q.2.1, q.2.2) := by decide +kernel
def w_Law_find (x0 : Nat) (x1 : Int32) (x2 : Nat) (h : xb_H) (bc : Nat) (bs : Nat) (Qr : Int32 → xb_H → Prop) : Prop :=
    xb_k h x0 = 1 ∧ ∃ c4 sc4 : Nat, c4 ≤ bc ∧ sc4 ≤ bs ∧ w_H_find x0 x1 h c4 sc4 (fun (r3 : Int32) (h2 : xb_H) => xb_ext h h2 → xb_k h2 x2 = 103 ∧ vp_in 0 (xb_n h2 x2) ∧ ∀ h7 : xb_H, h7 = xb_L h2 x2 (Int32.toNatClampNeg 0) (Int32.toInt64 r3) → Qr 0 h7) (fun (XX : String) (h2 : xb_H) => xb_ext h h2 → (XX = "java/lang/IndexOutOfBoundsException" ∧ Qr 1 h2))

set_option maxHeartbeats 4000000 in
set_option maxRecDepth 100000 in
theorem ok_Law_find (l : Launch) (hfl : l.flags = pinnedFlags ++ [noTraceFlag]) (D : va_G) (A : Nat → Prop) (σ : Nat) (x0 : Nat) (x1 : Int32) (x2 : Nat) (h : xb_H) (bc : Nat) (bs : Nat) (Qr : Int32 → xb_H → Prop) (hw : w_Law_find x0 x1 x2 h bc bs Qr) : xt_Met l y_Law_find [.codeWith y_Law_find b_Law_find 4 (some .int) [(0, 9, 12, 29)]] (xb_rm 6 bc bs) (xb_Pc D A σ h [.ref x0, .int x1, .ref x2]) (xb_Qc D A h (fun v h => ∃ r, v = some (.int r) ∧ Qr r h) (fun _ _ => False)) bc bs A := by
  refine xb_ofAmH (cc := b_Law_find) (by decide) (Nat.le_of_ble_eq_true rfl) ?_
  unfold w_Law_find at hw
  show xb_am l D A σ 6 bc bs h (fun v h => ∃ r, v = some (.int r) ∧ Qr r h) (fun _ _ => False) y_Law_find.cls y_Law_find.name b_Law_find 4 (tableOf [(0, 9, 12, 29)]) (some .int) 0 [(0, .ref x0), (1, .int x1), (2, .ref x2)] [] h bc bs
  obtain ⟨MC, hMC⟩ : ∃ x, x = bc := ⟨_, rfl⟩
  obtain ⟨MS, hMS⟩ : ∃ x, x = bs := ⟨_, rfl⟩
  rw [show xb_am l D A σ 6 bc bs = xb_am l D A σ 6 MC MS by rw [hMC, hMS]]
  obtain ⟨h0, hh0⟩ : ∃ x, x = h := ⟨_, rfl⟩
  rw [show xb_am l D A σ 6 MC MS h = xb_am l D A σ 6 MC MS h0 by rw [hh0]]
  intro p e s m args below meth c hC H locs ls k n hE hl hR hS hk hn
  obtain ⟨hx, hb, hown, hlocks, htab, hml, hr, hB, hA, hnm⟩ := id hC
  have hts := hB.1.1.at args
  refine lv_aload_n hx hb (xb_d D_Law_find 0 rfl) rfl (lv_at hl 2 rfl) ?_
  refine lv_iconst (v := 0) hx hb (xb_d D_Law_find 1 rfl) (by decide) ?_
  refine lv_aload_n hx hb (xb_d D_Law_find 2 rfl) rfl (lv_at hl 0 rfl) ?_
  refine lv_iload_n hx hb (xb_d D_Law_find 3 rfl) rfl (lv_at hl 1 rfl) ?_
  obtain ⟨hk1, hw⟩ := hw
  obtain ⟨c4, sc4, hlc4, hlsc4, hw⟩ := hw
  refine xb_call (D := D) (A := A) (σ := σ) (h := h) (d := 5) (mc := c4) (ms := sc4) (maxL := 4) (rest := [.int 0, .ref x2]) (av := [.ref x0, .int x1]) (fun T hT X => by obtain ⟨cb, r1, r2, r3⟩ := xb_recv (ci := 0) hR rfl hk1 (by decide); exact xt_invV X hx hown (hts _ m_ab3a3b5f) (hts _ m_58b262be) (hts _ m_aa607e03) (xt_sigOf (hts _ m_58733faf)) nm_H_find (by rw [hT]; exact r1) r2 r3 (g := F0 m 4 ls [.int x1, .ref x0, .int 0, .ref x2]) rfl (argsL := [.int x1]) (rest := [.int 0, .ref x2]) rfl rfl (by rw [hb]; exact (xb_d D_Law_find 4 rfl))) (ok_H_find l hfl D A σ x0 x1 h c4 sc4 _ _ hw) (hml.trans hl.1.symm) (by rw [hb]; exact (xb_d D_Law_find 4 rfl)) (Nat.le_of_ble_eq_true rfl) (Nat.le_of_ble_eq_true rfl) (Nat.le_of_ble_eq_true rfl) (show k + c4 ≤ MC by omega) (show n + sc4 ≤ MS by omega) (xt_w1 hB.1 m_58733faf) (xt_cdOf hB.1 m_58733faf) (hts _ m_ba0734f5) hB hR hS hA (fun vv h2 H locs hq hEh2 hR hS => ?_) (fun XX ax h2 H locs hq hEh2 hex hR hS => ?_)
  · obtain ⟨r3, rfl, hw⟩ := hq
    have hw := hw hEh2
    have hE := hE.tr hEh2
    refine W.eq (g2 := F0 m 7 ls [.int r3, .int 0, .ref x2]) rfl ?_
    refine lv_i2l hx hb (xb_d D_Law_find 5 rfl) rfl ?_
    obtain ⟨hk5, hw⟩ := hw
    obtain ⟨hi6, hw⟩ := hw
    refine xb_last hx hb hR hS hk5 hi6 (xb_d D_Law_find 6 rfl) (fun H locs hR hS => ?_)
    obtain ⟨h7, eh7⟩ : ∃ x : xb_H, x = xb_L h2 x2 (Int32.toNatClampNeg 0) (Int32.toInt64 r3) := ⟨_, rfl⟩
    rw [← eh7] at hR
    have hw := hw h7 eh7
    have hE : xb_ext h0 h7 := by rw [eh7]; exact hE
    refine lv_goto (tgt := 15) hx hb (xb_d D_Law_find 7 rfl) rfl ?_
    refine lv_iconst (v := 0) hx hb (xb_d D_Law_find 11 rfl) (by decide) ?_
    exact xb_iret hx hb hr hlocks (show (k + c4) ≤ MC by omega) (show (n + sc4) ≤ MS by omega) hE hR hS (xb_d D_Law_find 12 rfl) hw
  · have hw := hq hEh2
    have hE := hE.tr hEh2
    obtain ⟨rfl, hw⟩ := hw
    refine xt_catch (own := "StackHostLaw") (name := "java/lang/IndexOutOfBoundsException") (Xn := "java/lang/IndexOutOfBoundsException") hown ⟨0, 9, 12, 29⟩ [] htab (by decide) (by decide) (hts _ m_17a0b3c6) (hts _ m_b0d3d118) hex ?_
    refine W.eq (g2 := F0 m 12 ls [.ref ax]) rfl ?_
    refine lv_astore_n hx hb (xb_d D_Law_find 8 rfl) rfl hl (by decide) rfl (fun ls hl => ?_)
    have hl : lv_has ls 4 [(3, .ref ax), (0, .ref x0), (1, .int x1), (2, .ref x2)] := hl
    refine lv_iconst (v := 1) hx hb (xb_d D_Law_find 9 rfl) (by decide) ?_
    exact xb_iret hx hb hr hlocks (show (k + c4) ≤ MC by omega) (show (n + sc4) ≤ MS by omega) hE hR hS (xb_d D_Law_find 10 rfl) hw

theorem m_95c15ed9 : (.methodLink "StackHostLaw" 55 y_H_invoke : Cond) ∈ xt_tbl := xt_in (xt_t7 (List.mem_of_getElem? (i := 174) (by decide +kernel))) (by decide +kernel)
theorem m_1d252e68 : (.instanceMethod y_H_invoke : Cond) ∈ xt_tbl := xt_in (xt_t7 (List.mem_of_getElem? (i := 175) (by decide +kernel))) (by decide +kernel)
theorem m_bc13a8cb : (.selects "StackHost" y_H_invoke y_H_invoke : Cond) ∈ xt_tbl := xt_in (xt_t7 (List.mem_of_getElem? (i := 176) (by decide +kernel))) (by decide +kernel)
theorem m_f05797b2 : (.code y_H_invoke b_H_invoke 6 none : Cond) ∈ xt_tbl := xt_in (xt_t7 (List.mem_of_getElem? (i := 177) (by decide +kernel))) (by decide +kernel)
theorem nm_H_invoke : xt_nm y_H_invoke 2 := ⟨by decide +kernel, by decide +kernel⟩
set_option maxRecDepth 100000 in
def T_Law_invoke : List (Nat × Instr × Nat) := [(0, .aload_n 0, 1), (1, .iload_n 1, 1), (2, .iload_n 2, 1), (3, .invokevirtual 55, 3), (6, .goto 12, 3), (9, .astore_n 3, 1), (10, .iconst 1, 1), (11, .ireturn, 1), (12, .astore_n 3, 1), (13, .iconst 2, 1), (14, .ireturn, 1), (15, .astore_n 3, 1), (16, .iconst 3, 1), (17, .ireturn, 1), (18, .iconst 0, 1), (19, .ireturn, 1)]
theorem D_Law_invoke : ∀ q ∈ T_Law_invoke, decode b_Law_invoke q.1 = .ok (q.2.1, q.2.2) := by decide +kernel
def w_Law_invoke (x0 : Nat) (x1 : Int32) (x2 : Int32) (h : xb_H) (bc : Nat) (bs : Nat) (Qr : Int32 → xb_H → Prop) : Prop :=
    xb_k h x0 = 1 ∧ ∃ c4 sc4 : Nat, c4 ≤ bc ∧ sc4 ≤ bs ∧ w_H_invoke x0 x1 x2 h c4 sc4 (fun (h2 : xb_H) => xb_ext h h2 → Qr 0 h2) (fun (XX : String) (h2 : xb_H) => xb_ext h h2 → (XX = "java/lang/IllegalArgumentException" ∧ Qr 2 h2) ∨ (XX = "java/lang/IllegalStateException" ∧ Qr 3 h2) ∨ (XX = "java/lang/IndexOutOfBoundsException" ∧ Qr 1 h2))

set_option maxHeartbeats 4000000 in
set_option maxRecDepth 100000 in
theorem ok_Law_invoke (l : Launch) (hfl : l.flags = pinnedFlags ++ [noTraceFlag]) (D : va_G) (A : Nat → Prop) (σ : Nat) (x0 : Nat) (x1 : Int32) (x2 : Int32) (h : xb_H) (bc : Nat) (bs : Nat) (Qr : Int32 → xb_H → Prop) (hw : w_Law_invoke x0 x1 x2 h bc bs Qr) : xt_Met l y_Law_invoke [.codeWith y_Law_invoke b_Law_invoke 4 (some .int) [(0, 6, 9, 29), (0, 6, 12, 19), (0, 6, 15, 13)]] (xb_rm 6 bc bs) (xb_Pc D A σ h [.ref x0, .int x1, .int x2]) (xb_Qc D A h (fun v h => ∃ r, v = some (.int r) ∧ Qr r h) (fun _ _ => False)) bc bs A := by
  refine xb_ofAmH (cc := b_Law_invoke) (by decide) (Nat.le_of_ble_eq_true rfl) ?_
  unfold w_Law_invoke at hw
  show xb_am l D A σ 6 bc bs h (fun v h => ∃ r, v = some (.int r) ∧ Qr r h) (fun _ _ => False) y_Law_invoke.cls y_Law_invoke.name b_Law_invoke 4 (tableOf [(0, 6, 9, 29), (0, 6, 12, 19), (0, 6, 15, 13)]) (some .int) 0 [(0, .ref x0), (1, .int x1), (2, .int x2)] [] h bc bs
  obtain ⟨MC, hMC⟩ : ∃ x, x = bc := ⟨_, rfl⟩
  obtain ⟨MS, hMS⟩ : ∃ x, x = bs := ⟨_, rfl⟩
  rw [show xb_am l D A σ 6 bc bs = xb_am l D A σ 6 MC MS by rw [hMC, hMS]]
  obtain ⟨h0, hh0⟩ : ∃ x, x = h := ⟨_, rfl⟩
  rw [show xb_am l D A σ 6 MC MS h = xb_am l D A σ 6 MC MS h0 by rw [hh0]]
  intro p e s m args below meth c hC H locs ls k n hE hl hR hS hk hn
  obtain ⟨hx, hb, hown, hlocks, htab, hml, hr, hB, hA, hnm⟩ := id hC
  have hts := hB.1.1.at args
  refine lv_aload_n hx hb (xb_d D_Law_invoke 0 rfl) rfl (lv_at hl 0 rfl) ?_
  refine lv_iload_n hx hb (xb_d D_Law_invoke 1 rfl) rfl (lv_at hl 1 rfl) ?_
  refine lv_iload_n hx hb (xb_d D_Law_invoke 2 rfl) rfl (lv_at hl 2 rfl) ?_
  obtain ⟨hk1, hw⟩ := hw
  obtain ⟨c4, sc4, hlc4, hlsc4, hw⟩ := hw
  refine xb_call (D := D) (A := A) (σ := σ) (h := h) (d := 5) (mc := c4) (ms := sc4) (maxL := 6) (rest := []) (av := [.ref x0, .int x1, .int x2]) (fun T hT X => by obtain ⟨cb, r1, r2, r3⟩ := xb_recv (ci := 0) hR rfl hk1 (by decide); exact xt_invV X hx hown (hts _ m_95c15ed9) (hts _ m_1d252e68) (hts _ m_bc13a8cb) (xt_sigOf (hts _ m_f05797b2)) nm_H_invoke (by rw [hT]; exact r1) r2 r3 (g := F0 m 3 ls [.int x2, .int x1, .ref x0]) rfl (argsL := [.int x1, .int x2]) (rest := []) rfl rfl (by rw [hb]; exact (xb_d D_Law_invoke 3 rfl))) (ok_H_invoke l hfl D A σ x0 x1 x2 h c4 sc4 _ _ hw) (hml.trans hl.1.symm) (by rw [hb]; exact (xb_d D_Law_invoke 3 rfl)) (Nat.le_of_ble_eq_true rfl) (Nat.le_of_ble_eq_true rfl) (Nat.le_of_ble_eq_true rfl) (show k + c4 ≤ MC by omega) (show n + sc4 ≤ MS by omega) (xt_w1 hB.1 m_f05797b2) (xt_cdOf hB.1 m_f05797b2) (hts _ m_ba0734f5) hB hR hS hA (fun vv h2 H locs hq hEh2 hR hS => ?_) (fun XX ax h2 H locs hq hEh2 hex hR hS => ?_)
  · obtain ⟨rfl, hw⟩ := hq
    have hw := hw hEh2
    have hE := hE.tr hEh2
    refine W.eq (g2 := F0 m 6 ls []) rfl ?_
    refine lv_goto (tgt := 18) hx hb (xb_d D_Law_invoke 4 rfl) rfl ?_
    refine lv_iconst (v := 0) hx hb (xb_d D_Law_invoke 14 rfl) (by decide) ?_
    exact xb_iret hx hb hr hlocks (show (k + c4) ≤ MC by omega) (show (n + sc4) ≤ MS by omega) hE hR hS (xb_d D_Law_invoke 15 rfl) hw
  · have hw := hq hEh2
    have hE := hE.tr hEh2
    rcases hw with ⟨rfl, hw⟩ | ⟨rfl, hw⟩ | ⟨rfl, hw⟩
    · refine xt_catch2 (own := "StackHostLaw") (name1 := "java/lang/IndexOutOfBoundsException") (name := "java/lang/IllegalArgumentException") (Xn := "java/lang/IllegalArgumentException") hown ⟨0, 6, 9, 29⟩ ⟨0, 6, 12, 19⟩ [⟨0, 6, 15, 13⟩] htab (by decide) (by decide) (by decide) (by decide) (hts _ m_17a0b3c6) (xb_nc hB "java/lang/IllegalArgumentException" "java/lang/IndexOutOfBoundsException" (by decide +kernel)) (hts _ m_3beed69a) (hts _ m_b3980edb) hex ?_
      refine W.eq (g2 := F0 m 12 ls [.ref ax]) rfl ?_
      refine lv_astore_n hx hb (xb_d D_Law_invoke 8 rfl) rfl hl (by decide) rfl (fun ls hl => ?_)
      have hl : lv_has ls 4 [(3, .ref ax), (0, .ref x0), (1, .int x1), (2, .int x2)] := hl
      refine lv_iconst (v := 2) hx hb (xb_d D_Law_invoke 9 rfl) (by decide) ?_
      exact xb_iret hx hb hr hlocks (show (k + c4) ≤ MC by omega) (show (n + sc4) ≤ MS by omega) hE hR hS (xb_d D_Law_invoke 10 rfl) hw
    · refine xb_catch3 (own := "StackHostLaw") (name1 := "java/lang/IndexOutOfBoundsException") (name2 := "java/lang/IllegalArgumentException") (name := "java/lang/IllegalStateException") (Xn := "java/lang/IllegalStateException") hown ⟨0, 6, 9, 29⟩ ⟨0, 6, 12, 19⟩ ⟨0, 6, 15, 13⟩ [] htab (by decide) (by decide) (by decide) (by decide) (by decide) (by decide) (hts _ m_17a0b3c6) (xb_nc hB "java/lang/IllegalStateException" "java/lang/IndexOutOfBoundsException" (by decide +kernel)) (hts _ m_3beed69a) (xb_nc hB "java/lang/IllegalStateException" "java/lang/IllegalArgumentException" (by decide +kernel)) (hts _ m_cd065aea) (hts _ m_a4ef0ec8) hex ?_
      refine W.eq (g2 := F0 m 15 ls [.ref ax]) rfl ?_
      refine lv_astore_n hx hb (xb_d D_Law_invoke 11 rfl) rfl hl (by decide) rfl (fun ls hl => ?_)
      have hl : lv_has ls 4 [(3, .ref ax), (0, .ref x0), (1, .int x1), (2, .int x2)] := hl
      refine lv_iconst (v := 3) hx hb (xb_d D_Law_invoke 12 rfl) (by decide) ?_
      exact xb_iret hx hb hr hlocks (show (k + c4) ≤ MC by omega) (show (n + sc4) ≤ MS by omega) hE hR hS (xb_d D_Law_invoke 13 rfl) hw
    · refine xt_catch (own := "StackHostLaw") (name := "java/lang/IndexOutOfBoundsException") (Xn := "java/lang/IndexOutOfBoundsException") hown ⟨0, 6, 9, 29⟩ [⟨0, 6, 12, 19⟩, ⟨0, 6, 15, 13⟩] htab (by decide) (by decide) (hts _ m_17a0b3c6) (hts _ m_b0d3d118) hex ?_
      refine W.eq (g2 := F0 m 9 ls [.ref ax]) rfl ?_
      refine lv_astore_n hx hb (xb_d D_Law_invoke 5 rfl) rfl hl (by decide) rfl (fun ls hl => ?_)
      have hl : lv_has ls 4 [(3, .ref ax), (0, .ref x0), (1, .int x1), (2, .int x2)] := hl
      refine lv_iconst (v := 1) hx hb (xb_d D_Law_invoke 6 rfl) (by decide) ?_
      exact xb_iret hx hb hr hlocks (show (k + c4) ≤ MC by omega) (show (n + sc4) ≤ MS by omega) hE hR hS (xb_d D_Law_invoke 7 rfl) hw

theorem m_c14a98a4 : (.methodLink "StackHostLaw" 51 y_H_push : Cond) ∈ xt_tbl := xt_in (xt_t7 (List.mem_of_getElem? (i := 165) (by decide +kernel))) (by decide +kernel)
theorem m_02f4810d : (.instanceMethod y_H_push : Cond) ∈ xt_tbl := xt_in (xt_t7 (List.mem_of_getElem? (i := 166) (by decide +kernel))) (by decide +kernel)
theorem m_3f463752 : (.selects "StackHost" y_H_push y_H_push : Cond) ∈ xt_tbl := xt_in (xt_t7 (List.mem_of_getElem? (i := 167) (by decide +kernel))) (by decide +kernel)
theorem m_38c6d04c : (.code y_H_push b_H_push 3 (some .int) : Cond) ∈ xt_tbl := xt_in (xt_t7 (List.mem_of_getElem? (i := 168) (by decide +kernel))) (by decide +kernel)
theorem nm_H_push : xt_nm y_H_push 1 := ⟨by decide +kernel, by decide +kernel⟩
set_option maxRecDepth 100000 in
def T_Law_push : List (Nat × Instr × Nat) := [(0, .aload_n 3, 1), (1, .iconst 0, 1), (2, .aload_n 0, 1), (3, .lload_n 1, 1), (4, .invokevirtual 51, 3), (7, .i2l, 1), (8, .lastore, 1), (9, .goto 7, 3), (12, .astore 4, 2), (14, .iconst 1, 1), (15, .ireturn, 1), (16, .iconst 0, 1), (17, .ireturn, 1)]
theorem D_Law_push : ∀ q ∈ T_Law_push, decode b_Law_push q.1 = .ok (q.2.1, q.2.2) := by decide +kernel
def w_Law_push (x0 : Nat) (x1 : Int64) (x3 : Nat) (h : xb_H) (bc : Nat) (bs : Nat) (Qr : Int32 → xb_H → Prop) : Prop :=
    xb_k h x0 = 1 ∧ ∃ c4 sc4 : Nat, c4 ≤ bc ∧ sc4 ≤ bs ∧ w_H_push x0 x1 h c4 sc4 (fun (r3 : Int32) (h2 : xb_H) => xb_ext h h2 → xb_k h2 x3 = 103 ∧ vp_in 0 (xb_n h2 x3) ∧ ∀ h7 : xb_H, h7 = xb_L h2 x3 (Int32.toNatClampNeg 0) (Int32.toInt64 r3) → Qr 0 h7) (fun (XX : String) (h2 : xb_H) => xb_ext h h2 → (XX = "java/lang/IllegalStateException" ∧ Qr 1 h2))

set_option maxHeartbeats 4000000 in
set_option maxRecDepth 100000 in
theorem ok_Law_push (l : Launch) (hfl : l.flags = pinnedFlags ++ [noTraceFlag]) (D : va_G) (A : Nat → Prop) (σ : Nat) (x0 : Nat) (x1 : Int64) (x3 : Nat) (h : xb_H) (bc : Nat) (bs : Nat) (Qr : Int32 → xb_H → Prop) (hw : w_Law_push x0 x1 x3 h bc bs Qr) : xt_Met l y_Law_push [.codeWith y_Law_push b_Law_push 5 (some .int) [(0, 9, 12, 13)]] (xb_rm 6 bc bs) (xb_Pc D A σ h [.ref x0, .long x1, .ref x3]) (xb_Qc D A h (fun v h => ∃ r, v = some (.int r) ∧ Qr r h) (fun _ _ => False)) bc bs A := by
  refine xb_ofAmH (cc := b_Law_push) (by decide) (Nat.le_of_ble_eq_true rfl) ?_
  unfold w_Law_push at hw
  show xb_am l D A σ 6 bc bs h (fun v h => ∃ r, v = some (.int r) ∧ Qr r h) (fun _ _ => False) y_Law_push.cls y_Law_push.name b_Law_push 5 (tableOf [(0, 9, 12, 13)]) (some .int) 0 [(0, .ref x0), (1, .long x1), (3, .ref x3)] [] h bc bs
  obtain ⟨MC, hMC⟩ : ∃ x, x = bc := ⟨_, rfl⟩
  obtain ⟨MS, hMS⟩ : ∃ x, x = bs := ⟨_, rfl⟩
  rw [show xb_am l D A σ 6 bc bs = xb_am l D A σ 6 MC MS by rw [hMC, hMS]]
  obtain ⟨h0, hh0⟩ : ∃ x, x = h := ⟨_, rfl⟩
  rw [show xb_am l D A σ 6 MC MS h = xb_am l D A σ 6 MC MS h0 by rw [hh0]]
  intro p e s m args below meth c hC H locs ls k n hE hl hR hS hk hn
  obtain ⟨hx, hb, hown, hlocks, htab, hml, hr, hB, hA, hnm⟩ := id hC
  have hts := hB.1.1.at args
  refine lv_aload_n hx hb (xb_d D_Law_push 0 rfl) rfl (lv_at hl 2 rfl) ?_
  refine lv_iconst (v := 0) hx hb (xb_d D_Law_push 1 rfl) (by decide) ?_
  refine lv_aload_n hx hb (xb_d D_Law_push 2 rfl) rfl (lv_at hl 0 rfl) ?_
  refine lv_lload_n hx hb (xb_d D_Law_push 3 rfl) rfl (lv_at hl 1 rfl) ?_
  obtain ⟨hk1, hw⟩ := hw
  obtain ⟨c4, sc4, hlc4, hlsc4, hw⟩ := hw
  refine xb_call (D := D) (A := A) (σ := σ) (h := h) (d := 5) (mc := c4) (ms := sc4) (maxL := 3) (rest := [.int 0, .ref x3]) (av := [.ref x0, .long x1]) (fun T hT X => by obtain ⟨cb, r1, r2, r3⟩ := xb_recv (ci := 0) hR rfl hk1 (by decide); exact xt_invV X hx hown (hts _ m_c14a98a4) (hts _ m_02f4810d) (hts _ m_3f463752) (xt_sigOf (hts _ m_38c6d04c)) nm_H_push (by rw [hT]; exact r1) r2 r3 (g := F0 m 4 ls [.long x1, .ref x0, .int 0, .ref x3]) rfl (argsL := [.long x1]) (rest := [.int 0, .ref x3]) rfl rfl (by rw [hb]; exact (xb_d D_Law_push 4 rfl))) (ok_H_push l hfl D A σ x0 x1 h c4 sc4 _ _ hw) (hml.trans hl.1.symm) (by rw [hb]; exact (xb_d D_Law_push 4 rfl)) (Nat.le_of_ble_eq_true rfl) (Nat.le_of_ble_eq_true rfl) (Nat.le_of_ble_eq_true rfl) (show k + c4 ≤ MC by omega) (show n + sc4 ≤ MS by omega) (xt_w1 hB.1 m_38c6d04c) (xt_cdOf hB.1 m_38c6d04c) (hts _ m_ba0734f5) hB hR hS hA (fun vv h2 H locs hq hEh2 hR hS => ?_) (fun XX ax h2 H locs hq hEh2 hex hR hS => ?_)
  · obtain ⟨r3, rfl, hw⟩ := hq
    have hw := hw hEh2
    have hE := hE.tr hEh2
    refine W.eq (g2 := F0 m 7 ls [.int r3, .int 0, .ref x3]) rfl ?_
    refine lv_i2l hx hb (xb_d D_Law_push 5 rfl) rfl ?_
    obtain ⟨hk5, hw⟩ := hw
    obtain ⟨hi6, hw⟩ := hw
    refine xb_last hx hb hR hS hk5 hi6 (xb_d D_Law_push 6 rfl) (fun H locs hR hS => ?_)
    obtain ⟨h7, eh7⟩ : ∃ x : xb_H, x = xb_L h2 x3 (Int32.toNatClampNeg 0) (Int32.toInt64 r3) := ⟨_, rfl⟩
    rw [← eh7] at hR
    have hw := hw h7 eh7
    have hE : xb_ext h0 h7 := by rw [eh7]; exact hE
    refine lv_goto (tgt := 16) hx hb (xb_d D_Law_push 7 rfl) rfl ?_
    refine lv_iconst (v := 0) hx hb (xb_d D_Law_push 11 rfl) (by decide) ?_
    exact xb_iret hx hb hr hlocks (show (k + c4) ≤ MC by omega) (show (n + sc4) ≤ MS by omega) hE hR hS (xb_d D_Law_push 12 rfl) hw
  · have hw := hq hEh2
    have hE := hE.tr hEh2
    obtain ⟨rfl, hw⟩ := hw
    refine xt_catch (own := "StackHostLaw") (name := "java/lang/IllegalStateException") (Xn := "java/lang/IllegalStateException") hown ⟨0, 9, 12, 13⟩ [] htab (by decide) (by decide) (hts _ m_cd065aea) (hts _ m_a4ef0ec8) hex ?_
    refine W.eq (g2 := F0 m 12 ls [.ref ax]) rfl ?_
    refine lv_astore hx hb (xb_d D_Law_push 8 rfl) hl (by decide) rfl (fun ls hl => ?_)
    have hl : lv_has ls 5 [(4, .ref ax), (0, .ref x0), (1, .long x1), (3, .ref x3)] := hl
    refine lv_iconst (v := 1) hx hb (xb_d D_Law_push 9 rfl) (by decide) ?_
    exact xb_iret hx hb hr hlocks (show (k + c4) ≤ MC by omega) (show (n + sc4) ≤ MS by omega) hE hR hS (xb_d D_Law_push 10 rfl) hw

theorem m_0e45e3c6 : (.methodLink "StackHostModel" 366 y_M_sameName : Cond) ∈ xt_tbl := xt_in (xt_t11 (List.mem_of_getElem? (i := 121) (by decide +kernel))) (by decide +kernel)
theorem m_2b702532 : (.instanceMethod y_M_sameName : Cond) ∈ xt_tbl := xt_in (xt_t11 (List.mem_of_getElem? (i := 123) (by decide +kernel))) (by decide +kernel)
theorem m_ba6db66a : (.selects "StackHostModel" y_M_sameName y_M_sameName : Cond) ∈ xt_tbl := xt_in (xt_v11 (q := (⟨"StackHostModel", "sameName", "(III)Z"⟩, 97)) (List.mem_of_getElem? (i := 6) (by decide +kernel))) (by decide +kernel)
theorem m_870426fd : (.code y_M_sameName b_M_sameName 8 (some .boolean) : Cond) ∈ xt_tbl := xt_in (xt_t11 (List.mem_of_getElem? (i := 124) (by decide +kernel))) (by decide +kernel)
theorem m_32411888 : (.methodLink "StackHostModel" 293 y_M_name0 : Cond) ∈ xt_tbl := xt_in (xt_t10 (List.mem_of_getElem? (i := 226) (by decide +kernel))) (by decide +kernel)
theorem m_1909bcad : (.instanceMethod y_M_name0 : Cond) ∈ xt_tbl := xt_in (xt_t10 (List.mem_of_getElem? (i := 228) (by decide +kernel))) (by decide +kernel)
theorem m_471efb70 : (.selects "StackHostModel" y_M_name0 y_M_name0 : Cond) ∈ xt_tbl := xt_in (xt_v9 (q := (⟨"StackHostModel", "name", "()V"⟩, 97)) (List.mem_of_getElem? (i := 7) (by decide +kernel))) (by decide +kernel)
theorem m_06b9cb5d : (.code y_M_name0 b_M_name0 5 none : Cond) ∈ xt_tbl := xt_in (xt_t10 (List.mem_of_getElem? (i := 229) (by decide +kernel))) (by decide +kernel)
theorem nm_M_sameName : xt_nm y_M_sameName 3 := ⟨by decide +kernel, by decide +kernel⟩
theorem nm_M_name0 : xt_nm y_M_name0 0 := ⟨by decide +kernel, by decide +kernel⟩
set_option maxRecDepth 100000 in
def T_M_checkExports : List (Nat × Instr × Nat) := [(0, .iconst 0, 1), (1, .istore_n 2, 1), (2, .iload_n 2, 1), (3, .aload_n 0, 1), (4, .iload_n 1, 1), (5, .bipush 7, 2), (7, .invokevirtual 316, 3), (10, .if_icmp .ge 110, 3), (13, .aload_n 0, 1), (14, .getfield 193, 3), (17, .ifCond .ne 103, 3), (20, .aload_n 0, 1), (21, .iload_n 1, 1), (22, .bipush 7, 2), (24, .iload_n 2, 1), (25, .invokevirtual 320, 3), (28, .istore_n 3, 1), (29, .aload_n 0, 1), (30, .iload_n 1, 1), (31, .iload_n 3, 1), (32, .invokevirtual 324, 3), (35, .aload_n 0, 1), (36, .invokevirtual 293, 3), (39, .aload_n 0, 1), (40, .invokevirtual 212, 3), (43, .istore 4, 2), (45, .aload_n 0, 1), (46, .invokevirtual 218, 3), (49, .aload_n 0, 1), (50, .iload_n 1, 1), (51, .iload 4, 2), (53, .invokevirtual 362, 3), (56, .lcmp, 1), (57, .ifCond .lt 10, 3), (60, .aload_n 0, 1), (61, .bipush 20, 2), (63, .iload_n 3, 1), (64, .invokevirtual 208, 3), (67, .iconst 0, 1), (68, .istore 5, 2), (70, .iload 5, 2), (72, .iload_n 2, 1), (73, .if_icmp .ge 41, 3), (76, .aload_n 0, 1), (77, .getfield 193, 3), (80, .ifCond .ne 34, 3), (83, .aload_n 0, 1), (84, .iload_n 1, 1), (85, .aload_n 0, 1), (86, .iload_n 1, 1), (87, .bipush 7, 2), (89, .iload 5, 2), (91, .invokevirtual 320, 3), (94, .iload_n 3, 1), (95, .invokevirtual 366, 3), (98, .ifCond .eq 10, 3), (101, .aload_n 0, 1), (102, .bipush 24, 2), (104, .iload_n 3, 1), (105, .invokevirtual 208, 3), (108, .iinc 5 1, 3), (111, .goto (-41), 3), (114, .iinc 2 1, 3), (117, .goto (-115), 3), (120, .return_, 1)]
theorem D_M_checkExports : ∀ q ∈ T_M_checkExports, decode b_M_checkExports q.1 = .ok (q.2.1, q.2.2) := by decide +kernel
def w_M_checkExports_L120 (Qr : xb_H → Prop) (h : xb_H) : Prop :=
    Qr h

def w_M_checkExports_L114 (K2 : Nat → Int32 → Int32 → xb_H → Prop) (Qr : xb_H → Prop) (x0 : Nat) (x1 : Int32) (x2 : Int32) (h : xb_H) : Prop :=
    K2 x0 x1 (x2 + 1) h

def w_M_checkExports_L108 (K2 : Nat → Int32 → Int32 → xb_H → Prop) (K70 : Nat → Int32 → Int32 → Int32 → Int32 → xb_H → Prop) (Qr : xb_H → Prop) (x0 : Nat) (x1 : Int32) (x2 : Int32) (x3 : Int32) (x5 : Int32) (h : xb_H) : Prop :=
    K70 x0 x1 x2 x3 (x5 + 1) h

def w_M_checkExports_L70 (K2 : Nat → Int32 → Int32 → xb_H → Prop) (Qr : xb_H → Prop) : Nat → Nat → Int32 → Int32 → Int32 → Int32 → xb_H → Prop
  | 0, _, _, _, _, _, _ => False
  | n9 + 1, x0, x1, x2, x3, x5, h =>
    ((x2 ≤ x5 → w_M_checkExports_L114 K2 Qr x0 x1 x2 h) ∧ (¬ x2 ≤ x5 → xb_k h x0 = 9 ∧ ((¬ (xb_i h x0 17) = (0 : Int32) → w_M_checkExports_L114 K2 Qr x0 x1 x2 h) ∧ ((xb_i h x0 17) = (0 : Int32) → w_M_placeOf x0 x1 7 x5 h (fun (r5 : Int32) (h4 : xb_H) => xb_ext h h4 → w_M_sameName x0 x1 r5 x3 h4 (fun (r7 : Int32) (h6 : xb_H) => xb_ext h4 h6 → ((r7 = (0 : Int32) → w_M_checkExports_L108 K2 (w_M_checkExports_L70 K2 Qr n9) Qr x0 x1 x2 x3 x5 h6) ∧ (¬ r7 = (0 : Int32) → w_M_fail x0 24 x3 h6 (fun (h9 : xb_H) => xb_ext h6 h9 → w_M_checkExports_L108 K2 (w_M_checkExports_L70 K2 Qr n9) Qr x0 x1 x2 x3 x5 h9)))))))))

def w_M_checkExports_L67 (K2 : Nat → Int32 → Int32 → xb_H → Prop) (Qr : xb_H → Prop) (x0 : Nat) (x1 : Int32) (x2 : Int32) (x3 : Int32) (h : xb_H) : Prop :=
    (∃ n8 : Nat, w_M_checkExports_L70 K2 Qr n8 x0 x1 x2 x3 0 h)

def w_M_checkExports_L2 (Qr : xb_H → Prop) : Nat → Nat → Int32 → Int32 → xb_H → Prop
  | 0, _, _, _, _ => False
  | n9 + 1, x0, x1, x2, h =>
    xb_k h x0 = 9 ∧ w_M_manyOf x0 x1 7 h (fun (r3 : Int32) (h2 : xb_H) => xb_ext h h2 → ((r3 ≤ x2 → w_M_checkExports_L120 Qr h2) ∧ (¬ r3 ≤ x2 → ((¬ (xb_i h2 x0 17) = (0 : Int32) → w_M_checkExports_L120 Qr h2) ∧ ((xb_i h2 x0 17) = (0 : Int32) → w_M_placeOf x0 x1 7 x2 h2 (fun (r7 : Int32) (h6 : xb_H) => xb_ext h2 h6 → w_M_go x0 x1 r7 h6 (fun (h8 : xb_H) => xb_ext h6 h8 → w_M_name0 x0 h8 (fun (h10 : xb_H) => xb_ext h8 h10 → w_M_next x0 h10 (fun (r13 : Int32) (h12 : xb_H) => xb_ext h10 h12 → w_M_count x0 h12 (fun (r15 : Int64) (h14 : xb_H) => xb_ext h12 h14 → w_M_total x0 x1 r13 h14 (fun (r17 : Int64) (h16 : xb_H) => xb_ext h14 h16 → ((r15 < r17 → w_M_checkExports_L67 (w_M_checkExports_L2 Qr n9) Qr x0 x1 x2 r7 h16) ∧ (¬ r15 < r17 → w_M_fail x0 20 r7 h16 (fun (h19 : xb_H) => xb_ext h16 h19 → w_M_checkExports_L67 (w_M_checkExports_L2 Qr n9) Qr x0 x1 x2 r7 h19))))))))))))))

def w_M_checkExports (x0 : Nat) (x1 : Int32) (h : xb_H) (Qr : xb_H → Prop) : Prop :=
    (∃ n8 : Nat, w_M_checkExports_L2 Qr n8 x0 x1 0 h)

set_option maxHeartbeats 4000000 in
set_option maxRecDepth 100000 in
theorem am_M_checkExports_L120 (l : Launch) (hfl : l.flags = pinnedFlags ++ [noTraceFlag]) (D : va_G) (A : Nat → Prop) (σ MC MS : Nat) (h0 : xb_H) (Qr : xb_H → Prop) (h : xb_H) (hw : w_M_checkExports_L120 Qr h) : xb_am l D A σ 6 MC MS h0 (fun v h => v = none ∧ Qr h) (fun _ _ => False) y_M_checkExports.cls y_M_checkExports.name b_M_checkExports 6 ([] : List ExceptionTableEntry) none 120 [] [] h 0 0 := by
  unfold w_M_checkExports_L120 at hw
  intro p e s m args below meth c hC H locs ls k n hE hl hR hS hk hn
  obtain ⟨hx, hb, hown, hlocks, htab, hml, hr, hB, hA, hnm⟩ := id hC
  have hts := hB.1.1.at args
  exact xb_vret hx hb hr hlocks (show k ≤ MC by omega) (show n ≤ MS by omega) hE hR hS (xb_d D_M_checkExports 64 rfl) hw

set_option maxHeartbeats 4000000 in
set_option maxRecDepth 100000 in
theorem am_M_checkExports_L114 (l : Launch) (hfl : l.flags = pinnedFlags ++ [noTraceFlag]) (D : va_G) (A : Nat → Prop) (σ MC MS : Nat) (h0 : xb_H) (Qr : xb_H → Prop) (K2 : Nat → Int32 → Int32 → xb_H → Prop) (hK2 : ∀ (x0 : Nat) (x1 : Int32) (x2 : Int32) (h : xb_H), K2 x0 x1 x2 h → xb_am l D A σ 6 MC MS h0 (fun v h => v = none ∧ Qr h) (fun _ _ => False) y_M_checkExports.cls y_M_checkExports.name b_M_checkExports 6 ([] : List ExceptionTableEntry) none 2 [(0, .ref x0), (1, .int x1), (2, .int x2)] [] h 0 0) (x0 : Nat) (x1 : Int32) (x2 : Int32) (h : xb_H) (hw : w_M_checkExports_L114 K2 Qr x0 x1 x2 h) : xb_am l D A σ 6 MC MS h0 (fun v h => v = none ∧ Qr h) (fun _ _ => False) y_M_checkExports.cls y_M_checkExports.name b_M_checkExports 6 ([] : List ExceptionTableEntry) none 114 [(0, .ref x0), (1, .int x1), (2, .int x2)] [] h 0 0 := by
  unfold w_M_checkExports_L114 at hw
  intro p e s m args below meth c hC H locs ls k n hE hl hR hS hk hn
  obtain ⟨hx, hb, hown, hlocks, htab, hml, hr, hB, hA, hnm⟩ := id hC
  have hts := hB.1.1.at args
  refine lv_iinc (v := (x2 + 1)) (k := 2) hx hb (xb_d D_M_checkExports 62 rfl) hl rfl (by first | rfl | decide) (by decide) rfl (fun ls hl => ?_)
  have hl : lv_has ls 6 [(2, .int (x2 + 1)), (0, .ref x0), (1, .int x1)] := hl
  refine lv_goto (tgt := 2) hx hb (xb_d D_M_checkExports 63 rfl) rfl ?_
  exact hK2 x0 x1 (x2 + 1) h hw p e s m args below meth c hC H locs ls k n hE (lv_sub hl [1, 2, 0] rfl) hR hS (by omega) (by omega)

set_option maxHeartbeats 4000000 in
set_option maxRecDepth 100000 in
theorem am_M_checkExports_L108 (l : Launch) (hfl : l.flags = pinnedFlags ++ [noTraceFlag]) (D : va_G) (A : Nat → Prop) (σ MC MS : Nat) (h0 : xb_H) (Qr : xb_H → Prop) (K2 : Nat → Int32 → Int32 → xb_H → Prop) (hK2 : ∀ (x0 : Nat) (x1 : Int32) (x2 : Int32) (h : xb_H), K2 x0 x1 x2 h → xb_am l D A σ 6 MC MS h0 (fun v h => v = none ∧ Qr h) (fun _ _ => False) y_M_checkExports.cls y_M_checkExports.name b_M_checkExports 6 ([] : List ExceptionTableEntry) none 2 [(0, .ref x0), (1, .int x1), (2, .int x2)] [] h 0 0) (K70 : Nat → Int32 → Int32 → Int32 → Int32 → xb_H → Prop) (hK70 : ∀ (x0 : Nat) (x1 : Int32) (x2 : Int32) (x3 : Int32) (x5 : Int32) (h : xb_H), K70 x0 x1 x2 x3 x5 h → xb_am l D A σ 6 MC MS h0 (fun v h => v = none ∧ Qr h) (fun _ _ => False) y_M_checkExports.cls y_M_checkExports.name b_M_checkExports 6 ([] : List ExceptionTableEntry) none 70 [(0, .ref x0), (1, .int x1), (2, .int x2), (3, .int x3), (5, .int x5)] [] h 0 0) (x0 : Nat) (x1 : Int32) (x2 : Int32) (x3 : Int32) (x5 : Int32) (h : xb_H) (hw : w_M_checkExports_L108 K2 K70 Qr x0 x1 x2 x3 x5 h) : xb_am l D A σ 6 MC MS h0 (fun v h => v = none ∧ Qr h) (fun _ _ => False) y_M_checkExports.cls y_M_checkExports.name b_M_checkExports 6 ([] : List ExceptionTableEntry) none 108 [(0, .ref x0), (1, .int x1), (2, .int x2), (3, .int x3), (5, .int x5)] [] h 0 0 := by
  unfold w_M_checkExports_L108 at hw
  intro p e s m args below meth c hC H locs ls k n hE hl hR hS hk hn
  obtain ⟨hx, hb, hown, hlocks, htab, hml, hr, hB, hA, hnm⟩ := id hC
  have hts := hB.1.1.at args
  refine lv_iinc (v := (x5 + 1)) (k := 4) hx hb (xb_d D_M_checkExports 60 rfl) hl rfl (by first | rfl | decide) (by decide) rfl (fun ls hl => ?_)
  have hl : lv_has ls 6 [(5, .int (x5 + 1)), (0, .ref x0), (1, .int x1), (2, .int x2), (3, .int x3)] := hl
  refine lv_goto (tgt := 70) hx hb (xb_d D_M_checkExports 61 rfl) rfl ?_
  exact hK70 x0 x1 x2 x3 (x5 + 1) h hw p e s m args below meth c hC H locs ls k n hE (lv_sub hl [1, 2, 3, 4, 0] rfl) hR hS (by omega) (by omega)

set_option maxHeartbeats 4000000 in
set_option maxRecDepth 100000 in
theorem am_M_checkExports_L70 (l : Launch) (hfl : l.flags = pinnedFlags ++ [noTraceFlag]) (D : va_G) (A : Nat → Prop) (σ MC MS : Nat) (h0 : xb_H) (Qr : xb_H → Prop) (K2 : Nat → Int32 → Int32 → xb_H → Prop) (hK2 : ∀ (x0 : Nat) (x1 : Int32) (x2 : Int32) (h : xb_H), K2 x0 x1 x2 h → xb_am l D A σ 6 MC MS h0 (fun v h => v = none ∧ Qr h) (fun _ _ => False) y_M_checkExports.cls y_M_checkExports.name b_M_checkExports 6 ([] : List ExceptionTableEntry) none 2 [(0, .ref x0), (1, .int x1), (2, .int x2)] [] h 0 0) (n9 : Nat) : ∀ (x0 : Nat) (x1 : Int32) (x2 : Int32) (x3 : Int32) (x5 : Int32) (h : xb_H), w_M_checkExports_L70 K2 Qr n9 x0 x1 x2 x3 x5 h → xb_am l D A σ 6 MC MS h0 (fun v h => v = none ∧ Qr h) (fun _ _ => False) y_M_checkExports.cls y_M_checkExports.name b_M_checkExports 6 ([] : List ExceptionTableEntry) none 70 [(0, .ref x0), (1, .int x1), (2, .int x2), (3, .int x3), (5, .int x5)] [] h 0 0 := by
  induction n9 with
  | zero => intro x0 x1 x2 x3 x5 h hw; exact False.elim hw
  | succ n9 ih =>
    intro x0 x1 x2 x3 x5 h hw
    unfold w_M_checkExports_L70 at hw
    intro p e s m args below meth c hC H locs ls k n hE hl hR hS hk hn
    obtain ⟨hx, hb, hown, hlocks, htab, hml, hr, hB, hA, hnm⟩ := id hC
    have hts := hB.1.1.at args
    refine lv_iload hx hb (xb_d D_M_checkExports 40 rfl) (lv_at hl 4 rfl) ?_
    refine lv_iload_n hx hb (xb_d D_M_checkExports 41 rfl) rfl (lv_at hl 2 rfl) ?_
    refine lv_icmp_ge (tgt := 114) hx hb (xb_d D_M_checkExports 42 rfl) rfl (fun hc1 => ?_) (fun hc1 => ?_)
    · have hw := hw.1 hc1
      exact am_M_checkExports_L114 l hfl D A σ MC MS h0 Qr K2 hK2 x0 x1 x2 h hw p e s m args below meth c hC H locs ls k n hE (lv_sub hl [0, 1, 2] rfl) hR hS (by omega) (by omega)
    · have hw := hw.2 hc1
      refine lv_aload_n hx hb (xb_d D_M_checkExports 43 rfl) rfl (lv_at hl 0 rfl) ?_
      obtain ⟨hk2, hw⟩ := hw
      refine xb_getI (C := R_M) (T := F_M) (N := 97) hx hb 8 17 hts fin_M hown hR hk2 (by decide) rfl (by decide) rfl (hts _ m_ff69da61) (fun _ h9 => h9) (xb_d D_M_checkExports 44 rfl) ?_
      refine lv_if_ne (tgt := 114) hx hb (xb_d D_M_checkExports 45 rfl) rfl (fun hc3 => ?_) (fun hc3 => ?_)
      · have hw := hw.1 hc3
        exact am_M_checkExports_L114 l hfl D A σ MC MS h0 Qr K2 hK2 x0 x1 x2 h hw p e s m args below meth c hC H locs ls k n hE (lv_sub hl [0, 1, 2] rfl) hR hS (by omega) (by omega)
      · have hw := hw.2 hc3
        refine lv_aload_n hx hb (xb_d D_M_checkExports 46 rfl) rfl (lv_at hl 0 rfl) ?_
        refine lv_iload_n hx hb (xb_d D_M_checkExports 47 rfl) rfl (lv_at hl 1 rfl) ?_
        refine lv_aload_n hx hb (xb_d D_M_checkExports 48 rfl) rfl (lv_at hl 0 rfl) ?_
        refine lv_iload_n hx hb (xb_d D_M_checkExports 49 rfl) rfl (lv_at hl 1 rfl) ?_
        refine lv_bipush (v := 7) hx hb (xb_d D_M_checkExports 50 rfl) (by decide) ?_
        refine lv_iload hx hb (xb_d D_M_checkExports 51 rfl) (lv_at hl 4 rfl) ?_
        refine xb_call (D := D) (A := A) (σ := σ) (h := h) (d := 2) (mc := 0) (ms := 0) (maxL := 4) (rest := [.int x1, .ref x0]) (av := [.ref x0, .int x1, .int 7, .int x5]) (fun T hT X => by obtain ⟨cb, r1, r2, r3⟩ := xb_recv (ci := 8) hR rfl hk2 (by decide); exact xt_invV X hx hown (hts _ m_7f41753e) (hts _ m_8cdd7108) (hts _ m_e228318f) (xt_sigOf (hts _ m_89667ad5)) nm_M_placeOf (by rw [hT]; exact r1) r2 r3 (g := F0 m 91 ls [.int x5, .int 7, .int x1, .ref x0, .int x1, .ref x0]) rfl (argsL := [.int x1, .int 7, .int x5]) (rest := [.int x1, .ref x0]) rfl rfl (by rw [hb]; exact (xb_d D_M_checkExports 52 rfl))) (ok_M_placeOf l hfl D A σ x0 x1 7 x5 h _ hw) (hml.trans hl.1.symm) (by rw [hb]; exact (xb_d D_M_checkExports 52 rfl)) (Nat.le_of_ble_eq_true rfl) (Nat.le_of_ble_eq_true rfl) (Nat.le_of_ble_eq_true rfl) (show k + 0 ≤ MC by omega) (show n + 0 ≤ MS by omega) (xt_w1 hB.1 m_89667ad5) (xt_cdOf hB.1 m_89667ad5) (hts _ m_d5ed7bed) hB hR hS hA (fun vv h4 H locs hq hEh4 hR hS => ?_) (fun XX ax h4 H locs hq hEh4 hex hR hS => ?_)
        · obtain ⟨r5, rfl, hw⟩ := hq
          have hw := hw hEh4
          have hE := hE.tr hEh4
          refine W.eq (g2 := F0 m 94 ls [.int r5, .int x1, .ref x0]) rfl ?_
          refine lv_iload_n hx hb (xb_d D_M_checkExports 53 rfl) rfl (lv_at hl 3 rfl) ?_
          have hk2 : xb_k h4 x0 = 9 := hEh4.k hk2
          refine xb_call (D := D) (A := A) (σ := σ) (h := h4) (d := 5) (mc := 0) (ms := 0) (maxL := 8) (rest := []) (av := [.ref x0, .int x1, .int r5, .int x3]) (fun T hT X => by obtain ⟨cb, r1, r2, r3⟩ := xb_recv (ci := 8) hR rfl hk2 (by decide); exact xt_invV X hx hown (hts _ m_0e45e3c6) (hts _ m_2b702532) (hts _ m_ba6db66a) (xt_sigOf (hts _ m_870426fd)) nm_M_sameName (by rw [hT]; exact r1) r2 r3 (g := F0 m 95 ls [.int x3, .int r5, .int x1, .ref x0]) rfl (argsL := [.int x1, .int r5, .int x3]) (rest := []) rfl rfl (by rw [hb]; exact (xb_d D_M_checkExports 54 rfl))) (ok_M_sameName l hfl D A σ x0 x1 r5 x3 h4 _ hw) (hml.trans hl.1.symm) (by rw [hb]; exact (xb_d D_M_checkExports 54 rfl)) (Nat.le_of_ble_eq_true rfl) (Nat.le_of_ble_eq_true rfl) (Nat.le_of_ble_eq_true rfl) (show k + 0 ≤ MC by omega) (show n + 0 ≤ MS by omega) (xt_w1 hB.1 m_870426fd) (xt_cdOf hB.1 m_870426fd) (hts _ m_d5ed7bed) hB hR hS hA (fun vv h6 H locs hq hEh6 hR hS => ?_) (fun XX ax h6 H locs hq hEh6 hex hR hS => ?_)
          · obtain ⟨r7, rfl, hw⟩ := hq
            have hw := hw hEh6
            have hE := hE.tr hEh6
            refine W.eq (g2 := F0 m 98 ls [.int r7]) rfl ?_
            refine lv_if_eq (tgt := 108) hx hb (xb_d D_M_checkExports 55 rfl) rfl (fun hc8 => ?_) (fun hc8 => ?_)
            · have hw := hw.1 hc8
              exact am_M_checkExports_L108 l hfl D A σ MC MS h0 Qr K2 hK2 (w_M_checkExports_L70 K2 Qr n9) ih x0 x1 x2 x3 x5 h6 hw p e s m args below meth c hC H locs ls k n hE (lv_sub hl [0, 1, 2, 3, 4] rfl) hR hS (by omega) (by omega)
            · have hw := hw.2 hc8
              refine lv_aload_n hx hb (xb_d D_M_checkExports 56 rfl) rfl (lv_at hl 0 rfl) ?_
              refine lv_bipush (v := 24) hx hb (xb_d D_M_checkExports 57 rfl) (by decide) ?_
              refine lv_iload_n hx hb (xb_d D_M_checkExports 58 rfl) rfl (lv_at hl 3 rfl) ?_
              have hk2 : xb_k h6 x0 = 9 := hEh6.k hk2
              refine xb_call (D := D) (A := A) (σ := σ) (h := h6) (d := 2) (mc := 0) (ms := 0) (maxL := 3) (rest := []) (av := [.ref x0, .int 24, .int x3]) (fun T hT X => by obtain ⟨cb, r1, r2, r3⟩ := xb_recv (ci := 8) hR rfl hk2 (by decide); exact xt_invV X hx hown (hts _ m_939052ad) (hts _ m_29cc8c73) (hts _ m_3b1ac7ab) (xt_sigOf (hts _ m_8f062ecd)) nm_M_fail (by rw [hT]; exact r1) r2 r3 (g := F0 m 105 ls [.int x3, .int 24, .ref x0]) rfl (argsL := [.int 24, .int x3]) (rest := []) rfl rfl (by rw [hb]; exact (xb_d D_M_checkExports 59 rfl))) (ok_M_fail l hfl D A σ x0 24 x3 h6 _ hw) (hml.trans hl.1.symm) (by rw [hb]; exact (xb_d D_M_checkExports 59 rfl)) (Nat.le_of_ble_eq_true rfl) (Nat.le_of_ble_eq_true rfl) (Nat.le_of_ble_eq_true rfl) (show k + 0 ≤ MC by omega) (show n + 0 ≤ MS by omega) (xt_w1 hB.1 m_8f062ecd) (xt_cdOf hB.1 m_8f062ecd) (hts _ m_d5ed7bed) hB hR hS hA (fun vv h9 H locs hq hEh9 hR hS => ?_) (fun XX ax h9 H locs hq hEh9 hex hR hS => ?_)
              · obtain ⟨rfl, hw⟩ := hq
                have hw := hw hEh9
                have hE := hE.tr hEh9
                refine W.eq (g2 := F0 m 108 ls []) rfl ?_
                exact am_M_checkExports_L108 l hfl D A σ MC MS h0 Qr K2 hK2 (w_M_checkExports_L70 K2 Qr n9) ih x0 x1 x2 x3 x5 h9 hw p e s m args below meth c hC H locs ls k n hE (lv_sub hl [0, 1, 2, 3, 4] rfl) hR hS (by omega) (by omega)
              · exact False.elim hq
          · exact False.elim hq
        · exact False.elim hq

set_option maxHeartbeats 4000000 in
set_option maxRecDepth 100000 in
theorem am_M_checkExports_L67 (l : Launch) (hfl : l.flags = pinnedFlags ++ [noTraceFlag]) (D : va_G) (A : Nat → Prop) (σ MC MS : Nat) (h0 : xb_H) (Qr : xb_H → Prop) (K2 : Nat → Int32 → Int32 → xb_H → Prop) (hK2 : ∀ (x0 : Nat) (x1 : Int32) (x2 : Int32) (h : xb_H), K2 x0 x1 x2 h → xb_am l D A σ 6 MC MS h0 (fun v h => v = none ∧ Qr h) (fun _ _ => False) y_M_checkExports.cls y_M_checkExports.name b_M_checkExports 6 ([] : List ExceptionTableEntry) none 2 [(0, .ref x0), (1, .int x1), (2, .int x2)] [] h 0 0) (x0 : Nat) (x1 : Int32) (x2 : Int32) (x3 : Int32) (h : xb_H) (hw : w_M_checkExports_L67 K2 Qr x0 x1 x2 x3 h) : xb_am l D A σ 6 MC MS h0 (fun v h => v = none ∧ Qr h) (fun _ _ => False) y_M_checkExports.cls y_M_checkExports.name b_M_checkExports 6 ([] : List ExceptionTableEntry) none 67 [(0, .ref x0), (1, .int x1), (2, .int x2), (3, .int x3)] [] h 0 0 := by
  unfold w_M_checkExports_L67 at hw
  intro p e s m args below meth c hC H locs ls k n hE hl hR hS hk hn
  obtain ⟨hx, hb, hown, hlocks, htab, hml, hr, hB, hA, hnm⟩ := id hC
  have hts := hB.1.1.at args
  refine lv_iconst (v := 0) hx hb (xb_d D_M_checkExports 38 rfl) (by decide) ?_
  refine lv_istore hx hb (xb_d D_M_checkExports 39 rfl) hl (by decide) rfl (fun ls hl => ?_)
  have hl : lv_has ls 6 [(5, .int 0), (0, .ref x0), (1, .int x1), (2, .int x2), (3, .int x3)] := hl
  obtain ⟨n8, hw⟩ := hw
  exact am_M_checkExports_L70 l hfl D A σ MC MS h0 Qr K2 hK2 n8 x0 x1 x2 x3 0 h hw p e s m args below meth c hC H locs ls k n hE (lv_sub hl [1, 2, 3, 4, 0] rfl) hR hS (by omega) (by omega)

set_option maxHeartbeats 4000000 in
set_option maxRecDepth 100000 in
theorem am_M_checkExports_L2 (l : Launch) (hfl : l.flags = pinnedFlags ++ [noTraceFlag]) (D : va_G) (A : Nat → Prop) (σ MC MS : Nat) (h0 : xb_H) (Qr : xb_H → Prop) (n9 : Nat) : ∀ (x0 : Nat) (x1 : Int32) (x2 : Int32) (h : xb_H), w_M_checkExports_L2 Qr n9 x0 x1 x2 h → xb_am l D A σ 6 MC MS h0 (fun v h => v = none ∧ Qr h) (fun _ _ => False) y_M_checkExports.cls y_M_checkExports.name b_M_checkExports 6 ([] : List ExceptionTableEntry) none 2 [(0, .ref x0), (1, .int x1), (2, .int x2)] [] h 0 0 := by
  induction n9 with
  | zero => intro x0 x1 x2 h hw; exact False.elim hw
  | succ n9 ih =>
    intro x0 x1 x2 h hw
    unfold w_M_checkExports_L2 at hw
    intro p e s m args below meth c hC H locs ls k n hE hl hR hS hk hn
    obtain ⟨hx, hb, hown, hlocks, htab, hml, hr, hB, hA, hnm⟩ := id hC
    have hts := hB.1.1.at args
    refine lv_iload_n hx hb (xb_d D_M_checkExports 2 rfl) rfl (lv_at hl 2 rfl) ?_
    refine lv_aload_n hx hb (xb_d D_M_checkExports 3 rfl) rfl (lv_at hl 0 rfl) ?_
    refine lv_iload_n hx hb (xb_d D_M_checkExports 4 rfl) rfl (lv_at hl 1 rfl) ?_
    refine lv_bipush (v := 7) hx hb (xb_d D_M_checkExports 5 rfl) (by decide) ?_
    obtain ⟨hk1, hw⟩ := hw
    refine xb_call (D := D) (A := A) (σ := σ) (h := h) (d := 2) (mc := 0) (ms := 0) (maxL := 3) (rest := [.int x2]) (av := [.ref x0, .int x1, .int 7]) (fun T hT X => by obtain ⟨cb, r1, r2, r3⟩ := xb_recv (ci := 8) hR rfl hk1 (by decide); exact xt_invV X hx hown (hts _ m_b47f62c2) (hts _ m_9f071faf) (hts _ m_e1bb5c84) (xt_sigOf (hts _ m_3a6212d6)) nm_M_manyOf (by rw [hT]; exact r1) r2 r3 (g := F0 m 7 ls [.int 7, .int x1, .ref x0, .int x2]) rfl (argsL := [.int x1, .int 7]) (rest := [.int x2]) rfl rfl (by rw [hb]; exact (xb_d D_M_checkExports 6 rfl))) (ok_M_manyOf l hfl D A σ x0 x1 7 h _ hw) (hml.trans hl.1.symm) (by rw [hb]; exact (xb_d D_M_checkExports 6 rfl)) (Nat.le_of_ble_eq_true rfl) (Nat.le_of_ble_eq_true rfl) (Nat.le_of_ble_eq_true rfl) (show k + 0 ≤ MC by omega) (show n + 0 ≤ MS by omega) (xt_w1 hB.1 m_3a6212d6) (xt_cdOf hB.1 m_3a6212d6) (hts _ m_d5ed7bed) hB hR hS hA (fun vv h2 H locs hq hEh2 hR hS => ?_) (fun XX ax h2 H locs hq hEh2 hex hR hS => ?_)
    · obtain ⟨r3, rfl, hw⟩ := hq
      have hw := hw hEh2
      have hE := hE.tr hEh2
      refine W.eq (g2 := F0 m 10 ls [.int r3, .int x2]) rfl ?_
      refine lv_icmp_ge (tgt := 120) hx hb (xb_d D_M_checkExports 7 rfl) rfl (fun hc4 => ?_) (fun hc4 => ?_)
      · have hw := hw.1 hc4
        exact am_M_checkExports_L120 l hfl D A σ MC MS h0 Qr h2 hw p e s m args below meth c hC H locs ls k n hE (lv_sub hl [] rfl) hR hS (by omega) (by omega)
      · have hw := hw.2 hc4
        refine lv_aload_n hx hb (xb_d D_M_checkExports 8 rfl) rfl (lv_at hl 0 rfl) ?_
        have hk1 : xb_k h2 x0 = 9 := hEh2.k hk1
        refine xb_getI (C := R_M) (T := F_M) (N := 97) hx hb 8 17 hts fin_M hown hR hk1 (by decide) rfl (by decide) rfl (hts _ m_ff69da61) (fun _ h9 => h9) (xb_d D_M_checkExports 9 rfl) ?_
        refine lv_if_ne (tgt := 120) hx hb (xb_d D_M_checkExports 10 rfl) rfl (fun hc5 => ?_) (fun hc5 => ?_)
        · have hw := hw.1 hc5
          exact am_M_checkExports_L120 l hfl D A σ MC MS h0 Qr h2 hw p e s m args below meth c hC H locs ls k n hE (lv_sub hl [] rfl) hR hS (by omega) (by omega)
        · have hw := hw.2 hc5
          refine lv_aload_n hx hb (xb_d D_M_checkExports 11 rfl) rfl (lv_at hl 0 rfl) ?_
          refine lv_iload_n hx hb (xb_d D_M_checkExports 12 rfl) rfl (lv_at hl 1 rfl) ?_
          refine lv_bipush (v := 7) hx hb (xb_d D_M_checkExports 13 rfl) (by decide) ?_
          refine lv_iload_n hx hb (xb_d D_M_checkExports 14 rfl) rfl (lv_at hl 2 rfl) ?_
          refine xb_call (D := D) (A := A) (σ := σ) (h := h2) (d := 2) (mc := 0) (ms := 0) (maxL := 4) (rest := []) (av := [.ref x0, .int x1, .int 7, .int x2]) (fun T hT X => by obtain ⟨cb, r1, r2, r3⟩ := xb_recv (ci := 8) hR rfl hk1 (by decide); exact xt_invV X hx hown (hts _ m_7f41753e) (hts _ m_8cdd7108) (hts _ m_e228318f) (xt_sigOf (hts _ m_89667ad5)) nm_M_placeOf (by rw [hT]; exact r1) r2 r3 (g := F0 m 25 ls [.int x2, .int 7, .int x1, .ref x0]) rfl (argsL := [.int x1, .int 7, .int x2]) (rest := []) rfl rfl (by rw [hb]; exact (xb_d D_M_checkExports 15 rfl))) (ok_M_placeOf l hfl D A σ x0 x1 7 x2 h2 _ hw) (hml.trans hl.1.symm) (by rw [hb]; exact (xb_d D_M_checkExports 15 rfl)) (Nat.le_of_ble_eq_true rfl) (Nat.le_of_ble_eq_true rfl) (Nat.le_of_ble_eq_true rfl) (show k + 0 ≤ MC by omega) (show n + 0 ≤ MS by omega) (xt_w1 hB.1 m_89667ad5) (xt_cdOf hB.1 m_89667ad5) (hts _ m_d5ed7bed) hB hR hS hA (fun vv h6 H locs hq hEh6 hR hS => ?_) (fun XX ax h6 H locs hq hEh6 hex hR hS => ?_)
          · obtain ⟨r7, rfl, hw⟩ := hq
            have hw := hw hEh6
            have hE := hE.tr hEh6
            refine W.eq (g2 := F0 m 28 ls [.int r7]) rfl ?_
            refine lv_istore_n hx hb (xb_d D_M_checkExports 16 rfl) rfl hl (by decide) rfl (fun ls hl => ?_)
            have hl : lv_has ls 6 [(3, .int r7), (0, .ref x0), (1, .int x1), (2, .int x2)] := hl
            refine lv_aload_n hx hb (xb_d D_M_checkExports 17 rfl) rfl (lv_at hl 1 rfl) ?_
            refine lv_iload_n hx hb (xb_d D_M_checkExports 18 rfl) rfl (lv_at hl 2 rfl) ?_
            refine lv_iload_n hx hb (xb_d D_M_checkExports 19 rfl) rfl (lv_at hl 0 rfl) ?_
            have hk1 : xb_k h6 x0 = 9 := hEh6.k hk1
            refine xb_call (D := D) (A := A) (σ := σ) (h := h6) (d := 2) (mc := 0) (ms := 0) (maxL := 3) (rest := []) (av := [.ref x0, .int x1, .int r7]) (fun T hT X => by obtain ⟨cb, r1, r2, r3⟩ := xb_recv (ci := 8) hR rfl hk1 (by decide); exact xt_invV X hx hown (hts _ m_bb531879) (hts _ m_4a6cd4a0) (hts _ m_d1c31e3c) (xt_sigOf (hts _ m_48217fba)) nm_M_go (by rw [hT]; exact r1) r2 r3 (g := F0 m 32 ls [.int r7, .int x1, .ref x0]) rfl (argsL := [.int x1, .int r7]) (rest := []) rfl rfl (by rw [hb]; exact (xb_d D_M_checkExports 20 rfl))) (ok_M_go l hfl D A σ x0 x1 r7 h6 _ hw) (hml.trans hl.1.symm) (by rw [hb]; exact (xb_d D_M_checkExports 20 rfl)) (Nat.le_of_ble_eq_true rfl) (Nat.le_of_ble_eq_true rfl) (Nat.le_of_ble_eq_true rfl) (show k + 0 ≤ MC by omega) (show n + 0 ≤ MS by omega) (xt_w1 hB.1 m_48217fba) (xt_cdOf hB.1 m_48217fba) (hts _ m_d5ed7bed) hB hR hS hA (fun vv h8 H locs hq hEh8 hR hS => ?_) (fun XX ax h8 H locs hq hEh8 hex hR hS => ?_)
            · obtain ⟨rfl, hw⟩ := hq
              have hw := hw hEh8
              have hE := hE.tr hEh8
              refine W.eq (g2 := F0 m 35 ls []) rfl ?_
              refine lv_aload_n hx hb (xb_d D_M_checkExports 21 rfl) rfl (lv_at hl 1 rfl) ?_
              have hk1 : xb_k h8 x0 = 9 := hEh8.k hk1
              refine xb_call (D := D) (A := A) (σ := σ) (h := h8) (d := 5) (mc := 0) (ms := 0) (maxL := 5) (rest := []) (av := [.ref x0]) (fun T hT X => by obtain ⟨cb, r1, r2, r3⟩ := xb_recv (ci := 8) hR rfl hk1 (by decide); exact xt_invV X hx hown (hts _ m_32411888) (hts _ m_1909bcad) (hts _ m_471efb70) (xt_sigOf (hts _ m_06b9cb5d)) nm_M_name0 (by rw [hT]; exact r1) r2 r3 (g := F0 m 36 ls [.ref x0]) rfl (argsL := []) (rest := []) rfl rfl (by rw [hb]; exact (xb_d D_M_checkExports 22 rfl))) (ok_M_name0 l hfl D A σ x0 h8 _ hw) (hml.trans hl.1.symm) (by rw [hb]; exact (xb_d D_M_checkExports 22 rfl)) (Nat.le_of_ble_eq_true rfl) (Nat.le_of_ble_eq_true rfl) (Nat.le_of_ble_eq_true rfl) (show k + 0 ≤ MC by omega) (show n + 0 ≤ MS by omega) (xt_w1 hB.1 m_06b9cb5d) (xt_cdOf hB.1 m_06b9cb5d) (hts _ m_d5ed7bed) hB hR hS hA (fun vv h10 H locs hq hEh10 hR hS => ?_) (fun XX ax h10 H locs hq hEh10 hex hR hS => ?_)
              · obtain ⟨rfl, hw⟩ := hq
                have hw := hw hEh10
                have hE := hE.tr hEh10
                refine W.eq (g2 := F0 m 39 ls []) rfl ?_
                refine lv_aload_n hx hb (xb_d D_M_checkExports 23 rfl) rfl (lv_at hl 1 rfl) ?_
                have hk1 : xb_k h10 x0 = 9 := hEh10.k hk1
                refine xb_call (D := D) (A := A) (σ := σ) (h := h10) (d := 3) (mc := 0) (ms := 0) (maxL := 2) (rest := []) (av := [.ref x0]) (fun T hT X => by obtain ⟨cb, r1, r2, r3⟩ := xb_recv (ci := 8) hR rfl hk1 (by decide); exact xt_invV X hx hown (hts _ m_0e978570) (hts _ m_40099f98) (hts _ m_a7dbfd07) (xt_sigOf (hts _ m_0af1ec6a)) nm_M_next (by rw [hT]; exact r1) r2 r3 (g := F0 m 40 ls [.ref x0]) rfl (argsL := []) (rest := []) rfl rfl (by rw [hb]; exact (xb_d D_M_checkExports 24 rfl))) (ok_M_next l hfl D A σ x0 h10 _ hw) (hml.trans hl.1.symm) (by rw [hb]; exact (xb_d D_M_checkExports 24 rfl)) (Nat.le_of_ble_eq_true rfl) (Nat.le_of_ble_eq_true rfl) (Nat.le_of_ble_eq_true rfl) (show k + 0 ≤ MC by omega) (show n + 0 ≤ MS by omega) (xt_w1 hB.1 m_0af1ec6a) (xt_cdOf hB.1 m_0af1ec6a) (hts _ m_d5ed7bed) hB hR hS hA (fun vv h12 H locs hq hEh12 hR hS => ?_) (fun XX ax h12 H locs hq hEh12 hex hR hS => ?_)
                · obtain ⟨r13, rfl, hw⟩ := hq
                  have hw := hw hEh12
                  have hE := hE.tr hEh12
                  refine W.eq (g2 := F0 m 43 ls [.int r13]) rfl ?_
                  refine lv_istore hx hb (xb_d D_M_checkExports 25 rfl) hl (by decide) rfl (fun ls hl => ?_)
                  have hl : lv_has ls 6 [(4, .int r13), (3, .int r7), (0, .ref x0), (1, .int x1), (2, .int x2)] := hl
                  refine lv_aload_n hx hb (xb_d D_M_checkExports 26 rfl) rfl (lv_at hl 2 rfl) ?_
                  have hk1 : xb_k h12 x0 = 9 := hEh12.k hk1
                  refine xb_call (D := D) (A := A) (σ := σ) (h := h12) (d := 4) (mc := 0) (ms := 0) (maxL := 5) (rest := []) (av := [.ref x0]) (fun T hT X => by obtain ⟨cb, r1, r2, r3⟩ := xb_recv (ci := 8) hR rfl hk1 (by decide); exact xt_invV X hx hown (hts _ m_e991293f) (hts _ m_385a74b3) (hts _ m_c9fbcd02) (xt_sigOf (hts _ m_1f53f210)) nm_M_count (by rw [hT]; exact r1) r2 r3 (g := F0 m 46 ls [.ref x0]) rfl (argsL := []) (rest := []) rfl rfl (by rw [hb]; exact (xb_d D_M_checkExports 27 rfl))) (ok_M_count l hfl D A σ x0 h12 _ hw) (hml.trans hl.1.symm) (by rw [hb]; exact (xb_d D_M_checkExports 27 rfl)) (Nat.le_of_ble_eq_true rfl) (Nat.le_of_ble_eq_true rfl) (Nat.le_of_ble_eq_true rfl) (show k + 0 ≤ MC by omega) (show n + 0 ≤ MS by omega) (xt_w1 hB.1 m_1f53f210) (xt_cdOf hB.1 m_1f53f210) (hts _ m_d5ed7bed) hB hR hS hA (fun vv h14 H locs hq hEh14 hR hS => ?_) (fun XX ax h14 H locs hq hEh14 hex hR hS => ?_)
                  · obtain ⟨r15, rfl, hw⟩ := hq
                    have hw := hw hEh14
                    have hE := hE.tr hEh14
                    refine W.eq (g2 := F0 m 49 ls [.long r15]) rfl ?_
                    refine lv_aload_n hx hb (xb_d D_M_checkExports 28 rfl) rfl (lv_at hl 2 rfl) ?_
                    refine lv_iload_n hx hb (xb_d D_M_checkExports 29 rfl) rfl (lv_at hl 3 rfl) ?_
                    refine lv_iload hx hb (xb_d D_M_checkExports 30 rfl) (lv_at hl 0 rfl) ?_
                    have hk1 : xb_k h14 x0 = 9 := hEh14.k hk1
                    refine xb_call (D := D) (A := A) (σ := σ) (h := h14) (d := 3) (mc := 0) (ms := 0) (maxL := 3) (rest := [.long r15]) (av := [.ref x0, .int x1, .int r13]) (fun T hT X => by obtain ⟨cb, r1, r2, r3⟩ := xb_recv (ci := 8) hR rfl hk1 (by decide); exact xt_invV X hx hown (hts _ m_940fb65e) (hts _ m_342c0f16) (hts _ m_c0324d76) (xt_sigOf (hts _ m_feaaa075)) nm_M_total (by rw [hT]; exact r1) r2 r3 (g := F0 m 53 ls [.int r13, .int x1, .ref x0, .long r15]) rfl (argsL := [.int x1, .int r13]) (rest := [.long r15]) rfl rfl (by rw [hb]; exact (xb_d D_M_checkExports 31 rfl))) (ok_M_total l hfl D A σ x0 x1 r13 h14 _ hw) (hml.trans hl.1.symm) (by rw [hb]; exact (xb_d D_M_checkExports 31 rfl)) (Nat.le_of_ble_eq_true rfl) (Nat.le_of_ble_eq_true rfl) (Nat.le_of_ble_eq_true rfl) (show k + 0 ≤ MC by omega) (show n + 0 ≤ MS by omega) (xt_w1 hB.1 m_feaaa075) (xt_cdOf hB.1 m_feaaa075) (hts _ m_d5ed7bed) hB hR hS hA (fun vv h16 H locs hq hEh16 hR hS => ?_) (fun XX ax h16 H locs hq hEh16 hex hR hS => ?_)
                    · obtain ⟨r17, rfl, hw⟩ := hq
                      have hw := hw hEh16
                      have hE := hE.tr hEh16
                      refine W.eq (g2 := F0 m 56 ls [.long r17, .long r15]) rfl ?_
                      refine xb_lc_lt (tgt := 67) hx hb (xb_d D_M_checkExports 32 rfl) (xb_d D_M_checkExports 33 rfl) rfl (fun hc18 => ?_) (fun hc18 => ?_)
                      · have hw := hw.1 hc18
                        exact am_M_checkExports_L67 l hfl D A σ MC MS h0 Qr (w_M_checkExports_L2 Qr n9) ih x0 x1 x2 r7 h16 hw p e s m args below meth c hC H locs ls k n hE (lv_sub hl [2, 3, 4, 1] rfl) hR hS (by omega) (by omega)
                      · have hw := hw.2 hc18
                        refine lv_aload_n hx hb (xb_d D_M_checkExports 34 rfl) rfl (lv_at hl 2 rfl) ?_
                        refine lv_bipush (v := 20) hx hb (xb_d D_M_checkExports 35 rfl) (by decide) ?_
                        refine lv_iload_n hx hb (xb_d D_M_checkExports 36 rfl) rfl (lv_at hl 1 rfl) ?_
                        have hk1 : xb_k h16 x0 = 9 := hEh16.k hk1
                        refine xb_call (D := D) (A := A) (σ := σ) (h := h16) (d := 2) (mc := 0) (ms := 0) (maxL := 3) (rest := []) (av := [.ref x0, .int 20, .int r7]) (fun T hT X => by obtain ⟨cb, r1, r2, r3⟩ := xb_recv (ci := 8) hR rfl hk1 (by decide); exact xt_invV X hx hown (hts _ m_939052ad) (hts _ m_29cc8c73) (hts _ m_3b1ac7ab) (xt_sigOf (hts _ m_8f062ecd)) nm_M_fail (by rw [hT]; exact r1) r2 r3 (g := F0 m 64 ls [.int r7, .int 20, .ref x0]) rfl (argsL := [.int 20, .int r7]) (rest := []) rfl rfl (by rw [hb]; exact (xb_d D_M_checkExports 37 rfl))) (ok_M_fail l hfl D A σ x0 20 r7 h16 _ hw) (hml.trans hl.1.symm) (by rw [hb]; exact (xb_d D_M_checkExports 37 rfl)) (Nat.le_of_ble_eq_true rfl) (Nat.le_of_ble_eq_true rfl) (Nat.le_of_ble_eq_true rfl) (show k + 0 ≤ MC by omega) (show n + 0 ≤ MS by omega) (xt_w1 hB.1 m_8f062ecd) (xt_cdOf hB.1 m_8f062ecd) (hts _ m_d5ed7bed) hB hR hS hA (fun vv h19 H locs hq hEh19 hR hS => ?_) (fun XX ax h19 H locs hq hEh19 hex hR hS => ?_)
                        · obtain ⟨rfl, hw⟩ := hq
                          have hw := hw hEh19
                          have hE := hE.tr hEh19
                          refine W.eq (g2 := F0 m 67 ls []) rfl ?_
                          exact am_M_checkExports_L67 l hfl D A σ MC MS h0 Qr (w_M_checkExports_L2 Qr n9) ih x0 x1 x2 r7 h19 hw p e s m args below meth c hC H locs ls k n hE (lv_sub hl [2, 3, 4, 1] rfl) hR hS (by omega) (by omega)
                        · exact False.elim hq
                    · exact False.elim hq
                  · exact False.elim hq
                · exact False.elim hq
              · exact False.elim hq
            · exact False.elim hq
          · exact False.elim hq
    · exact False.elim hq

set_option maxHeartbeats 4000000 in
set_option maxRecDepth 100000 in
theorem ok_M_checkExports (l : Launch) (hfl : l.flags = pinnedFlags ++ [noTraceFlag]) (D : va_G) (A : Nat → Prop) (σ : Nat) (x0 : Nat) (x1 : Int32) (h : xb_H) (Qr : xb_H → Prop) (hw : w_M_checkExports x0 x1 h Qr) : xt_Met l y_M_checkExports [.code y_M_checkExports b_M_checkExports 6 none] (xb_rm 6 0 0) (xb_Pc D A σ h [.ref x0, .int x1]) (xb_Qc D A h (fun v h => v = none ∧ Qr h) (fun _ _ => False)) 0 0 A := by
  refine xb_ofAm (cc := b_M_checkExports) (by decide) (Nat.le_of_ble_eq_true rfl) ?_
  unfold w_M_checkExports at hw
  show xb_am l D A σ 6 0 0 h (fun v h => v = none ∧ Qr h) (fun _ _ => False) y_M_checkExports.cls y_M_checkExports.name b_M_checkExports 6 ([] : List ExceptionTableEntry) none 0 [(0, .ref x0), (1, .int x1)] [] h 0 0
  obtain ⟨MC, hMC⟩ : ∃ x, x = 0 := ⟨_, rfl⟩
  obtain ⟨MS, hMS⟩ : ∃ x, x = 0 := ⟨_, rfl⟩
  rw [show xb_am l D A σ 6 0 0 = xb_am l D A σ 6 MC MS by rw [hMC, hMS]]
  obtain ⟨h0, hh0⟩ : ∃ x, x = h := ⟨_, rfl⟩
  rw [show xb_am l D A σ 6 MC MS h = xb_am l D A σ 6 MC MS h0 by rw [hh0]]
  intro p e s m args below meth c hC H locs ls k n hE hl hR hS hk hn
  obtain ⟨hx, hb, hown, hlocks, htab, hml, hr, hB, hA, hnm⟩ := id hC
  have hts := hB.1.1.at args
  refine lv_iconst (v := 0) hx hb (xb_d D_M_checkExports 0 rfl) (by decide) ?_
  refine lv_istore_n hx hb (xb_d D_M_checkExports 1 rfl) rfl hl (by decide) rfl (fun ls hl => ?_)
  have hl : lv_has ls 6 [(2, .int 0), (0, .ref x0), (1, .int x1)] := hl
  obtain ⟨n8, hw⟩ := hw
  exact am_M_checkExports_L2 l hfl D A σ MC MS h0 Qr n8 x0 x1 0 h hw p e s m args below meth c hC H locs ls k n hE (lv_sub hl [1, 2, 0] rfl) hR hS (by omega) (by omega)

