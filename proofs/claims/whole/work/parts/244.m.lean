theorem m_2ff4e4ca : (.methodLink "StackHost$Machine" 226 y_Machine_branch : Cond) ∈ xt_tbl := xt_in (xt_t9 (List.mem_of_getElem? (i := 9) (by decide +kernel))) (by decide +kernel)
theorem m_118b24b7 : (.instanceMethod y_Machine_branch : Cond) ∈ xt_tbl := xt_in (xt_t9 (List.mem_of_getElem? (i := 11) (by decide +kernel))) (by decide +kernel)
theorem m_3a3589ee : (.selects "StackHost$Machine" y_Machine_branch y_Machine_branch : Cond) ∈ xt_tbl := xt_in (xt_v8 (q := (⟨"StackHost$Machine", "branch", "(I)V"⟩, 18)) (List.mem_of_getElem? (i := 12) (by decide +kernel))) (by decide +kernel)
theorem m_540952bd : (.code y_Machine_branch b_Machine_branch 4 none : Cond) ∈ xt_tbl := xt_in (xt_t9 (List.mem_of_getElem? (i := 12) (by decide +kernel))) (by decide +kernel)
theorem m_bfca4707 : (.methodLink "StackHost$Machine" 229 y_Machine_chosenLabel : Cond) ∈ xt_tbl := xt_in (xt_t9 (List.mem_of_getElem? (i := 13) (by decide +kernel))) (by decide +kernel)
theorem m_e2b28718 : (.instanceMethod y_Machine_chosenLabel : Cond) ∈ xt_tbl := xt_in (xt_t9 (List.mem_of_getElem? (i := 15) (by decide +kernel))) (by decide +kernel)
theorem m_93b0a8fc : (.selects "StackHost$Machine" y_Machine_chosenLabel y_Machine_chosenLabel : Cond) ∈ xt_tbl := xt_in (xt_v8 (q := (⟨"StackHost$Machine", "chosenLabel", "()I"⟩, 18)) (List.mem_of_getElem? (i := 13) (by decide +kernel))) (by decide +kernel)
theorem m_780abd7a : (.code y_Machine_chosenLabel b_Machine_chosenLabel 3 (some .int) : Cond) ∈ xt_tbl := xt_in (xt_t9 (List.mem_of_getElem? (i := 16) (by decide +kernel))) (by decide +kernel)
theorem m_13027831 : (.methodLink "StackHost$Machine" 233 y_Instance_functionId : Cond) ∈ xt_tbl := xt_in (xt_t9 (List.mem_of_getElem? (i := 17) (by decide +kernel))) (by decide +kernel)
theorem m_2e977ee7 : (.methodLink "StackHost$Machine" 93 y_Machine_call : Cond) ∈ xt_tbl := xt_in (xt_t7 (List.mem_of_getElem? (i := 207) (by decide +kernel))) (by decide +kernel)
theorem m_0a404550 : (.instanceMethod y_Machine_call : Cond) ∈ xt_tbl := xt_in (xt_t7 (List.mem_of_getElem? (i := 209) (by decide +kernel))) (by decide +kernel)
theorem m_a0a488ae : (.selects "StackHost$Machine" y_Machine_call y_Machine_call : Cond) ∈ xt_tbl := xt_in (xt_v6 (q := (⟨"StackHost$Machine", "call", "(II)V"⟩, 18)) (List.mem_of_getElem? (i := 5) (by decide +kernel))) (by decide +kernel)
theorem m_f3390e9e : (.code y_Machine_call b_Machine_call 10 none : Cond) ∈ xt_tbl := xt_in (xt_t7 (List.mem_of_getElem? (i := 210) (by decide +kernel))) (by decide +kernel)
theorem m_0adfe5d3 : (.methodLink "StackHost$Machine" 236 y_Machine_chosenElement : Cond) ∈ xt_tbl := xt_in (xt_t9 (List.mem_of_getElem? (i := 18) (by decide +kernel))) (by decide +kernel)
theorem m_5b2a395b : (.instanceMethod y_Machine_chosenElement : Cond) ∈ xt_tbl := xt_in (xt_t9 (List.mem_of_getElem? (i := 20) (by decide +kernel))) (by decide +kernel)
theorem m_aa9611ca : (.selects "StackHost$Machine" y_Machine_chosenElement y_Machine_chosenElement : Cond) ∈ xt_tbl := xt_in (xt_v8 (q := (⟨"StackHost$Machine", "chosenElement", "()I"⟩, 18)) (List.mem_of_getElem? (i := 14) (by decide +kernel))) (by decide +kernel)
theorem m_639fa9c2 : (.code y_Machine_chosenElement b_Machine_chosenElement 3 (some .int) : Cond) ∈ xt_tbl := xt_in (xt_t9 (List.mem_of_getElem? (i := 21) (by decide +kernel))) (by decide +kernel)
theorem nm_Machine_branch : xt_nm y_Machine_branch 1 := ⟨by decide +kernel, by decide +kernel⟩
theorem nm_Machine_chosenLabel : xt_nm y_Machine_chosenLabel 0 := ⟨by decide +kernel, by decide +kernel⟩
theorem nm_Machine_call : xt_nm y_Machine_call 2 := ⟨by decide +kernel, by decide +kernel⟩
theorem nm_Machine_chosenElement : xt_nm y_Machine_chosenElement 0 := ⟨by decide +kernel, by decide +kernel⟩
set_option maxRecDepth 100000 in
def T_Machine_control : List (Nat × Instr × Nat) := [(0, .iload_n 1, 1), (1, .tableswitch 401 4 27 #[111, 401, 401, 401, 401, 401, 401, 401, 164, 182, 240, 251, 258, 292, 401, 401, 401, 401, 401, 401, 401, 401, 319, 342], 111), (112, .aload_n 0, 1), (113, .dup, 1), (114, .getfield 53, 3), (117, .iconst 1, 1), (118, .isub, 1), (119, .putfield 53, 3), (122, .aload_n 0, 1), (123, .aload_n 0, 1), (124, .getfield 35, 3), (127, .aload_n 0, 1), (128, .getfield 53, 3), (131, .laload, 1), (132, .lconst 0, 1), (133, .lcmp, 1), (134, .ifCond .eq 12, 3), (137, .aload_n 0, 1), (138, .getfield 108, 3), (141, .iconst 2, 1), (142, .iadd, 1), (143, .goto 16, 3), (146, .aload_n 0, 1), (147, .getfield 111, 3), (150, .aload_n 0, 1), (151, .getfield 108, 3), (154, .iconst 1, 1), (155, .iadd, 1), (156, .iaload, 1), (157, .iconst 1, 1), (158, .iadd, 1), (159, .putfield 108, 3), (162, .goto 245, 3), (165, .aload_n 0, 1), (166, .aload_n 0, 1), (167, .getfield 111, 3), (170, .aload_n 0, 1), (171, .getfield 108, 3), (174, .iconst 1, 1), (175, .iadd, 1), (176, .iaload, 1), (177, .invokevirtual 226, 3), (180, .goto 227, 3), (183, .aload_n 0, 1), (184, .dup, 1), (185, .getfield 53, 3), (188, .iconst 1, 1), (189, .isub, 1), (190, .putfield 53, 3), (193, .aload_n 0, 1), (194, .getfield 35, 3), (197, .aload_n 0, 1), (198, .getfield 53, 3), (201, .laload, 1), (202, .lconst 0, 1), (203, .lcmp, 1), (204, .ifCond .eq 21, 3), (207, .aload_n 0, 1), (208, .aload_n 0, 1), (209, .getfield 111, 3), (212, .aload_n 0, 1), (213, .getfield 108, 3), (216, .iconst 1, 1), (217, .iadd, 1), (218, .iaload, 1), (219, .invokevirtual 226, 3), (222, .goto 185, 3), (225, .aload_n 0, 1), (226, .aload_n 0, 1), (227, .getfield 111, 3), (230, .aload_n 0, 1), (231, .getfield 108, 3), (234, .iaload, 1), (235, .putfield 108, 3), (238, .goto 169, 3), (241, .aload_n 0, 1), (242, .aload_n 0, 1), (243, .invokevirtual 229, 3), (246, .invokevirtual 226, 3), (249, .goto 158, 3), (252, .aload_n 0, 1), (253, .invokevirtual 114, 3), (256, .goto 151, 3), (259, .aload_n 0, 1), (260, .aload_n 0, 1), (261, .getfield 117, 3), (264, .aload_n 0, 1), (265, .getfield 111, 3), (268, .aload_n 0, 1), (269, .getfield 108, 3), (272, .iconst 1, 1), (273, .iadd, 1), (274, .iaload, 1), (275, .invokevirtual 233, 3), (278, .aload_n 0, 1), (279, .getfield 111, 3), (282, .aload_n 0, 1), (283, .getfield 108, 3), (286, .iaload, 1), (287, .invokevirtual 93, 3), (290, .goto 117, 3), (293, .aload_n 0, 1), (294, .invokevirtual 236, 3), (297, .istore_n 2, 1), (298, .iload_n 2, 1), (299, .iconst (-1), 1), (300, .if_icmp .eq 107, 3), (303, .aload_n 0, 1), (304, .iload_n 2, 1), (305, .aload_n 0, 1), (306, .getfield 111, 3), (309, .aload_n 0, 1), (310, .getfield 108, 3), (313, .iaload, 1), (314, .invokevirtual 93, 3), (317, .goto 90, 3), (320, .aload_n 0, 1), (321, .dup, 1), (322, .getfield 53, 3), (325, .iconst 1, 1), (326, .isub, 1), (327, .putfield 53, 3), (330, .aload_n 0, 1), (331, .dup, 1), (332, .getfield 108, 3), (335, .iconst 1, 1), (336, .iadd, 1), (337, .putfield 108, 3), (340, .goto 67, 3), (343, .aload_n 0, 1), (344, .dup, 1), (345, .getfield 53, 3), (348, .iconst 2, 1), (349, .isub, 1), (350, .putfield 53, 3), (353, .aload_n 0, 1), (354, .getfield 35, 3), (357, .aload_n 0, 1), (358, .getfield 53, 3), (361, .iconst 1, 1), (362, .iadd, 1), (363, .laload, 1), (364, .lconst 0, 1), (365, .lcmp, 1), (366, .ifCond .ne 23, 3), (369, .aload_n 0, 1), (370, .getfield 35, 3), (373, .aload_n 0, 1), (374, .getfield 53, 3), (377, .iconst 1, 1), (378, .isub, 1), (379, .aload_n 0, 1), (380, .getfield 35, 3), (383, .aload_n 0, 1), (384, .getfield 53, 3), (387, .laload, 1), (388, .lastore, 1), (389, .aload_n 0, 1), (390, .dup, 1), (391, .getfield 108, 3), (394, .iconst 1, 1), (395, .iadd, 1), (396, .putfield 108, 3), (399, .goto 8, 3), (402, .aload_n 0, 1), (403, .iconst 1, 1), (404, .invokevirtual 156, 3), (407, .return_, 1)]
theorem D_Machine_control : ∀ q ∈ T_Machine_control, decode b_Machine_control q.1 = .ok (q.2.1, q.2.2) := by decide +kernel
def w_Machine_control_L407 (Qr : xb_H → Prop) (h : xb_H) (bc : Nat) (bs : Nat) : Prop :=
    Qr h

def w_Machine_control_L402 (Qr : xb_H → Prop) (x0 : Nat) (h : xb_H) (bc : Nat) (bs : Nat) : Prop :=
    xb_k h x0 = 8 ∧ w_Machine_fall x0 1 h (fun (h2 : xb_H) => xb_ext h h2 → w_Machine_control_L407 Qr h2 bc bs)

def w_Machine_control_L389 (Qr : xb_H → Prop) (x0 : Nat) (h : xb_H) (bc : Nat) (bs : Nat) : Prop :=
    xb_k h x0 = 8 ∧ ∀ h2 : xb_H, h2 = xb_I h x0 15 ((xb_i h x0 15) + 1) → w_Machine_control_L407 Qr h2 bc bs

def w_Machine_control_L159 (Qr : xb_H → Prop) (y0 : Int32) (y1 : Nat) (h : xb_H) (bc : Nat) (bs : Nat) : Prop :=
    xb_k h y1 = 8 ∧ ∀ h2 : xb_H, h2 = xb_I h y1 15 y0 → w_Machine_control_L407 Qr h2 bc bs

def w_Machine_control (x0 : Nat) (x1 : Int32) (h : xb_H) (bc : Nat) (bs : Nat) (Qr : xb_H → Prop) : Prop :=
    ((x1 = 4 → xb_k h x0 = 8 ∧ ∀ h3 : xb_H, h3 = xb_I h x0 10 ((xb_i h x0 10) - 1) → ∃ b4 : Nat, (xb_r h3 x0 9) = some b4 ∧ xb_k h3 b4 = 103 ∧ vp_in (xb_i h3 x0 10) (xb_n h3 b4) ∧ (((xb_l h3 b4 (Int32.toNatClampNeg (xb_i h3 x0 10))) = (0 : Int64) → ∃ b8 : Nat, (xb_r h3 x0 14) = some b8 ∧ xb_k h3 b8 = 102 ∧ vp_in ((xb_i h3 x0 15) + 1) (xb_n h3 b8) ∧ w_Machine_control_L159 Qr ((xb_i h3 b8 (Int32.toNatClampNeg ((xb_i h3 x0 15) + 1))) + 1) x0 h3 bc bs) ∧ (¬ (xb_l h3 b4 (Int32.toNatClampNeg (xb_i h3 x0 10))) = (0 : Int64) → w_Machine_control_L159 Qr ((xb_i h3 x0 15) + 2) x0 h3 bc bs))) ∧ (x1 = 5 → w_Machine_control_L402 Qr x0 h bc bs) ∧ (x1 = 6 → w_Machine_control_L402 Qr x0 h bc bs) ∧ (x1 = 7 → w_Machine_control_L402 Qr x0 h bc bs) ∧ (x1 = 8 → w_Machine_control_L402 Qr x0 h bc bs) ∧ (x1 = 9 → w_Machine_control_L402 Qr x0 h bc bs) ∧ (x1 = 10 → w_Machine_control_L402 Qr x0 h bc bs) ∧ (x1 = 11 → w_Machine_control_L402 Qr x0 h bc bs) ∧ (x1 = 12 → xb_k h x0 = 8 ∧ ∃ b20 : Nat, (xb_r h x0 14) = some b20 ∧ xb_k h b20 = 102 ∧ vp_in ((xb_i h x0 15) + 1) (xb_n h b20) ∧ w_Machine_branch x0 (xb_i h b20 (Int32.toNatClampNeg ((xb_i h x0 15) + 1))) h (fun (h23 : xb_H) => xb_ext h h23 → w_Machine_control_L407 Qr h23 bc bs)) ∧ (x1 = 13 → xb_k h x0 = 8 ∧ ∀ h27 : xb_H, h27 = xb_I h x0 10 ((xb_i h x0 10) - 1) → ∃ b28 : Nat, (xb_r h27 x0 9) = some b28 ∧ xb_k h27 b28 = 103 ∧ vp_in (xb_i h27 x0 10) (xb_n h27 b28) ∧ (((xb_l h27 b28 (Int32.toNatClampNeg (xb_i h27 x0 10))) = (0 : Int64) → ∃ b32 : Nat, (xb_r h27 x0 14) = some b32 ∧ xb_k h27 b32 = 102 ∧ vp_in (xb_i h27 x0 15) (xb_n h27 b32) ∧ ∀ h35 : xb_H, h35 = xb_I h27 x0 15 (xb_i h27 b32 (Int32.toNatClampNeg (xb_i h27 x0 15))) → w_Machine_control_L407 Qr h35 bc bs) ∧ (¬ (xb_l h27 b28 (Int32.toNatClampNeg (xb_i h27 x0 10))) = (0 : Int64) → ∃ b36 : Nat, (xb_r h27 x0 14) = some b36 ∧ xb_k h27 b36 = 102 ∧ vp_in ((xb_i h27 x0 15) + 1) (xb_n h27 b36) ∧ w_Machine_branch x0 (xb_i h27 b36 (Int32.toNatClampNeg ((xb_i h27 x0 15) + 1))) h27 (fun (h39 : xb_H) => xb_ext h27 h39 → w_Machine_control_L407 Qr h39 bc bs)))) ∧ (x1 = 14 → xb_k h x0 = 8 ∧ w_Machine_chosenLabel x0 h (fun (r44 : Int32) (h43 : xb_H) => xb_ext h h43 → w_Machine_branch x0 r44 h43 (fun (h45 : xb_H) => xb_ext h43 h45 → w_Machine_control_L407 Qr h45 bc bs))) ∧ (x1 = 15 → xb_k h x0 = 8 ∧ w_Machine_endCall x0 h (fun (h49 : xb_H) => xb_ext h h49 → w_Machine_control_L407 Qr h49 bc bs)) ∧ (x1 = 16 → xb_k h x0 = 8 ∧ ∃ b53 : Nat, (xb_r h x0 12) = some b53 ∧ ∃ b54 : Nat, (xb_r h x0 14) = some b54 ∧ xb_k h b54 = 102 ∧ vp_in ((xb_i h x0 15) + 1) (xb_n h b54) ∧ xb_k h b53 = 11 ∧ w_Instance_functionId b53 (xb_i h b54 (Int32.toNatClampNeg ((xb_i h x0 15) + 1))) h (fun (r59 : Int32) (h58 : xb_H) => xb_ext h h58 → ∃ b60 : Nat, (xb_r h58 x0 14) = some b60 ∧ xb_k h58 b60 = 102 ∧ vp_in (xb_i h58 x0 15) (xb_n h58 b60) ∧ ∃ c65 sc65 : Nat, c65 ≤ bc ∧ sc65 ≤ bs ∧ w_Machine_call x0 r59 (xb_i h58 b60 (Int32.toNatClampNeg (xb_i h58 x0 15))) h58 c65 sc65 (fun (h63 : xb_H) => xb_ext h58 h63 → w_Machine_control_L407 Qr h63 (bc - c65) (bs - sc65)))) ∧ (x1 = 17 → xb_k h x0 = 8 ∧ w_Machine_chosenElement x0 h (fun (r69 : Int32) (h68 : xb_H) => xb_ext h h68 → ((r69 = ((-1) : Int32) → w_Machine_control_L407 Qr h68 bc bs) ∧ (¬ r69 = ((-1) : Int32) → ∃ b71 : Nat, (xb_r h68 x0 14) = some b71 ∧ xb_k h68 b71 = 102 ∧ vp_in (xb_i h68 x0 15) (xb_n h68 b71) ∧ ∃ c76 sc76 : Nat, c76 ≤ bc ∧ sc76 ≤ bs ∧ w_Machine_call x0 r69 (xb_i h68 b71 (Int32.toNatClampNeg (xb_i h68 x0 15))) h68 c76 sc76 (fun (h74 : xb_H) => xb_ext h68 h74 → w_Machine_control_L407 Qr h74 (bc - c76) (bs - sc76)))))) ∧ (x1 = 18 → w_Machine_control_L402 Qr x0 h bc bs) ∧ (x1 = 19 → w_Machine_control_L402 Qr x0 h bc bs) ∧ (x1 = 20 → w_Machine_control_L402 Qr x0 h bc bs) ∧ (x1 = 21 → w_Machine_control_L402 Qr x0 h bc bs) ∧ (x1 = 22 → w_Machine_control_L402 Qr x0 h bc bs) ∧ (x1 = 23 → w_Machine_control_L402 Qr x0 h bc bs) ∧ (x1 = 24 → w_Machine_control_L402 Qr x0 h bc bs) ∧ (x1 = 25 → w_Machine_control_L402 Qr x0 h bc bs) ∧ (x1 = 26 → xb_k h x0 = 8 ∧ ∀ h87 : xb_H, h87 = xb_I h x0 10 ((xb_i h x0 10) - 1) → ∀ h88 : xb_H, h88 = xb_I h87 x0 15 ((xb_i h87 x0 15) + 1) → w_Machine_control_L407 Qr h88 bc bs) ∧ (x1 = 27 → xb_k h x0 = 8 ∧ ∀ h91 : xb_H, h91 = xb_I h x0 10 ((xb_i h x0 10) - 2) → ∃ b92 : Nat, (xb_r h91 x0 9) = some b92 ∧ xb_k h91 b92 = 103 ∧ vp_in ((xb_i h91 x0 10) + 1) (xb_n h91 b92) ∧ ((¬ (xb_l h91 b92 (Int32.toNatClampNeg ((xb_i h91 x0 10) + 1))) = (0 : Int64) → w_Machine_control_L389 Qr x0 h91 bc bs) ∧ ((xb_l h91 b92 (Int32.toNatClampNeg ((xb_i h91 x0 10) + 1))) = (0 : Int64) → ∃ b96 : Nat, (xb_r h91 x0 9) = some b96 ∧ ∃ b97 : Nat, (xb_r h91 x0 9) = some b97 ∧ xb_k h91 b97 = 103 ∧ vp_in (xb_i h91 x0 10) (xb_n h91 b97) ∧ xb_k h91 b96 = 103 ∧ vp_in ((xb_i h91 x0 10) - 1) (xb_n h91 b96) ∧ ∀ h102 : xb_H, h102 = xb_L h91 b96 (Int32.toNatClampNeg ((xb_i h91 x0 10) - 1)) (xb_l h91 b97 (Int32.toNatClampNeg (xb_i h91 x0 10))) → w_Machine_control_L389 Qr x0 h102 bc bs))) ∧ (¬ x1 = 4 → ¬ x1 = 5 → ¬ x1 = 6 → ¬ x1 = 7 → ¬ x1 = 8 → ¬ x1 = 9 → ¬ x1 = 10 → ¬ x1 = 11 → ¬ x1 = 12 → ¬ x1 = 13 → ¬ x1 = 14 → ¬ x1 = 15 → ¬ x1 = 16 → ¬ x1 = 17 → ¬ x1 = 18 → ¬ x1 = 19 → ¬ x1 = 20 → ¬ x1 = 21 → ¬ x1 = 22 → ¬ x1 = 23 → ¬ x1 = 24 → ¬ x1 = 25 → ¬ x1 = 26 → ¬ x1 = 27 → w_Machine_control_L402 Qr x0 h bc bs))

set_option maxHeartbeats 4000000 in
set_option maxRecDepth 100000 in
theorem am_Machine_control_L407 (l : Launch) (hfl : l.flags = pinnedFlags ++ [noTraceFlag]) (D : va_G) (A : Nat → Prop) (σ MC MS : Nat) (h0 : xb_H) (Qr : xb_H → Prop) (h : xb_H) (bc : Nat) (bs : Nat) (hw : w_Machine_control_L407 Qr h bc bs) : xb_am l D A σ 7 MC MS h0 (fun v h => v = none ∧ Qr h) (fun _ _ => False) y_Machine_control.cls y_Machine_control.name b_Machine_control 3 ([] : List ExceptionTableEntry) none 407 [] [] h bc bs := by
  unfold w_Machine_control_L407 at hw
  intro p e s m args below meth c hC H locs ls k n hE hl hR hS hk hn
  obtain ⟨hx, hb, hown, hlocks, htab, hml, hr, hB, hA, hnm⟩ := id hC
  have hts := hB.1.1.at args
  exact xb_vret hx hb hr hlocks (show k ≤ MC by omega) (show n ≤ MS by omega) hE hR hS (xb_d D_Machine_control 167 rfl) hw

set_option maxHeartbeats 4000000 in
set_option maxRecDepth 100000 in
theorem am_Machine_control_L402 (l : Launch) (hfl : l.flags = pinnedFlags ++ [noTraceFlag]) (D : va_G) (A : Nat → Prop) (σ MC MS : Nat) (h0 : xb_H) (Qr : xb_H → Prop) (x0 : Nat) (h : xb_H) (bc : Nat) (bs : Nat) (hw : w_Machine_control_L402 Qr x0 h bc bs) : xb_am l D A σ 7 MC MS h0 (fun v h => v = none ∧ Qr h) (fun _ _ => False) y_Machine_control.cls y_Machine_control.name b_Machine_control 3 ([] : List ExceptionTableEntry) none 402 [(0, .ref x0)] [] h bc bs := by
  unfold w_Machine_control_L402 at hw
  intro p e s m args below meth c hC H locs ls k n hE hl hR hS hk hn
  obtain ⟨hx, hb, hown, hlocks, htab, hml, hr, hB, hA, hnm⟩ := id hC
  have hts := hB.1.1.at args
  refine lv_aload_n hx hb (xb_d D_Machine_control 164 rfl) rfl (lv_at hl 0 rfl) ?_
  refine lv_iconst (v := 1) hx hb (xb_d D_Machine_control 165 rfl) (by decide) ?_
  obtain ⟨hk1, hw⟩ := hw
  refine xb_call (D := D) (A := A) (σ := σ) (h := h) (d := 2) (mc := 0) (ms := 0) (maxL := 3) (rest := []) (av := [.ref x0, .int 1]) (fun T hT X => by obtain ⟨cb, r1, r2, r3⟩ := xb_recv (ci := 7) hR rfl hk1 (by decide); exact xt_invV X hx hown (hts _ m_8f5db99d) (hts _ m_0ddc8afe) (hts _ m_f5561462) (xt_sigOf (hts _ m_f0d4fd47)) nm_Machine_fall (by rw [hT]; exact r1) r2 r3 (g := F0 m 404 ls [.int 1, .ref x0]) rfl (argsL := [.int 1]) (rest := []) rfl rfl (by rw [hb]; exact (xb_d D_Machine_control 166 rfl))) (ok_Machine_fall l hfl D A σ x0 1 h _ hw) (hml.trans hl.1.symm) (by rw [hb]; exact (xb_d D_Machine_control 166 rfl)) (Nat.le_of_ble_eq_true rfl) (Nat.le_of_ble_eq_true rfl) (Nat.le_of_ble_eq_true rfl) (show k + 0 ≤ MC by omega) (show n + 0 ≤ MS by omega) (xt_w1 hB.1 m_f0d4fd47) (xt_cdOf hB.1 m_f0d4fd47) (hts _ m_73451f9b) hB hR hS hA (fun vv h2 H locs hq hEh2 hR hS => ?_) (fun XX ax h2 H locs hq hEh2 hex hR hS => ?_)
  · obtain ⟨rfl, hw⟩ := hq
    have hw := hw hEh2
    have hE := hE.tr hEh2
    refine W.eq (g2 := F0 m 407 ls []) rfl ?_
    exact am_Machine_control_L407 l hfl D A σ MC MS h0 Qr h2 bc bs hw p e s m args below meth c hC H locs ls k n hE (lv_sub hl [] rfl) hR hS (by omega) (by omega)
  · exact False.elim hq

set_option maxHeartbeats 4000000 in
set_option maxRecDepth 100000 in
theorem am_Machine_control_L389 (l : Launch) (hfl : l.flags = pinnedFlags ++ [noTraceFlag]) (D : va_G) (A : Nat → Prop) (σ MC MS : Nat) (h0 : xb_H) (Qr : xb_H → Prop) (x0 : Nat) (h : xb_H) (bc : Nat) (bs : Nat) (hw : w_Machine_control_L389 Qr x0 h bc bs) : xb_am l D A σ 7 MC MS h0 (fun v h => v = none ∧ Qr h) (fun _ _ => False) y_Machine_control.cls y_Machine_control.name b_Machine_control 3 ([] : List ExceptionTableEntry) none 389 [(0, .ref x0)] [] h bc bs := by
  unfold w_Machine_control_L389 at hw
  intro p e s m args below meth c hC H locs ls k n hE hl hR hS hk hn
  obtain ⟨hx, hb, hown, hlocks, htab, hml, hr, hB, hA, hnm⟩ := id hC
  have hts := hB.1.1.at args
  refine lv_aload_n hx hb (xb_d D_Machine_control 157 rfl) rfl (lv_at hl 0 rfl) ?_
  refine lv_dup hx hb (xb_d D_Machine_control 158 rfl) rfl ?_
  obtain ⟨hk1, hw⟩ := hw
  refine xb_getI (C := R_Machine) (T := F_Machine) (N := 18) hx hb 7 15 hts fin_Machine hown hR hk1 (by decide) rfl (by decide) rfl (hts _ m_6a595805) (fun _ h9 => h9) (xb_d D_Machine_control 159 rfl) ?_
  refine lv_iconst (v := 1) hx hb (xb_d D_Machine_control 160 rfl) (by decide) ?_
  refine lv_iadd hx hb (xb_d D_Machine_control 161 rfl) ?_
  refine xb_putI (C := R_Machine) (T := F_Machine) (N := 18) (ty := .int) (x := ((xb_i h x0 15) + 1)) hx hb 7 15 hts fin_Machine t_Machine t_Machine_ok n_Machine hown hR hS hk1 (by decide) rfl (by decide) rfl (hts _ m_6a595805) (fun _ h9 => h9) rfl (by decide +kernel) rfl rfl (xb_d D_Machine_control 162 rfl) (fun H locs hR hS => ?_)
  obtain ⟨h2, eh2⟩ : ∃ x : xb_H, x = xb_I h x0 15 ((xb_i h x0 15) + 1) := ⟨_, rfl⟩
  rw [← eh2] at hR
  have hw := hw h2 eh2
  have hE : xb_ext h0 h2 := by rw [eh2]; exact hE
  refine lv_goto (tgt := 407) hx hb (xb_d D_Machine_control 163 rfl) rfl ?_
  exact am_Machine_control_L407 l hfl D A σ MC MS h0 Qr h2 bc bs hw p e s m args below meth c hC H locs ls k n hE (lv_sub hl [] rfl) hR hS (by omega) (by omega)

set_option maxHeartbeats 4000000 in
set_option maxRecDepth 100000 in
theorem am_Machine_control_L159 (l : Launch) (hfl : l.flags = pinnedFlags ++ [noTraceFlag]) (D : va_G) (A : Nat → Prop) (σ MC MS : Nat) (h0 : xb_H) (Qr : xb_H → Prop) (y0 : Int32) (y1 : Nat) (h : xb_H) (bc : Nat) (bs : Nat) (hw : w_Machine_control_L159 Qr y0 y1 h bc bs) : xb_am l D A σ 7 MC MS h0 (fun v h => v = none ∧ Qr h) (fun _ _ => False) y_Machine_control.cls y_Machine_control.name b_Machine_control 3 ([] : List ExceptionTableEntry) none 159 [] [.int y0, .ref y1] h bc bs := by
  unfold w_Machine_control_L159 at hw
  intro p e s m args below meth c hC H locs ls k n hE hl hR hS hk hn
  obtain ⟨hx, hb, hown, hlocks, htab, hml, hr, hB, hA, hnm⟩ := id hC
  have hts := hB.1.1.at args
  obtain ⟨hk1, hw⟩ := hw
  refine xb_putI (C := R_Machine) (T := F_Machine) (N := 18) (ty := .int) (x := y0) hx hb 7 15 hts fin_Machine t_Machine t_Machine_ok n_Machine hown hR hS hk1 (by decide) rfl (by decide) rfl (hts _ m_6a595805) (fun _ h9 => h9) rfl (by decide +kernel) rfl rfl (xb_d D_Machine_control 31 rfl) (fun H locs hR hS => ?_)
  obtain ⟨h2, eh2⟩ : ∃ x : xb_H, x = xb_I h y1 15 y0 := ⟨_, rfl⟩
  rw [← eh2] at hR
  have hw := hw h2 eh2
  have hE : xb_ext h0 h2 := by rw [eh2]; exact hE
  refine lv_goto (tgt := 407) hx hb (xb_d D_Machine_control 32 rfl) rfl ?_
  exact am_Machine_control_L407 l hfl D A σ MC MS h0 Qr h2 bc bs hw p e s m args below meth c hC H locs ls k n hE (lv_sub hl [] rfl) hR hS (by omega) (by omega)

set_option maxHeartbeats 4000000 in
set_option maxRecDepth 100000 in
theorem ok_Machine_control (l : Launch) (hfl : l.flags = pinnedFlags ++ [noTraceFlag]) (D : va_G) (A : Nat → Prop) (σ : Nat) (x0 : Nat) (x1 : Int32) (h : xb_H) (bc : Nat) (bs : Nat) (Qr : xb_H → Prop) (hw : w_Machine_control x0 x1 h bc bs Qr) : xt_Met l y_Machine_control [.code y_Machine_control b_Machine_control 3 none] (xb_rm 7 bc bs) (xb_Pc D A σ h [.ref x0, .int x1]) (xb_Qc D A h (fun v h => v = none ∧ Qr h) (fun _ _ => False)) bc bs A := by
  refine xb_ofAm (cc := b_Machine_control) (by decide) (Nat.le_of_ble_eq_true rfl) ?_
  unfold w_Machine_control at hw
  show xb_am l D A σ 7 bc bs h (fun v h => v = none ∧ Qr h) (fun _ _ => False) y_Machine_control.cls y_Machine_control.name b_Machine_control 3 ([] : List ExceptionTableEntry) none 0 [(0, .ref x0), (1, .int x1)] [] h bc bs
  obtain ⟨MC, hMC⟩ : ∃ x, x = bc := ⟨_, rfl⟩
  obtain ⟨MS, hMS⟩ : ∃ x, x = bs := ⟨_, rfl⟩
  rw [show xb_am l D A σ 7 bc bs = xb_am l D A σ 7 MC MS by rw [hMC, hMS]]
  obtain ⟨h0, hh0⟩ : ∃ x, x = h := ⟨_, rfl⟩
  rw [show xb_am l D A σ 7 MC MS h = xb_am l D A σ 7 MC MS h0 by rw [hh0]]
  intro p e s m args below meth c hC H locs ls k n hE hl hR hS hk hn
  obtain ⟨hx, hb, hown, hlocks, htab, hml, hr, hB, hA, hnm⟩ := id hC
  have hts := hB.1.1.at args
  refine lv_iload_n hx hb (xb_d D_Machine_control 0 rfl) rfl (lv_at hl 1 rfl) ?_
  by_cases hc1 : x1 = 4
  · have hw := hw.1 hc1
    refine xt_numi hc1 ?_
    refine lv_tableIn (off := 111) (tgt := 112) hx hb (xb_d D_Machine_control 1 rfl) (by decide +kernel) (by decide +kernel) (by decide +kernel) (by decide) ?_
    refine lv_aload_n hx hb (xb_d D_Machine_control 2 rfl) rfl (lv_at hl 0 rfl) ?_
    refine lv_dup hx hb (xb_d D_Machine_control 3 rfl) rfl ?_
    obtain ⟨hk2, hw⟩ := hw
    refine xb_getI (C := R_Machine) (T := F_Machine) (N := 18) hx hb 7 10 hts fin_Machine hown hR hk2 (by decide) rfl (by decide) rfl (hts _ m_79cf62f6) (fun _ h9 => h9) (xb_d D_Machine_control 4 rfl) ?_
    refine lv_iconst (v := 1) hx hb (xb_d D_Machine_control 5 rfl) (by decide) ?_
    refine lv_isub hx hb (xb_d D_Machine_control 6 rfl) ?_
    refine xb_putI (C := R_Machine) (T := F_Machine) (N := 18) (ty := .int) (x := ((xb_i h x0 10) - 1)) hx hb 7 10 hts fin_Machine t_Machine t_Machine_ok n_Machine hown hR hS hk2 (by decide) rfl (by decide) rfl (hts _ m_79cf62f6) (fun _ h9 => h9) rfl (by decide +kernel) rfl rfl (xb_d D_Machine_control 7 rfl) (fun H locs hR hS => ?_)
    obtain ⟨h3, eh3⟩ : ∃ x : xb_H, x = xb_I h x0 10 ((xb_i h x0 10) - 1) := ⟨_, rfl⟩
    rw [← eh3] at hR
    have hw := hw h3 eh3
    have hE : xb_ext h0 h3 := by rw [eh3]; exact hE
    refine lv_aload_n hx hb (xb_d D_Machine_control 8 rfl) rfl (lv_at hl 0 rfl) ?_
    refine lv_aload_n hx hb (xb_d D_Machine_control 9 rfl) rfl (lv_at hl 0 rfl) ?_
    have hk2 : xb_k h3 x0 = 8 := by rw [eh3]; exact hk2
    refine xb_getP (C := R_Machine) (T := F_Machine) (N := 18) hx hb 7 9 hts fin_Machine hown hR hk2 (by decide) rfl (by decide) rfl (hts _ m_6904195b) (fun _ h9 => h9) (xb_d D_Machine_control 10 rfl) ?_
    obtain ⟨b4, eb4, hw⟩ := hw
    refine xb_some eb4 ?_
    refine lv_aload_n hx hb (xb_d D_Machine_control 11 rfl) rfl (lv_at hl 0 rfl) ?_
    refine xb_getI (C := R_Machine) (T := F_Machine) (N := 18) hx hb 7 10 hts fin_Machine hown hR hk2 (by decide) rfl (by decide) rfl (hts _ m_79cf62f6) (fun _ h9 => h9) (xb_d D_Machine_control 12 rfl) ?_
    obtain ⟨hk6, hw⟩ := hw
    obtain ⟨hi5, hw⟩ := hw
    refine xb_lald hx hb hR hk6 hi5 (xb_d D_Machine_control 13 rfl) ?_
    refine lv_lconst (v := 0) hx hb (xb_d D_Machine_control 14 rfl) (by decide) ?_
    refine xb_lc_eq (tgt := 146) hx hb (xb_d D_Machine_control 15 rfl) (xb_d D_Machine_control 16 rfl) rfl (fun hc7 => ?_) (fun hc7 => ?_)
    · have hw := hw.1 hc7
      refine lv_aload_n hx hb (xb_d D_Machine_control 22 rfl) rfl (lv_at hl 0 rfl) ?_
      refine xb_getP (C := R_Machine) (T := F_Machine) (N := 18) hx hb 7 14 hts fin_Machine hown hR hk2 (by decide) rfl (by decide) rfl (hts _ m_8f763f86) (fun _ h9 => h9) (xb_d D_Machine_control 23 rfl) ?_
      obtain ⟨b8, eb8, hw⟩ := hw
      refine xb_some eb8 ?_
      refine lv_aload_n hx hb (xb_d D_Machine_control 24 rfl) rfl (lv_at hl 0 rfl) ?_
      refine xb_getI (C := R_Machine) (T := F_Machine) (N := 18) hx hb 7 15 hts fin_Machine hown hR hk2 (by decide) rfl (by decide) rfl (hts _ m_6a595805) (fun _ h9 => h9) (xb_d D_Machine_control 25 rfl) ?_
      refine lv_iconst (v := 1) hx hb (xb_d D_Machine_control 26 rfl) (by decide) ?_
      refine lv_iadd hx hb (xb_d D_Machine_control 27 rfl) ?_
      obtain ⟨hk10, hw⟩ := hw
      obtain ⟨hi9, hw⟩ := hw
      refine xb_iald hx hb hR hk10 hi9 (xb_d D_Machine_control 28 rfl) ?_
      refine lv_iconst (v := 1) hx hb (xb_d D_Machine_control 29 rfl) (by decide) ?_
      refine lv_iadd hx hb (xb_d D_Machine_control 30 rfl) ?_
      exact am_Machine_control_L159 l hfl D A σ MC MS h0 Qr ((xb_i h3 b8 (Int32.toNatClampNeg ((xb_i h3 x0 15) + 1))) + 1) x0 h3 bc bs hw p e s m args below meth c hC H locs ls k n hE (lv_sub hl [] rfl) hR hS (by omega) (by omega)
    · have hw := hw.2 hc7
      refine lv_aload_n hx hb (xb_d D_Machine_control 17 rfl) rfl (lv_at hl 0 rfl) ?_
      refine xb_getI (C := R_Machine) (T := F_Machine) (N := 18) hx hb 7 15 hts fin_Machine hown hR hk2 (by decide) rfl (by decide) rfl (hts _ m_6a595805) (fun _ h9 => h9) (xb_d D_Machine_control 18 rfl) ?_
      refine lv_iconst (v := 2) hx hb (xb_d D_Machine_control 19 rfl) (by decide) ?_
      refine lv_iadd hx hb (xb_d D_Machine_control 20 rfl) ?_
      refine lv_goto (tgt := 159) hx hb (xb_d D_Machine_control 21 rfl) rfl ?_
      exact am_Machine_control_L159 l hfl D A σ MC MS h0 Qr ((xb_i h3 x0 15) + 2) x0 h3 bc bs hw p e s m args below meth c hC H locs ls k n hE (lv_sub hl [] rfl) hR hS (by omega) (by omega)
  have hw := hw.2
  by_cases hc11 : x1 = 5
  · have hw := hw.1 hc11
    refine xt_numi hc11 ?_
    refine lv_tableIn (off := 401) (tgt := 402) hx hb (xb_d D_Machine_control 1 rfl) (by decide +kernel) (by decide +kernel) (by decide +kernel) (by decide) ?_
    exact am_Machine_control_L402 l hfl D A σ MC MS h0 Qr x0 h bc bs hw p e s m args below meth c hC H locs ls k n hE (lv_sub hl [0] rfl) hR hS (by omega) (by omega)
  have hw := hw.2
  by_cases hc12 : x1 = 6
  · have hw := hw.1 hc12
    refine xt_numi hc12 ?_
    refine lv_tableIn (off := 401) (tgt := 402) hx hb (xb_d D_Machine_control 1 rfl) (by decide +kernel) (by decide +kernel) (by decide +kernel) (by decide) ?_
    exact am_Machine_control_L402 l hfl D A σ MC MS h0 Qr x0 h bc bs hw p e s m args below meth c hC H locs ls k n hE (lv_sub hl [0] rfl) hR hS (by omega) (by omega)
  have hw := hw.2
  by_cases hc13 : x1 = 7
  · have hw := hw.1 hc13
    refine xt_numi hc13 ?_
    refine lv_tableIn (off := 401) (tgt := 402) hx hb (xb_d D_Machine_control 1 rfl) (by decide +kernel) (by decide +kernel) (by decide +kernel) (by decide) ?_
    exact am_Machine_control_L402 l hfl D A σ MC MS h0 Qr x0 h bc bs hw p e s m args below meth c hC H locs ls k n hE (lv_sub hl [0] rfl) hR hS (by omega) (by omega)
  have hw := hw.2
  by_cases hc14 : x1 = 8
  · have hw := hw.1 hc14
    refine xt_numi hc14 ?_
    refine lv_tableIn (off := 401) (tgt := 402) hx hb (xb_d D_Machine_control 1 rfl) (by decide +kernel) (by decide +kernel) (by decide +kernel) (by decide) ?_
    exact am_Machine_control_L402 l hfl D A σ MC MS h0 Qr x0 h bc bs hw p e s m args below meth c hC H locs ls k n hE (lv_sub hl [0] rfl) hR hS (by omega) (by omega)
  have hw := hw.2
  by_cases hc15 : x1 = 9
  · have hw := hw.1 hc15
    refine xt_numi hc15 ?_
    refine lv_tableIn (off := 401) (tgt := 402) hx hb (xb_d D_Machine_control 1 rfl) (by decide +kernel) (by decide +kernel) (by decide +kernel) (by decide) ?_
    exact am_Machine_control_L402 l hfl D A σ MC MS h0 Qr x0 h bc bs hw p e s m args below meth c hC H locs ls k n hE (lv_sub hl [0] rfl) hR hS (by omega) (by omega)
  have hw := hw.2
  by_cases hc16 : x1 = 10
  · have hw := hw.1 hc16
    refine xt_numi hc16 ?_
    refine lv_tableIn (off := 401) (tgt := 402) hx hb (xb_d D_Machine_control 1 rfl) (by decide +kernel) (by decide +kernel) (by decide +kernel) (by decide) ?_
    exact am_Machine_control_L402 l hfl D A σ MC MS h0 Qr x0 h bc bs hw p e s m args below meth c hC H locs ls k n hE (lv_sub hl [0] rfl) hR hS (by omega) (by omega)
  have hw := hw.2
  by_cases hc17 : x1 = 11
  · have hw := hw.1 hc17
    refine xt_numi hc17 ?_
    refine lv_tableIn (off := 401) (tgt := 402) hx hb (xb_d D_Machine_control 1 rfl) (by decide +kernel) (by decide +kernel) (by decide +kernel) (by decide) ?_
    exact am_Machine_control_L402 l hfl D A σ MC MS h0 Qr x0 h bc bs hw p e s m args below meth c hC H locs ls k n hE (lv_sub hl [0] rfl) hR hS (by omega) (by omega)
  have hw := hw.2
  by_cases hc18 : x1 = 12
  · have hw := hw.1 hc18
    refine xt_numi hc18 ?_
    refine lv_tableIn (off := 164) (tgt := 165) hx hb (xb_d D_Machine_control 1 rfl) (by decide +kernel) (by decide +kernel) (by decide +kernel) (by decide) ?_
    refine lv_aload_n hx hb (xb_d D_Machine_control 33 rfl) rfl (lv_at hl 0 rfl) ?_
    refine lv_aload_n hx hb (xb_d D_Machine_control 34 rfl) rfl (lv_at hl 0 rfl) ?_
    obtain ⟨hk19, hw⟩ := hw
    refine xb_getP (C := R_Machine) (T := F_Machine) (N := 18) hx hb 7 14 hts fin_Machine hown hR hk19 (by decide) rfl (by decide) rfl (hts _ m_8f763f86) (fun _ h9 => h9) (xb_d D_Machine_control 35 rfl) ?_
    obtain ⟨b20, eb20, hw⟩ := hw
    refine xb_some eb20 ?_
    refine lv_aload_n hx hb (xb_d D_Machine_control 36 rfl) rfl (lv_at hl 0 rfl) ?_
    refine xb_getI (C := R_Machine) (T := F_Machine) (N := 18) hx hb 7 15 hts fin_Machine hown hR hk19 (by decide) rfl (by decide) rfl (hts _ m_6a595805) (fun _ h9 => h9) (xb_d D_Machine_control 37 rfl) ?_
    refine lv_iconst (v := 1) hx hb (xb_d D_Machine_control 38 rfl) (by decide) ?_
    refine lv_iadd hx hb (xb_d D_Machine_control 39 rfl) ?_
    obtain ⟨hk22, hw⟩ := hw
    obtain ⟨hi21, hw⟩ := hw
    refine xb_iald hx hb hR hk22 hi21 (xb_d D_Machine_control 40 rfl) ?_
    refine xb_call (D := D) (A := A) (σ := σ) (h := h) (d := 5) (mc := 0) (ms := 0) (maxL := 4) (rest := []) (av := [.ref x0, .int (xb_i h b20 (Int32.toNatClampNeg ((xb_i h x0 15) + 1)))]) (fun T hT X => by obtain ⟨cb, r1, r2, r3⟩ := xb_recv (ci := 7) hR rfl hk19 (by decide); exact xt_invV X hx hown (hts _ m_2ff4e4ca) (hts _ m_118b24b7) (hts _ m_3a3589ee) (xt_sigOf (hts _ m_540952bd)) nm_Machine_branch (by rw [hT]; exact r1) r2 r3 (g := F0 m 177 ls [.int (xb_i h b20 (Int32.toNatClampNeg ((xb_i h x0 15) + 1))), .ref x0]) rfl (argsL := [.int (xb_i h b20 (Int32.toNatClampNeg ((xb_i h x0 15) + 1)))]) (rest := []) rfl rfl (by rw [hb]; exact (xb_d D_Machine_control 41 rfl))) (ok_Machine_branch l hfl D A σ x0 (xb_i h b20 (Int32.toNatClampNeg ((xb_i h x0 15) + 1))) h _ hw) (hml.trans hl.1.symm) (by rw [hb]; exact (xb_d D_Machine_control 41 rfl)) (Nat.le_of_ble_eq_true rfl) (Nat.le_of_ble_eq_true rfl) (Nat.le_of_ble_eq_true rfl) (show k + 0 ≤ MC by omega) (show n + 0 ≤ MS by omega) (xt_w1 hB.1 m_540952bd) (xt_cdOf hB.1 m_540952bd) (hts _ m_73451f9b) hB hR hS hA (fun vv h23 H locs hq hEh23 hR hS => ?_) (fun XX ax h23 H locs hq hEh23 hex hR hS => ?_)
    · obtain ⟨rfl, hw⟩ := hq
      have hw := hw hEh23
      have hE := hE.tr hEh23
      refine W.eq (g2 := F0 m 180 ls []) rfl ?_
      refine lv_goto (tgt := 407) hx hb (xb_d D_Machine_control 42 rfl) rfl ?_
      exact am_Machine_control_L407 l hfl D A σ MC MS h0 Qr h23 bc bs hw p e s m args below meth c hC H locs ls k n hE (lv_sub hl [] rfl) hR hS (by omega) (by omega)
    · exact False.elim hq
  have hw := hw.2
  by_cases hc25 : x1 = 13
  · have hw := hw.1 hc25
    refine xt_numi hc25 ?_
    refine lv_tableIn (off := 182) (tgt := 183) hx hb (xb_d D_Machine_control 1 rfl) (by decide +kernel) (by decide +kernel) (by decide +kernel) (by decide) ?_
    refine lv_aload_n hx hb (xb_d D_Machine_control 43 rfl) rfl (lv_at hl 0 rfl) ?_
    refine lv_dup hx hb (xb_d D_Machine_control 44 rfl) rfl ?_
    obtain ⟨hk26, hw⟩ := hw
    refine xb_getI (C := R_Machine) (T := F_Machine) (N := 18) hx hb 7 10 hts fin_Machine hown hR hk26 (by decide) rfl (by decide) rfl (hts _ m_79cf62f6) (fun _ h9 => h9) (xb_d D_Machine_control 45 rfl) ?_
    refine lv_iconst (v := 1) hx hb (xb_d D_Machine_control 46 rfl) (by decide) ?_
    refine lv_isub hx hb (xb_d D_Machine_control 47 rfl) ?_
    refine xb_putI (C := R_Machine) (T := F_Machine) (N := 18) (ty := .int) (x := ((xb_i h x0 10) - 1)) hx hb 7 10 hts fin_Machine t_Machine t_Machine_ok n_Machine hown hR hS hk26 (by decide) rfl (by decide) rfl (hts _ m_79cf62f6) (fun _ h9 => h9) rfl (by decide +kernel) rfl rfl (xb_d D_Machine_control 48 rfl) (fun H locs hR hS => ?_)
    obtain ⟨h27, eh27⟩ : ∃ x : xb_H, x = xb_I h x0 10 ((xb_i h x0 10) - 1) := ⟨_, rfl⟩
    rw [← eh27] at hR
    have hw := hw h27 eh27
    have hE : xb_ext h0 h27 := by rw [eh27]; exact hE
    refine lv_aload_n hx hb (xb_d D_Machine_control 49 rfl) rfl (lv_at hl 0 rfl) ?_
    have hk26 : xb_k h27 x0 = 8 := by rw [eh27]; exact hk26
    refine xb_getP (C := R_Machine) (T := F_Machine) (N := 18) hx hb 7 9 hts fin_Machine hown hR hk26 (by decide) rfl (by decide) rfl (hts _ m_6904195b) (fun _ h9 => h9) (xb_d D_Machine_control 50 rfl) ?_
    obtain ⟨b28, eb28, hw⟩ := hw
    refine xb_some eb28 ?_
    refine lv_aload_n hx hb (xb_d D_Machine_control 51 rfl) rfl (lv_at hl 0 rfl) ?_
    refine xb_getI (C := R_Machine) (T := F_Machine) (N := 18) hx hb 7 10 hts fin_Machine hown hR hk26 (by decide) rfl (by decide) rfl (hts _ m_79cf62f6) (fun _ h9 => h9) (xb_d D_Machine_control 52 rfl) ?_
    obtain ⟨hk30, hw⟩ := hw
    obtain ⟨hi29, hw⟩ := hw
    refine xb_lald hx hb hR hk30 hi29 (xb_d D_Machine_control 53 rfl) ?_
    refine lv_lconst (v := 0) hx hb (xb_d D_Machine_control 54 rfl) (by decide) ?_
    refine xb_lc_eq (tgt := 225) hx hb (xb_d D_Machine_control 55 rfl) (xb_d D_Machine_control 56 rfl) rfl (fun hc31 => ?_) (fun hc31 => ?_)
    · have hw := hw.1 hc31
      refine lv_aload_n hx hb (xb_d D_Machine_control 67 rfl) rfl (lv_at hl 0 rfl) ?_
      refine lv_aload_n hx hb (xb_d D_Machine_control 68 rfl) rfl (lv_at hl 0 rfl) ?_
      refine xb_getP (C := R_Machine) (T := F_Machine) (N := 18) hx hb 7 14 hts fin_Machine hown hR hk26 (by decide) rfl (by decide) rfl (hts _ m_8f763f86) (fun _ h9 => h9) (xb_d D_Machine_control 69 rfl) ?_
      obtain ⟨b32, eb32, hw⟩ := hw
      refine xb_some eb32 ?_
      refine lv_aload_n hx hb (xb_d D_Machine_control 70 rfl) rfl (lv_at hl 0 rfl) ?_
      refine xb_getI (C := R_Machine) (T := F_Machine) (N := 18) hx hb 7 15 hts fin_Machine hown hR hk26 (by decide) rfl (by decide) rfl (hts _ m_6a595805) (fun _ h9 => h9) (xb_d D_Machine_control 71 rfl) ?_
      obtain ⟨hk34, hw⟩ := hw
      obtain ⟨hi33, hw⟩ := hw
      refine xb_iald hx hb hR hk34 hi33 (xb_d D_Machine_control 72 rfl) ?_
      refine xb_putI (C := R_Machine) (T := F_Machine) (N := 18) (ty := .int) (x := (xb_i h27 b32 (Int32.toNatClampNeg (xb_i h27 x0 15)))) hx hb 7 15 hts fin_Machine t_Machine t_Machine_ok n_Machine hown hR hS hk26 (by decide) rfl (by decide) rfl (hts _ m_6a595805) (fun _ h9 => h9) rfl (by decide +kernel) rfl rfl (xb_d D_Machine_control 73 rfl) (fun H locs hR hS => ?_)
      obtain ⟨h35, eh35⟩ : ∃ x : xb_H, x = xb_I h27 x0 15 (xb_i h27 b32 (Int32.toNatClampNeg (xb_i h27 x0 15))) := ⟨_, rfl⟩
      rw [← eh35] at hR
      have hw := hw h35 eh35
      have hE : xb_ext h0 h35 := by rw [eh35]; exact hE
      refine lv_goto (tgt := 407) hx hb (xb_d D_Machine_control 74 rfl) rfl ?_
      exact am_Machine_control_L407 l hfl D A σ MC MS h0 Qr h35 bc bs hw p e s m args below meth c hC H locs ls k n hE (lv_sub hl [] rfl) hR hS (by omega) (by omega)
    · have hw := hw.2 hc31
      refine lv_aload_n hx hb (xb_d D_Machine_control 57 rfl) rfl (lv_at hl 0 rfl) ?_
      refine lv_aload_n hx hb (xb_d D_Machine_control 58 rfl) rfl (lv_at hl 0 rfl) ?_
      refine xb_getP (C := R_Machine) (T := F_Machine) (N := 18) hx hb 7 14 hts fin_Machine hown hR hk26 (by decide) rfl (by decide) rfl (hts _ m_8f763f86) (fun _ h9 => h9) (xb_d D_Machine_control 59 rfl) ?_
      obtain ⟨b36, eb36, hw⟩ := hw
      refine xb_some eb36 ?_
      refine lv_aload_n hx hb (xb_d D_Machine_control 60 rfl) rfl (lv_at hl 0 rfl) ?_
      refine xb_getI (C := R_Machine) (T := F_Machine) (N := 18) hx hb 7 15 hts fin_Machine hown hR hk26 (by decide) rfl (by decide) rfl (hts _ m_6a595805) (fun _ h9 => h9) (xb_d D_Machine_control 61 rfl) ?_
      refine lv_iconst (v := 1) hx hb (xb_d D_Machine_control 62 rfl) (by decide) ?_
      refine lv_iadd hx hb (xb_d D_Machine_control 63 rfl) ?_
      obtain ⟨hk38, hw⟩ := hw
      obtain ⟨hi37, hw⟩ := hw
      refine xb_iald hx hb hR hk38 hi37 (xb_d D_Machine_control 64 rfl) ?_
      refine xb_call (D := D) (A := A) (σ := σ) (h := h27) (d := 5) (mc := 0) (ms := 0) (maxL := 4) (rest := []) (av := [.ref x0, .int (xb_i h27 b36 (Int32.toNatClampNeg ((xb_i h27 x0 15) + 1)))]) (fun T hT X => by obtain ⟨cb, r1, r2, r3⟩ := xb_recv (ci := 7) hR rfl hk26 (by decide); exact xt_invV X hx hown (hts _ m_2ff4e4ca) (hts _ m_118b24b7) (hts _ m_3a3589ee) (xt_sigOf (hts _ m_540952bd)) nm_Machine_branch (by rw [hT]; exact r1) r2 r3 (g := F0 m 219 ls [.int (xb_i h27 b36 (Int32.toNatClampNeg ((xb_i h27 x0 15) + 1))), .ref x0]) rfl (argsL := [.int (xb_i h27 b36 (Int32.toNatClampNeg ((xb_i h27 x0 15) + 1)))]) (rest := []) rfl rfl (by rw [hb]; exact (xb_d D_Machine_control 65 rfl))) (ok_Machine_branch l hfl D A σ x0 (xb_i h27 b36 (Int32.toNatClampNeg ((xb_i h27 x0 15) + 1))) h27 _ hw) (hml.trans hl.1.symm) (by rw [hb]; exact (xb_d D_Machine_control 65 rfl)) (Nat.le_of_ble_eq_true rfl) (Nat.le_of_ble_eq_true rfl) (Nat.le_of_ble_eq_true rfl) (show k + 0 ≤ MC by omega) (show n + 0 ≤ MS by omega) (xt_w1 hB.1 m_540952bd) (xt_cdOf hB.1 m_540952bd) (hts _ m_73451f9b) hB hR hS hA (fun vv h39 H locs hq hEh39 hR hS => ?_) (fun XX ax h39 H locs hq hEh39 hex hR hS => ?_)
      · obtain ⟨rfl, hw⟩ := hq
        have hw := hw hEh39
        have hE := hE.tr hEh39
        refine W.eq (g2 := F0 m 222 ls []) rfl ?_
        refine lv_goto (tgt := 407) hx hb (xb_d D_Machine_control 66 rfl) rfl ?_
        exact am_Machine_control_L407 l hfl D A σ MC MS h0 Qr h39 bc bs hw p e s m args below meth c hC H locs ls k n hE (lv_sub hl [] rfl) hR hS (by omega) (by omega)
      · exact False.elim hq
  have hw := hw.2
  by_cases hc41 : x1 = 14
  · have hw := hw.1 hc41
    refine xt_numi hc41 ?_
    refine lv_tableIn (off := 240) (tgt := 241) hx hb (xb_d D_Machine_control 1 rfl) (by decide +kernel) (by decide +kernel) (by decide +kernel) (by decide) ?_
    refine lv_aload_n hx hb (xb_d D_Machine_control 75 rfl) rfl (lv_at hl 0 rfl) ?_
    refine lv_aload_n hx hb (xb_d D_Machine_control 76 rfl) rfl (lv_at hl 0 rfl) ?_
    obtain ⟨hk42, hw⟩ := hw
    refine xb_call (D := D) (A := A) (σ := σ) (h := h) (d := 2) (mc := 0) (ms := 0) (maxL := 3) (rest := [.ref x0]) (av := [.ref x0]) (fun T hT X => by obtain ⟨cb, r1, r2, r3⟩ := xb_recv (ci := 7) hR rfl hk42 (by decide); exact xt_invV X hx hown (hts _ m_bfca4707) (hts _ m_e2b28718) (hts _ m_93b0a8fc) (xt_sigOf (hts _ m_780abd7a)) nm_Machine_chosenLabel (by rw [hT]; exact r1) r2 r3 (g := F0 m 243 ls [.ref x0, .ref x0]) rfl (argsL := []) (rest := [.ref x0]) rfl rfl (by rw [hb]; exact (xb_d D_Machine_control 77 rfl))) (ok_Machine_chosenLabel l hfl D A σ x0 h _ hw) (hml.trans hl.1.symm) (by rw [hb]; exact (xb_d D_Machine_control 77 rfl)) (Nat.le_of_ble_eq_true rfl) (Nat.le_of_ble_eq_true rfl) (Nat.le_of_ble_eq_true rfl) (show k + 0 ≤ MC by omega) (show n + 0 ≤ MS by omega) (xt_w1 hB.1 m_780abd7a) (xt_cdOf hB.1 m_780abd7a) (hts _ m_73451f9b) hB hR hS hA (fun vv h43 H locs hq hEh43 hR hS => ?_) (fun XX ax h43 H locs hq hEh43 hex hR hS => ?_)
    · obtain ⟨r44, rfl, hw⟩ := hq
      have hw := hw hEh43
      have hE := hE.tr hEh43
      refine W.eq (g2 := F0 m 246 ls [.int r44, .ref x0]) rfl ?_
      have hk42 : xb_k h43 x0 = 8 := hEh43.k hk42
      refine xb_call (D := D) (A := A) (σ := σ) (h := h43) (d := 5) (mc := 0) (ms := 0) (maxL := 4) (rest := []) (av := [.ref x0, .int r44]) (fun T hT X => by obtain ⟨cb, r1, r2, r3⟩ := xb_recv (ci := 7) hR rfl hk42 (by decide); exact xt_invV X hx hown (hts _ m_2ff4e4ca) (hts _ m_118b24b7) (hts _ m_3a3589ee) (xt_sigOf (hts _ m_540952bd)) nm_Machine_branch (by rw [hT]; exact r1) r2 r3 (g := F0 m 246 ls [.int r44, .ref x0]) rfl (argsL := [.int r44]) (rest := []) rfl rfl (by rw [hb]; exact (xb_d D_Machine_control 78 rfl))) (ok_Machine_branch l hfl D A σ x0 r44 h43 _ hw) (hml.trans hl.1.symm) (by rw [hb]; exact (xb_d D_Machine_control 78 rfl)) (Nat.le_of_ble_eq_true rfl) (Nat.le_of_ble_eq_true rfl) (Nat.le_of_ble_eq_true rfl) (show k + 0 ≤ MC by omega) (show n + 0 ≤ MS by omega) (xt_w1 hB.1 m_540952bd) (xt_cdOf hB.1 m_540952bd) (hts _ m_73451f9b) hB hR hS hA (fun vv h45 H locs hq hEh45 hR hS => ?_) (fun XX ax h45 H locs hq hEh45 hex hR hS => ?_)
      · obtain ⟨rfl, hw⟩ := hq
        have hw := hw hEh45
        have hE := hE.tr hEh45
        refine W.eq (g2 := F0 m 249 ls []) rfl ?_
        refine lv_goto (tgt := 407) hx hb (xb_d D_Machine_control 79 rfl) rfl ?_
        exact am_Machine_control_L407 l hfl D A σ MC MS h0 Qr h45 bc bs hw p e s m args below meth c hC H locs ls k n hE (lv_sub hl [] rfl) hR hS (by omega) (by omega)
      · exact False.elim hq
    · exact False.elim hq
  have hw := hw.2
  by_cases hc47 : x1 = 15
  · have hw := hw.1 hc47
    refine xt_numi hc47 ?_
    refine lv_tableIn (off := 251) (tgt := 252) hx hb (xb_d D_Machine_control 1 rfl) (by decide +kernel) (by decide +kernel) (by decide +kernel) (by decide) ?_
    refine lv_aload_n hx hb (xb_d D_Machine_control 80 rfl) rfl (lv_at hl 0 rfl) ?_
    obtain ⟨hk48, hw⟩ := hw
    refine xb_call (D := D) (A := A) (σ := σ) (h := h) (d := 4) (mc := 0) (ms := 0) (maxL := 7) (rest := []) (av := [.ref x0]) (fun T hT X => by obtain ⟨cb, r1, r2, r3⟩ := xb_recv (ci := 7) hR rfl hk48 (by decide); exact xt_invV X hx hown (hts _ m_decb3334) (hts _ m_d830cba0) (hts _ m_0077867b) (xt_sigOf (hts _ m_d7f63aa1)) nm_Machine_endCall (by rw [hT]; exact r1) r2 r3 (g := F0 m 253 ls [.ref x0]) rfl (argsL := []) (rest := []) rfl rfl (by rw [hb]; exact (xb_d D_Machine_control 81 rfl))) (ok_Machine_endCall l hfl D A σ x0 h _ hw) (hml.trans hl.1.symm) (by rw [hb]; exact (xb_d D_Machine_control 81 rfl)) (Nat.le_of_ble_eq_true rfl) (Nat.le_of_ble_eq_true rfl) (Nat.le_of_ble_eq_true rfl) (show k + 0 ≤ MC by omega) (show n + 0 ≤ MS by omega) (xt_w1 hB.1 m_d7f63aa1) (xt_cdOf hB.1 m_d7f63aa1) (hts _ m_73451f9b) hB hR hS hA (fun vv h49 H locs hq hEh49 hR hS => ?_) (fun XX ax h49 H locs hq hEh49 hex hR hS => ?_)
    · obtain ⟨rfl, hw⟩ := hq
      have hw := hw hEh49
      have hE := hE.tr hEh49
      refine W.eq (g2 := F0 m 256 ls []) rfl ?_
      refine lv_goto (tgt := 407) hx hb (xb_d D_Machine_control 82 rfl) rfl ?_
      exact am_Machine_control_L407 l hfl D A σ MC MS h0 Qr h49 bc bs hw p e s m args below meth c hC H locs ls k n hE (lv_sub hl [] rfl) hR hS (by omega) (by omega)
    · exact False.elim hq
  have hw := hw.2
  by_cases hc51 : x1 = 16
  · have hw := hw.1 hc51
    refine xt_numi hc51 ?_
    refine lv_tableIn (off := 258) (tgt := 259) hx hb (xb_d D_Machine_control 1 rfl) (by decide +kernel) (by decide +kernel) (by decide +kernel) (by decide) ?_
    refine lv_aload_n hx hb (xb_d D_Machine_control 83 rfl) rfl (lv_at hl 0 rfl) ?_
    refine lv_aload_n hx hb (xb_d D_Machine_control 84 rfl) rfl (lv_at hl 0 rfl) ?_
    obtain ⟨hk52, hw⟩ := hw
    refine xb_getP (C := R_Machine) (T := F_Machine) (N := 18) hx hb 7 12 hts fin_Machine hown hR hk52 (by decide) rfl (by decide) rfl (hts _ m_a347cb26) (fun _ h9 => h9) (xb_d D_Machine_control 85 rfl) ?_
    obtain ⟨b53, eb53, hw⟩ := hw
    refine xb_some eb53 ?_
    refine lv_aload_n hx hb (xb_d D_Machine_control 86 rfl) rfl (lv_at hl 0 rfl) ?_
    refine xb_getP (C := R_Machine) (T := F_Machine) (N := 18) hx hb 7 14 hts fin_Machine hown hR hk52 (by decide) rfl (by decide) rfl (hts _ m_8f763f86) (fun _ h9 => h9) (xb_d D_Machine_control 87 rfl) ?_
    obtain ⟨b54, eb54, hw⟩ := hw
    refine xb_some eb54 ?_
    refine lv_aload_n hx hb (xb_d D_Machine_control 88 rfl) rfl (lv_at hl 0 rfl) ?_
    refine xb_getI (C := R_Machine) (T := F_Machine) (N := 18) hx hb 7 15 hts fin_Machine hown hR hk52 (by decide) rfl (by decide) rfl (hts _ m_6a595805) (fun _ h9 => h9) (xb_d D_Machine_control 89 rfl) ?_
    refine lv_iconst (v := 1) hx hb (xb_d D_Machine_control 90 rfl) (by decide) ?_
    refine lv_iadd hx hb (xb_d D_Machine_control 91 rfl) ?_
    obtain ⟨hk56, hw⟩ := hw
    obtain ⟨hi55, hw⟩ := hw
    refine xb_iald hx hb hR hk56 hi55 (xb_d D_Machine_control 92 rfl) ?_
    obtain ⟨hk57, hw⟩ := hw
    refine xb_call (D := D) (A := A) (σ := σ) (h := h) (d := 2) (mc := 0) (ms := 0) (maxL := 3) (rest := [.ref x0]) (av := [.ref b53, .int (xb_i h b54 (Int32.toNatClampNeg ((xb_i h x0 15) + 1)))]) (fun T hT X => by obtain ⟨cb, r1, r2, r3⟩ := xb_recv (ci := 10) hR rfl hk57 (by decide); exact xt_invV X hx hown (hts _ m_13027831) (hts _ m_3dbccea2) (hts _ m_6ce97918) (xt_sigOf (hts _ m_0d2452ce)) nm_Instance_functionId (by rw [hT]; exact r1) r2 r3 (g := F0 m 275 ls [.int (xb_i h b54 (Int32.toNatClampNeg ((xb_i h x0 15) + 1))), .ref b53, .ref x0]) rfl (argsL := [.int (xb_i h b54 (Int32.toNatClampNeg ((xb_i h x0 15) + 1)))]) (rest := [.ref x0]) rfl rfl (by rw [hb]; exact (xb_d D_Machine_control 93 rfl))) (ok_Instance_functionId l hfl D A σ b53 (xb_i h b54 (Int32.toNatClampNeg ((xb_i h x0 15) + 1))) h _ hw) (hml.trans hl.1.symm) (by rw [hb]; exact (xb_d D_Machine_control 93 rfl)) (Nat.le_of_ble_eq_true rfl) (Nat.le_of_ble_eq_true rfl) (Nat.le_of_ble_eq_true rfl) (show k + 0 ≤ MC by omega) (show n + 0 ≤ MS by omega) (xt_w1 hB.1 m_0d2452ce) (xt_cdOf hB.1 m_0d2452ce) (hts _ m_7a4e907b) hB hR hS hA (fun vv h58 H locs hq hEh58 hR hS => ?_) (fun XX ax h58 H locs hq hEh58 hex hR hS => ?_)
    · obtain ⟨r59, rfl, hw⟩ := hq
      have hw := hw hEh58
      have hE := hE.tr hEh58
      refine W.eq (g2 := F0 m 278 ls [.int r59, .ref x0]) rfl ?_
      refine lv_aload_n hx hb (xb_d D_Machine_control 94 rfl) rfl (lv_at hl 0 rfl) ?_
      have hk52 : xb_k h58 x0 = 8 := hEh58.k hk52
      refine xb_getP (C := R_Machine) (T := F_Machine) (N := 18) hx hb 7 14 hts fin_Machine hown hR hk52 (by decide) rfl (by decide) rfl (hts _ m_8f763f86) (fun _ h9 => h9) (xb_d D_Machine_control 95 rfl) ?_
      obtain ⟨b60, eb60, hw⟩ := hw
      refine xb_some eb60 ?_
      refine lv_aload_n hx hb (xb_d D_Machine_control 96 rfl) rfl (lv_at hl 0 rfl) ?_
      refine xb_getI (C := R_Machine) (T := F_Machine) (N := 18) hx hb 7 15 hts fin_Machine hown hR hk52 (by decide) rfl (by decide) rfl (hts _ m_6a595805) (fun _ h9 => h9) (xb_d D_Machine_control 97 rfl) ?_
      obtain ⟨hk62, hw⟩ := hw
      obtain ⟨hi61, hw⟩ := hw
      refine xb_iald hx hb hR hk62 hi61 (xb_d D_Machine_control 98 rfl) ?_
      obtain ⟨c65, sc65, hlc65, hlsc65, hw⟩ := hw
      refine xb_call (D := D) (A := A) (σ := σ) (h := h58) (d := 6) (mc := c65) (ms := sc65) (maxL := 10) (rest := []) (av := [.ref x0, .int r59, .int (xb_i h58 b60 (Int32.toNatClampNeg (xb_i h58 x0 15)))]) (fun T hT X => by obtain ⟨cb, r1, r2, r3⟩ := xb_recv (ci := 7) hR rfl hk52 (by decide); exact xt_invV X hx hown (hts _ m_2e977ee7) (hts _ m_0a404550) (hts _ m_a0a488ae) (xt_sigOf (hts _ m_f3390e9e)) nm_Machine_call (by rw [hT]; exact r1) r2 r3 (g := F0 m 287 ls [.int (xb_i h58 b60 (Int32.toNatClampNeg (xb_i h58 x0 15))), .int r59, .ref x0]) rfl (argsL := [.int r59, .int (xb_i h58 b60 (Int32.toNatClampNeg (xb_i h58 x0 15)))]) (rest := []) rfl rfl (by rw [hb]; exact (xb_d D_Machine_control 99 rfl))) (ok_Machine_call l hfl D A σ x0 r59 (xb_i h58 b60 (Int32.toNatClampNeg (xb_i h58 x0 15))) h58 c65 sc65 _ hw) (hml.trans hl.1.symm) (by rw [hb]; exact (xb_d D_Machine_control 99 rfl)) (Nat.le_of_ble_eq_true rfl) (Nat.le_of_ble_eq_true rfl) (Nat.le_of_ble_eq_true rfl) (show k + c65 ≤ MC by omega) (show n + sc65 ≤ MS by omega) (xt_w1 hB.1 m_f3390e9e) (xt_cdOf hB.1 m_f3390e9e) (hts _ m_73451f9b) hB hR hS hA (fun vv h63 H locs hq hEh63 hR hS => ?_) (fun XX ax h63 H locs hq hEh63 hex hR hS => ?_)
      · obtain ⟨rfl, hw⟩ := hq
        have hw := hw hEh63
        have hE := hE.tr hEh63
        refine W.eq (g2 := F0 m 290 ls []) rfl ?_
        refine lv_goto (tgt := 407) hx hb (xb_d D_Machine_control 100 rfl) rfl ?_
        exact am_Machine_control_L407 l hfl D A σ MC MS h0 Qr h63 (bc - c65) (bs - sc65) hw p e s m args below meth c hC H locs ls (k + c65) (n + sc65) hE (lv_sub hl [] rfl) hR hS (by omega) (by omega)
      · exact False.elim hq
    · exact False.elim hq
  have hw := hw.2
  by_cases hc66 : x1 = 17
  · have hw := hw.1 hc66
    refine xt_numi hc66 ?_
    refine lv_tableIn (off := 292) (tgt := 293) hx hb (xb_d D_Machine_control 1 rfl) (by decide +kernel) (by decide +kernel) (by decide +kernel) (by decide) ?_
    refine lv_aload_n hx hb (xb_d D_Machine_control 101 rfl) rfl (lv_at hl 0 rfl) ?_
    obtain ⟨hk67, hw⟩ := hw
    refine xb_call (D := D) (A := A) (σ := σ) (h := h) (d := 5) (mc := 0) (ms := 0) (maxL := 3) (rest := []) (av := [.ref x0]) (fun T hT X => by obtain ⟨cb, r1, r2, r3⟩ := xb_recv (ci := 7) hR rfl hk67 (by decide); exact xt_invV X hx hown (hts _ m_0adfe5d3) (hts _ m_5b2a395b) (hts _ m_aa9611ca) (xt_sigOf (hts _ m_639fa9c2)) nm_Machine_chosenElement (by rw [hT]; exact r1) r2 r3 (g := F0 m 294 ls [.ref x0]) rfl (argsL := []) (rest := []) rfl rfl (by rw [hb]; exact (xb_d D_Machine_control 102 rfl))) (ok_Machine_chosenElement l hfl D A σ x0 h _ hw) (hml.trans hl.1.symm) (by rw [hb]; exact (xb_d D_Machine_control 102 rfl)) (Nat.le_of_ble_eq_true rfl) (Nat.le_of_ble_eq_true rfl) (Nat.le_of_ble_eq_true rfl) (show k + 0 ≤ MC by omega) (show n + 0 ≤ MS by omega) (xt_w1 hB.1 m_639fa9c2) (xt_cdOf hB.1 m_639fa9c2) (hts _ m_73451f9b) hB hR hS hA (fun vv h68 H locs hq hEh68 hR hS => ?_) (fun XX ax h68 H locs hq hEh68 hex hR hS => ?_)
    · obtain ⟨r69, rfl, hw⟩ := hq
      have hw := hw hEh68
      have hE := hE.tr hEh68
      refine W.eq (g2 := F0 m 297 ls [.int r69]) rfl ?_
      refine lv_istore_n hx hb (xb_d D_Machine_control 103 rfl) rfl hl (by decide) rfl (fun ls hl => ?_)
      have hl : lv_has ls 3 [(2, .int r69), (0, .ref x0), (1, .int x1)] := hl
      refine lv_iload_n hx hb (xb_d D_Machine_control 104 rfl) rfl (lv_at hl 0 rfl) ?_
      refine lv_iconst (v := (-1)) hx hb (xb_d D_Machine_control 105 rfl) (by decide) ?_
      refine lv_icmp_eq (tgt := 407) hx hb (xb_d D_Machine_control 106 rfl) rfl (fun hc70 => ?_) (fun hc70 => ?_)
      · have hw := hw.1 hc70
        exact am_Machine_control_L407 l hfl D A σ MC MS h0 Qr h68 bc bs hw p e s m args below meth c hC H locs ls k n hE (lv_sub hl [] rfl) hR hS (by omega) (by omega)
      · have hw := hw.2 hc70
        refine lv_aload_n hx hb (xb_d D_Machine_control 107 rfl) rfl (lv_at hl 1 rfl) ?_
        refine lv_iload_n hx hb (xb_d D_Machine_control 108 rfl) rfl (lv_at hl 0 rfl) ?_
        refine lv_aload_n hx hb (xb_d D_Machine_control 109 rfl) rfl (lv_at hl 1 rfl) ?_
        have hk67 : xb_k h68 x0 = 8 := hEh68.k hk67
        refine xb_getP (C := R_Machine) (T := F_Machine) (N := 18) hx hb 7 14 hts fin_Machine hown hR hk67 (by decide) rfl (by decide) rfl (hts _ m_8f763f86) (fun _ h9 => h9) (xb_d D_Machine_control 110 rfl) ?_
        obtain ⟨b71, eb71, hw⟩ := hw
        refine xb_some eb71 ?_
        refine lv_aload_n hx hb (xb_d D_Machine_control 111 rfl) rfl (lv_at hl 1 rfl) ?_
        refine xb_getI (C := R_Machine) (T := F_Machine) (N := 18) hx hb 7 15 hts fin_Machine hown hR hk67 (by decide) rfl (by decide) rfl (hts _ m_6a595805) (fun _ h9 => h9) (xb_d D_Machine_control 112 rfl) ?_
        obtain ⟨hk73, hw⟩ := hw
        obtain ⟨hi72, hw⟩ := hw
        refine xb_iald hx hb hR hk73 hi72 (xb_d D_Machine_control 113 rfl) ?_
        obtain ⟨c76, sc76, hlc76, hlsc76, hw⟩ := hw
        refine xb_call (D := D) (A := A) (σ := σ) (h := h68) (d := 6) (mc := c76) (ms := sc76) (maxL := 10) (rest := []) (av := [.ref x0, .int r69, .int (xb_i h68 b71 (Int32.toNatClampNeg (xb_i h68 x0 15)))]) (fun T hT X => by obtain ⟨cb, r1, r2, r3⟩ := xb_recv (ci := 7) hR rfl hk67 (by decide); exact xt_invV X hx hown (hts _ m_2e977ee7) (hts _ m_0a404550) (hts _ m_a0a488ae) (xt_sigOf (hts _ m_f3390e9e)) nm_Machine_call (by rw [hT]; exact r1) r2 r3 (g := F0 m 314 ls [.int (xb_i h68 b71 (Int32.toNatClampNeg (xb_i h68 x0 15))), .int r69, .ref x0]) rfl (argsL := [.int r69, .int (xb_i h68 b71 (Int32.toNatClampNeg (xb_i h68 x0 15)))]) (rest := []) rfl rfl (by rw [hb]; exact (xb_d D_Machine_control 114 rfl))) (ok_Machine_call l hfl D A σ x0 r69 (xb_i h68 b71 (Int32.toNatClampNeg (xb_i h68 x0 15))) h68 c76 sc76 _ hw) (hml.trans hl.1.symm) (by rw [hb]; exact (xb_d D_Machine_control 114 rfl)) (Nat.le_of_ble_eq_true rfl) (Nat.le_of_ble_eq_true rfl) (Nat.le_of_ble_eq_true rfl) (show k + c76 ≤ MC by omega) (show n + sc76 ≤ MS by omega) (xt_w1 hB.1 m_f3390e9e) (xt_cdOf hB.1 m_f3390e9e) (hts _ m_73451f9b) hB hR hS hA (fun vv h74 H locs hq hEh74 hR hS => ?_) (fun XX ax h74 H locs hq hEh74 hex hR hS => ?_)
        · obtain ⟨rfl, hw⟩ := hq
          have hw := hw hEh74
          have hE := hE.tr hEh74
          refine W.eq (g2 := F0 m 317 ls []) rfl ?_
          refine lv_goto (tgt := 407) hx hb (xb_d D_Machine_control 115 rfl) rfl ?_
          exact am_Machine_control_L407 l hfl D A σ MC MS h0 Qr h74 (bc - c76) (bs - sc76) hw p e s m args below meth c hC H locs ls (k + c76) (n + sc76) hE (lv_sub hl [] rfl) hR hS (by omega) (by omega)
        · exact False.elim hq
    · exact False.elim hq
  have hw := hw.2
  by_cases hc77 : x1 = 18
  · have hw := hw.1 hc77
    refine xt_numi hc77 ?_
    refine lv_tableIn (off := 401) (tgt := 402) hx hb (xb_d D_Machine_control 1 rfl) (by decide +kernel) (by decide +kernel) (by decide +kernel) (by decide) ?_
    exact am_Machine_control_L402 l hfl D A σ MC MS h0 Qr x0 h bc bs hw p e s m args below meth c hC H locs ls k n hE (lv_sub hl [0] rfl) hR hS (by omega) (by omega)
  have hw := hw.2
  by_cases hc78 : x1 = 19
  · have hw := hw.1 hc78
    refine xt_numi hc78 ?_
    refine lv_tableIn (off := 401) (tgt := 402) hx hb (xb_d D_Machine_control 1 rfl) (by decide +kernel) (by decide +kernel) (by decide +kernel) (by decide) ?_
    exact am_Machine_control_L402 l hfl D A σ MC MS h0 Qr x0 h bc bs hw p e s m args below meth c hC H locs ls k n hE (lv_sub hl [0] rfl) hR hS (by omega) (by omega)
  have hw := hw.2
  by_cases hc79 : x1 = 20
  · have hw := hw.1 hc79
    refine xt_numi hc79 ?_
    refine lv_tableIn (off := 401) (tgt := 402) hx hb (xb_d D_Machine_control 1 rfl) (by decide +kernel) (by decide +kernel) (by decide +kernel) (by decide) ?_
    exact am_Machine_control_L402 l hfl D A σ MC MS h0 Qr x0 h bc bs hw p e s m args below meth c hC H locs ls k n hE (lv_sub hl [0] rfl) hR hS (by omega) (by omega)
  have hw := hw.2
  by_cases hc80 : x1 = 21
  · have hw := hw.1 hc80
    refine xt_numi hc80 ?_
    refine lv_tableIn (off := 401) (tgt := 402) hx hb (xb_d D_Machine_control 1 rfl) (by decide +kernel) (by decide +kernel) (by decide +kernel) (by decide) ?_
    exact am_Machine_control_L402 l hfl D A σ MC MS h0 Qr x0 h bc bs hw p e s m args below meth c hC H locs ls k n hE (lv_sub hl [0] rfl) hR hS (by omega) (by omega)
  have hw := hw.2
  by_cases hc81 : x1 = 22
  · have hw := hw.1 hc81
    refine xt_numi hc81 ?_
    refine lv_tableIn (off := 401) (tgt := 402) hx hb (xb_d D_Machine_control 1 rfl) (by decide +kernel) (by decide +kernel) (by decide +kernel) (by decide) ?_
    exact am_Machine_control_L402 l hfl D A σ MC MS h0 Qr x0 h bc bs hw p e s m args below meth c hC H locs ls k n hE (lv_sub hl [0] rfl) hR hS (by omega) (by omega)
  have hw := hw.2
  by_cases hc82 : x1 = 23
  · have hw := hw.1 hc82
    refine xt_numi hc82 ?_
    refine lv_tableIn (off := 401) (tgt := 402) hx hb (xb_d D_Machine_control 1 rfl) (by decide +kernel) (by decide +kernel) (by decide +kernel) (by decide) ?_
    exact am_Machine_control_L402 l hfl D A σ MC MS h0 Qr x0 h bc bs hw p e s m args below meth c hC H locs ls k n hE (lv_sub hl [0] rfl) hR hS (by omega) (by omega)
  have hw := hw.2
  by_cases hc83 : x1 = 24
  · have hw := hw.1 hc83
    refine xt_numi hc83 ?_
    refine lv_tableIn (off := 401) (tgt := 402) hx hb (xb_d D_Machine_control 1 rfl) (by decide +kernel) (by decide +kernel) (by decide +kernel) (by decide) ?_
    exact am_Machine_control_L402 l hfl D A σ MC MS h0 Qr x0 h bc bs hw p e s m args below meth c hC H locs ls k n hE (lv_sub hl [0] rfl) hR hS (by omega) (by omega)
  have hw := hw.2
  by_cases hc84 : x1 = 25
  · have hw := hw.1 hc84
    refine xt_numi hc84 ?_
    refine lv_tableIn (off := 401) (tgt := 402) hx hb (xb_d D_Machine_control 1 rfl) (by decide +kernel) (by decide +kernel) (by decide +kernel) (by decide) ?_
    exact am_Machine_control_L402 l hfl D A σ MC MS h0 Qr x0 h bc bs hw p e s m args below meth c hC H locs ls k n hE (lv_sub hl [0] rfl) hR hS (by omega) (by omega)
  have hw := hw.2
  by_cases hc85 : x1 = 26
  · have hw := hw.1 hc85
    refine xt_numi hc85 ?_
    refine lv_tableIn (off := 319) (tgt := 320) hx hb (xb_d D_Machine_control 1 rfl) (by decide +kernel) (by decide +kernel) (by decide +kernel) (by decide) ?_
    refine lv_aload_n hx hb (xb_d D_Machine_control 116 rfl) rfl (lv_at hl 0 rfl) ?_
    refine lv_dup hx hb (xb_d D_Machine_control 117 rfl) rfl ?_
    obtain ⟨hk86, hw⟩ := hw
    refine xb_getI (C := R_Machine) (T := F_Machine) (N := 18) hx hb 7 10 hts fin_Machine hown hR hk86 (by decide) rfl (by decide) rfl (hts _ m_79cf62f6) (fun _ h9 => h9) (xb_d D_Machine_control 118 rfl) ?_
    refine lv_iconst (v := 1) hx hb (xb_d D_Machine_control 119 rfl) (by decide) ?_
    refine lv_isub hx hb (xb_d D_Machine_control 120 rfl) ?_
    refine xb_putI (C := R_Machine) (T := F_Machine) (N := 18) (ty := .int) (x := ((xb_i h x0 10) - 1)) hx hb 7 10 hts fin_Machine t_Machine t_Machine_ok n_Machine hown hR hS hk86 (by decide) rfl (by decide) rfl (hts _ m_79cf62f6) (fun _ h9 => h9) rfl (by decide +kernel) rfl rfl (xb_d D_Machine_control 121 rfl) (fun H locs hR hS => ?_)
    obtain ⟨h87, eh87⟩ : ∃ x : xb_H, x = xb_I h x0 10 ((xb_i h x0 10) - 1) := ⟨_, rfl⟩
    rw [← eh87] at hR
    have hw := hw h87 eh87
    have hE : xb_ext h0 h87 := by rw [eh87]; exact hE
    refine lv_aload_n hx hb (xb_d D_Machine_control 122 rfl) rfl (lv_at hl 0 rfl) ?_
    refine lv_dup hx hb (xb_d D_Machine_control 123 rfl) rfl ?_
    have hk86 : xb_k h87 x0 = 8 := by rw [eh87]; exact hk86
    refine xb_getI (C := R_Machine) (T := F_Machine) (N := 18) hx hb 7 15 hts fin_Machine hown hR hk86 (by decide) rfl (by decide) rfl (hts _ m_6a595805) (fun _ h9 => h9) (xb_d D_Machine_control 124 rfl) ?_
    refine lv_iconst (v := 1) hx hb (xb_d D_Machine_control 125 rfl) (by decide) ?_
    refine lv_iadd hx hb (xb_d D_Machine_control 126 rfl) ?_
    refine xb_putI (C := R_Machine) (T := F_Machine) (N := 18) (ty := .int) (x := ((xb_i h87 x0 15) + 1)) hx hb 7 15 hts fin_Machine t_Machine t_Machine_ok n_Machine hown hR hS hk86 (by decide) rfl (by decide) rfl (hts _ m_6a595805) (fun _ h9 => h9) rfl (by decide +kernel) rfl rfl (xb_d D_Machine_control 127 rfl) (fun H locs hR hS => ?_)
    obtain ⟨h88, eh88⟩ : ∃ x : xb_H, x = xb_I h87 x0 15 ((xb_i h87 x0 15) + 1) := ⟨_, rfl⟩
    rw [← eh88] at hR
    have hw := hw h88 eh88
    have hE : xb_ext h0 h88 := by rw [eh88]; exact hE
    refine lv_goto (tgt := 407) hx hb (xb_d D_Machine_control 128 rfl) rfl ?_
    exact am_Machine_control_L407 l hfl D A σ MC MS h0 Qr h88 bc bs hw p e s m args below meth c hC H locs ls k n hE (lv_sub hl [] rfl) hR hS (by omega) (by omega)
  have hw := hw.2
  by_cases hc89 : x1 = 27
  · have hw := hw.1 hc89
    refine xt_numi hc89 ?_
    refine lv_tableIn (off := 342) (tgt := 343) hx hb (xb_d D_Machine_control 1 rfl) (by decide +kernel) (by decide +kernel) (by decide +kernel) (by decide) ?_
    refine lv_aload_n hx hb (xb_d D_Machine_control 129 rfl) rfl (lv_at hl 0 rfl) ?_
    refine lv_dup hx hb (xb_d D_Machine_control 130 rfl) rfl ?_
    obtain ⟨hk90, hw⟩ := hw
    refine xb_getI (C := R_Machine) (T := F_Machine) (N := 18) hx hb 7 10 hts fin_Machine hown hR hk90 (by decide) rfl (by decide) rfl (hts _ m_79cf62f6) (fun _ h9 => h9) (xb_d D_Machine_control 131 rfl) ?_
    refine lv_iconst (v := 2) hx hb (xb_d D_Machine_control 132 rfl) (by decide) ?_
    refine lv_isub hx hb (xb_d D_Machine_control 133 rfl) ?_
    refine xb_putI (C := R_Machine) (T := F_Machine) (N := 18) (ty := .int) (x := ((xb_i h x0 10) - 2)) hx hb 7 10 hts fin_Machine t_Machine t_Machine_ok n_Machine hown hR hS hk90 (by decide) rfl (by decide) rfl (hts _ m_79cf62f6) (fun _ h9 => h9) rfl (by decide +kernel) rfl rfl (xb_d D_Machine_control 134 rfl) (fun H locs hR hS => ?_)
    obtain ⟨h91, eh91⟩ : ∃ x : xb_H, x = xb_I h x0 10 ((xb_i h x0 10) - 2) := ⟨_, rfl⟩
    rw [← eh91] at hR
    have hw := hw h91 eh91
    have hE : xb_ext h0 h91 := by rw [eh91]; exact hE
    refine lv_aload_n hx hb (xb_d D_Machine_control 135 rfl) rfl (lv_at hl 0 rfl) ?_
    have hk90 : xb_k h91 x0 = 8 := by rw [eh91]; exact hk90
    refine xb_getP (C := R_Machine) (T := F_Machine) (N := 18) hx hb 7 9 hts fin_Machine hown hR hk90 (by decide) rfl (by decide) rfl (hts _ m_6904195b) (fun _ h9 => h9) (xb_d D_Machine_control 136 rfl) ?_
    obtain ⟨b92, eb92, hw⟩ := hw
    refine xb_some eb92 ?_
    refine lv_aload_n hx hb (xb_d D_Machine_control 137 rfl) rfl (lv_at hl 0 rfl) ?_
    refine xb_getI (C := R_Machine) (T := F_Machine) (N := 18) hx hb 7 10 hts fin_Machine hown hR hk90 (by decide) rfl (by decide) rfl (hts _ m_79cf62f6) (fun _ h9 => h9) (xb_d D_Machine_control 138 rfl) ?_
    refine lv_iconst (v := 1) hx hb (xb_d D_Machine_control 139 rfl) (by decide) ?_
    refine lv_iadd hx hb (xb_d D_Machine_control 140 rfl) ?_
    obtain ⟨hk94, hw⟩ := hw
    obtain ⟨hi93, hw⟩ := hw
    refine xb_lald hx hb hR hk94 hi93 (xb_d D_Machine_control 141 rfl) ?_
    refine lv_lconst (v := 0) hx hb (xb_d D_Machine_control 142 rfl) (by decide) ?_
    refine xb_lc_ne (tgt := 389) hx hb (xb_d D_Machine_control 143 rfl) (xb_d D_Machine_control 144 rfl) rfl (fun hc95 => ?_) (fun hc95 => ?_)
    · have hw := hw.1 hc95
      exact am_Machine_control_L389 l hfl D A σ MC MS h0 Qr x0 h91 bc bs hw p e s m args below meth c hC H locs ls k n hE (lv_sub hl [0] rfl) hR hS (by omega) (by omega)
    · have hw := hw.2 hc95
      refine lv_aload_n hx hb (xb_d D_Machine_control 145 rfl) rfl (lv_at hl 0 rfl) ?_
      refine xb_getP (C := R_Machine) (T := F_Machine) (N := 18) hx hb 7 9 hts fin_Machine hown hR hk90 (by decide) rfl (by decide) rfl (hts _ m_6904195b) (fun _ h9 => h9) (xb_d D_Machine_control 146 rfl) ?_
      obtain ⟨b96, eb96, hw⟩ := hw
      refine xb_some eb96 ?_
      refine lv_aload_n hx hb (xb_d D_Machine_control 147 rfl) rfl (lv_at hl 0 rfl) ?_
      refine xb_getI (C := R_Machine) (T := F_Machine) (N := 18) hx hb 7 10 hts fin_Machine hown hR hk90 (by decide) rfl (by decide) rfl (hts _ m_79cf62f6) (fun _ h9 => h9) (xb_d D_Machine_control 148 rfl) ?_
      refine lv_iconst (v := 1) hx hb (xb_d D_Machine_control 149 rfl) (by decide) ?_
      refine lv_isub hx hb (xb_d D_Machine_control 150 rfl) ?_
      refine lv_aload_n hx hb (xb_d D_Machine_control 151 rfl) rfl (lv_at hl 0 rfl) ?_
      refine xb_getP (C := R_Machine) (T := F_Machine) (N := 18) hx hb 7 9 hts fin_Machine hown hR hk90 (by decide) rfl (by decide) rfl (hts _ m_6904195b) (fun _ h9 => h9) (xb_d D_Machine_control 152 rfl) ?_
      obtain ⟨b97, eb97, hw⟩ := hw
      refine xb_some eb97 ?_
      refine lv_aload_n hx hb (xb_d D_Machine_control 153 rfl) rfl (lv_at hl 0 rfl) ?_
      refine xb_getI (C := R_Machine) (T := F_Machine) (N := 18) hx hb 7 10 hts fin_Machine hown hR hk90 (by decide) rfl (by decide) rfl (hts _ m_79cf62f6) (fun _ h9 => h9) (xb_d D_Machine_control 154 rfl) ?_
      obtain ⟨hk99, hw⟩ := hw
      obtain ⟨hi98, hw⟩ := hw
      refine xb_lald hx hb hR hk99 hi98 (xb_d D_Machine_control 155 rfl) ?_
      obtain ⟨hk100, hw⟩ := hw
      obtain ⟨hi101, hw⟩ := hw
      refine xb_last hx hb hR hS hk100 hi101 (xb_d D_Machine_control 156 rfl) (fun H locs hR hS => ?_)
      obtain ⟨h102, eh102⟩ : ∃ x : xb_H, x = xb_L h91 b96 (Int32.toNatClampNeg ((xb_i h91 x0 10) - 1)) (xb_l h91 b97 (Int32.toNatClampNeg (xb_i h91 x0 10))) := ⟨_, rfl⟩
      rw [← eh102] at hR
      have hw := hw h102 eh102
      have hE : xb_ext h0 h102 := by rw [eh102]; exact hE
      exact am_Machine_control_L389 l hfl D A σ MC MS h0 Qr x0 h102 bc bs hw p e s m args below meth c hC H locs ls k n hE (lv_sub hl [0] rfl) hR hS (by omega) (by omega)
  have hw := hw.2
  have hw := hw hc1 hc11 hc12 hc13 hc14 hc15 hc16 hc17 hc18 hc25 hc41 hc47 hc51 hc66 hc77 hc78 hc79 hc80 hc81 hc82 hc83 hc84 hc85 hc89
  refine lv_tableOut (tgt := 402) hx hb (xb_d D_Machine_control 1 rfl) (by have a0 := xb_nl (4) 4 (by decide) hc1; have a1 := xb_nl (5) 5 (by decide) hc11; have a2 := xb_nl (6) 6 (by decide) hc12; have a3 := xb_nl (7) 7 (by decide) hc13; have a4 := xb_nl (8) 8 (by decide) hc14; have a5 := xb_nl (9) 9 (by decide) hc15; have a6 := xb_nl (10) 10 (by decide) hc16; have a7 := xb_nl (11) 11 (by decide) hc17; have a8 := xb_nl (12) 12 (by decide) hc18; have a9 := xb_nl (13) 13 (by decide) hc25; have a10 := xb_nl (14) 14 (by decide) hc41; have a11 := xb_nl (15) 15 (by decide) hc47; have a12 := xb_nl (16) 16 (by decide) hc51; have a13 := xb_nl (17) 17 (by decide) hc66; have a14 := xb_nl (18) 18 (by decide) hc77; have a15 := xb_nl (19) 19 (by decide) hc78; have a16 := xb_nl (20) 20 (by decide) hc79; have a17 := xb_nl (21) 21 (by decide) hc80; have a18 := xb_nl (22) 22 (by decide) hc81; have a19 := xb_nl (23) 23 (by decide) hc82; have a20 := xb_nl (24) 24 (by decide) hc83; have a21 := xb_nl (25) 25 (by decide) hc84; have a22 := xb_nl (26) 26 (by decide) hc85; have a23 := xb_nl (27) 27 (by decide) hc89; omega) (by decide) ?_
  exact am_Machine_control_L402 l hfl D A σ MC MS h0 Qr x0 h bc bs hw p e s m args below meth c hC H locs ls k n hE (lv_sub hl [0] rfl) hR hS (by omega) (by omega)

theorem m_e2246ce7 : (.methodLink "StackHost$Reader" 81 y_Reader_readType : Cond) ∈ xt_tbl := xt_in (xt_t3 (List.mem_of_getElem? (i := 204) (by decide +kernel))) (by decide +kernel)
theorem m_e2089bd8 : (.instanceMethod y_Reader_readType : Cond) ∈ xt_tbl := xt_in (xt_t3 (List.mem_of_getElem? (i := 206) (by decide +kernel))) (by decide +kernel)
theorem m_b0eb3f01 : (.selects "StackHost$Reader" y_Reader_readType y_Reader_readType : Cond) ∈ xt_tbl := xt_in (xt_v1 (q := (⟨"StackHost$Reader", "readType", "()V"⟩, 6)) (List.mem_of_getElem? (i := 8) (by decide +kernel))) (by decide +kernel)
theorem m_156d2082 : (.code y_Reader_readType b_Reader_readType 5 none : Cond) ∈ xt_tbl := xt_in (xt_t3 (List.mem_of_getElem? (i := 207) (by decide +kernel))) (by decide +kernel)
theorem m_890540f1 : (.methodLink "StackHost$Reader" 84 y_Reader_readImport : Cond) ∈ xt_tbl := xt_in (xt_t4 (List.mem_of_getElem? (i := 2) (by decide +kernel))) (by decide +kernel)
theorem m_a7ea67c0 : (.instanceMethod y_Reader_readImport : Cond) ∈ xt_tbl := xt_in (xt_t4 (List.mem_of_getElem? (i := 4) (by decide +kernel))) (by decide +kernel)
theorem m_0ec57abf : (.selects "StackHost$Reader" y_Reader_readImport y_Reader_readImport : Cond) ∈ xt_tbl := xt_in (xt_v1 (q := (⟨"StackHost$Reader", "readImport", "()V"⟩, 6)) (List.mem_of_getElem? (i := 13) (by decide +kernel))) (by decide +kernel)
theorem m_6a7dd876 : (.code y_Reader_readImport b_Reader_readImport 7 none : Cond) ∈ xt_tbl := xt_in (xt_t4 (List.mem_of_getElem? (i := 5) (by decide +kernel))) (by decide +kernel)
theorem m_145e8a51 : (.methodLink "StackHost$Reader" 91 y_Reader_readTable : Cond) ∈ xt_tbl := xt_in (xt_t4 (List.mem_of_getElem? (i := 19) (by decide +kernel))) (by decide +kernel)
theorem m_817e0cad : (.instanceMethod y_Reader_readTable : Cond) ∈ xt_tbl := xt_in (xt_t4 (List.mem_of_getElem? (i := 21) (by decide +kernel))) (by decide +kernel)
theorem m_1bff1792 : (.selects "StackHost$Reader" y_Reader_readTable y_Reader_readTable : Cond) ∈ xt_tbl := xt_in (xt_v2 (q := (⟨"StackHost$Reader", "readTable", "()V"⟩, 6)) (List.mem_of_getElem? (i := 1) (by decide +kernel))) (by decide +kernel)
theorem m_5723512e : (.code y_Reader_readTable b_Reader_readTable 2 none : Cond) ∈ xt_tbl := xt_in (xt_t4 (List.mem_of_getElem? (i := 22) (by decide +kernel))) (by decide +kernel)
theorem m_bc39abfd : (.methodLink "StackHost$Reader" 101 y_Reader_readVariable : Cond) ∈ xt_tbl := xt_in (xt_t4 (List.mem_of_getElem? (i := 23) (by decide +kernel))) (by decide +kernel)
theorem m_c08b1c59 : (.instanceMethod y_Reader_readVariable : Cond) ∈ xt_tbl := xt_in (xt_t4 (List.mem_of_getElem? (i := 25) (by decide +kernel))) (by decide +kernel)
theorem m_44adf5fa : (.selects "StackHost$Reader" y_Reader_readVariable y_Reader_readVariable : Cond) ∈ xt_tbl := xt_in (xt_v2 (q := (⟨"StackHost$Reader", "readVariable", "()V"⟩, 6)) (List.mem_of_getElem? (i := 2) (by decide +kernel))) (by decide +kernel)
theorem m_9e25c7a7 : (.code y_Reader_readVariable b_Reader_readVariable 1 none : Cond) ∈ xt_tbl := xt_in (xt_t4 (List.mem_of_getElem? (i := 26) (by decide +kernel))) (by decide +kernel)
theorem m_d4969a11 : (.methodLink "StackHost$Reader" 104 y_Reader_readExport : Cond) ∈ xt_tbl := xt_in (xt_t4 (List.mem_of_getElem? (i := 66) (by decide +kernel))) (by decide +kernel)
theorem m_d662381e : (.instanceMethod y_Reader_readExport : Cond) ∈ xt_tbl := xt_in (xt_t4 (List.mem_of_getElem? (i := 68) (by decide +kernel))) (by decide +kernel)
theorem m_9d83f4c7 : (.selects "StackHost$Reader" y_Reader_readExport y_Reader_readExport : Cond) ∈ xt_tbl := xt_in (xt_v2 (q := (⟨"StackHost$Reader", "readExport", "()V"⟩, 6)) (List.mem_of_getElem? (i := 11) (by decide +kernel))) (by decide +kernel)
theorem m_b1035324 : (.code y_Reader_readExport b_Reader_readExport 4 none : Cond) ∈ xt_tbl := xt_in (xt_t4 (List.mem_of_getElem? (i := 69) (by decide +kernel))) (by decide +kernel)
theorem m_e035d4fd : (.fieldLink "StackHost$Reader" 107 "StackHost$StackModule" "startAt" "I" : Cond) ∈ xt_tbl := xt_in (xt_t3 (List.mem_of_getElem? (i := 122) (by decide +kernel))) (by decide +kernel)
theorem m_2b313539 : (.fieldLink "StackHost$Reader" 110 "StackHost$StackModule" "start" "I" : Cond) ∈ xt_tbl := xt_in (xt_t3 (List.mem_of_getElem? (i := 118) (by decide +kernel))) (by decide +kernel)
theorem m_c7f038b2 : (.methodLink "StackHost$Reader" 113 y_Reader_readElements : Cond) ∈ xt_tbl := xt_in (xt_t4 (List.mem_of_getElem? (i := 70) (by decide +kernel))) (by decide +kernel)
theorem m_8e273619 : (.instanceMethod y_Reader_readElements : Cond) ∈ xt_tbl := xt_in (xt_t4 (List.mem_of_getElem? (i := 72) (by decide +kernel))) (by decide +kernel)
theorem m_5ee59b24 : (.selects "StackHost$Reader" y_Reader_readElements y_Reader_readElements : Cond) ∈ xt_tbl := xt_in (xt_v2 (q := (⟨"StackHost$Reader", "readElements", "()V"⟩, 6)) (List.mem_of_getElem? (i := 12) (by decide +kernel))) (by decide +kernel)
theorem m_4b4bb8ff : (.code y_Reader_readElements b_Reader_readElements 5 none : Cond) ∈ xt_tbl := xt_in (xt_t4 (List.mem_of_getElem? (i := 73) (by decide +kernel))) (by decide +kernel)
theorem m_b04cf318 : (.methodLink "StackHost$Reader" 116 y_Reader_readBody : Cond) ∈ xt_tbl := xt_in (xt_t4 (List.mem_of_getElem? (i := 78) (by decide +kernel))) (by decide +kernel)
theorem m_4d70a435 : (.instanceMethod y_Reader_readBody : Cond) ∈ xt_tbl := xt_in (xt_t4 (List.mem_of_getElem? (i := 80) (by decide +kernel))) (by decide +kernel)
theorem m_4252734b : (.selects "StackHost$Reader" y_Reader_readBody y_Reader_readBody : Cond) ∈ xt_tbl := xt_in (xt_v2 (q := (⟨"StackHost$Reader", "readBody", "()V"⟩, 6)) (List.mem_of_getElem? (i := 13) (by decide +kernel))) (by decide +kernel)
theorem m_8ebb0a33 : (.code y_Reader_readBody b_Reader_readBody 4 none : Cond) ∈ xt_tbl := xt_in (xt_t4 (List.mem_of_getElem? (i := 81) (by decide +kernel))) (by decide +kernel)
theorem m_0d56e808 : (.methodLink "StackHost$Reader" 119 y_Reader_readData : Cond) ∈ xt_tbl := xt_in (xt_t4 (List.mem_of_getElem? (i := 87) (by decide +kernel))) (by decide +kernel)
theorem m_dcc11ae1 : (.instanceMethod y_Reader_readData : Cond) ∈ xt_tbl := xt_in (xt_t4 (List.mem_of_getElem? (i := 89) (by decide +kernel))) (by decide +kernel)
theorem m_e58471ef : (.selects "StackHost$Reader" y_Reader_readData y_Reader_readData : Cond) ∈ xt_tbl := xt_in (xt_v2 (q := (⟨"StackHost$Reader", "readData", "()V"⟩, 6)) (List.mem_of_getElem? (i := 15) (by decide +kernel))) (by decide +kernel)
theorem m_43cf7a9b : (.code y_Reader_readData b_Reader_readData 2 none : Cond) ∈ xt_tbl := xt_in (xt_t4 (List.mem_of_getElem? (i := 90) (by decide +kernel))) (by decide +kernel)
theorem nm_Reader_readType : xt_nm y_Reader_readType 0 := ⟨by decide +kernel, by decide +kernel⟩
theorem nm_Reader_readImport : xt_nm y_Reader_readImport 0 := ⟨by decide +kernel, by decide +kernel⟩
theorem nm_Reader_readTable : xt_nm y_Reader_readTable 0 := ⟨by decide +kernel, by decide +kernel⟩
theorem nm_Reader_readVariable : xt_nm y_Reader_readVariable 0 := ⟨by decide +kernel, by decide +kernel⟩
theorem nm_Reader_readExport : xt_nm y_Reader_readExport 0 := ⟨by decide +kernel, by decide +kernel⟩
theorem nm_Reader_readElements : xt_nm y_Reader_readElements 0 := ⟨by decide +kernel, by decide +kernel⟩
theorem nm_Reader_readBody : xt_nm y_Reader_readBody 0 := ⟨by decide +kernel, by decide +kernel⟩
theorem nm_Reader_readData : xt_nm y_Reader_readData 0 := ⟨by decide +kernel, by decide +kernel⟩
set_option maxRecDepth 100000 in
def T_Reader_readSection : List (Nat × Instr × Nat) := [(0, .aload_n 0, 1), (1, .aload_n 0, 1), (2, .invokevirtual 70, 3), (5, .invokevirtual 73, 3), (8, .iload_n 1, 1), (9, .ifCond .eq 13, 3), (12, .iload_n 1, 1), (13, .bipush 8, 2), (15, .if_icmp .eq 7, 3), (18, .iconst 1, 1), (19, .goto 4, 3), (22, .iconst 0, 1), (23, .istore_n 2, 1), (24, .iload_n 2, 1), (25, .ifCond .eq 15, 3), (28, .aload_n 0, 1), (29, .invokevirtual 70, 3), (32, .i2l, 1), (33, .ldc2_w 76, 3), (36, .land, 1), (37, .goto 4, 3), (40, .lconst 1, 1), (41, .lstore_n 3, 1), (42, .lconst 0, 1), (43, .lstore 5, 2), (45, .lload 5, 2), (47, .lload_n 3, 1), (48, .lcmp, 1), (49, .ifCond .ge 221, 3), (52, .iload_n 1, 1), (53, .tableswitch 204 0 10 #[59, 75, 82, 89, 126, 133, 151, 158, 165, 190, 197], 59), (112, .aload_n 0, 1), (113, .invokevirtual 78, 3), (116, .pop, 1), (117, .aload_n 0, 1), (118, .aload_n 0, 1), (119, .getfield 30, 3), (122, .putfield 41, 3), (125, .goto 136, 3), (128, .aload_n 0, 1), (129, .invokevirtual 81, 3), (132, .goto 129, 3), (135, .aload_n 0, 1), (136, .invokevirtual 84, 3), (139, .goto 122, 3), (142, .aload_n 0, 1), (143, .getfield 15, 3), (146, .getfield 64, 3), (149, .aload_n 0, 1), (150, .getfield 41, 3), (153, .i2l, 1), (154, .invokevirtual 87, 3), (157, .aload_n 0, 1), (158, .getfield 15, 3), (161, .getfield 64, 3), (164, .aload_n 0, 1), (165, .invokevirtual 70, 3), (168, .i2l, 1), (169, .ldc2_w 76, 3), (172, .land, 1), (173, .invokevirtual 87, 3), (176, .goto 85, 3), (179, .aload_n 0, 1), (180, .invokevirtual 91, 3), (183, .goto 78, 3), (186, .aload_n 0, 1), (187, .aload_n 0, 1), (188, .getfield 15, 3), (191, .getfield 94, 3), (194, .aload_n 0, 1), (195, .getfield 41, 3), (198, .invokevirtual 97, 3), (201, .goto 60, 3), (204, .aload_n 0, 1), (205, .invokevirtual 101, 3), (208, .goto 53, 3), (211, .aload_n 0, 1), (212, .invokevirtual 104, 3), (215, .goto 46, 3), (218, .aload_n 0, 1), (219, .getfield 15, 3), (222, .aload_n 0, 1), (223, .getfield 41, 3), (226, .putfield 107, 3), (229, .aload_n 0, 1), (230, .getfield 15, 3), (233, .aload_n 0, 1), (234, .invokevirtual 70, 3), (237, .putfield 110, 3), (240, .goto 21, 3), (243, .aload_n 0, 1), (244, .invokevirtual 113, 3), (247, .goto 14, 3), (250, .aload_n 0, 1), (251, .invokevirtual 116, 3), (254, .goto 7, 3), (257, .aload_n 0, 1), (258, .invokevirtual 119, 3), (261, .lload 5, 2), (263, .lconst 1, 1), (264, .ladd, 1), (265, .lstore 5, 2), (267, .goto (-222), 3), (270, .aload_n 0, 1), (271, .getfield 41, 3), (274, .aload_n 0, 1), (275, .getfield 30, 3), (278, .if_icmp .ge 16, 3), (281, .aload_n 0, 1), (282, .getfield 15, 3), (285, .bipush 7, 2), (287, .aload_n 0, 1), (288, .getfield 41, 3), (291, .invokevirtual 37, 3), (294, .aload_n 0, 1), (295, .aload_n 0, 1), (296, .getfield 25, 3), (299, .arraylength, 1), (300, .putfield 30, 3), (303, .return_, 1)]
theorem D_Reader_readSection : ∀ q ∈ T_Reader_readSection, decode b_Reader_readSection q.1 = .ok (q.2.1, q.2.2) := by decide +kernel
def w_Reader_readSection_L294 (Qr : xb_H → Prop) (Qt : String → xb_H → Prop) (x0 : Nat) (h : xb_H) (bc : Nat) (bs : Nat) : Prop :=
    xb_k h x0 = 4 ∧ ∃ b2 : Nat, (xb_r h x0 1) = some b2 ∧ xb_k h b2 = 100 ∧ ∀ h4 : xb_H, h4 = xb_I h x0 4 (nI (xb_n h b2)) → Qr h4

def w_Reader_readSection_L261 (K45 : Nat → Int32 → Int64 → Int64 → xb_H → Nat → Nat → Prop) (Qr : xb_H → Prop) (Qt : String → xb_H → Prop) (x0 : Nat) (x1 : Int32) (x3 : Int64) (x5 : Int64) (h : xb_H) (bc : Nat) (bs : Nat) : Prop :=
    ∀ v1 : Int64, v1 = (x5 + 1) → K45 x0 x1 x3 v1 h bc bs

def w_Reader_readSection_L45 (Qr : xb_H → Prop) (Qt : String → xb_H → Prop) : Nat → Nat → Int32 → Int64 → Int64 → xb_H → Nat → Nat → Prop
  | 0, _, _, _, _, _, _, _ => False
  | n9 + 1, x0, x1, x3, x5, h, bc, bs =>
    ((x3 ≤ x5 → xb_k h x0 = 4 ∧ (((xb_i h x0 4) ≤ (xb_i h x0 3) → w_Reader_readSection_L294 Qr Qt x0 h bc bs) ∧ (¬ (xb_i h x0 4) ≤ (xb_i h x0 3) → ∃ b4 : Nat, (xb_r h x0 0) = some b4 ∧ xb_k h b4 = 3 ∧ ∃ c8 sc8 : Nat, c8 ≤ bc ∧ sc8 ≤ bs ∧ w_StackModule_fail b4 7 (xb_i h x0 3) h c8 sc8 (fun (h6 : xb_H) => xb_ext h h6 → w_Reader_readSection_L294 Qr Qt x0 h6 (bc - c8) (bs - sc8)) Qt))) ∧ (¬ x3 ≤ x5 → ((x1 = 0 → xb_k h x0 = 4 ∧ ∃ c13 sc13 : Nat, c13 ≤ bc ∧ sc13 ≤ bs ∧ w_Reader_readName x0 h c13 sc13 (fun (r12 : Int32) (h11 : xb_H) => xb_ext h h11 → ∀ h14 : xb_H, h14 = xb_I h11 x0 3 (xb_i h11 x0 4) → w_Reader_readSection_L261 (w_Reader_readSection_L45 Qr Qt n9) Qr Qt x0 x1 x3 x5 h14 (bc - c13) (bs - sc13)) Qt) ∧ (x1 = 1 → xb_k h x0 = 4 ∧ ∃ c19 sc19 : Nat, c19 ≤ bc ∧ sc19 ≤ bs ∧ w_Reader_readType x0 h c19 sc19 (fun (h17 : xb_H) => xb_ext h h17 → w_Reader_readSection_L261 (w_Reader_readSection_L45 Qr Qt n9) Qr Qt x0 x1 x3 x5 h17 (bc - c19) (bs - sc19)) Qt) ∧ (x1 = 2 → xb_k h x0 = 4 ∧ ∃ c24 sc24 : Nat, c24 ≤ bc ∧ sc24 ≤ bs ∧ w_Reader_readImport x0 h c24 sc24 (fun (h22 : xb_H) => xb_ext h h22 → w_Reader_readSection_L261 (w_Reader_readSection_L45 Qr Qt n9) Qr Qt x0 x1 x3 x5 h22 (bc - c24) (bs - sc24)) Qt) ∧ (x1 = 3 → xb_k h x0 = 4 ∧ ∃ b27 : Nat, (xb_r h x0 0) = some b27 ∧ xb_k h b27 = 3 ∧ ∃ b29 : Nat, (xb_r h b27 4) = some b29 ∧ xb_k h b29 = 2 ∧ ∃ c33 sc33 : Nat, c33 ≤ bc ∧ sc33 ≤ bs ∧ w_Row_add b29 (Int32.toInt64 (xb_i h x0 3)) h c33 sc33 (fun (h31 : xb_H) => xb_ext h h31 → ∃ b34 : Nat, (xb_r h31 x0 0) = some b34 ∧ xb_k h31 b34 = 3 ∧ ∃ b36 : Nat, (xb_r h31 b34 4) = some b36 ∧ ∃ c39 sc39 : Nat, c39 ≤ (bc - c33) ∧ sc39 ≤ (bs - sc33) ∧ w_Reader_count x0 h31 c39 sc39 (fun (r38 : Int32) (h37 : xb_H) => xb_ext h31 h37 → xb_k h37 b36 = 2 ∧ ∃ c43 sc43 : Nat, c43 ≤ ((bc - c33) - c39) ∧ sc43 ≤ ((bs - sc33) - sc39) ∧ w_Row_add b36 ((Int32.toInt64 r38) &&& 4294967295) h37 c43 sc43 (fun (h41 : xb_H) => xb_ext h37 h41 → w_Reader_readSection_L261 (w_Reader_readSection_L45 Qr Qt n9) Qr Qt x0 x1 x3 x5 h41 (((bc - c33) - c39) - c43) (((bs - sc33) - sc39) - sc43))) Qt)) ∧ (x1 = 4 → xb_k h x0 = 4 ∧ ∃ c48 sc48 : Nat, c48 ≤ bc ∧ sc48 ≤ bs ∧ w_Reader_readTable x0 h c48 sc48 (fun (h46 : xb_H) => xb_ext h h46 → w_Reader_readSection_L261 (w_Reader_readSection_L45 Qr Qt n9) Qr Qt x0 x1 x3 x5 h46 (bc - c48) (bs - sc48)) Qt) ∧ (x1 = 5 → xb_k h x0 = 4 ∧ ∃ b51 : Nat, (xb_r h x0 0) = some b51 ∧ xb_k h b51 = 3 ∧ ∃ b53 : Nat, (xb_r h b51 6) = some b53 ∧ ∃ c56 sc56 : Nat, c56 ≤ bc ∧ sc56 ≤ bs ∧ w_Reader_readLimits x0 b53 (xb_i h x0 3) h c56 sc56 (fun (h54 : xb_H) => xb_ext h h54 → w_Reader_readSection_L261 (w_Reader_readSection_L45 Qr Qt n9) Qr Qt x0 x1 x3 x5 h54 (bc - c56) (bs - sc56)) Qt) ∧ (x1 = 6 → xb_k h x0 = 4 ∧ ∃ c61 sc61 : Nat, c61 ≤ bc ∧ sc61 ≤ bs ∧ w_Reader_readVariable x0 h c61 sc61 (fun (h59 : xb_H) => xb_ext h h59 → w_Reader_readSection_L261 (w_Reader_readSection_L45 Qr Qt n9) Qr Qt x0 x1 x3 x5 h59 (bc - c61) (bs - sc61)) Qt) ∧ (x1 = 7 → xb_k h x0 = 4 ∧ ∃ c66 sc66 : Nat, c66 ≤ bc ∧ sc66 ≤ bs ∧ w_Reader_readExport x0 h c66 sc66 (fun (h64 : xb_H) => xb_ext h h64 → w_Reader_readSection_L261 (w_Reader_readSection_L45 Qr Qt n9) Qr Qt x0 x1 x3 x5 h64 (bc - c66) (bs - sc66)) Qt) ∧ (x1 = 8 → xb_k h x0 = 4 ∧ ∃ b69 : Nat, (xb_r h x0 0) = some b69 ∧ xb_k h b69 = 3 ∧ ∀ h71 : xb_H, h71 = xb_I h b69 16 (xb_i h x0 3) → ∃ b72 : Nat, (xb_r h71 x0 0) = some b72 ∧ ∃ c75 sc75 : Nat, c75 ≤ bc ∧ sc75 ≤ bs ∧ w_Reader_count x0 h71 c75 sc75 (fun (r74 : Int32) (h73 : xb_H) => xb_ext h71 h73 → xb_k h73 b72 = 3 ∧ ∀ h77 : xb_H, h77 = xb_I h73 b72 15 r74 → w_Reader_readSection_L261 (w_Reader_readSection_L45 Qr Qt n9) Qr Qt x0 x1 x3 x5 h77 (bc - c75) (bs - sc75)) Qt) ∧ (x1 = 9 → xb_k h x0 = 4 ∧ ∃ c82 sc82 : Nat, c82 ≤ bc ∧ sc82 ≤ bs ∧ w_Reader_readElements x0 h c82 sc82 (fun (h80 : xb_H) => xb_ext h h80 → w_Reader_readSection_L261 (w_Reader_readSection_L45 Qr Qt n9) Qr Qt x0 x1 x3 x5 h80 (bc - c82) (bs - sc82)) Qt) ∧ (x1 = 10 → xb_k h x0 = 4 ∧ ∃ c87 sc87 : Nat, c87 ≤ bc ∧ sc87 ≤ bs ∧ w_Reader_readBody x0 h c87 sc87 (fun (h85 : xb_H) => xb_ext h h85 → w_Reader_readSection_L261 (w_Reader_readSection_L45 Qr Qt n9) Qr Qt x0 x1 x3 x5 h85 (bc - c87) (bs - sc87)) Qt) ∧ (¬ x1 = 0 → ¬ x1 = 1 → ¬ x1 = 2 → ¬ x1 = 3 → ¬ x1 = 4 → ¬ x1 = 5 → ¬ x1 = 6 → ¬ x1 = 7 → ¬ x1 = 8 → ¬ x1 = 9 → ¬ x1 = 10 → xb_k h x0 = 4 ∧ ∃ c91 sc91 : Nat, c91 ≤ bc ∧ sc91 ≤ bs ∧ w_Reader_readData x0 h c91 sc91 (fun (h89 : xb_H) => xb_ext h h89 → w_Reader_readSection_L261 (w_Reader_readSection_L45 Qr Qt n9) Qr Qt x0 x1 x3 x5 h89 (bc - c91) (bs - sc91)) Qt))))

def w_Reader_readSection_L41 (Qr : xb_H → Prop) (Qt : String → xb_H → Prop) (x0 : Nat) (x1 : Int32) (y0 : Int64) (h : xb_H) (bc : Nat) (bs : Nat) : Prop :=
    (∃ n8 : Nat, w_Reader_readSection_L45 Qr Qt n8 x0 x1 y0 0 h bc bs)

def w_Reader_readSection_L23 (Qr : xb_H → Prop) (Qt : String → xb_H → Prop) (x0 : Nat) (x1 : Int32) (y0 : Int32) (h : xb_H) (bc : Nat) (bs : Nat) : Prop :=
    ((y0 = (0 : Int32) → w_Reader_readSection_L41 Qr Qt x0 x1 1 h bc bs) ∧ (¬ y0 = (0 : Int32) → xb_k h x0 = 4 ∧ ∃ c5 sc5 : Nat, c5 ≤ bc ∧ sc5 ≤ bs ∧ w_Reader_count x0 h c5 sc5 (fun (r4 : Int32) (h3 : xb_H) => xb_ext h h3 → w_Reader_readSection_L41 Qr Qt x0 x1 ((Int32.toInt64 r4) &&& 4294967295) h3 (bc - c5) (bs - sc5)) Qt))

def w_Reader_readSection_L22 (Qr : xb_H → Prop) (Qt : String → xb_H → Prop) (x0 : Nat) (x1 : Int32) (h : xb_H) (bc : Nat) (bs : Nat) : Prop :=
    w_Reader_readSection_L23 Qr Qt x0 x1 0 h bc bs

def w_Reader_readSection (x0 : Nat) (x1 : Int32) (h : xb_H) (bc : Nat) (bs : Nat) (Qr : xb_H → Prop) (Qt : String → xb_H → Prop) : Prop :=
    xb_k h x0 = 4 ∧ ∃ c4 sc4 : Nat, c4 ≤ bc ∧ sc4 ≤ bs ∧ w_Reader_count x0 h c4 sc4 (fun (r3 : Int32) (h2 : xb_H) => xb_ext h h2 → ∃ c7 sc7 : Nat, c7 ≤ (bc - c4) ∧ sc7 ≤ (bs - sc4) ∧ w_Reader_limitTo x0 r3 h2 c7 sc7 (fun (h5 : xb_H) => xb_ext h2 h5 → ((x1 = (0 : Int32) → w_Reader_readSection_L22 Qr Qt x0 x1 h5 ((bc - c4) - c7) ((bs - sc4) - sc7)) ∧ (¬ x1 = (0 : Int32) → ((x1 = (8 : Int32) → w_Reader_readSection_L22 Qr Qt x0 x1 h5 ((bc - c4) - c7) ((bs - sc4) - sc7)) ∧ (¬ x1 = (8 : Int32) → w_Reader_readSection_L23 Qr Qt x0 x1 1 h5 ((bc - c4) - c7) ((bs - sc4) - sc7)))))) Qt) Qt

set_option maxHeartbeats 4000000 in
set_option maxRecDepth 100000 in
theorem am_Reader_readSection_L294 (l : Launch) (hfl : l.flags = pinnedFlags ++ [noTraceFlag]) (D : va_G) (A : Nat → Prop) (σ MC MS : Nat) (h0 : xb_H) (Qr : xb_H → Prop) (Qt : String → xb_H → Prop) (x0 : Nat) (h : xb_H) (bc : Nat) (bs : Nat) (hw : w_Reader_readSection_L294 Qr Qt x0 h bc bs) : xb_am l D A σ 7 MC MS h0 (fun v h => v = none ∧ Qr h) Qt y_Reader_readSection.cls y_Reader_readSection.name b_Reader_readSection 7 ([] : List ExceptionTableEntry) none 294 [(0, .ref x0)] [] h bc bs := by
  unfold w_Reader_readSection_L294 at hw
  intro p e s m args below meth c hC H locs ls k n hE hl hR hS hk hn
  obtain ⟨hx, hb, hown, hlocks, htab, hml, hr, hB, hA, hnm⟩ := id hC
  have hts := hB.1.1.at args
  refine lv_aload_n hx hb (xb_d D_Reader_readSection 114 rfl) rfl (lv_at hl 0 rfl) ?_
  refine lv_aload_n hx hb (xb_d D_Reader_readSection 115 rfl) rfl (lv_at hl 0 rfl) ?_
  obtain ⟨hk1, hw⟩ := hw
  refine xb_getP (C := R_Reader) (T := F_Reader) (N := 6) hx hb 3 1 hts fin_Reader hown hR hk1 (by decide) rfl (by decide) rfl (hts _ m_d1ba4be8) (fun _ h9 => h9) (xb_d D_Reader_readSection 116 rfl) ?_
  obtain ⟨b2, eb2, hw⟩ := hw
  refine xb_some eb2 ?_
  obtain ⟨hk3, hw⟩ := hw
  refine xb_alen hx hb hR hk3 (by decide) (xb_d D_Reader_readSection 117 rfl) ?_
  refine xb_putI (C := R_Reader) (T := F_Reader) (N := 6) (ty := .int) (x := (nI (xb_n h b2))) hx hb 3 4 hts fin_Reader t_Reader t_Reader_ok n_Reader hown hR hS hk1 (by decide) rfl (by decide) rfl (hts _ m_49916c4b) (fun _ h9 => h9) rfl (by decide +kernel) rfl rfl (xb_d D_Reader_readSection 118 rfl) (fun H locs hR hS => ?_)
  obtain ⟨h4, eh4⟩ : ∃ x : xb_H, x = xb_I h x0 4 (nI (xb_n h b2)) := ⟨_, rfl⟩
  rw [← eh4] at hR
  have hw := hw h4 eh4
  have hE : xb_ext h0 h4 := by rw [eh4]; exact hE
  exact xb_vret hx hb hr hlocks (show k ≤ MC by omega) (show n ≤ MS by omega) hE hR hS (xb_d D_Reader_readSection 119 rfl) hw

set_option maxHeartbeats 4000000 in
set_option maxRecDepth 100000 in
theorem am_Reader_readSection_L261 (l : Launch) (hfl : l.flags = pinnedFlags ++ [noTraceFlag]) (D : va_G) (A : Nat → Prop) (σ MC MS : Nat) (h0 : xb_H) (Qr : xb_H → Prop) (Qt : String → xb_H → Prop) (K45 : Nat → Int32 → Int64 → Int64 → xb_H → Nat → Nat → Prop) (hK45 : ∀ (x0 : Nat) (x1 : Int32) (x3 : Int64) (x5 : Int64) (h : xb_H) (bc : Nat) (bs : Nat), K45 x0 x1 x3 x5 h bc bs → xb_am l D A σ 7 MC MS h0 (fun v h => v = none ∧ Qr h) Qt y_Reader_readSection.cls y_Reader_readSection.name b_Reader_readSection 7 ([] : List ExceptionTableEntry) none 45 [(0, .ref x0), (1, .int x1), (3, .long x3), (5, .long x5)] [] h bc bs) (x0 : Nat) (x1 : Int32) (x3 : Int64) (x5 : Int64) (h : xb_H) (bc : Nat) (bs : Nat) (hw : w_Reader_readSection_L261 K45 Qr Qt x0 x1 x3 x5 h bc bs) : xb_am l D A σ 7 MC MS h0 (fun v h => v = none ∧ Qr h) Qt y_Reader_readSection.cls y_Reader_readSection.name b_Reader_readSection 7 ([] : List ExceptionTableEntry) none 261 [(0, .ref x0), (1, .int x1), (3, .long x3), (5, .long x5)] [] h bc bs := by
  unfold w_Reader_readSection_L261 at hw
  intro p e s m args below meth c hC H locs ls k n hE hl hR hS hk hn
  obtain ⟨hx, hb, hown, hlocks, htab, hml, hr, hB, hA, hnm⟩ := id hC
  have hts := hB.1.1.at args
  refine lv_lload hx hb (xb_d D_Reader_readSection 98 rfl) (lv_at hl 3 rfl) ?_
  refine lv_lconst (v := 1) hx hb (xb_d D_Reader_readSection 99 rfl) (by decide) ?_
  refine lv_ladd hx hb (xb_d D_Reader_readSection 100 rfl) ?_
  obtain ⟨v1, ev1⟩ : ∃ x : Int64, x = (x5 + 1) := ⟨_, rfl⟩
  have hw := hw v1 ev1
  refine xt_numl (y := v1) ev1.symm ?_
  refine lv_lstore hx hb (xb_d D_Reader_readSection 101 rfl) hl (by decide) rfl (fun ls hl => ?_)
  have hl : lv_has ls 7 [(5, .long v1), (0, .ref x0), (1, .int x1), (3, .long x3)] := hl
  refine lv_goto (tgt := 45) hx hb (xb_d D_Reader_readSection 102 rfl) rfl ?_
  exact hK45 x0 x1 x3 v1 h bc bs hw p e s m args below meth c hC H locs ls k n hE (lv_sub hl [1, 2, 3, 0] rfl) hR hS (by omega) (by omega)

set_option maxHeartbeats 4000000 in
set_option maxRecDepth 100000 in
theorem am_Reader_readSection_L45 (l : Launch) (hfl : l.flags = pinnedFlags ++ [noTraceFlag]) (D : va_G) (A : Nat → Prop) (σ MC MS : Nat) (h0 : xb_H) (Qr : xb_H → Prop) (Qt : String → xb_H → Prop) (n9 : Nat) : ∀ (x0 : Nat) (x1 : Int32) (x3 : Int64) (x5 : Int64) (h : xb_H) (bc : Nat) (bs : Nat), w_Reader_readSection_L45 Qr Qt n9 x0 x1 x3 x5 h bc bs → xb_am l D A σ 7 MC MS h0 (fun v h => v = none ∧ Qr h) Qt y_Reader_readSection.cls y_Reader_readSection.name b_Reader_readSection 7 ([] : List ExceptionTableEntry) none 45 [(0, .ref x0), (1, .int x1), (3, .long x3), (5, .long x5)] [] h bc bs := by
  induction n9 with
  | zero => intro x0 x1 x3 x5 h bc bs hw; exact False.elim hw
  | succ n9 ih =>
    intro x0 x1 x3 x5 h bc bs hw
    unfold w_Reader_readSection_L45 at hw
    intro p e s m args below meth c hC H locs ls k n hE hl hR hS hk hn
    obtain ⟨hx, hb, hown, hlocks, htab, hml, hr, hB, hA, hnm⟩ := id hC
    have hts := hB.1.1.at args
    refine lv_lload hx hb (xb_d D_Reader_readSection 25 rfl) (lv_at hl 3 rfl) ?_
    refine lv_lload_n hx hb (xb_d D_Reader_readSection 26 rfl) rfl (lv_at hl 2 rfl) ?_
    refine xb_lc_ge (tgt := 270) hx hb (xb_d D_Reader_readSection 27 rfl) (xb_d D_Reader_readSection 28 rfl) rfl (fun hc1 => ?_) (fun hc1 => ?_)
    · have hw := hw.1 hc1
      refine lv_aload_n hx hb (xb_d D_Reader_readSection 103 rfl) rfl (lv_at hl 0 rfl) ?_
      obtain ⟨hk2, hw⟩ := hw
      refine xb_getI (C := R_Reader) (T := F_Reader) (N := 6) hx hb 3 3 hts fin_Reader hown hR hk2 (by decide) rfl (by decide) rfl (hts _ m_a9b84ac2) (fun _ h9 => h9) (xb_d D_Reader_readSection 104 rfl) ?_
      refine lv_aload_n hx hb (xb_d D_Reader_readSection 105 rfl) rfl (lv_at hl 0 rfl) ?_
      refine xb_getI (C := R_Reader) (T := F_Reader) (N := 6) hx hb 3 4 hts fin_Reader hown hR hk2 (by decide) rfl (by decide) rfl (hts _ m_49916c4b) (fun _ h9 => h9) (xb_d D_Reader_readSection 106 rfl) ?_
      refine lv_icmp_ge (tgt := 294) hx hb (xb_d D_Reader_readSection 107 rfl) rfl (fun hc3 => ?_) (fun hc3 => ?_)
      · have hw := hw.1 hc3
        exact am_Reader_readSection_L294 l hfl D A σ MC MS h0 Qr Qt x0 h bc bs hw p e s m args below meth c hC H locs ls k n hE (lv_sub hl [0] rfl) hR hS (by omega) (by omega)
      · have hw := hw.2 hc3
        refine lv_aload_n hx hb (xb_d D_Reader_readSection 108 rfl) rfl (lv_at hl 0 rfl) ?_
        refine xb_getP (C := R_Reader) (T := F_Reader) (N := 6) hx hb 3 0 hts fin_Reader hown hR hk2 (by decide) rfl (by decide) rfl (hts _ m_76d8349c) (fun _ h9 => h9) (xb_d D_Reader_readSection 109 rfl) ?_
        obtain ⟨b4, eb4, hw⟩ := hw
        refine xb_some eb4 ?_
        refine lv_bipush (v := 7) hx hb (xb_d D_Reader_readSection 110 rfl) (by decide) ?_
        refine lv_aload_n hx hb (xb_d D_Reader_readSection 111 rfl) rfl (lv_at hl 0 rfl) ?_
        refine xb_getI (C := R_Reader) (T := F_Reader) (N := 6) hx hb 3 3 hts fin_Reader hown hR hk2 (by decide) rfl (by decide) rfl (hts _ m_a9b84ac2) (fun _ h9 => h9) (xb_d D_Reader_readSection 112 rfl) ?_
        obtain ⟨hk5, hw⟩ := hw
        obtain ⟨c8, sc8, hlc8, hlsc8, hw⟩ := hw
        refine xb_call (D := D) (A := A) (σ := σ) (h := h) (d := 2) (mc := c8) (ms := sc8) (maxL := 3) (rest := []) (av := [.ref b4, .int 7, .int (xb_i h x0 3)]) (fun T hT X => by obtain ⟨cb, r1, r2, r3⟩ := xb_recv (ci := 2) hR rfl hk5 (by decide); exact xt_invV X hx hown (hts _ m_6fcde429) (hts _ m_865d5b07) (hts _ m_113f8f75) (xt_sigOf (hts _ m_73e65e5f)) nm_StackModule_fail (by rw [hT]; exact r1) r2 r3 (g := F0 m 291 ls [.int (xb_i h x0 3), .int 7, .ref b4]) rfl (argsL := [.int 7, .int (xb_i h x0 3)]) (rest := []) rfl rfl (by rw [hb]; exact (xb_d D_Reader_readSection 113 rfl))) (ok_StackModule_fail l hfl D A σ b4 7 (xb_i h x0 3) h c8 sc8 _ _ hw) (hml.trans hl.1.symm) (by rw [hb]; exact (xb_d D_Reader_readSection 113 rfl)) (Nat.le_of_ble_eq_true rfl) (Nat.le_of_ble_eq_true rfl) (Nat.le_of_ble_eq_true rfl) (show k + c8 ≤ MC by omega) (show n + sc8 ≤ MS by omega) (xt_w1 hB.1 m_73e65e5f) (xt_cdOf hB.1 m_73e65e5f) (hts _ m_9c375545) hB hR hS hA (fun vv h6 H locs hq hEh6 hR hS => ?_) (fun XX ax h6 H locs hq hEh6 hex hR hS => ?_)
        · obtain ⟨rfl, hw⟩ := hq
          have hw := hw hEh6
          have hE := hE.tr hEh6
          refine W.eq (g2 := F0 m 294 ls []) rfl ?_
          exact am_Reader_readSection_L294 l hfl D A σ MC MS h0 Qr Qt x0 h6 (bc - c8) (bs - sc8) hw p e s m args below meth c hC H locs ls (k + c8) (n + sc8) hE (lv_sub hl [0] rfl) hR hS (by omega) (by omega)
        · exact xb_pass hlocks (fun x hx9 => by rw [htab] at hx9; first | cases hx9 | (simp [tableOf] at hx9; rcases hx9 with rfl | rfl | rfl <;> decide)) (show (k + c8) ≤ MC by omega) (show (n + sc8) ≤ MS by omega) (hE.tr hEh6) hR hS hex hq
    · have hw := hw.2 hc1
      refine lv_iload_n hx hb (xb_d D_Reader_readSection 29 rfl) rfl (lv_at hl 1 rfl) ?_
      by_cases hc9 : x1 = 0
      · have hw := hw.1 hc9
        refine xt_numi hc9 ?_
        refine lv_tableIn (off := 59) (tgt := 112) hx hb (xb_d D_Reader_readSection 30 rfl) (by decide +kernel) (by decide +kernel) (by decide +kernel) (by decide) ?_
        refine lv_aload_n hx hb (xb_d D_Reader_readSection 31 rfl) rfl (lv_at hl 0 rfl) ?_
        obtain ⟨hk10, hw⟩ := hw
        obtain ⟨c13, sc13, hlc13, hlsc13, hw⟩ := hw
        refine xb_call (D := D) (A := A) (σ := σ) (h := h) (d := 4) (mc := c13) (ms := sc13) (maxL := 5) (rest := []) (av := [.ref x0]) (fun T hT X => by obtain ⟨cb, r1, r2, r3⟩ := xb_recv (ci := 3) hR rfl hk10 (by decide); exact xt_invV X hx hown (hts _ m_fae64a5e) (hts _ m_a35a3722) (hts _ m_7a3ebdc0) (xt_sigOf (hts _ m_76a677e7)) nm_Reader_readName (by rw [hT]; exact r1) r2 r3 (g := F0 m 113 ls [.ref x0]) rfl (argsL := []) (rest := []) rfl rfl (by rw [hb]; exact (xb_d D_Reader_readSection 32 rfl))) (ok_Reader_readName l hfl D A σ x0 h c13 sc13 _ _ hw) (hml.trans hl.1.symm) (by rw [hb]; exact (xb_d D_Reader_readSection 32 rfl)) (Nat.le_of_ble_eq_true rfl) (Nat.le_of_ble_eq_true rfl) (Nat.le_of_ble_eq_true rfl) (show k + c13 ≤ MC by omega) (show n + sc13 ≤ MS by omega) (xt_w1 hB.1 m_76a677e7) (xt_cdOf hB.1 m_76a677e7) (hts _ m_938fcec4) hB hR hS hA (fun vv h11 H locs hq hEh11 hR hS => ?_) (fun XX ax h11 H locs hq hEh11 hex hR hS => ?_)
        · obtain ⟨r12, rfl, hw⟩ := hq
          have hw := hw hEh11
          have hE := hE.tr hEh11
          refine W.eq (g2 := F0 m 116 ls [.int r12]) rfl ?_
          refine lv_pop hx hb (xb_d D_Reader_readSection 33 rfl) rfl ?_
          refine lv_aload_n hx hb (xb_d D_Reader_readSection 34 rfl) rfl (lv_at hl 0 rfl) ?_
          refine lv_aload_n hx hb (xb_d D_Reader_readSection 35 rfl) rfl (lv_at hl 0 rfl) ?_
          have hk10 : xb_k h11 x0 = 4 := hEh11.k hk10
          refine xb_getI (C := R_Reader) (T := F_Reader) (N := 6) hx hb 3 4 hts fin_Reader hown hR hk10 (by decide) rfl (by decide) rfl (hts _ m_49916c4b) (fun _ h9 => h9) (xb_d D_Reader_readSection 36 rfl) ?_
          refine xb_putI (C := R_Reader) (T := F_Reader) (N := 6) (ty := .int) (x := (xb_i h11 x0 4)) hx hb 3 3 hts fin_Reader t_Reader t_Reader_ok n_Reader hown hR hS hk10 (by decide) rfl (by decide) rfl (hts _ m_a9b84ac2) (fun _ h9 => h9) rfl (by decide +kernel) rfl rfl (xb_d D_Reader_readSection 37 rfl) (fun H locs hR hS => ?_)
          obtain ⟨h14, eh14⟩ : ∃ x : xb_H, x = xb_I h11 x0 3 (xb_i h11 x0 4) := ⟨_, rfl⟩
          rw [← eh14] at hR
          have hw := hw h14 eh14
          have hE : xb_ext h0 h14 := by rw [eh14]; exact hE
          refine lv_goto (tgt := 261) hx hb (xb_d D_Reader_readSection 38 rfl) rfl ?_
          exact am_Reader_readSection_L261 l hfl D A σ MC MS h0 Qr Qt (w_Reader_readSection_L45 Qr Qt n9) ih x0 x1 x3 x5 h14 (bc - c13) (bs - sc13) hw p e s m args below meth c hC H locs ls (k + c13) (n + sc13) hE (lv_sub hl [0, 1, 2, 3] rfl) hR hS (by omega) (by omega)
        · exact xb_pass hlocks (fun x hx9 => by rw [htab] at hx9; first | cases hx9 | (simp [tableOf] at hx9; rcases hx9 with rfl | rfl | rfl <;> decide)) (show (k + c13) ≤ MC by omega) (show (n + sc13) ≤ MS by omega) (hE.tr hEh11) hR hS hex hq
      have hw := hw.2
      by_cases hc15 : x1 = 1
      · have hw := hw.1 hc15
        refine xt_numi hc15 ?_
        refine lv_tableIn (off := 75) (tgt := 128) hx hb (xb_d D_Reader_readSection 30 rfl) (by decide +kernel) (by decide +kernel) (by decide +kernel) (by decide) ?_
        refine lv_aload_n hx hb (xb_d D_Reader_readSection 39 rfl) rfl (lv_at hl 0 rfl) ?_
        obtain ⟨hk16, hw⟩ := hw
        obtain ⟨c19, sc19, hlc19, hlsc19, hw⟩ := hw
        refine xb_call (D := D) (A := A) (σ := σ) (h := h) (d := 6) (mc := c19) (ms := sc19) (maxL := 5) (rest := []) (av := [.ref x0]) (fun T hT X => by obtain ⟨cb, r1, r2, r3⟩ := xb_recv (ci := 3) hR rfl hk16 (by decide); exact xt_invV X hx hown (hts _ m_e2246ce7) (hts _ m_e2089bd8) (hts _ m_b0eb3f01) (xt_sigOf (hts _ m_156d2082)) nm_Reader_readType (by rw [hT]; exact r1) r2 r3 (g := F0 m 129 ls [.ref x0]) rfl (argsL := []) (rest := []) rfl rfl (by rw [hb]; exact (xb_d D_Reader_readSection 40 rfl))) (ok_Reader_readType l hfl D A σ x0 h c19 sc19 _ _ hw) (hml.trans hl.1.symm) (by rw [hb]; exact (xb_d D_Reader_readSection 40 rfl)) (Nat.le_of_ble_eq_true rfl) (Nat.le_of_ble_eq_true rfl) (Nat.le_of_ble_eq_true rfl) (show k + c19 ≤ MC by omega) (show n + sc19 ≤ MS by omega) (xt_w1 hB.1 m_156d2082) (xt_cdOf hB.1 m_156d2082) (hts _ m_938fcec4) hB hR hS hA (fun vv h17 H locs hq hEh17 hR hS => ?_) (fun XX ax h17 H locs hq hEh17 hex hR hS => ?_)
        · obtain ⟨rfl, hw⟩ := hq
          have hw := hw hEh17
          have hE := hE.tr hEh17
          refine W.eq (g2 := F0 m 132 ls []) rfl ?_
          refine lv_goto (tgt := 261) hx hb (xb_d D_Reader_readSection 41 rfl) rfl ?_
          exact am_Reader_readSection_L261 l hfl D A σ MC MS h0 Qr Qt (w_Reader_readSection_L45 Qr Qt n9) ih x0 x1 x3 x5 h17 (bc - c19) (bs - sc19) hw p e s m args below meth c hC H locs ls (k + c19) (n + sc19) hE (lv_sub hl [0, 1, 2, 3] rfl) hR hS (by omega) (by omega)
        · exact xb_pass hlocks (fun x hx9 => by rw [htab] at hx9; first | cases hx9 | (simp [tableOf] at hx9; rcases hx9 with rfl | rfl | rfl <;> decide)) (show (k + c19) ≤ MC by omega) (show (n + sc19) ≤ MS by omega) (hE.tr hEh17) hR hS hex hq
      have hw := hw.2
      by_cases hc20 : x1 = 2
      · have hw := hw.1 hc20
        refine xt_numi hc20 ?_
        refine lv_tableIn (off := 82) (tgt := 135) hx hb (xb_d D_Reader_readSection 30 rfl) (by decide +kernel) (by decide +kernel) (by decide +kernel) (by decide) ?_
        refine lv_aload_n hx hb (xb_d D_Reader_readSection 42 rfl) rfl (lv_at hl 0 rfl) ?_
        obtain ⟨hk21, hw⟩ := hw
        obtain ⟨c24, sc24, hlc24, hlsc24, hw⟩ := hw
        refine xb_call (D := D) (A := A) (σ := σ) (h := h) (d := 6) (mc := c24) (ms := sc24) (maxL := 7) (rest := []) (av := [.ref x0]) (fun T hT X => by obtain ⟨cb, r1, r2, r3⟩ := xb_recv (ci := 3) hR rfl hk21 (by decide); exact xt_invV X hx hown (hts _ m_890540f1) (hts _ m_a7ea67c0) (hts _ m_0ec57abf) (xt_sigOf (hts _ m_6a7dd876)) nm_Reader_readImport (by rw [hT]; exact r1) r2 r3 (g := F0 m 136 ls [.ref x0]) rfl (argsL := []) (rest := []) rfl rfl (by rw [hb]; exact (xb_d D_Reader_readSection 43 rfl))) (ok_Reader_readImport l hfl D A σ x0 h c24 sc24 _ _ hw) (hml.trans hl.1.symm) (by rw [hb]; exact (xb_d D_Reader_readSection 43 rfl)) (Nat.le_of_ble_eq_true rfl) (Nat.le_of_ble_eq_true rfl) (Nat.le_of_ble_eq_true rfl) (show k + c24 ≤ MC by omega) (show n + sc24 ≤ MS by omega) (xt_w1 hB.1 m_6a7dd876) (xt_cdOf hB.1 m_6a7dd876) (hts _ m_938fcec4) hB hR hS hA (fun vv h22 H locs hq hEh22 hR hS => ?_) (fun XX ax h22 H locs hq hEh22 hex hR hS => ?_)
        · obtain ⟨rfl, hw⟩ := hq
          have hw := hw hEh22
          have hE := hE.tr hEh22
          refine W.eq (g2 := F0 m 139 ls []) rfl ?_
          refine lv_goto (tgt := 261) hx hb (xb_d D_Reader_readSection 44 rfl) rfl ?_
          exact am_Reader_readSection_L261 l hfl D A σ MC MS h0 Qr Qt (w_Reader_readSection_L45 Qr Qt n9) ih x0 x1 x3 x5 h22 (bc - c24) (bs - sc24) hw p e s m args below meth c hC H locs ls (k + c24) (n + sc24) hE (lv_sub hl [0, 1, 2, 3] rfl) hR hS (by omega) (by omega)
        · exact xb_pass hlocks (fun x hx9 => by rw [htab] at hx9; first | cases hx9 | (simp [tableOf] at hx9; rcases hx9 with rfl | rfl | rfl <;> decide)) (show (k + c24) ≤ MC by omega) (show (n + sc24) ≤ MS by omega) (hE.tr hEh22) hR hS hex hq
      have hw := hw.2
      by_cases hc25 : x1 = 3
      · have hw := hw.1 hc25
        refine xt_numi hc25 ?_
        refine lv_tableIn (off := 89) (tgt := 142) hx hb (xb_d D_Reader_readSection 30 rfl) (by decide +kernel) (by decide +kernel) (by decide +kernel) (by decide) ?_
        refine lv_aload_n hx hb (xb_d D_Reader_readSection 45 rfl) rfl (lv_at hl 0 rfl) ?_
        obtain ⟨hk26, hw⟩ := hw
        refine xb_getP (C := R_Reader) (T := F_Reader) (N := 6) hx hb 3 0 hts fin_Reader hown hR hk26 (by decide) rfl (by decide) rfl (hts _ m_76d8349c) (fun _ h9 => h9) (xb_d D_Reader_readSection 46 rfl) ?_
        obtain ⟨b27, eb27, hw⟩ := hw
        refine xb_some eb27 ?_
        obtain ⟨hk28, hw⟩ := hw
        refine xb_getP (C := R_StackModule) (T := F_StackModule) (N := 19) hx hb 2 4 hts fin_StackModule hown hR hk28 (by decide) rfl (by decide) rfl (hts _ m_08af5762) (fun _ h9 => h9) (xb_d D_Reader_readSection 47 rfl) ?_
        obtain ⟨b29, eb29, hw⟩ := hw
        refine xb_some eb29 ?_
        refine lv_aload_n hx hb (xb_d D_Reader_readSection 48 rfl) rfl (lv_at hl 0 rfl) ?_
        refine xb_getI (C := R_Reader) (T := F_Reader) (N := 6) hx hb 3 3 hts fin_Reader hown hR hk26 (by decide) rfl (by decide) rfl (hts _ m_a9b84ac2) (fun _ h9 => h9) (xb_d D_Reader_readSection 49 rfl) ?_
        refine lv_i2l hx hb (xb_d D_Reader_readSection 50 rfl) rfl ?_
        obtain ⟨hk30, hw⟩ := hw
        obtain ⟨c33, sc33, hlc33, hlsc33, hw⟩ := hw
        refine xb_call (D := D) (A := A) (σ := σ) (h := h) (d := 4) (mc := c33) (ms := sc33) (maxL := 3) (rest := []) (av := [.ref b29, .long (Int32.toInt64 (xb_i h x0 3))]) (fun T hT X => by obtain ⟨cb, r1, r2, r3⟩ := xb_recv (ci := 1) hR rfl hk30 (by decide); exact xt_invV X hx hown (hts _ m_da067afc) (hts _ m_7e8d081f) (hts _ m_4e47f51a) (xt_sigOf (hts _ m_4f1bdc54)) nm_Row_add (by rw [hT]; exact r1) r2 r3 (g := F0 m 154 ls [.long (Int32.toInt64 (xb_i h x0 3)), .ref b29]) rfl (argsL := [.long (Int32.toInt64 (xb_i h x0 3))]) (rest := []) rfl rfl (by rw [hb]; exact (xb_d D_Reader_readSection 51 rfl))) (ok_Row_add l hfl D A σ b29 (Int32.toInt64 (xb_i h x0 3)) h c33 sc33 _ hw) (hml.trans hl.1.symm) (by rw [hb]; exact (xb_d D_Reader_readSection 51 rfl)) (Nat.le_of_ble_eq_true rfl) (Nat.le_of_ble_eq_true rfl) (Nat.le_of_ble_eq_true rfl) (show k + c33 ≤ MC by omega) (show n + sc33 ≤ MS by omega) (xt_w1 hB.1 m_4f1bdc54) (xt_cdOf hB.1 m_4f1bdc54) (hts _ m_c1bef504) hB hR hS hA (fun vv h31 H locs hq hEh31 hR hS => ?_) (fun XX ax h31 H locs hq hEh31 hex hR hS => ?_)
        · obtain ⟨rfl, hw⟩ := hq
          have hw := hw hEh31
          have hE := hE.tr hEh31
          refine W.eq (g2 := F0 m 157 ls []) rfl ?_
          refine lv_aload_n hx hb (xb_d D_Reader_readSection 52 rfl) rfl (lv_at hl 0 rfl) ?_
          have hk26 : xb_k h31 x0 = 4 := hEh31.k hk26
          refine xb_getP (C := R_Reader) (T := F_Reader) (N := 6) hx hb 3 0 hts fin_Reader hown hR hk26 (by decide) rfl (by decide) rfl (hts _ m_76d8349c) (fun _ h9 => h9) (xb_d D_Reader_readSection 53 rfl) ?_
          obtain ⟨b34, eb34, hw⟩ := hw
          refine xb_some eb34 ?_
          obtain ⟨hk35, hw⟩ := hw
          refine xb_getP (C := R_StackModule) (T := F_StackModule) (N := 19) hx hb 2 4 hts fin_StackModule hown hR hk35 (by decide) rfl (by decide) rfl (hts _ m_08af5762) (fun _ h9 => h9) (xb_d D_Reader_readSection 54 rfl) ?_
          obtain ⟨b36, eb36, hw⟩ := hw
          refine xb_some eb36 ?_
          refine lv_aload_n hx hb (xb_d D_Reader_readSection 55 rfl) rfl (lv_at hl 0 rfl) ?_
          obtain ⟨c39, sc39, hlc39, hlsc39, hw⟩ := hw
          refine xb_call (D := D) (A := A) (σ := σ) (h := h31) (d := 3) (mc := c39) (ms := sc39) (maxL := 4) (rest := [.ref b36]) (av := [.ref x0]) (fun T hT X => by obtain ⟨cb, r1, r2, r3⟩ := xb_recv (ci := 3) hR rfl hk26 (by decide); exact xt_invV X hx hown (hts _ m_2c379b4d) (hts _ m_a120e786) (hts _ m_e903c73e) (xt_sigOf (hts _ m_99690a98)) nm_Reader_count (by rw [hT]; exact r1) r2 r3 (g := F0 m 165 ls [.ref x0, .ref b36]) rfl (argsL := []) (rest := [.ref b36]) rfl rfl (by rw [hb]; exact (xb_d D_Reader_readSection 56 rfl))) (ok_Reader_count l hfl D A σ x0 h31 c39 sc39 _ _ hw) (hml.trans hl.1.symm) (by rw [hb]; exact (xb_d D_Reader_readSection 56 rfl)) (Nat.le_of_ble_eq_true rfl) (Nat.le_of_ble_eq_true rfl) (Nat.le_of_ble_eq_true rfl) (show (k + c33) + c39 ≤ MC by omega) (show (n + sc33) + sc39 ≤ MS by omega) (xt_w1 hB.1 m_99690a98) (xt_cdOf hB.1 m_99690a98) (hts _ m_938fcec4) hB hR hS hA (fun vv h37 H locs hq hEh37 hR hS => ?_) (fun XX ax h37 H locs hq hEh37 hex hR hS => ?_)
          · obtain ⟨r38, rfl, hw⟩ := hq
            have hw := hw hEh37
            have hE := hE.tr hEh37
            refine W.eq (g2 := F0 m 168 ls [.int r38, .ref b36]) rfl ?_
            refine lv_i2l hx hb (xb_d D_Reader_readSection 57 rfl) rfl ?_
            refine lv_ldc2 (v := 4294967295) hx hb hown (hts _ m_687f726b) (xb_d D_Reader_readSection 58 rfl) ?_
            refine lv_land hx hb (xb_d D_Reader_readSection 59 rfl) ?_
            obtain ⟨hk40, hw⟩ := hw
            obtain ⟨c43, sc43, hlc43, hlsc43, hw⟩ := hw
            refine xb_call (D := D) (A := A) (σ := σ) (h := h37) (d := 4) (mc := c43) (ms := sc43) (maxL := 3) (rest := []) (av := [.ref b36, .long ((Int32.toInt64 r38) &&& 4294967295)]) (fun T hT X => by obtain ⟨cb, r1, r2, r3⟩ := xb_recv (ci := 1) hR rfl hk40 (by decide); exact xt_invV X hx hown (hts _ m_da067afc) (hts _ m_7e8d081f) (hts _ m_4e47f51a) (xt_sigOf (hts _ m_4f1bdc54)) nm_Row_add (by rw [hT]; exact r1) r2 r3 (g := F0 m 173 ls [.long ((Int32.toInt64 r38) &&& 4294967295), .ref b36]) rfl (argsL := [.long ((Int32.toInt64 r38) &&& 4294967295)]) (rest := []) rfl rfl (by rw [hb]; exact (xb_d D_Reader_readSection 60 rfl))) (ok_Row_add l hfl D A σ b36 ((Int32.toInt64 r38) &&& 4294967295) h37 c43 sc43 _ hw) (hml.trans hl.1.symm) (by rw [hb]; exact (xb_d D_Reader_readSection 60 rfl)) (Nat.le_of_ble_eq_true rfl) (Nat.le_of_ble_eq_true rfl) (Nat.le_of_ble_eq_true rfl) (show ((k + c33) + c39) + c43 ≤ MC by omega) (show ((n + sc33) + sc39) + sc43 ≤ MS by omega) (xt_w1 hB.1 m_4f1bdc54) (xt_cdOf hB.1 m_4f1bdc54) (hts _ m_c1bef504) hB hR hS hA (fun vv h41 H locs hq hEh41 hR hS => ?_) (fun XX ax h41 H locs hq hEh41 hex hR hS => ?_)
            · obtain ⟨rfl, hw⟩ := hq
              have hw := hw hEh41
              have hE := hE.tr hEh41
              refine W.eq (g2 := F0 m 176 ls []) rfl ?_
              refine lv_goto (tgt := 261) hx hb (xb_d D_Reader_readSection 61 rfl) rfl ?_
              exact am_Reader_readSection_L261 l hfl D A σ MC MS h0 Qr Qt (w_Reader_readSection_L45 Qr Qt n9) ih x0 x1 x3 x5 h41 (((bc - c33) - c39) - c43) (((bs - sc33) - sc39) - sc43) hw p e s m args below meth c hC H locs ls (((k + c33) + c39) + c43) (((n + sc33) + sc39) + sc43) hE (lv_sub hl [0, 1, 2, 3] rfl) hR hS (by omega) (by omega)
            · exact False.elim hq
          · exact xb_pass hlocks (fun x hx9 => by rw [htab] at hx9; first | cases hx9 | (simp [tableOf] at hx9; rcases hx9 with rfl | rfl | rfl <;> decide)) (show ((k + c33) + c39) ≤ MC by omega) (show ((n + sc33) + sc39) ≤ MS by omega) (hE.tr hEh37) hR hS hex hq
        · exact False.elim hq
      have hw := hw.2
      by_cases hc44 : x1 = 4
      · have hw := hw.1 hc44
        refine xt_numi hc44 ?_
        refine lv_tableIn (off := 126) (tgt := 179) hx hb (xb_d D_Reader_readSection 30 rfl) (by decide +kernel) (by decide +kernel) (by decide +kernel) (by decide) ?_
        refine lv_aload_n hx hb (xb_d D_Reader_readSection 62 rfl) rfl (lv_at hl 0 rfl) ?_
        obtain ⟨hk45, hw⟩ := hw
        obtain ⟨c48, sc48, hlc48, hlsc48, hw⟩ := hw
        refine xb_call (D := D) (A := A) (σ := σ) (h := h) (d := 6) (mc := c48) (ms := sc48) (maxL := 2) (rest := []) (av := [.ref x0]) (fun T hT X => by obtain ⟨cb, r1, r2, r3⟩ := xb_recv (ci := 3) hR rfl hk45 (by decide); exact xt_invV X hx hown (hts _ m_145e8a51) (hts _ m_817e0cad) (hts _ m_1bff1792) (xt_sigOf (hts _ m_5723512e)) nm_Reader_readTable (by rw [hT]; exact r1) r2 r3 (g := F0 m 180 ls [.ref x0]) rfl (argsL := []) (rest := []) rfl rfl (by rw [hb]; exact (xb_d D_Reader_readSection 63 rfl))) (ok_Reader_readTable l hfl D A σ x0 h c48 sc48 _ _ hw) (hml.trans hl.1.symm) (by rw [hb]; exact (xb_d D_Reader_readSection 63 rfl)) (Nat.le_of_ble_eq_true rfl) (Nat.le_of_ble_eq_true rfl) (Nat.le_of_ble_eq_true rfl) (show k + c48 ≤ MC by omega) (show n + sc48 ≤ MS by omega) (xt_w1 hB.1 m_5723512e) (xt_cdOf hB.1 m_5723512e) (hts _ m_938fcec4) hB hR hS hA (fun vv h46 H locs hq hEh46 hR hS => ?_) (fun XX ax h46 H locs hq hEh46 hex hR hS => ?_)
        · obtain ⟨rfl, hw⟩ := hq
          have hw := hw hEh46
          have hE := hE.tr hEh46
          refine W.eq (g2 := F0 m 183 ls []) rfl ?_
          refine lv_goto (tgt := 261) hx hb (xb_d D_Reader_readSection 64 rfl) rfl ?_
          exact am_Reader_readSection_L261 l hfl D A σ MC MS h0 Qr Qt (w_Reader_readSection_L45 Qr Qt n9) ih x0 x1 x3 x5 h46 (bc - c48) (bs - sc48) hw p e s m args below meth c hC H locs ls (k + c48) (n + sc48) hE (lv_sub hl [0, 1, 2, 3] rfl) hR hS (by omega) (by omega)
        · exact xb_pass hlocks (fun x hx9 => by rw [htab] at hx9; first | cases hx9 | (simp [tableOf] at hx9; rcases hx9 with rfl | rfl | rfl <;> decide)) (show (k + c48) ≤ MC by omega) (show (n + sc48) ≤ MS by omega) (hE.tr hEh46) hR hS hex hq
      have hw := hw.2
      by_cases hc49 : x1 = 5
      · have hw := hw.1 hc49
        refine xt_numi hc49 ?_
        refine lv_tableIn (off := 133) (tgt := 186) hx hb (xb_d D_Reader_readSection 30 rfl) (by decide +kernel) (by decide +kernel) (by decide +kernel) (by decide) ?_
        refine lv_aload_n hx hb (xb_d D_Reader_readSection 65 rfl) rfl (lv_at hl 0 rfl) ?_
        refine lv_aload_n hx hb (xb_d D_Reader_readSection 66 rfl) rfl (lv_at hl 0 rfl) ?_
        obtain ⟨hk50, hw⟩ := hw
        refine xb_getP (C := R_Reader) (T := F_Reader) (N := 6) hx hb 3 0 hts fin_Reader hown hR hk50 (by decide) rfl (by decide) rfl (hts _ m_76d8349c) (fun _ h9 => h9) (xb_d D_Reader_readSection 67 rfl) ?_
        obtain ⟨b51, eb51, hw⟩ := hw
        refine xb_some eb51 ?_
        obtain ⟨hk52, hw⟩ := hw
        refine xb_getP (C := R_StackModule) (T := F_StackModule) (N := 19) hx hb 2 6 hts fin_StackModule hown hR hk52 (by decide) rfl (by decide) rfl (hts _ m_aacfe790) (fun _ h9 => h9) (xb_d D_Reader_readSection 68 rfl) ?_
        obtain ⟨b53, eb53, hw⟩ := hw
        refine xb_some eb53 ?_
        refine lv_aload_n hx hb (xb_d D_Reader_readSection 69 rfl) rfl (lv_at hl 0 rfl) ?_
        refine xb_getI (C := R_Reader) (T := F_Reader) (N := 6) hx hb 3 3 hts fin_Reader hown hR hk50 (by decide) rfl (by decide) rfl (hts _ m_a9b84ac2) (fun _ h9 => h9) (xb_d D_Reader_readSection 70 rfl) ?_
        obtain ⟨c56, sc56, hlc56, hlsc56, hw⟩ := hw
        refine xb_call (D := D) (A := A) (σ := σ) (h := h) (d := 5) (mc := c56) (ms := sc56) (maxL := 4) (rest := []) (av := [.ref x0, .ref b53, .int (xb_i h x0 3)]) (fun T hT X => by obtain ⟨cb, r1, r2, r3⟩ := xb_recv (ci := 3) hR rfl hk50 (by decide); exact xt_invV X hx hown (hts _ m_8deb7e3b) (hts _ m_592ab943) (hts _ m_602d511d) (xt_sigOf (hts _ m_06c7cb4a)) nm_Reader_readLimits (by rw [hT]; exact r1) r2 r3 (g := F0 m 198 ls [.int (xb_i h x0 3), .ref b53, .ref x0]) rfl (argsL := [.ref b53, .int (xb_i h x0 3)]) (rest := []) rfl rfl (by rw [hb]; exact (xb_d D_Reader_readSection 71 rfl))) (ok_Reader_readLimits l hfl D A σ x0 b53 (xb_i h x0 3) h c56 sc56 _ _ hw) (hml.trans hl.1.symm) (by rw [hb]; exact (xb_d D_Reader_readSection 71 rfl)) (Nat.le_of_ble_eq_true rfl) (Nat.le_of_ble_eq_true rfl) (Nat.le_of_ble_eq_true rfl) (show k + c56 ≤ MC by omega) (show n + sc56 ≤ MS by omega) (xt_w1 hB.1 m_06c7cb4a) (xt_cdOf hB.1 m_06c7cb4a) (hts _ m_938fcec4) hB hR hS hA (fun vv h54 H locs hq hEh54 hR hS => ?_) (fun XX ax h54 H locs hq hEh54 hex hR hS => ?_)
        · obtain ⟨rfl, hw⟩ := hq
          have hw := hw hEh54
          have hE := hE.tr hEh54
          refine W.eq (g2 := F0 m 201 ls []) rfl ?_
          refine lv_goto (tgt := 261) hx hb (xb_d D_Reader_readSection 72 rfl) rfl ?_
          exact am_Reader_readSection_L261 l hfl D A σ MC MS h0 Qr Qt (w_Reader_readSection_L45 Qr Qt n9) ih x0 x1 x3 x5 h54 (bc - c56) (bs - sc56) hw p e s m args below meth c hC H locs ls (k + c56) (n + sc56) hE (lv_sub hl [0, 1, 2, 3] rfl) hR hS (by omega) (by omega)
        · exact xb_pass hlocks (fun x hx9 => by rw [htab] at hx9; first | cases hx9 | (simp [tableOf] at hx9; rcases hx9 with rfl | rfl | rfl <;> decide)) (show (k + c56) ≤ MC by omega) (show (n + sc56) ≤ MS by omega) (hE.tr hEh54) hR hS hex hq
      have hw := hw.2
      by_cases hc57 : x1 = 6
      · have hw := hw.1 hc57
        refine xt_numi hc57 ?_
        refine lv_tableIn (off := 151) (tgt := 204) hx hb (xb_d D_Reader_readSection 30 rfl) (by decide +kernel) (by decide +kernel) (by decide +kernel) (by decide) ?_
        refine lv_aload_n hx hb (xb_d D_Reader_readSection 73 rfl) rfl (lv_at hl 0 rfl) ?_
        obtain ⟨hk58, hw⟩ := hw
        obtain ⟨c61, sc61, hlc61, hlsc61, hw⟩ := hw
        refine xb_call (D := D) (A := A) (σ := σ) (h := h) (d := 6) (mc := c61) (ms := sc61) (maxL := 1) (rest := []) (av := [.ref x0]) (fun T hT X => by obtain ⟨cb, r1, r2, r3⟩ := xb_recv (ci := 3) hR rfl hk58 (by decide); exact xt_invV X hx hown (hts _ m_bc39abfd) (hts _ m_c08b1c59) (hts _ m_44adf5fa) (xt_sigOf (hts _ m_9e25c7a7)) nm_Reader_readVariable (by rw [hT]; exact r1) r2 r3 (g := F0 m 205 ls [.ref x0]) rfl (argsL := []) (rest := []) rfl rfl (by rw [hb]; exact (xb_d D_Reader_readSection 74 rfl))) (ok_Reader_readVariable l hfl D A σ x0 h c61 sc61 _ _ hw) (hml.trans hl.1.symm) (by rw [hb]; exact (xb_d D_Reader_readSection 74 rfl)) (Nat.le_of_ble_eq_true rfl) (Nat.le_of_ble_eq_true rfl) (Nat.le_of_ble_eq_true rfl) (show k + c61 ≤ MC by omega) (show n + sc61 ≤ MS by omega) (xt_w1 hB.1 m_9e25c7a7) (xt_cdOf hB.1 m_9e25c7a7) (hts _ m_938fcec4) hB hR hS hA (fun vv h59 H locs hq hEh59 hR hS => ?_) (fun XX ax h59 H locs hq hEh59 hex hR hS => ?_)
        · obtain ⟨rfl, hw⟩ := hq
          have hw := hw hEh59
          have hE := hE.tr hEh59
          refine W.eq (g2 := F0 m 208 ls []) rfl ?_
          refine lv_goto (tgt := 261) hx hb (xb_d D_Reader_readSection 75 rfl) rfl ?_
          exact am_Reader_readSection_L261 l hfl D A σ MC MS h0 Qr Qt (w_Reader_readSection_L45 Qr Qt n9) ih x0 x1 x3 x5 h59 (bc - c61) (bs - sc61) hw p e s m args below meth c hC H locs ls (k + c61) (n + sc61) hE (lv_sub hl [0, 1, 2, 3] rfl) hR hS (by omega) (by omega)
        · exact xb_pass hlocks (fun x hx9 => by rw [htab] at hx9; first | cases hx9 | (simp [tableOf] at hx9; rcases hx9 with rfl | rfl | rfl <;> decide)) (show (k + c61) ≤ MC by omega) (show (n + sc61) ≤ MS by omega) (hE.tr hEh59) hR hS hex hq
      have hw := hw.2
      by_cases hc62 : x1 = 7
      · have hw := hw.1 hc62
        refine xt_numi hc62 ?_
        refine lv_tableIn (off := 158) (tgt := 211) hx hb (xb_d D_Reader_readSection 30 rfl) (by decide +kernel) (by decide +kernel) (by decide +kernel) (by decide) ?_
        refine lv_aload_n hx hb (xb_d D_Reader_readSection 76 rfl) rfl (lv_at hl 0 rfl) ?_
        obtain ⟨hk63, hw⟩ := hw
        obtain ⟨c66, sc66, hlc66, hlsc66, hw⟩ := hw
        refine xb_call (D := D) (A := A) (σ := σ) (h := h) (d := 5) (mc := c66) (ms := sc66) (maxL := 4) (rest := []) (av := [.ref x0]) (fun T hT X => by obtain ⟨cb, r1, r2, r3⟩ := xb_recv (ci := 3) hR rfl hk63 (by decide); exact xt_invV X hx hown (hts _ m_d4969a11) (hts _ m_d662381e) (hts _ m_9d83f4c7) (xt_sigOf (hts _ m_b1035324)) nm_Reader_readExport (by rw [hT]; exact r1) r2 r3 (g := F0 m 212 ls [.ref x0]) rfl (argsL := []) (rest := []) rfl rfl (by rw [hb]; exact (xb_d D_Reader_readSection 77 rfl))) (ok_Reader_readExport l hfl D A σ x0 h c66 sc66 _ _ hw) (hml.trans hl.1.symm) (by rw [hb]; exact (xb_d D_Reader_readSection 77 rfl)) (Nat.le_of_ble_eq_true rfl) (Nat.le_of_ble_eq_true rfl) (Nat.le_of_ble_eq_true rfl) (show k + c66 ≤ MC by omega) (show n + sc66 ≤ MS by omega) (xt_w1 hB.1 m_b1035324) (xt_cdOf hB.1 m_b1035324) (hts _ m_938fcec4) hB hR hS hA (fun vv h64 H locs hq hEh64 hR hS => ?_) (fun XX ax h64 H locs hq hEh64 hex hR hS => ?_)
        · obtain ⟨rfl, hw⟩ := hq
          have hw := hw hEh64
          have hE := hE.tr hEh64
          refine W.eq (g2 := F0 m 215 ls []) rfl ?_
          refine lv_goto (tgt := 261) hx hb (xb_d D_Reader_readSection 78 rfl) rfl ?_
          exact am_Reader_readSection_L261 l hfl D A σ MC MS h0 Qr Qt (w_Reader_readSection_L45 Qr Qt n9) ih x0 x1 x3 x5 h64 (bc - c66) (bs - sc66) hw p e s m args below meth c hC H locs ls (k + c66) (n + sc66) hE (lv_sub hl [0, 1, 2, 3] rfl) hR hS (by omega) (by omega)
        · exact xb_pass hlocks (fun x hx9 => by rw [htab] at hx9; first | cases hx9 | (simp [tableOf] at hx9; rcases hx9 with rfl | rfl | rfl <;> decide)) (show (k + c66) ≤ MC by omega) (show (n + sc66) ≤ MS by omega) (hE.tr hEh64) hR hS hex hq
      have hw := hw.2
      by_cases hc67 : x1 = 8
      · have hw := hw.1 hc67
        refine xt_numi hc67 ?_
        refine lv_tableIn (off := 165) (tgt := 218) hx hb (xb_d D_Reader_readSection 30 rfl) (by decide +kernel) (by decide +kernel) (by decide +kernel) (by decide) ?_
        refine lv_aload_n hx hb (xb_d D_Reader_readSection 79 rfl) rfl (lv_at hl 0 rfl) ?_
        obtain ⟨hk68, hw⟩ := hw
        refine xb_getP (C := R_Reader) (T := F_Reader) (N := 6) hx hb 3 0 hts fin_Reader hown hR hk68 (by decide) rfl (by decide) rfl (hts _ m_76d8349c) (fun _ h9 => h9) (xb_d D_Reader_readSection 80 rfl) ?_
        obtain ⟨b69, eb69, hw⟩ := hw
        refine xb_some eb69 ?_
        refine lv_aload_n hx hb (xb_d D_Reader_readSection 81 rfl) rfl (lv_at hl 0 rfl) ?_
        refine xb_getI (C := R_Reader) (T := F_Reader) (N := 6) hx hb 3 3 hts fin_Reader hown hR hk68 (by decide) rfl (by decide) rfl (hts _ m_a9b84ac2) (fun _ h9 => h9) (xb_d D_Reader_readSection 82 rfl) ?_
        obtain ⟨hk70, hw⟩ := hw
        refine xb_putI (C := R_StackModule) (T := F_StackModule) (N := 19) (ty := .int) (x := (xb_i h x0 3)) hx hb 2 16 hts fin_StackModule t_StackModule t_StackModule_ok n_StackModule hown hR hS hk70 (by decide) rfl (by decide) rfl (hts _ m_e035d4fd) (fun _ h9 => h9) rfl (by decide +kernel) rfl rfl (xb_d D_Reader_readSection 83 rfl) (fun H locs hR hS => ?_)
        obtain ⟨h71, eh71⟩ : ∃ x : xb_H, x = xb_I h b69 16 (xb_i h x0 3) := ⟨_, rfl⟩
        rw [← eh71] at hR
        have hw := hw h71 eh71
        have hE : xb_ext h0 h71 := by rw [eh71]; exact hE
        refine lv_aload_n hx hb (xb_d D_Reader_readSection 84 rfl) rfl (lv_at hl 0 rfl) ?_
        have hk68 : xb_k h71 x0 = 4 := by rw [eh71]; exact hk68
        refine xb_getP (C := R_Reader) (T := F_Reader) (N := 6) hx hb 3 0 hts fin_Reader hown hR hk68 (by decide) rfl (by decide) rfl (hts _ m_76d8349c) (fun _ h9 => h9) (xb_d D_Reader_readSection 85 rfl) ?_
        obtain ⟨b72, eb72, hw⟩ := hw
        refine xb_some eb72 ?_
        refine lv_aload_n hx hb (xb_d D_Reader_readSection 86 rfl) rfl (lv_at hl 0 rfl) ?_
        obtain ⟨c75, sc75, hlc75, hlsc75, hw⟩ := hw
        refine xb_call (D := D) (A := A) (σ := σ) (h := h71) (d := 3) (mc := c75) (ms := sc75) (maxL := 4) (rest := [.ref b72]) (av := [.ref x0]) (fun T hT X => by obtain ⟨cb, r1, r2, r3⟩ := xb_recv (ci := 3) hR rfl hk68 (by decide); exact xt_invV X hx hown (hts _ m_2c379b4d) (hts _ m_a120e786) (hts _ m_e903c73e) (xt_sigOf (hts _ m_99690a98)) nm_Reader_count (by rw [hT]; exact r1) r2 r3 (g := F0 m 234 ls [.ref x0, .ref b72]) rfl (argsL := []) (rest := [.ref b72]) rfl rfl (by rw [hb]; exact (xb_d D_Reader_readSection 87 rfl))) (ok_Reader_count l hfl D A σ x0 h71 c75 sc75 _ _ hw) (hml.trans hl.1.symm) (by rw [hb]; exact (xb_d D_Reader_readSection 87 rfl)) (Nat.le_of_ble_eq_true rfl) (Nat.le_of_ble_eq_true rfl) (Nat.le_of_ble_eq_true rfl) (show k + c75 ≤ MC by omega) (show n + sc75 ≤ MS by omega) (xt_w1 hB.1 m_99690a98) (xt_cdOf hB.1 m_99690a98) (hts _ m_938fcec4) hB hR hS hA (fun vv h73 H locs hq hEh73 hR hS => ?_) (fun XX ax h73 H locs hq hEh73 hex hR hS => ?_)
        · obtain ⟨r74, rfl, hw⟩ := hq
          have hw := hw hEh73
          have hE := hE.tr hEh73
          refine W.eq (g2 := F0 m 237 ls [.int r74, .ref b72]) rfl ?_
          obtain ⟨hk76, hw⟩ := hw
          refine xb_putI (C := R_StackModule) (T := F_StackModule) (N := 19) (ty := .int) (x := r74) hx hb 2 15 hts fin_StackModule t_StackModule t_StackModule_ok n_StackModule hown hR hS hk76 (by decide) rfl (by decide) rfl (hts _ m_2b313539) (fun _ h9 => h9) rfl (by decide +kernel) rfl rfl (xb_d D_Reader_readSection 88 rfl) (fun H locs hR hS => ?_)
          obtain ⟨h77, eh77⟩ : ∃ x : xb_H, x = xb_I h73 b72 15 r74 := ⟨_, rfl⟩
          rw [← eh77] at hR
          have hw := hw h77 eh77
          have hE : xb_ext h0 h77 := by rw [eh77]; exact hE
          refine lv_goto (tgt := 261) hx hb (xb_d D_Reader_readSection 89 rfl) rfl ?_
          exact am_Reader_readSection_L261 l hfl D A σ MC MS h0 Qr Qt (w_Reader_readSection_L45 Qr Qt n9) ih x0 x1 x3 x5 h77 (bc - c75) (bs - sc75) hw p e s m args below meth c hC H locs ls (k + c75) (n + sc75) hE (lv_sub hl [0, 1, 2, 3] rfl) hR hS (by omega) (by omega)
        · exact xb_pass hlocks (fun x hx9 => by rw [htab] at hx9; first | cases hx9 | (simp [tableOf] at hx9; rcases hx9 with rfl | rfl | rfl <;> decide)) (show (k + c75) ≤ MC by omega) (show (n + sc75) ≤ MS by omega) (hE.tr hEh73) hR hS hex hq
      have hw := hw.2
      by_cases hc78 : x1 = 9
      · have hw := hw.1 hc78
        refine xt_numi hc78 ?_
        refine lv_tableIn (off := 190) (tgt := 243) hx hb (xb_d D_Reader_readSection 30 rfl) (by decide +kernel) (by decide +kernel) (by decide +kernel) (by decide) ?_
        refine lv_aload_n hx hb (xb_d D_Reader_readSection 90 rfl) rfl (lv_at hl 0 rfl) ?_
        obtain ⟨hk79, hw⟩ := hw
        obtain ⟨c82, sc82, hlc82, hlsc82, hw⟩ := hw
        refine xb_call (D := D) (A := A) (σ := σ) (h := h) (d := 6) (mc := c82) (ms := sc82) (maxL := 5) (rest := []) (av := [.ref x0]) (fun T hT X => by obtain ⟨cb, r1, r2, r3⟩ := xb_recv (ci := 3) hR rfl hk79 (by decide); exact xt_invV X hx hown (hts _ m_c7f038b2) (hts _ m_8e273619) (hts _ m_5ee59b24) (xt_sigOf (hts _ m_4b4bb8ff)) nm_Reader_readElements (by rw [hT]; exact r1) r2 r3 (g := F0 m 244 ls [.ref x0]) rfl (argsL := []) (rest := []) rfl rfl (by rw [hb]; exact (xb_d D_Reader_readSection 91 rfl))) (ok_Reader_readElements l hfl D A σ x0 h c82 sc82 _ _ hw) (hml.trans hl.1.symm) (by rw [hb]; exact (xb_d D_Reader_readSection 91 rfl)) (Nat.le_of_ble_eq_true rfl) (Nat.le_of_ble_eq_true rfl) (Nat.le_of_ble_eq_true rfl) (show k + c82 ≤ MC by omega) (show n + sc82 ≤ MS by omega) (xt_w1 hB.1 m_4b4bb8ff) (xt_cdOf hB.1 m_4b4bb8ff) (hts _ m_938fcec4) hB hR hS hA (fun vv h80 H locs hq hEh80 hR hS => ?_) (fun XX ax h80 H locs hq hEh80 hex hR hS => ?_)
        · obtain ⟨rfl, hw⟩ := hq
          have hw := hw hEh80
          have hE := hE.tr hEh80
          refine W.eq (g2 := F0 m 247 ls []) rfl ?_
          refine lv_goto (tgt := 261) hx hb (xb_d D_Reader_readSection 92 rfl) rfl ?_
          exact am_Reader_readSection_L261 l hfl D A σ MC MS h0 Qr Qt (w_Reader_readSection_L45 Qr Qt n9) ih x0 x1 x3 x5 h80 (bc - c82) (bs - sc82) hw p e s m args below meth c hC H locs ls (k + c82) (n + sc82) hE (lv_sub hl [0, 1, 2, 3] rfl) hR hS (by omega) (by omega)
        · exact xb_pass hlocks (fun x hx9 => by rw [htab] at hx9; first | cases hx9 | (simp [tableOf] at hx9; rcases hx9 with rfl | rfl | rfl <;> decide)) (show (k + c82) ≤ MC by omega) (show (n + sc82) ≤ MS by omega) (hE.tr hEh80) hR hS hex hq
      have hw := hw.2
      by_cases hc83 : x1 = 10
      · have hw := hw.1 hc83
        refine xt_numi hc83 ?_
        refine lv_tableIn (off := 197) (tgt := 250) hx hb (xb_d D_Reader_readSection 30 rfl) (by decide +kernel) (by decide +kernel) (by decide +kernel) (by decide) ?_
        refine lv_aload_n hx hb (xb_d D_Reader_readSection 93 rfl) rfl (lv_at hl 0 rfl) ?_
        obtain ⟨hk84, hw⟩ := hw
        obtain ⟨c87, sc87, hlc87, hlsc87, hw⟩ := hw
        refine xb_call (D := D) (A := A) (σ := σ) (h := h) (d := 6) (mc := c87) (ms := sc87) (maxL := 4) (rest := []) (av := [.ref x0]) (fun T hT X => by obtain ⟨cb, r1, r2, r3⟩ := xb_recv (ci := 3) hR rfl hk84 (by decide); exact xt_invV X hx hown (hts _ m_b04cf318) (hts _ m_4d70a435) (hts _ m_4252734b) (xt_sigOf (hts _ m_8ebb0a33)) nm_Reader_readBody (by rw [hT]; exact r1) r2 r3 (g := F0 m 251 ls [.ref x0]) rfl (argsL := []) (rest := []) rfl rfl (by rw [hb]; exact (xb_d D_Reader_readSection 94 rfl))) (ok_Reader_readBody l hfl D A σ x0 h c87 sc87 _ _ hw) (hml.trans hl.1.symm) (by rw [hb]; exact (xb_d D_Reader_readSection 94 rfl)) (Nat.le_of_ble_eq_true rfl) (Nat.le_of_ble_eq_true rfl) (Nat.le_of_ble_eq_true rfl) (show k + c87 ≤ MC by omega) (show n + sc87 ≤ MS by omega) (xt_w1 hB.1 m_8ebb0a33) (xt_cdOf hB.1 m_8ebb0a33) (hts _ m_938fcec4) hB hR hS hA (fun vv h85 H locs hq hEh85 hR hS => ?_) (fun XX ax h85 H locs hq hEh85 hex hR hS => ?_)
        · obtain ⟨rfl, hw⟩ := hq
          have hw := hw hEh85
          have hE := hE.tr hEh85
          refine W.eq (g2 := F0 m 254 ls []) rfl ?_
          refine lv_goto (tgt := 261) hx hb (xb_d D_Reader_readSection 95 rfl) rfl ?_
          exact am_Reader_readSection_L261 l hfl D A σ MC MS h0 Qr Qt (w_Reader_readSection_L45 Qr Qt n9) ih x0 x1 x3 x5 h85 (bc - c87) (bs - sc87) hw p e s m args below meth c hC H locs ls (k + c87) (n + sc87) hE (lv_sub hl [0, 1, 2, 3] rfl) hR hS (by omega) (by omega)
        · exact xb_pass hlocks (fun x hx9 => by rw [htab] at hx9; first | cases hx9 | (simp [tableOf] at hx9; rcases hx9 with rfl | rfl | rfl <;> decide)) (show (k + c87) ≤ MC by omega) (show (n + sc87) ≤ MS by omega) (hE.tr hEh85) hR hS hex hq
      have hw := hw.2
      have hw := hw hc9 hc15 hc20 hc25 hc44 hc49 hc57 hc62 hc67 hc78 hc83
      refine lv_tableOut (tgt := 257) hx hb (xb_d D_Reader_readSection 30 rfl) (by have a0 := xb_nl (0) 0 (by decide) hc9; have a1 := xb_nl (1) 1 (by decide) hc15; have a2 := xb_nl (2) 2 (by decide) hc20; have a3 := xb_nl (3) 3 (by decide) hc25; have a4 := xb_nl (4) 4 (by decide) hc44; have a5 := xb_nl (5) 5 (by decide) hc49; have a6 := xb_nl (6) 6 (by decide) hc57; have a7 := xb_nl (7) 7 (by decide) hc62; have a8 := xb_nl (8) 8 (by decide) hc67; have a9 := xb_nl (9) 9 (by decide) hc78; have a10 := xb_nl (10) 10 (by decide) hc83; omega) (by decide) ?_
      refine lv_aload_n hx hb (xb_d D_Reader_readSection 96 rfl) rfl (lv_at hl 0 rfl) ?_
      obtain ⟨hk88, hw⟩ := hw
      obtain ⟨c91, sc91, hlc91, hlsc91, hw⟩ := hw
      refine xb_call (D := D) (A := A) (σ := σ) (h := h) (d := 6) (mc := c91) (ms := sc91) (maxL := 2) (rest := []) (av := [.ref x0]) (fun T hT X => by obtain ⟨cb, r1, r2, r3⟩ := xb_recv (ci := 3) hR rfl hk88 (by decide); exact xt_invV X hx hown (hts _ m_0d56e808) (hts _ m_dcc11ae1) (hts _ m_e58471ef) (xt_sigOf (hts _ m_43cf7a9b)) nm_Reader_readData (by rw [hT]; exact r1) r2 r3 (g := F0 m 258 ls [.ref x0]) rfl (argsL := []) (rest := []) rfl rfl (by rw [hb]; exact (xb_d D_Reader_readSection 97 rfl))) (ok_Reader_readData l hfl D A σ x0 h c91 sc91 _ _ hw) (hml.trans hl.1.symm) (by rw [hb]; exact (xb_d D_Reader_readSection 97 rfl)) (Nat.le_of_ble_eq_true rfl) (Nat.le_of_ble_eq_true rfl) (Nat.le_of_ble_eq_true rfl) (show k + c91 ≤ MC by omega) (show n + sc91 ≤ MS by omega) (xt_w1 hB.1 m_43cf7a9b) (xt_cdOf hB.1 m_43cf7a9b) (hts _ m_938fcec4) hB hR hS hA (fun vv h89 H locs hq hEh89 hR hS => ?_) (fun XX ax h89 H locs hq hEh89 hex hR hS => ?_)
      · obtain ⟨rfl, hw⟩ := hq
        have hw := hw hEh89
        have hE := hE.tr hEh89
        refine W.eq (g2 := F0 m 261 ls []) rfl ?_
        exact am_Reader_readSection_L261 l hfl D A σ MC MS h0 Qr Qt (w_Reader_readSection_L45 Qr Qt n9) ih x0 x1 x3 x5 h89 (bc - c91) (bs - sc91) hw p e s m args below meth c hC H locs ls (k + c91) (n + sc91) hE (lv_sub hl [0, 1, 2, 3] rfl) hR hS (by omega) (by omega)
      · exact xb_pass hlocks (fun x hx9 => by rw [htab] at hx9; first | cases hx9 | (simp [tableOf] at hx9; rcases hx9 with rfl | rfl | rfl <;> decide)) (show (k + c91) ≤ MC by omega) (show (n + sc91) ≤ MS by omega) (hE.tr hEh89) hR hS hex hq

set_option maxHeartbeats 4000000 in
set_option maxRecDepth 100000 in
theorem am_Reader_readSection_L41 (l : Launch) (hfl : l.flags = pinnedFlags ++ [noTraceFlag]) (D : va_G) (A : Nat → Prop) (σ MC MS : Nat) (h0 : xb_H) (Qr : xb_H → Prop) (Qt : String → xb_H → Prop) (x0 : Nat) (x1 : Int32) (y0 : Int64) (h : xb_H) (bc : Nat) (bs : Nat) (hw : w_Reader_readSection_L41 Qr Qt x0 x1 y0 h bc bs) : xb_am l D A σ 7 MC MS h0 (fun v h => v = none ∧ Qr h) Qt y_Reader_readSection.cls y_Reader_readSection.name b_Reader_readSection 7 ([] : List ExceptionTableEntry) none 41 [(0, .ref x0), (1, .int x1)] [.long y0] h bc bs := by
  unfold w_Reader_readSection_L41 at hw
  intro p e s m args below meth c hC H locs ls k n hE hl hR hS hk hn
  obtain ⟨hx, hb, hown, hlocks, htab, hml, hr, hB, hA, hnm⟩ := id hC
  have hts := hB.1.1.at args
  refine lv_lstore_n hx hb (xb_d D_Reader_readSection 22 rfl) rfl hl (by decide) rfl (fun ls hl => ?_)
  have hl : lv_has ls 7 [(3, .long y0), (0, .ref x0), (1, .int x1)] := hl
  refine lv_lconst (v := 0) hx hb (xb_d D_Reader_readSection 23 rfl) (by decide) ?_
  refine lv_lstore hx hb (xb_d D_Reader_readSection 24 rfl) hl (by decide) rfl (fun ls hl => ?_)
  have hl : lv_has ls 7 [(5, .long 0), (3, .long y0), (0, .ref x0), (1, .int x1)] := hl
  obtain ⟨n8, hw⟩ := hw
  exact am_Reader_readSection_L45 l hfl D A σ MC MS h0 Qr Qt n8 x0 x1 y0 0 h bc bs hw p e s m args below meth c hC H locs ls k n hE (lv_sub hl [2, 3, 1, 0] rfl) hR hS (by omega) (by omega)

set_option maxHeartbeats 4000000 in
set_option maxRecDepth 100000 in
theorem am_Reader_readSection_L23 (l : Launch) (hfl : l.flags = pinnedFlags ++ [noTraceFlag]) (D : va_G) (A : Nat → Prop) (σ MC MS : Nat) (h0 : xb_H) (Qr : xb_H → Prop) (Qt : String → xb_H → Prop) (x0 : Nat) (x1 : Int32) (y0 : Int32) (h : xb_H) (bc : Nat) (bs : Nat) (hw : w_Reader_readSection_L23 Qr Qt x0 x1 y0 h bc bs) : xb_am l D A σ 7 MC MS h0 (fun v h => v = none ∧ Qr h) Qt y_Reader_readSection.cls y_Reader_readSection.name b_Reader_readSection 7 ([] : List ExceptionTableEntry) none 23 [(0, .ref x0), (1, .int x1)] [.int y0] h bc bs := by
  unfold w_Reader_readSection_L23 at hw
  intro p e s m args below meth c hC H locs ls k n hE hl hR hS hk hn
  obtain ⟨hx, hb, hown, hlocks, htab, hml, hr, hB, hA, hnm⟩ := id hC
  have hts := hB.1.1.at args
  refine lv_istore_n hx hb (xb_d D_Reader_readSection 12 rfl) rfl hl (by decide) rfl (fun ls hl => ?_)
  have hl : lv_has ls 7 [(2, .int y0), (0, .ref x0), (1, .int x1)] := hl
  refine lv_iload_n hx hb (xb_d D_Reader_readSection 13 rfl) rfl (lv_at hl 0 rfl) ?_
  refine lv_if_eq (tgt := 40) hx hb (xb_d D_Reader_readSection 14 rfl) rfl (fun hc1 => ?_) (fun hc1 => ?_)
  · have hw := hw.1 hc1
    refine lv_lconst (v := 1) hx hb (xb_d D_Reader_readSection 21 rfl) (by decide) ?_
    exact am_Reader_readSection_L41 l hfl D A σ MC MS h0 Qr Qt x0 x1 1 h bc bs hw p e s m args below meth c hC H locs ls k n hE (lv_sub hl [1, 2] rfl) hR hS (by omega) (by omega)
  · have hw := hw.2 hc1
    refine lv_aload_n hx hb (xb_d D_Reader_readSection 15 rfl) rfl (lv_at hl 1 rfl) ?_
    obtain ⟨hk2, hw⟩ := hw
    obtain ⟨c5, sc5, hlc5, hlsc5, hw⟩ := hw
    refine xb_call (D := D) (A := A) (σ := σ) (h := h) (d := 3) (mc := c5) (ms := sc5) (maxL := 4) (rest := []) (av := [.ref x0]) (fun T hT X => by obtain ⟨cb, r1, r2, r3⟩ := xb_recv (ci := 3) hR rfl hk2 (by decide); exact xt_invV X hx hown (hts _ m_2c379b4d) (hts _ m_a120e786) (hts _ m_e903c73e) (xt_sigOf (hts _ m_99690a98)) nm_Reader_count (by rw [hT]; exact r1) r2 r3 (g := F0 m 29 ls [.ref x0]) rfl (argsL := []) (rest := []) rfl rfl (by rw [hb]; exact (xb_d D_Reader_readSection 16 rfl))) (ok_Reader_count l hfl D A σ x0 h c5 sc5 _ _ hw) (hml.trans hl.1.symm) (by rw [hb]; exact (xb_d D_Reader_readSection 16 rfl)) (Nat.le_of_ble_eq_true rfl) (Nat.le_of_ble_eq_true rfl) (Nat.le_of_ble_eq_true rfl) (show k + c5 ≤ MC by omega) (show n + sc5 ≤ MS by omega) (xt_w1 hB.1 m_99690a98) (xt_cdOf hB.1 m_99690a98) (hts _ m_938fcec4) hB hR hS hA (fun vv h3 H locs hq hEh3 hR hS => ?_) (fun XX ax h3 H locs hq hEh3 hex hR hS => ?_)
    · obtain ⟨r4, rfl, hw⟩ := hq
      have hw := hw hEh3
      have hE := hE.tr hEh3
      refine W.eq (g2 := F0 m 32 ls [.int r4]) rfl ?_
      refine lv_i2l hx hb (xb_d D_Reader_readSection 17 rfl) rfl ?_
      refine lv_ldc2 (v := 4294967295) hx hb hown (hts _ m_687f726b) (xb_d D_Reader_readSection 18 rfl) ?_
      refine lv_land hx hb (xb_d D_Reader_readSection 19 rfl) ?_
      refine lv_goto (tgt := 41) hx hb (xb_d D_Reader_readSection 20 rfl) rfl ?_
      exact am_Reader_readSection_L41 l hfl D A σ MC MS h0 Qr Qt x0 x1 ((Int32.toInt64 r4) &&& 4294967295) h3 (bc - c5) (bs - sc5) hw p e s m args below meth c hC H locs ls (k + c5) (n + sc5) hE (lv_sub hl [1, 2] rfl) hR hS (by omega) (by omega)
    · exact xb_pass hlocks (fun x hx9 => by rw [htab] at hx9; first | cases hx9 | (simp [tableOf] at hx9; rcases hx9 with rfl | rfl | rfl <;> decide)) (show (k + c5) ≤ MC by omega) (show (n + sc5) ≤ MS by omega) (hE.tr hEh3) hR hS hex hq

set_option maxHeartbeats 4000000 in
set_option maxRecDepth 100000 in
theorem am_Reader_readSection_L22 (l : Launch) (hfl : l.flags = pinnedFlags ++ [noTraceFlag]) (D : va_G) (A : Nat → Prop) (σ MC MS : Nat) (h0 : xb_H) (Qr : xb_H → Prop) (Qt : String → xb_H → Prop) (x0 : Nat) (x1 : Int32) (h : xb_H) (bc : Nat) (bs : Nat) (hw : w_Reader_readSection_L22 Qr Qt x0 x1 h bc bs) : xb_am l D A σ 7 MC MS h0 (fun v h => v = none ∧ Qr h) Qt y_Reader_readSection.cls y_Reader_readSection.name b_Reader_readSection 7 ([] : List ExceptionTableEntry) none 22 [(0, .ref x0), (1, .int x1)] [] h bc bs := by
  unfold w_Reader_readSection_L22 at hw
  intro p e s m args below meth c hC H locs ls k n hE hl hR hS hk hn
  obtain ⟨hx, hb, hown, hlocks, htab, hml, hr, hB, hA, hnm⟩ := id hC
  have hts := hB.1.1.at args
  refine lv_iconst (v := 0) hx hb (xb_d D_Reader_readSection 11 rfl) (by decide) ?_
  exact am_Reader_readSection_L23 l hfl D A σ MC MS h0 Qr Qt x0 x1 0 h bc bs hw p e s m args below meth c hC H locs ls k n hE (lv_sub hl [0, 1] rfl) hR hS (by omega) (by omega)

set_option maxHeartbeats 4000000 in
set_option maxRecDepth 100000 in
theorem ok_Reader_readSection (l : Launch) (hfl : l.flags = pinnedFlags ++ [noTraceFlag]) (D : va_G) (A : Nat → Prop) (σ : Nat) (x0 : Nat) (x1 : Int32) (h : xb_H) (bc : Nat) (bs : Nat) (Qr : xb_H → Prop) (Qt : String → xb_H → Prop) (hw : w_Reader_readSection x0 x1 h bc bs Qr Qt) : xt_Met l y_Reader_readSection [.code y_Reader_readSection b_Reader_readSection 7 none] (xb_rm 7 bc bs) (xb_Pc D A σ h [.ref x0, .int x1]) (xb_Qc D A h (fun v h => v = none ∧ Qr h) Qt) bc bs A := by
  refine xb_ofAm (cc := b_Reader_readSection) (by decide) (Nat.le_of_ble_eq_true rfl) ?_
  unfold w_Reader_readSection at hw
  show xb_am l D A σ 7 bc bs h (fun v h => v = none ∧ Qr h) Qt y_Reader_readSection.cls y_Reader_readSection.name b_Reader_readSection 7 ([] : List ExceptionTableEntry) none 0 [(0, .ref x0), (1, .int x1)] [] h bc bs
  obtain ⟨MC, hMC⟩ : ∃ x, x = bc := ⟨_, rfl⟩
  obtain ⟨MS, hMS⟩ : ∃ x, x = bs := ⟨_, rfl⟩
  rw [show xb_am l D A σ 7 bc bs = xb_am l D A σ 7 MC MS by rw [hMC, hMS]]
  obtain ⟨h0, hh0⟩ : ∃ x, x = h := ⟨_, rfl⟩
  rw [show xb_am l D A σ 7 MC MS h = xb_am l D A σ 7 MC MS h0 by rw [hh0]]
  intro p e s m args below meth c hC H locs ls k n hE hl hR hS hk hn
  obtain ⟨hx, hb, hown, hlocks, htab, hml, hr, hB, hA, hnm⟩ := id hC
  have hts := hB.1.1.at args
  refine lv_aload_n hx hb (xb_d D_Reader_readSection 0 rfl) rfl (lv_at hl 0 rfl) ?_
  refine lv_aload_n hx hb (xb_d D_Reader_readSection 1 rfl) rfl (lv_at hl 0 rfl) ?_
  obtain ⟨hk1, hw⟩ := hw
  obtain ⟨c4, sc4, hlc4, hlsc4, hw⟩ := hw
  refine xb_call (D := D) (A := A) (σ := σ) (h := h) (d := 3) (mc := c4) (ms := sc4) (maxL := 4) (rest := [.ref x0]) (av := [.ref x0]) (fun T hT X => by obtain ⟨cb, r1, r2, r3⟩ := xb_recv (ci := 3) hR rfl hk1 (by decide); exact xt_invV X hx hown (hts _ m_2c379b4d) (hts _ m_a120e786) (hts _ m_e903c73e) (xt_sigOf (hts _ m_99690a98)) nm_Reader_count (by rw [hT]; exact r1) r2 r3 (g := F0 m 2 ls [.ref x0, .ref x0]) rfl (argsL := []) (rest := [.ref x0]) rfl rfl (by rw [hb]; exact (xb_d D_Reader_readSection 2 rfl))) (ok_Reader_count l hfl D A σ x0 h c4 sc4 _ _ hw) (hml.trans hl.1.symm) (by rw [hb]; exact (xb_d D_Reader_readSection 2 rfl)) (Nat.le_of_ble_eq_true rfl) (Nat.le_of_ble_eq_true rfl) (Nat.le_of_ble_eq_true rfl) (show k + c4 ≤ MC by omega) (show n + sc4 ≤ MS by omega) (xt_w1 hB.1 m_99690a98) (xt_cdOf hB.1 m_99690a98) (hts _ m_938fcec4) hB hR hS hA (fun vv h2 H locs hq hEh2 hR hS => ?_) (fun XX ax h2 H locs hq hEh2 hex hR hS => ?_)
  · obtain ⟨r3, rfl, hw⟩ := hq
    have hw := hw hEh2
    have hE := hE.tr hEh2
    refine W.eq (g2 := F0 m 5 ls [.int r3, .ref x0]) rfl ?_
    have hk1 : xb_k h2 x0 = 4 := hEh2.k hk1
    obtain ⟨c7, sc7, hlc7, hlsc7, hw⟩ := hw
    refine xb_call (D := D) (A := A) (σ := σ) (h := h2) (d := 3) (mc := c7) (ms := sc7) (maxL := 2) (rest := []) (av := [.ref x0, .int r3]) (fun T hT X => by obtain ⟨cb, r1, r2, r3⟩ := xb_recv (ci := 3) hR rfl hk1 (by decide); exact xt_invV X hx hown (hts _ m_325c67ec) (hts _ m_aae9c79d) (hts _ m_77da441a) (xt_sigOf (hts _ m_436ffbb5)) nm_Reader_limitTo (by rw [hT]; exact r1) r2 r3 (g := F0 m 5 ls [.int r3, .ref x0]) rfl (argsL := [.int r3]) (rest := []) rfl rfl (by rw [hb]; exact (xb_d D_Reader_readSection 3 rfl))) (ok_Reader_limitTo l hfl D A σ x0 r3 h2 c7 sc7 _ _ hw) (hml.trans hl.1.symm) (by rw [hb]; exact (xb_d D_Reader_readSection 3 rfl)) (Nat.le_of_ble_eq_true rfl) (Nat.le_of_ble_eq_true rfl) (Nat.le_of_ble_eq_true rfl) (show (k + c4) + c7 ≤ MC by omega) (show (n + sc4) + sc7 ≤ MS by omega) (xt_w1 hB.1 m_436ffbb5) (xt_cdOf hB.1 m_436ffbb5) (hts _ m_938fcec4) hB hR hS hA (fun vv h5 H locs hq hEh5 hR hS => ?_) (fun XX ax h5 H locs hq hEh5 hex hR hS => ?_)
    · obtain ⟨rfl, hw⟩ := hq
      have hw := hw hEh5
      have hE := hE.tr hEh5
      refine W.eq (g2 := F0 m 8 ls []) rfl ?_
      refine lv_iload_n hx hb (xb_d D_Reader_readSection 4 rfl) rfl (lv_at hl 1 rfl) ?_
      refine lv_if_eq (tgt := 22) hx hb (xb_d D_Reader_readSection 5 rfl) rfl (fun hc8 => ?_) (fun hc8 => ?_)
      · have hw := hw.1 hc8
        exact am_Reader_readSection_L22 l hfl D A σ MC MS h0 Qr Qt x0 x1 h5 ((bc - c4) - c7) ((bs - sc4) - sc7) hw p e s m args below meth c hC H locs ls ((k + c4) + c7) ((n + sc4) + sc7) hE (lv_sub hl [0, 1] rfl) hR hS (by omega) (by omega)
      · have hw := hw.2 hc8
        refine lv_iload_n hx hb (xb_d D_Reader_readSection 6 rfl) rfl (lv_at hl 1 rfl) ?_
        refine lv_bipush (v := 8) hx hb (xb_d D_Reader_readSection 7 rfl) (by decide) ?_
        refine lv_icmp_eq (tgt := 22) hx hb (xb_d D_Reader_readSection 8 rfl) rfl (fun hc9 => ?_) (fun hc9 => ?_)
        · have hw := hw.1 hc9
          exact am_Reader_readSection_L22 l hfl D A σ MC MS h0 Qr Qt x0 x1 h5 ((bc - c4) - c7) ((bs - sc4) - sc7) hw p e s m args below meth c hC H locs ls ((k + c4) + c7) ((n + sc4) + sc7) hE (lv_sub hl [0, 1] rfl) hR hS (by omega) (by omega)
        · have hw := hw.2 hc9
          refine lv_iconst (v := 1) hx hb (xb_d D_Reader_readSection 9 rfl) (by decide) ?_
          refine lv_goto (tgt := 23) hx hb (xb_d D_Reader_readSection 10 rfl) rfl ?_
          exact am_Reader_readSection_L23 l hfl D A σ MC MS h0 Qr Qt x0 x1 1 h5 ((bc - c4) - c7) ((bs - sc4) - sc7) hw p e s m args below meth c hC H locs ls ((k + c4) + c7) ((n + sc4) + sc7) hE (lv_sub hl [0, 1] rfl) hR hS (by omega) (by omega)
    · exact xb_pass hlocks (fun x hx9 => by rw [htab] at hx9; first | cases hx9 | (simp [tableOf] at hx9; rcases hx9 with rfl | rfl | rfl <;> decide)) (show ((k + c4) + c7) ≤ MC by omega) (show ((n + sc4) + sc7) ≤ MS by omega) (hE.tr hEh5) hR hS hex hq
  · exact xb_pass hlocks (fun x hx9 => by rw [htab] at hx9; first | cases hx9 | (simp [tableOf] at hx9; rcases hx9 with rfl | rfl | rfl <;> decide)) (show (k + c4) ≤ MC by omega) (show (n + sc4) ≤ MS by omega) (hE.tr hEh2) hR hS hex hq

