theorem m_f8a016f5 : (.methodLink "StackHost$StackModule" 3 objectInit : Cond) ∈ xt_tbl := xt_in (xt_t3 (List.mem_of_getElem? (i := 43) (by decide +kernel))) (by decide +kernel)
theorem m_cf9255b9 : (.classLink "StackHost$StackModule" 9 "StackHost$Row" : Cond) ∈ xt_tbl := xt_in (xt_t3 (List.mem_of_getElem? (i := 44) (by decide +kernel))) (by decide +kernel)
theorem m_decbd935 : (.instantiable "StackHost$Row" 3 : Cond) ∈ xt_tbl := xt_in (xt_t1 (List.mem_of_getElem? (i := 139) (by decide +kernel))) (by decide +kernel)
theorem m_9c57bdbc : (.methodLink "StackHost$StackModule" 11 y_Row_init : Cond) ∈ xt_tbl := xt_in (xt_t3 (List.mem_of_getElem? (i := 45) (by decide +kernel))) (by decide +kernel)
theorem m_16ca0e9f : (.instanceMethod y_Row_init : Cond) ∈ xt_tbl := xt_in (xt_t1 (List.mem_of_getElem? (i := 141) (by decide +kernel))) (by decide +kernel)
theorem m_3d9e18a6 : (.code y_Row_init b_Row_init 2 none : Cond) ∈ xt_tbl := xt_in (xt_t1 (List.mem_of_getElem? (i := 142) (by decide +kernel))) (by decide +kernel)
theorem m_b7ec8f62 : (.fieldLink "StackHost$StackModule" 14 "StackHost$StackModule" "types" "LStackHost$Row;" : Cond) ∈ xt_tbl := xt_in (xt_t3 (List.mem_of_getElem? (i := 56) (by decide +kernel))) (by decide +kernel)
theorem m_ef4e5361 : (.fieldLink "StackHost$StackModule" 20 "StackHost$StackModule" "imports" "LStackHost$Row;" : Cond) ∈ xt_tbl := xt_in (xt_t3 (List.mem_of_getElem? (i := 60) (by decide +kernel))) (by decide +kernel)
theorem m_4d92b9c1 : (.fieldLink "StackHost$StackModule" 23 "StackHost$StackModule" "functions" "LStackHost$Row;" : Cond) ∈ xt_tbl := xt_in (xt_t3 (List.mem_of_getElem? (i := 65) (by decide +kernel))) (by decide +kernel)
theorem m_f396a79e : (.fieldLink "StackHost$StackModule" 26 "StackHost$StackModule" "tables" "LStackHost$Row;" : Cond) ∈ xt_tbl := xt_in (xt_t3 (List.mem_of_getElem? (i := 70) (by decide +kernel))) (by decide +kernel)
theorem m_fa681d91 : (.fieldLink "StackHost$StackModule" 29 "StackHost$StackModule" "memories" "LStackHost$Row;" : Cond) ∈ xt_tbl := xt_in (xt_t3 (List.mem_of_getElem? (i := 75) (by decide +kernel))) (by decide +kernel)
theorem m_f07ea674 : (.fieldLink "StackHost$StackModule" 32 "StackHost$StackModule" "variables" "LStackHost$Row;" : Cond) ∈ xt_tbl := xt_in (xt_t3 (List.mem_of_getElem? (i := 80) (by decide +kernel))) (by decide +kernel)
theorem m_d9eb608a : (.fieldLink "StackHost$StackModule" 35 "StackHost$StackModule" "exports" "LStackHost$Row;" : Cond) ∈ xt_tbl := xt_in (xt_t3 (List.mem_of_getElem? (i := 85) (by decide +kernel))) (by decide +kernel)
theorem m_da628c90 : (.fieldLink "StackHost$StackModule" 38 "StackHost$StackModule" "elements" "LStackHost$Row;" : Cond) ∈ xt_tbl := xt_in (xt_t3 (List.mem_of_getElem? (i := 90) (by decide +kernel))) (by decide +kernel)
theorem m_cca3a0b5 : (.fieldLink "StackHost$StackModule" 41 "StackHost$StackModule" "listed" "LStackHost$Row;" : Cond) ∈ xt_tbl := xt_in (xt_t3 (List.mem_of_getElem? (i := 95) (by decide +kernel))) (by decide +kernel)
theorem m_a932e3c3 : (.fieldLink "StackHost$StackModule" 44 "StackHost$StackModule" "bodies" "LStackHost$Row;" : Cond) ∈ xt_tbl := xt_in (xt_t3 (List.mem_of_getElem? (i := 99) (by decide +kernel))) (by decide +kernel)
theorem m_e5061392 : (.fieldLink "StackHost$StackModule" 47 "StackHost$StackModule" "groups" "LStackHost$Row;" : Cond) ∈ xt_tbl := xt_in (xt_t3 (List.mem_of_getElem? (i := 104) (by decide +kernel))) (by decide +kernel)
theorem m_d482c833 : (.fieldLink "StackHost$StackModule" 50 "StackHost$StackModule" "data" "LStackHost$Row;" : Cond) ∈ xt_tbl := xt_in (xt_t3 (List.mem_of_getElem? (i := 107) (by decide +kernel))) (by decide +kernel)
theorem m_bb4d7013 : (.fieldLink "StackHost$StackModule" 53 "StackHost$StackModule" "imported" "[I" : Cond) ∈ xt_tbl := xt_in (xt_t3 (List.mem_of_getElem? (i := 112) (by decide +kernel))) (by decide +kernel)
theorem m_828ab96c : (.fieldLink "StackHost$StackModule" 57 "StackHost$StackModule" "start" "I" : Cond) ∈ xt_tbl := xt_in (xt_t3 (List.mem_of_getElem? (i := 117) (by decide +kernel))) (by decide +kernel)
theorem m_29ea2f5d : (.fieldLink "StackHost$StackModule" 61 "StackHost$StackModule" "startAt" "I" : Cond) ∈ xt_tbl := xt_in (xt_t3 (List.mem_of_getElem? (i := 121) (by decide +kernel))) (by decide +kernel)
theorem nm_Row_init : xt_nm y_Row_init 1 := ⟨by decide +kernel, by decide +kernel⟩
set_option maxRecDepth 100000 in
def T_StackModule_init : List (Nat × Instr × Nat) := [(0, .aload_n 0, 1), (1, .invokespecial 3, 3), (4, .aload_n 0, 1), (5, .new 9, 3), (8, .dup, 1), (9, .iconst 5, 1), (10, .invokespecial 11, 3), (13, .putfield 14, 3), (16, .aload_n 0, 1), (17, .new 9, 3), (20, .dup, 1), (21, .bipush 7, 2), (23, .invokespecial 11, 3), (26, .putfield 20, 3), (29, .aload_n 0, 1), (30, .new 9, 3), (33, .dup, 1), (34, .iconst 2, 1), (35, .invokespecial 11, 3), (38, .putfield 23, 3), (41, .aload_n 0, 1), (42, .new 9, 3), (45, .dup, 1), (46, .iconst 3, 1), (47, .invokespecial 11, 3), (50, .putfield 26, 3), (53, .aload_n 0, 1), (54, .new 9, 3), (57, .dup, 1), (58, .iconst 3, 1), (59, .invokespecial 11, 3), (62, .putfield 29, 3), (65, .aload_n 0, 1), (66, .new 9, 3), (69, .dup, 1), (70, .iconst 4, 1), (71, .invokespecial 11, 3), (74, .putfield 32, 3), (77, .aload_n 0, 1), (78, .new 9, 3), (81, .dup, 1), (82, .iconst 5, 1), (83, .invokespecial 11, 3), (86, .putfield 35, 3), (89, .aload_n 0, 1), (90, .new 9, 3), (93, .dup, 1), (94, .iconst 5, 1), (95, .invokespecial 11, 3), (98, .putfield 38, 3), (101, .aload_n 0, 1), (102, .new 9, 3), (105, .dup, 1), (106, .iconst 2, 1), (107, .invokespecial 11, 3), (110, .putfield 41, 3), (113, .aload_n 0, 1), (114, .new 9, 3), (117, .dup, 1), (118, .iconst 5, 1), (119, .invokespecial 11, 3), (122, .putfield 44, 3), (125, .aload_n 0, 1), (126, .new 9, 3), (129, .dup, 1), (130, .iconst 2, 1), (131, .invokespecial 11, 3), (134, .putfield 47, 3), (137, .aload_n 0, 1), (138, .new 9, 3), (141, .dup, 1), (142, .iconst 5, 1), (143, .invokespecial 11, 3), (146, .putfield 50, 3), (149, .aload_n 0, 1), (150, .iconst 4, 1), (151, .newarray .int, 2), (153, .putfield 53, 3), (156, .aload_n 0, 1), (157, .iconst (-1), 1), (158, .putfield 57, 3), (161, .aload_n 0, 1), (162, .iconst (-1), 1), (163, .putfield 61, 3), (166, .aload_n 0, 1), (167, .aload_n 1, 1), (168, .putfield 64, 3), (171, .aload_n 0, 1), (172, .aload_n 1, 1), (173, .arraylength, 1), (174, .newarray .int, 2), (176, .putfield 68, 3), (179, .return_, 1)]
theorem D_StackModule_init : ∀ q ∈ T_StackModule_init, decode b_StackModule_init q.1 = .ok (q.2.1, q.2.2) := by decide +kernel
def w_StackModule_init (x0 : Nat) (x1 : Nat) (h : xb_H) (bc : Nat) (bs : Nat) (Qr : xb_H → Prop) : Prop :=
    1 ≤ bc ∧ 3 ≤ bs ∧ ∀ q1 : Nat, xb_k h q1 = 0 → ∀ h2 : xb_H, h2 = xb_new h q1 2 0 → ∃ c6 sc6 : Nat, c6 ≤ (bc - 1) ∧ sc6 ≤ (bs - 3) ∧ w_Row_init q1 5 h2 c6 sc6 (fun (h4 : xb_H) => xb_ext h2 h4 → xb_k h4 x0 = 3 ∧ ∀ h8 : xb_H, h8 = xb_P h4 x0 2 (some q1) → 1 ≤ ((bc - 1) - c6) ∧ 3 ≤ ((bs - 3) - sc6) ∧ ∀ q9 : Nat, xb_k h8 q9 = 0 → ∀ h10 : xb_H, h10 = xb_new h8 q9 2 0 → ∃ c14 sc14 : Nat, c14 ≤ (((bc - 1) - c6) - 1) ∧ sc14 ≤ (((bs - 3) - sc6) - 3) ∧ w_Row_init q9 7 h10 c14 sc14 (fun (h12 : xb_H) => xb_ext h10 h12 → ∀ h15 : xb_H, h15 = xb_P h12 x0 3 (some q9) → 1 ≤ ((((bc - 1) - c6) - 1) - c14) ∧ 3 ≤ ((((bs - 3) - sc6) - 3) - sc14) ∧ ∀ q16 : Nat, xb_k h15 q16 = 0 → ∀ h17 : xb_H, h17 = xb_new h15 q16 2 0 → ∃ c21 sc21 : Nat, c21 ≤ (((((bc - 1) - c6) - 1) - c14) - 1) ∧ sc21 ≤ (((((bs - 3) - sc6) - 3) - sc14) - 3) ∧ w_Row_init q16 2 h17 c21 sc21 (fun (h19 : xb_H) => xb_ext h17 h19 → ∀ h22 : xb_H, h22 = xb_P h19 x0 4 (some q16) → 1 ≤ ((((((bc - 1) - c6) - 1) - c14) - 1) - c21) ∧ 3 ≤ ((((((bs - 3) - sc6) - 3) - sc14) - 3) - sc21) ∧ ∀ q23 : Nat, xb_k h22 q23 = 0 → ∀ h24 : xb_H, h24 = xb_new h22 q23 2 0 → ∃ c28 sc28 : Nat, c28 ≤ (((((((bc - 1) - c6) - 1) - c14) - 1) - c21) - 1) ∧ sc28 ≤ (((((((bs - 3) - sc6) - 3) - sc14) - 3) - sc21) - 3) ∧ w_Row_init q23 3 h24 c28 sc28 (fun (h26 : xb_H) => xb_ext h24 h26 → ∀ h29 : xb_H, h29 = xb_P h26 x0 5 (some q23) → 1 ≤ ((((((((bc - 1) - c6) - 1) - c14) - 1) - c21) - 1) - c28) ∧ 3 ≤ ((((((((bs - 3) - sc6) - 3) - sc14) - 3) - sc21) - 3) - sc28) ∧ ∀ q30 : Nat, xb_k h29 q30 = 0 → ∀ h31 : xb_H, h31 = xb_new h29 q30 2 0 → ∃ c35 sc35 : Nat, c35 ≤ (((((((((bc - 1) - c6) - 1) - c14) - 1) - c21) - 1) - c28) - 1) ∧ sc35 ≤ (((((((((bs - 3) - sc6) - 3) - sc14) - 3) - sc21) - 3) - sc28) - 3) ∧ w_Row_init q30 3 h31 c35 sc35 (fun (h33 : xb_H) => xb_ext h31 h33 → ∀ h36 : xb_H, h36 = xb_P h33 x0 6 (some q30) → 1 ≤ ((((((((((bc - 1) - c6) - 1) - c14) - 1) - c21) - 1) - c28) - 1) - c35) ∧ 3 ≤ ((((((((((bs - 3) - sc6) - 3) - sc14) - 3) - sc21) - 3) - sc28) - 3) - sc35) ∧ ∀ q37 : Nat, xb_k h36 q37 = 0 → ∀ h38 : xb_H, h38 = xb_new h36 q37 2 0 → ∃ c42 sc42 : Nat, c42 ≤ (((((((((((bc - 1) - c6) - 1) - c14) - 1) - c21) - 1) - c28) - 1) - c35) - 1) ∧ sc42 ≤ (((((((((((bs - 3) - sc6) - 3) - sc14) - 3) - sc21) - 3) - sc28) - 3) - sc35) - 3) ∧ w_Row_init q37 4 h38 c42 sc42 (fun (h40 : xb_H) => xb_ext h38 h40 → ∀ h43 : xb_H, h43 = xb_P h40 x0 7 (some q37) → 1 ≤ ((((((((((((bc - 1) - c6) - 1) - c14) - 1) - c21) - 1) - c28) - 1) - c35) - 1) - c42) ∧ 3 ≤ ((((((((((((bs - 3) - sc6) - 3) - sc14) - 3) - sc21) - 3) - sc28) - 3) - sc35) - 3) - sc42) ∧ ∀ q44 : Nat, xb_k h43 q44 = 0 → ∀ h45 : xb_H, h45 = xb_new h43 q44 2 0 → ∃ c49 sc49 : Nat, c49 ≤ (((((((((((((bc - 1) - c6) - 1) - c14) - 1) - c21) - 1) - c28) - 1) - c35) - 1) - c42) - 1) ∧ sc49 ≤ (((((((((((((bs - 3) - sc6) - 3) - sc14) - 3) - sc21) - 3) - sc28) - 3) - sc35) - 3) - sc42) - 3) ∧ w_Row_init q44 5 h45 c49 sc49 (fun (h47 : xb_H) => xb_ext h45 h47 → ∀ h50 : xb_H, h50 = xb_P h47 x0 8 (some q44) → 1 ≤ ((((((((((((((bc - 1) - c6) - 1) - c14) - 1) - c21) - 1) - c28) - 1) - c35) - 1) - c42) - 1) - c49) ∧ 3 ≤ ((((((((((((((bs - 3) - sc6) - 3) - sc14) - 3) - sc21) - 3) - sc28) - 3) - sc35) - 3) - sc42) - 3) - sc49) ∧ ∀ q51 : Nat, xb_k h50 q51 = 0 → ∀ h52 : xb_H, h52 = xb_new h50 q51 2 0 → ∃ c56 sc56 : Nat, c56 ≤ (((((((((((((((bc - 1) - c6) - 1) - c14) - 1) - c21) - 1) - c28) - 1) - c35) - 1) - c42) - 1) - c49) - 1) ∧ sc56 ≤ (((((((((((((((bs - 3) - sc6) - 3) - sc14) - 3) - sc21) - 3) - sc28) - 3) - sc35) - 3) - sc42) - 3) - sc49) - 3) ∧ w_Row_init q51 5 h52 c56 sc56 (fun (h54 : xb_H) => xb_ext h52 h54 → ∀ h57 : xb_H, h57 = xb_P h54 x0 9 (some q51) → 1 ≤ ((((((((((((((((bc - 1) - c6) - 1) - c14) - 1) - c21) - 1) - c28) - 1) - c35) - 1) - c42) - 1) - c49) - 1) - c56) ∧ 3 ≤ ((((((((((((((((bs - 3) - sc6) - 3) - sc14) - 3) - sc21) - 3) - sc28) - 3) - sc35) - 3) - sc42) - 3) - sc49) - 3) - sc56) ∧ ∀ q58 : Nat, xb_k h57 q58 = 0 → ∀ h59 : xb_H, h59 = xb_new h57 q58 2 0 → ∃ c63 sc63 : Nat, c63 ≤ (((((((((((((((((bc - 1) - c6) - 1) - c14) - 1) - c21) - 1) - c28) - 1) - c35) - 1) - c42) - 1) - c49) - 1) - c56) - 1) ∧ sc63 ≤ (((((((((((((((((bs - 3) - sc6) - 3) - sc14) - 3) - sc21) - 3) - sc28) - 3) - sc35) - 3) - sc42) - 3) - sc49) - 3) - sc56) - 3) ∧ w_Row_init q58 2 h59 c63 sc63 (fun (h61 : xb_H) => xb_ext h59 h61 → ∀ h64 : xb_H, h64 = xb_P h61 x0 10 (some q58) → 1 ≤ ((((((((((((((((((bc - 1) - c6) - 1) - c14) - 1) - c21) - 1) - c28) - 1) - c35) - 1) - c42) - 1) - c49) - 1) - c56) - 1) - c63) ∧ 3 ≤ ((((((((((((((((((bs - 3) - sc6) - 3) - sc14) - 3) - sc21) - 3) - sc28) - 3) - sc35) - 3) - sc42) - 3) - sc49) - 3) - sc56) - 3) - sc63) ∧ ∀ q65 : Nat, xb_k h64 q65 = 0 → ∀ h66 : xb_H, h66 = xb_new h64 q65 2 0 → ∃ c70 sc70 : Nat, c70 ≤ (((((((((((((((((((bc - 1) - c6) - 1) - c14) - 1) - c21) - 1) - c28) - 1) - c35) - 1) - c42) - 1) - c49) - 1) - c56) - 1) - c63) - 1) ∧ sc70 ≤ (((((((((((((((((((bs - 3) - sc6) - 3) - sc14) - 3) - sc21) - 3) - sc28) - 3) - sc35) - 3) - sc42) - 3) - sc49) - 3) - sc56) - 3) - sc63) - 3) ∧ w_Row_init q65 5 h66 c70 sc70 (fun (h68 : xb_H) => xb_ext h66 h68 → ∀ h71 : xb_H, h71 = xb_P h68 x0 11 (some q65) → 1 ≤ ((((((((((((((((((((bc - 1) - c6) - 1) - c14) - 1) - c21) - 1) - c28) - 1) - c35) - 1) - c42) - 1) - c49) - 1) - c56) - 1) - c63) - 1) - c70) ∧ 3 ≤ ((((((((((((((((((((bs - 3) - sc6) - 3) - sc14) - 3) - sc21) - 3) - sc28) - 3) - sc35) - 3) - sc42) - 3) - sc49) - 3) - sc56) - 3) - sc63) - 3) - sc70) ∧ ∀ q72 : Nat, xb_k h71 q72 = 0 → ∀ h73 : xb_H, h73 = xb_new h71 q72 2 0 → ∃ c77 sc77 : Nat, c77 ≤ (((((((((((((((((((((bc - 1) - c6) - 1) - c14) - 1) - c21) - 1) - c28) - 1) - c35) - 1) - c42) - 1) - c49) - 1) - c56) - 1) - c63) - 1) - c70) - 1) ∧ sc77 ≤ (((((((((((((((((((((bs - 3) - sc6) - 3) - sc14) - 3) - sc21) - 3) - sc28) - 3) - sc35) - 3) - sc42) - 3) - sc49) - 3) - sc56) - 3) - sc63) - 3) - sc70) - 3) ∧ w_Row_init q72 2 h73 c77 sc77 (fun (h75 : xb_H) => xb_ext h73 h75 → ∀ h78 : xb_H, h78 = xb_P h75 x0 12 (some q72) → 1 ≤ ((((((((((((((((((((((bc - 1) - c6) - 1) - c14) - 1) - c21) - 1) - c28) - 1) - c35) - 1) - c42) - 1) - c49) - 1) - c56) - 1) - c63) - 1) - c70) - 1) - c77) ∧ 3 ≤ ((((((((((((((((((((((bs - 3) - sc6) - 3) - sc14) - 3) - sc21) - 3) - sc28) - 3) - sc35) - 3) - sc42) - 3) - sc49) - 3) - sc56) - 3) - sc63) - 3) - sc70) - 3) - sc77) ∧ ∀ q79 : Nat, xb_k h78 q79 = 0 → ∀ h80 : xb_H, h80 = xb_new h78 q79 2 0 → ∃ c84 sc84 : Nat, c84 ≤ (((((((((((((((((((((((bc - 1) - c6) - 1) - c14) - 1) - c21) - 1) - c28) - 1) - c35) - 1) - c42) - 1) - c49) - 1) - c56) - 1) - c63) - 1) - c70) - 1) - c77) - 1) ∧ sc84 ≤ (((((((((((((((((((((((bs - 3) - sc6) - 3) - sc14) - 3) - sc21) - 3) - sc28) - 3) - sc35) - 3) - sc42) - 3) - sc49) - 3) - sc56) - 3) - sc63) - 3) - sc70) - 3) - sc77) - 3) ∧ w_Row_init q79 5 h80 c84 sc84 (fun (h82 : xb_H) => xb_ext h80 h82 → ∀ h85 : xb_H, h85 = xb_P h82 x0 13 (some q79) → 1 ≤ ((((((((((((((((((((((((bc - 1) - c6) - 1) - c14) - 1) - c21) - 1) - c28) - 1) - c35) - 1) - c42) - 1) - c49) - 1) - c56) - 1) - c63) - 1) - c70) - 1) - c77) - 1) - c84) ∧ 4 ≤ ((((((((((((((((((((((((bs - 3) - sc6) - 3) - sc14) - 3) - sc21) - 3) - sc28) - 3) - sc35) - 3) - sc42) - 3) - sc49) - 3) - sc56) - 3) - sc63) - 3) - sc70) - 3) - sc77) - 3) - sc84) ∧ ∀ q86 : Nat, xb_k h85 q86 = 0 → ∀ h87 : xb_H, h87 = xb_new h85 q86 102 4 → ∀ h89 : xb_H, h89 = xb_P h87 x0 14 (some q86) → ∀ h90 : xb_H, h90 = xb_I h89 x0 15 (-1) → ∀ h91 : xb_H, h91 = xb_I h90 x0 16 (-1) → ∀ h92 : xb_H, h92 = xb_P h91 x0 0 (some x1) → xb_k h92 x1 = 100 ∧ ¬ (nI (xb_n h92 x1)) < 0 ∧ (Int32.toNatClampNeg (nI (xb_n h92 x1))) * 4 ≤ 536870912 ∧ 1 ≤ (((((((((((((((((((((((((bc - 1) - c6) - 1) - c14) - 1) - c21) - 1) - c28) - 1) - c35) - 1) - c42) - 1) - c49) - 1) - c56) - 1) - c63) - 1) - c70) - 1) - c77) - 1) - c84) - 1) ∧ (Int32.toNatClampNeg (nI (xb_n h92 x1))) ≤ (((((((((((((((((((((((((bs - 3) - sc6) - 3) - sc14) - 3) - sc21) - 3) - sc28) - 3) - sc35) - 3) - sc42) - 3) - sc49) - 3) - sc56) - 3) - sc63) - 3) - sc70) - 3) - sc77) - 3) - sc84) - 4) ∧ ∀ q94 : Nat, xb_k h92 q94 = 0 → ∀ h95 : xb_H, h95 = xb_new h92 q94 102 (Int32.toNatClampNeg (nI (xb_n h92 x1))) → ∀ h97 : xb_H, h97 = xb_P h95 x0 1 (some q94) → Qr h97))))))))))))

set_option maxHeartbeats 4000000 in
set_option maxRecDepth 100000 in
theorem ok_StackModule_init (l : Launch) (hfl : l.flags = pinnedFlags ++ [noTraceFlag]) (D : va_G) (A : Nat → Prop) (σ : Nat) (x0 : Nat) (x1 : Nat) (h : xb_H) (bc : Nat) (bs : Nat) (Qr : xb_H → Prop) (hw : w_StackModule_init x0 x1 h bc bs Qr) : xt_Met l y_StackModule_init [.code y_StackModule_init b_StackModule_init 2 none] (xb_rm 3 bc bs) (xb_Pc D A σ h [.ref x0, .ref x1]) (xb_Qc D A h (fun v h => v = none ∧ Qr h) (fun _ _ => False)) bc bs A := by
  refine xb_ofAm (cc := b_StackModule_init) (by decide) (Nat.le_of_ble_eq_true rfl) ?_
  unfold w_StackModule_init at hw
  show xb_am l D A σ 3 bc bs h (fun v h => v = none ∧ Qr h) (fun _ _ => False) y_StackModule_init.cls y_StackModule_init.name b_StackModule_init 2 ([] : List ExceptionTableEntry) none 0 [(0, .ref x0), (1, .ref x1)] [] h bc bs
  obtain ⟨MC, hMC⟩ : ∃ x, x = bc := ⟨_, rfl⟩
  obtain ⟨MS, hMS⟩ : ∃ x, x = bs := ⟨_, rfl⟩
  rw [show xb_am l D A σ 3 bc bs = xb_am l D A σ 3 MC MS by rw [hMC, hMS]]
  obtain ⟨h0, hh0⟩ : ∃ x, x = h := ⟨_, rfl⟩
  rw [show xb_am l D A σ 3 MC MS h = xb_am l D A σ 3 MC MS h0 by rw [hh0]]
  intro p e s m args below meth c hC H locs ls k n hE hl hR hS hk hn
  obtain ⟨hx, hb, hown, hlocks, htab, hml, hr, hB, hA, hnm⟩ := id hC
  have hts := hB.1.1.at args
  refine lv_aload_n hx hb (xb_d D_StackModule_init 0 rfl) rfl (lv_at hl 0 rfl) ?_
  refine W.objInit hx hb hown (hts _ m_f8a016f5) (hts _ m_fba9d542) (hts _ m_9febdb7e) rfl (hml.trans hl.1.symm).symm rfl (xb_d D_StackModule_init 1 rfl) (by show 1 ≤ 8 + _; omega) (Nat.le_trans (Nat.le_of_ble_eq_true rfl : _ ≤ 40) (by show 40 ≤ 120 + _; omega)) ?_
  refine W.eq (g2 := F0 m 4 ls []) rfl ?_
  refine lv_aload_n hx hb (xb_d D_StackModule_init 2 rfl) rfl (lv_at hl 0 rfl) ?_
  obtain ⟨hcq1, hsq1, hw⟩ := hw
  refine xb_newo (C := R_Row) (T := F_Row) (N := 3) hx hb 1 hts fin_Row t_Row t_Row_ok hown (hts _ m_cf9255b9) (hts _ m_decbd935) (hts _ m_c1bef504) hR hS hA (by decide) rfl dg_Row (show k + 1 ≤ MC by omega) (show n + 3 ≤ MS by omega) (xb_d D_StackModule_init 3 rfl) (fun q1 H hqq1 hR hS => ?_)
  have hw := hw q1 hqq1
  obtain ⟨h2, eh2⟩ : ∃ x : xb_H, x = xb_new h q1 2 0 := ⟨_, rfl⟩
  rw [← eh2] at hR
  have hw := hw h2 eh2
  have hE : xb_ext h0 h2 := by rw [eh2]; exact hE.new _ _ hqq1
  have hk3 : xb_k h2 q1 = 2 := by rw [eh2]; exact xb_new_k _ _ _ _
  refine lv_dup hx hb (xb_d D_StackModule_init 4 rfl) rfl ?_
  refine lv_iconst (v := 5) hx hb (xb_d D_StackModule_init 5 rfl) (by decide) ?_
  obtain ⟨c6, sc6, hlc6, hlsc6, hw⟩ := hw
  refine xb_call (D := D) (A := A) (σ := σ) (h := h2) (d := 2) (mc := c6) (ms := sc6) (maxL := 2) (rest := [.ref q1, .ref x0]) (av := [.ref q1, .int 5]) (fun T hT X => xt_invI X hx hown rfl (hts _ m_9c57bdbc) (hts _ m_16ca0e9f) (hts _ m_3d9e18a6) nm_Row_init (g := F0 m 10 ls [.int 5, .ref q1, .ref q1, .ref x0]) rfl (b := q1) (argsL := [.int 5]) (rest := [.ref q1, .ref x0]) rfl rfl (by rw [hb]; exact (xb_d D_StackModule_init 6 rfl))) (ok_Row_init l hfl D A σ q1 5 h2 c6 sc6 _ hw) (hml.trans hl.1.symm) (by rw [hb]; exact (xb_d D_StackModule_init 6 rfl)) (Nat.le_of_ble_eq_true rfl) (Nat.le_of_ble_eq_true rfl) (Nat.le_of_ble_eq_true rfl) (show (k + 1) + c6 ≤ MC by omega) (show (n + 3) + sc6 ≤ MS by omega) (xt_w1 hB.1 m_3d9e18a6) (xt_cdOf hB.1 m_3d9e18a6) (hts _ m_c1bef504) hB hR hS hA (fun vv h4 H locs hq hEh4 hR hS => ?_) (fun XX ax h4 H locs hq hEh4 hex hR hS => ?_)
  · obtain ⟨rfl, hw⟩ := hq
    have hw := hw hEh4
    have hE := hE.tr hEh4
    refine W.eq (g2 := F0 m 13 ls [.ref q1, .ref x0]) rfl ?_
    obtain ⟨hk7, hw⟩ := hw
    refine xb_putPF (C := R_StackModule) (T := F_StackModule) (N := 19) (ty := .object "StackHost$Row") (x := (some q1)) hx hb 2 2 hts fin_StackModule t_StackModule t_StackModule_ok n_StackModule hown hR hS hk7 (by decide) rfl (by decide) rfl (hts _ m_b7ec8f62) (fun _ h9 => h9) rfl hnm rfl (by decide +kernel) (xb_pnO _ _).1 (xb_pnO _ _).2 (xb_d D_StackModule_init 7 rfl) (fun H locs hR hS => ?_)
    obtain ⟨h8, eh8⟩ : ∃ x : xb_H, x = xb_P h4 x0 2 (some q1) := ⟨_, rfl⟩
    rw [← eh8] at hR
    have hw := hw h8 eh8
    have hE : xb_ext h0 h8 := by rw [eh8]; exact hE
    refine lv_aload_n hx hb (xb_d D_StackModule_init 8 rfl) rfl (lv_at hl 0 rfl) ?_
    obtain ⟨hcq9, hsq9, hw⟩ := hw
    refine xb_newo (C := R_Row) (T := F_Row) (N := 3) hx hb 1 hts fin_Row t_Row t_Row_ok hown (hts _ m_cf9255b9) (hts _ m_decbd935) (hts _ m_c1bef504) hR hS hA (by decide) rfl dg_Row (show ((k + 1) + c6) + 1 ≤ MC by omega) (show ((n + 3) + sc6) + 3 ≤ MS by omega) (xb_d D_StackModule_init 9 rfl) (fun q9 H hqq9 hR hS => ?_)
    have hw := hw q9 hqq9
    obtain ⟨h10, eh10⟩ : ∃ x : xb_H, x = xb_new h8 q9 2 0 := ⟨_, rfl⟩
    rw [← eh10] at hR
    have hw := hw h10 eh10
    have hE : xb_ext h0 h10 := by rw [eh10]; exact hE.new _ _ hqq9
    have hk11 : xb_k h10 q9 = 2 := by rw [eh10]; exact xb_new_k _ _ _ _
    refine lv_dup hx hb (xb_d D_StackModule_init 10 rfl) rfl ?_
    refine lv_bipush (v := 7) hx hb (xb_d D_StackModule_init 11 rfl) (by decide) ?_
    obtain ⟨c14, sc14, hlc14, hlsc14, hw⟩ := hw
    refine xb_call (D := D) (A := A) (σ := σ) (h := h10) (d := 2) (mc := c14) (ms := sc14) (maxL := 2) (rest := [.ref q9, .ref x0]) (av := [.ref q9, .int 7]) (fun T hT X => xt_invI X hx hown rfl (hts _ m_9c57bdbc) (hts _ m_16ca0e9f) (hts _ m_3d9e18a6) nm_Row_init (g := F0 m 23 ls [.int 7, .ref q9, .ref q9, .ref x0]) rfl (b := q9) (argsL := [.int 7]) (rest := [.ref q9, .ref x0]) rfl rfl (by rw [hb]; exact (xb_d D_StackModule_init 12 rfl))) (ok_Row_init l hfl D A σ q9 7 h10 c14 sc14 _ hw) (hml.trans hl.1.symm) (by rw [hb]; exact (xb_d D_StackModule_init 12 rfl)) (Nat.le_of_ble_eq_true rfl) (Nat.le_of_ble_eq_true rfl) (Nat.le_of_ble_eq_true rfl) (show (((k + 1) + c6) + 1) + c14 ≤ MC by omega) (show (((n + 3) + sc6) + 3) + sc14 ≤ MS by omega) (xt_w1 hB.1 m_3d9e18a6) (xt_cdOf hB.1 m_3d9e18a6) (hts _ m_c1bef504) hB hR hS hA (fun vv h12 H locs hq hEh12 hR hS => ?_) (fun XX ax h12 H locs hq hEh12 hex hR hS => ?_)
    · obtain ⟨rfl, hw⟩ := hq
      have hw := hw hEh12
      have hE := hE.tr hEh12
      refine W.eq (g2 := F0 m 26 ls [.ref q9, .ref x0]) rfl ?_
      have hk7 : xb_k h8 x0 = 3 := by rw [eh8]; exact hk7
      have hk7 : xb_k h10 x0 = 3 := by rw [eh10]; exact xb_nk hqq9 hk7
      have hk7 : xb_k h12 x0 = 3 := hEh12.k hk7
      refine xb_putPF (C := R_StackModule) (T := F_StackModule) (N := 19) (ty := .object "StackHost$Row") (x := (some q9)) hx hb 2 3 hts fin_StackModule t_StackModule t_StackModule_ok n_StackModule hown hR hS hk7 (by decide) rfl (by decide) rfl (hts _ m_ef4e5361) (fun _ h9 => h9) rfl hnm rfl (by decide +kernel) (xb_pnO _ _).1 (xb_pnO _ _).2 (xb_d D_StackModule_init 13 rfl) (fun H locs hR hS => ?_)
      obtain ⟨h15, eh15⟩ : ∃ x : xb_H, x = xb_P h12 x0 3 (some q9) := ⟨_, rfl⟩
      rw [← eh15] at hR
      have hw := hw h15 eh15
      have hE : xb_ext h0 h15 := by rw [eh15]; exact hE
      refine lv_aload_n hx hb (xb_d D_StackModule_init 14 rfl) rfl (lv_at hl 0 rfl) ?_
      obtain ⟨hcq16, hsq16, hw⟩ := hw
      refine xb_newo (C := R_Row) (T := F_Row) (N := 3) hx hb 1 hts fin_Row t_Row t_Row_ok hown (hts _ m_cf9255b9) (hts _ m_decbd935) (hts _ m_c1bef504) hR hS hA (by decide) rfl dg_Row (show ((((k + 1) + c6) + 1) + c14) + 1 ≤ MC by omega) (show ((((n + 3) + sc6) + 3) + sc14) + 3 ≤ MS by omega) (xb_d D_StackModule_init 15 rfl) (fun q16 H hqq16 hR hS => ?_)
      have hw := hw q16 hqq16
      obtain ⟨h17, eh17⟩ : ∃ x : xb_H, x = xb_new h15 q16 2 0 := ⟨_, rfl⟩
      rw [← eh17] at hR
      have hw := hw h17 eh17
      have hE : xb_ext h0 h17 := by rw [eh17]; exact hE.new _ _ hqq16
      have hk18 : xb_k h17 q16 = 2 := by rw [eh17]; exact xb_new_k _ _ _ _
      refine lv_dup hx hb (xb_d D_StackModule_init 16 rfl) rfl ?_
      refine lv_iconst (v := 2) hx hb (xb_d D_StackModule_init 17 rfl) (by decide) ?_
      obtain ⟨c21, sc21, hlc21, hlsc21, hw⟩ := hw
      refine xb_call (D := D) (A := A) (σ := σ) (h := h17) (d := 2) (mc := c21) (ms := sc21) (maxL := 2) (rest := [.ref q16, .ref x0]) (av := [.ref q16, .int 2]) (fun T hT X => xt_invI X hx hown rfl (hts _ m_9c57bdbc) (hts _ m_16ca0e9f) (hts _ m_3d9e18a6) nm_Row_init (g := F0 m 35 ls [.int 2, .ref q16, .ref q16, .ref x0]) rfl (b := q16) (argsL := [.int 2]) (rest := [.ref q16, .ref x0]) rfl rfl (by rw [hb]; exact (xb_d D_StackModule_init 18 rfl))) (ok_Row_init l hfl D A σ q16 2 h17 c21 sc21 _ hw) (hml.trans hl.1.symm) (by rw [hb]; exact (xb_d D_StackModule_init 18 rfl)) (Nat.le_of_ble_eq_true rfl) (Nat.le_of_ble_eq_true rfl) (Nat.le_of_ble_eq_true rfl) (show (((((k + 1) + c6) + 1) + c14) + 1) + c21 ≤ MC by omega) (show (((((n + 3) + sc6) + 3) + sc14) + 3) + sc21 ≤ MS by omega) (xt_w1 hB.1 m_3d9e18a6) (xt_cdOf hB.1 m_3d9e18a6) (hts _ m_c1bef504) hB hR hS hA (fun vv h19 H locs hq hEh19 hR hS => ?_) (fun XX ax h19 H locs hq hEh19 hex hR hS => ?_)
      · obtain ⟨rfl, hw⟩ := hq
        have hw := hw hEh19
        have hE := hE.tr hEh19
        refine W.eq (g2 := F0 m 38 ls [.ref q16, .ref x0]) rfl ?_
        have hk7 : xb_k h15 x0 = 3 := by rw [eh15]; exact hk7
        have hk7 : xb_k h17 x0 = 3 := by rw [eh17]; exact xb_nk hqq16 hk7
        have hk7 : xb_k h19 x0 = 3 := hEh19.k hk7
        refine xb_putPF (C := R_StackModule) (T := F_StackModule) (N := 19) (ty := .object "StackHost$Row") (x := (some q16)) hx hb 2 4 hts fin_StackModule t_StackModule t_StackModule_ok n_StackModule hown hR hS hk7 (by decide) rfl (by decide) rfl (hts _ m_4d92b9c1) (fun _ h9 => h9) rfl hnm rfl (by decide +kernel) (xb_pnO _ _).1 (xb_pnO _ _).2 (xb_d D_StackModule_init 19 rfl) (fun H locs hR hS => ?_)
        obtain ⟨h22, eh22⟩ : ∃ x : xb_H, x = xb_P h19 x0 4 (some q16) := ⟨_, rfl⟩
        rw [← eh22] at hR
        have hw := hw h22 eh22
        have hE : xb_ext h0 h22 := by rw [eh22]; exact hE
        refine lv_aload_n hx hb (xb_d D_StackModule_init 20 rfl) rfl (lv_at hl 0 rfl) ?_
        obtain ⟨hcq23, hsq23, hw⟩ := hw
        refine xb_newo (C := R_Row) (T := F_Row) (N := 3) hx hb 1 hts fin_Row t_Row t_Row_ok hown (hts _ m_cf9255b9) (hts _ m_decbd935) (hts _ m_c1bef504) hR hS hA (by decide) rfl dg_Row (show ((((((k + 1) + c6) + 1) + c14) + 1) + c21) + 1 ≤ MC by omega) (show ((((((n + 3) + sc6) + 3) + sc14) + 3) + sc21) + 3 ≤ MS by omega) (xb_d D_StackModule_init 21 rfl) (fun q23 H hqq23 hR hS => ?_)
        have hw := hw q23 hqq23
        obtain ⟨h24, eh24⟩ : ∃ x : xb_H, x = xb_new h22 q23 2 0 := ⟨_, rfl⟩
        rw [← eh24] at hR
        have hw := hw h24 eh24
        have hE : xb_ext h0 h24 := by rw [eh24]; exact hE.new _ _ hqq23
        have hk25 : xb_k h24 q23 = 2 := by rw [eh24]; exact xb_new_k _ _ _ _
        refine lv_dup hx hb (xb_d D_StackModule_init 22 rfl) rfl ?_
        refine lv_iconst (v := 3) hx hb (xb_d D_StackModule_init 23 rfl) (by decide) ?_
        obtain ⟨c28, sc28, hlc28, hlsc28, hw⟩ := hw
        refine xb_call (D := D) (A := A) (σ := σ) (h := h24) (d := 2) (mc := c28) (ms := sc28) (maxL := 2) (rest := [.ref q23, .ref x0]) (av := [.ref q23, .int 3]) (fun T hT X => xt_invI X hx hown rfl (hts _ m_9c57bdbc) (hts _ m_16ca0e9f) (hts _ m_3d9e18a6) nm_Row_init (g := F0 m 47 ls [.int 3, .ref q23, .ref q23, .ref x0]) rfl (b := q23) (argsL := [.int 3]) (rest := [.ref q23, .ref x0]) rfl rfl (by rw [hb]; exact (xb_d D_StackModule_init 24 rfl))) (ok_Row_init l hfl D A σ q23 3 h24 c28 sc28 _ hw) (hml.trans hl.1.symm) (by rw [hb]; exact (xb_d D_StackModule_init 24 rfl)) (Nat.le_of_ble_eq_true rfl) (Nat.le_of_ble_eq_true rfl) (Nat.le_of_ble_eq_true rfl) (show (((((((k + 1) + c6) + 1) + c14) + 1) + c21) + 1) + c28 ≤ MC by omega) (show (((((((n + 3) + sc6) + 3) + sc14) + 3) + sc21) + 3) + sc28 ≤ MS by omega) (xt_w1 hB.1 m_3d9e18a6) (xt_cdOf hB.1 m_3d9e18a6) (hts _ m_c1bef504) hB hR hS hA (fun vv h26 H locs hq hEh26 hR hS => ?_) (fun XX ax h26 H locs hq hEh26 hex hR hS => ?_)
        · obtain ⟨rfl, hw⟩ := hq
          have hw := hw hEh26
          have hE := hE.tr hEh26
          refine W.eq (g2 := F0 m 50 ls [.ref q23, .ref x0]) rfl ?_
          have hk7 : xb_k h22 x0 = 3 := by rw [eh22]; exact hk7
          have hk7 : xb_k h24 x0 = 3 := by rw [eh24]; exact xb_nk hqq23 hk7
          have hk7 : xb_k h26 x0 = 3 := hEh26.k hk7
          refine xb_putPF (C := R_StackModule) (T := F_StackModule) (N := 19) (ty := .object "StackHost$Row") (x := (some q23)) hx hb 2 5 hts fin_StackModule t_StackModule t_StackModule_ok n_StackModule hown hR hS hk7 (by decide) rfl (by decide) rfl (hts _ m_f396a79e) (fun _ h9 => h9) rfl hnm rfl (by decide +kernel) (xb_pnO _ _).1 (xb_pnO _ _).2 (xb_d D_StackModule_init 25 rfl) (fun H locs hR hS => ?_)
          obtain ⟨h29, eh29⟩ : ∃ x : xb_H, x = xb_P h26 x0 5 (some q23) := ⟨_, rfl⟩
          rw [← eh29] at hR
          have hw := hw h29 eh29
          have hE : xb_ext h0 h29 := by rw [eh29]; exact hE
          refine lv_aload_n hx hb (xb_d D_StackModule_init 26 rfl) rfl (lv_at hl 0 rfl) ?_
          obtain ⟨hcq30, hsq30, hw⟩ := hw
          refine xb_newo (C := R_Row) (T := F_Row) (N := 3) hx hb 1 hts fin_Row t_Row t_Row_ok hown (hts _ m_cf9255b9) (hts _ m_decbd935) (hts _ m_c1bef504) hR hS hA (by decide) rfl dg_Row (show ((((((((k + 1) + c6) + 1) + c14) + 1) + c21) + 1) + c28) + 1 ≤ MC by omega) (show ((((((((n + 3) + sc6) + 3) + sc14) + 3) + sc21) + 3) + sc28) + 3 ≤ MS by omega) (xb_d D_StackModule_init 27 rfl) (fun q30 H hqq30 hR hS => ?_)
          have hw := hw q30 hqq30
          obtain ⟨h31, eh31⟩ : ∃ x : xb_H, x = xb_new h29 q30 2 0 := ⟨_, rfl⟩
          rw [← eh31] at hR
          have hw := hw h31 eh31
          have hE : xb_ext h0 h31 := by rw [eh31]; exact hE.new _ _ hqq30
          have hk32 : xb_k h31 q30 = 2 := by rw [eh31]; exact xb_new_k _ _ _ _
          refine lv_dup hx hb (xb_d D_StackModule_init 28 rfl) rfl ?_
          refine lv_iconst (v := 3) hx hb (xb_d D_StackModule_init 29 rfl) (by decide) ?_
          obtain ⟨c35, sc35, hlc35, hlsc35, hw⟩ := hw
          refine xb_call (D := D) (A := A) (σ := σ) (h := h31) (d := 2) (mc := c35) (ms := sc35) (maxL := 2) (rest := [.ref q30, .ref x0]) (av := [.ref q30, .int 3]) (fun T hT X => xt_invI X hx hown rfl (hts _ m_9c57bdbc) (hts _ m_16ca0e9f) (hts _ m_3d9e18a6) nm_Row_init (g := F0 m 59 ls [.int 3, .ref q30, .ref q30, .ref x0]) rfl (b := q30) (argsL := [.int 3]) (rest := [.ref q30, .ref x0]) rfl rfl (by rw [hb]; exact (xb_d D_StackModule_init 30 rfl))) (ok_Row_init l hfl D A σ q30 3 h31 c35 sc35 _ hw) (hml.trans hl.1.symm) (by rw [hb]; exact (xb_d D_StackModule_init 30 rfl)) (Nat.le_of_ble_eq_true rfl) (Nat.le_of_ble_eq_true rfl) (Nat.le_of_ble_eq_true rfl) (show (((((((((k + 1) + c6) + 1) + c14) + 1) + c21) + 1) + c28) + 1) + c35 ≤ MC by omega) (show (((((((((n + 3) + sc6) + 3) + sc14) + 3) + sc21) + 3) + sc28) + 3) + sc35 ≤ MS by omega) (xt_w1 hB.1 m_3d9e18a6) (xt_cdOf hB.1 m_3d9e18a6) (hts _ m_c1bef504) hB hR hS hA (fun vv h33 H locs hq hEh33 hR hS => ?_) (fun XX ax h33 H locs hq hEh33 hex hR hS => ?_)
          · obtain ⟨rfl, hw⟩ := hq
            have hw := hw hEh33
            have hE := hE.tr hEh33
            refine W.eq (g2 := F0 m 62 ls [.ref q30, .ref x0]) rfl ?_
            have hk7 : xb_k h29 x0 = 3 := by rw [eh29]; exact hk7
            have hk7 : xb_k h31 x0 = 3 := by rw [eh31]; exact xb_nk hqq30 hk7
            have hk7 : xb_k h33 x0 = 3 := hEh33.k hk7
            refine xb_putPF (C := R_StackModule) (T := F_StackModule) (N := 19) (ty := .object "StackHost$Row") (x := (some q30)) hx hb 2 6 hts fin_StackModule t_StackModule t_StackModule_ok n_StackModule hown hR hS hk7 (by decide) rfl (by decide) rfl (hts _ m_fa681d91) (fun _ h9 => h9) rfl hnm rfl (by decide +kernel) (xb_pnO _ _).1 (xb_pnO _ _).2 (xb_d D_StackModule_init 31 rfl) (fun H locs hR hS => ?_)
            obtain ⟨h36, eh36⟩ : ∃ x : xb_H, x = xb_P h33 x0 6 (some q30) := ⟨_, rfl⟩
            rw [← eh36] at hR
            have hw := hw h36 eh36
            have hE : xb_ext h0 h36 := by rw [eh36]; exact hE
            refine lv_aload_n hx hb (xb_d D_StackModule_init 32 rfl) rfl (lv_at hl 0 rfl) ?_
            obtain ⟨hcq37, hsq37, hw⟩ := hw
            refine xb_newo (C := R_Row) (T := F_Row) (N := 3) hx hb 1 hts fin_Row t_Row t_Row_ok hown (hts _ m_cf9255b9) (hts _ m_decbd935) (hts _ m_c1bef504) hR hS hA (by decide) rfl dg_Row (show ((((((((((k + 1) + c6) + 1) + c14) + 1) + c21) + 1) + c28) + 1) + c35) + 1 ≤ MC by omega) (show ((((((((((n + 3) + sc6) + 3) + sc14) + 3) + sc21) + 3) + sc28) + 3) + sc35) + 3 ≤ MS by omega) (xb_d D_StackModule_init 33 rfl) (fun q37 H hqq37 hR hS => ?_)
            have hw := hw q37 hqq37
            obtain ⟨h38, eh38⟩ : ∃ x : xb_H, x = xb_new h36 q37 2 0 := ⟨_, rfl⟩
            rw [← eh38] at hR
            have hw := hw h38 eh38
            have hE : xb_ext h0 h38 := by rw [eh38]; exact hE.new _ _ hqq37
            have hk39 : xb_k h38 q37 = 2 := by rw [eh38]; exact xb_new_k _ _ _ _
            refine lv_dup hx hb (xb_d D_StackModule_init 34 rfl) rfl ?_
            refine lv_iconst (v := 4) hx hb (xb_d D_StackModule_init 35 rfl) (by decide) ?_
            obtain ⟨c42, sc42, hlc42, hlsc42, hw⟩ := hw
            refine xb_call (D := D) (A := A) (σ := σ) (h := h38) (d := 2) (mc := c42) (ms := sc42) (maxL := 2) (rest := [.ref q37, .ref x0]) (av := [.ref q37, .int 4]) (fun T hT X => xt_invI X hx hown rfl (hts _ m_9c57bdbc) (hts _ m_16ca0e9f) (hts _ m_3d9e18a6) nm_Row_init (g := F0 m 71 ls [.int 4, .ref q37, .ref q37, .ref x0]) rfl (b := q37) (argsL := [.int 4]) (rest := [.ref q37, .ref x0]) rfl rfl (by rw [hb]; exact (xb_d D_StackModule_init 36 rfl))) (ok_Row_init l hfl D A σ q37 4 h38 c42 sc42 _ hw) (hml.trans hl.1.symm) (by rw [hb]; exact (xb_d D_StackModule_init 36 rfl)) (Nat.le_of_ble_eq_true rfl) (Nat.le_of_ble_eq_true rfl) (Nat.le_of_ble_eq_true rfl) (show (((((((((((k + 1) + c6) + 1) + c14) + 1) + c21) + 1) + c28) + 1) + c35) + 1) + c42 ≤ MC by omega) (show (((((((((((n + 3) + sc6) + 3) + sc14) + 3) + sc21) + 3) + sc28) + 3) + sc35) + 3) + sc42 ≤ MS by omega) (xt_w1 hB.1 m_3d9e18a6) (xt_cdOf hB.1 m_3d9e18a6) (hts _ m_c1bef504) hB hR hS hA (fun vv h40 H locs hq hEh40 hR hS => ?_) (fun XX ax h40 H locs hq hEh40 hex hR hS => ?_)
            · obtain ⟨rfl, hw⟩ := hq
              have hw := hw hEh40
              have hE := hE.tr hEh40
              refine W.eq (g2 := F0 m 74 ls [.ref q37, .ref x0]) rfl ?_
              have hk7 : xb_k h36 x0 = 3 := by rw [eh36]; exact hk7
              have hk7 : xb_k h38 x0 = 3 := by rw [eh38]; exact xb_nk hqq37 hk7
              have hk7 : xb_k h40 x0 = 3 := hEh40.k hk7
              refine xb_putPF (C := R_StackModule) (T := F_StackModule) (N := 19) (ty := .object "StackHost$Row") (x := (some q37)) hx hb 2 7 hts fin_StackModule t_StackModule t_StackModule_ok n_StackModule hown hR hS hk7 (by decide) rfl (by decide) rfl (hts _ m_f07ea674) (fun _ h9 => h9) rfl hnm rfl (by decide +kernel) (xb_pnO _ _).1 (xb_pnO _ _).2 (xb_d D_StackModule_init 37 rfl) (fun H locs hR hS => ?_)
              obtain ⟨h43, eh43⟩ : ∃ x : xb_H, x = xb_P h40 x0 7 (some q37) := ⟨_, rfl⟩
              rw [← eh43] at hR
              have hw := hw h43 eh43
              have hE : xb_ext h0 h43 := by rw [eh43]; exact hE
              refine lv_aload_n hx hb (xb_d D_StackModule_init 38 rfl) rfl (lv_at hl 0 rfl) ?_
              obtain ⟨hcq44, hsq44, hw⟩ := hw
              refine xb_newo (C := R_Row) (T := F_Row) (N := 3) hx hb 1 hts fin_Row t_Row t_Row_ok hown (hts _ m_cf9255b9) (hts _ m_decbd935) (hts _ m_c1bef504) hR hS hA (by decide) rfl dg_Row (show ((((((((((((k + 1) + c6) + 1) + c14) + 1) + c21) + 1) + c28) + 1) + c35) + 1) + c42) + 1 ≤ MC by omega) (show ((((((((((((n + 3) + sc6) + 3) + sc14) + 3) + sc21) + 3) + sc28) + 3) + sc35) + 3) + sc42) + 3 ≤ MS by omega) (xb_d D_StackModule_init 39 rfl) (fun q44 H hqq44 hR hS => ?_)
              have hw := hw q44 hqq44
              obtain ⟨h45, eh45⟩ : ∃ x : xb_H, x = xb_new h43 q44 2 0 := ⟨_, rfl⟩
              rw [← eh45] at hR
              have hw := hw h45 eh45
              have hE : xb_ext h0 h45 := by rw [eh45]; exact hE.new _ _ hqq44
              have hk46 : xb_k h45 q44 = 2 := by rw [eh45]; exact xb_new_k _ _ _ _
              refine lv_dup hx hb (xb_d D_StackModule_init 40 rfl) rfl ?_
              refine lv_iconst (v := 5) hx hb (xb_d D_StackModule_init 41 rfl) (by decide) ?_
              obtain ⟨c49, sc49, hlc49, hlsc49, hw⟩ := hw
              refine xb_call (D := D) (A := A) (σ := σ) (h := h45) (d := 2) (mc := c49) (ms := sc49) (maxL := 2) (rest := [.ref q44, .ref x0]) (av := [.ref q44, .int 5]) (fun T hT X => xt_invI X hx hown rfl (hts _ m_9c57bdbc) (hts _ m_16ca0e9f) (hts _ m_3d9e18a6) nm_Row_init (g := F0 m 83 ls [.int 5, .ref q44, .ref q44, .ref x0]) rfl (b := q44) (argsL := [.int 5]) (rest := [.ref q44, .ref x0]) rfl rfl (by rw [hb]; exact (xb_d D_StackModule_init 42 rfl))) (ok_Row_init l hfl D A σ q44 5 h45 c49 sc49 _ hw) (hml.trans hl.1.symm) (by rw [hb]; exact (xb_d D_StackModule_init 42 rfl)) (Nat.le_of_ble_eq_true rfl) (Nat.le_of_ble_eq_true rfl) (Nat.le_of_ble_eq_true rfl) (show (((((((((((((k + 1) + c6) + 1) + c14) + 1) + c21) + 1) + c28) + 1) + c35) + 1) + c42) + 1) + c49 ≤ MC by omega) (show (((((((((((((n + 3) + sc6) + 3) + sc14) + 3) + sc21) + 3) + sc28) + 3) + sc35) + 3) + sc42) + 3) + sc49 ≤ MS by omega) (xt_w1 hB.1 m_3d9e18a6) (xt_cdOf hB.1 m_3d9e18a6) (hts _ m_c1bef504) hB hR hS hA (fun vv h47 H locs hq hEh47 hR hS => ?_) (fun XX ax h47 H locs hq hEh47 hex hR hS => ?_)
              · obtain ⟨rfl, hw⟩ := hq
                have hw := hw hEh47
                have hE := hE.tr hEh47
                refine W.eq (g2 := F0 m 86 ls [.ref q44, .ref x0]) rfl ?_
                have hk7 : xb_k h43 x0 = 3 := by rw [eh43]; exact hk7
                have hk7 : xb_k h45 x0 = 3 := by rw [eh45]; exact xb_nk hqq44 hk7
                have hk7 : xb_k h47 x0 = 3 := hEh47.k hk7
                refine xb_putPF (C := R_StackModule) (T := F_StackModule) (N := 19) (ty := .object "StackHost$Row") (x := (some q44)) hx hb 2 8 hts fin_StackModule t_StackModule t_StackModule_ok n_StackModule hown hR hS hk7 (by decide) rfl (by decide) rfl (hts _ m_d9eb608a) (fun _ h9 => h9) rfl hnm rfl (by decide +kernel) (xb_pnO _ _).1 (xb_pnO _ _).2 (xb_d D_StackModule_init 43 rfl) (fun H locs hR hS => ?_)
                obtain ⟨h50, eh50⟩ : ∃ x : xb_H, x = xb_P h47 x0 8 (some q44) := ⟨_, rfl⟩
                rw [← eh50] at hR
                have hw := hw h50 eh50
                have hE : xb_ext h0 h50 := by rw [eh50]; exact hE
                refine lv_aload_n hx hb (xb_d D_StackModule_init 44 rfl) rfl (lv_at hl 0 rfl) ?_
                obtain ⟨hcq51, hsq51, hw⟩ := hw
                refine xb_newo (C := R_Row) (T := F_Row) (N := 3) hx hb 1 hts fin_Row t_Row t_Row_ok hown (hts _ m_cf9255b9) (hts _ m_decbd935) (hts _ m_c1bef504) hR hS hA (by decide) rfl dg_Row (show ((((((((((((((k + 1) + c6) + 1) + c14) + 1) + c21) + 1) + c28) + 1) + c35) + 1) + c42) + 1) + c49) + 1 ≤ MC by omega) (show ((((((((((((((n + 3) + sc6) + 3) + sc14) + 3) + sc21) + 3) + sc28) + 3) + sc35) + 3) + sc42) + 3) + sc49) + 3 ≤ MS by omega) (xb_d D_StackModule_init 45 rfl) (fun q51 H hqq51 hR hS => ?_)
                have hw := hw q51 hqq51
                obtain ⟨h52, eh52⟩ : ∃ x : xb_H, x = xb_new h50 q51 2 0 := ⟨_, rfl⟩
                rw [← eh52] at hR
                have hw := hw h52 eh52
                have hE : xb_ext h0 h52 := by rw [eh52]; exact hE.new _ _ hqq51
                have hk53 : xb_k h52 q51 = 2 := by rw [eh52]; exact xb_new_k _ _ _ _
                refine lv_dup hx hb (xb_d D_StackModule_init 46 rfl) rfl ?_
                refine lv_iconst (v := 5) hx hb (xb_d D_StackModule_init 47 rfl) (by decide) ?_
                obtain ⟨c56, sc56, hlc56, hlsc56, hw⟩ := hw
                refine xb_call (D := D) (A := A) (σ := σ) (h := h52) (d := 2) (mc := c56) (ms := sc56) (maxL := 2) (rest := [.ref q51, .ref x0]) (av := [.ref q51, .int 5]) (fun T hT X => xt_invI X hx hown rfl (hts _ m_9c57bdbc) (hts _ m_16ca0e9f) (hts _ m_3d9e18a6) nm_Row_init (g := F0 m 95 ls [.int 5, .ref q51, .ref q51, .ref x0]) rfl (b := q51) (argsL := [.int 5]) (rest := [.ref q51, .ref x0]) rfl rfl (by rw [hb]; exact (xb_d D_StackModule_init 48 rfl))) (ok_Row_init l hfl D A σ q51 5 h52 c56 sc56 _ hw) (hml.trans hl.1.symm) (by rw [hb]; exact (xb_d D_StackModule_init 48 rfl)) (Nat.le_of_ble_eq_true rfl) (Nat.le_of_ble_eq_true rfl) (Nat.le_of_ble_eq_true rfl) (show (((((((((((((((k + 1) + c6) + 1) + c14) + 1) + c21) + 1) + c28) + 1) + c35) + 1) + c42) + 1) + c49) + 1) + c56 ≤ MC by omega) (show (((((((((((((((n + 3) + sc6) + 3) + sc14) + 3) + sc21) + 3) + sc28) + 3) + sc35) + 3) + sc42) + 3) + sc49) + 3) + sc56 ≤ MS by omega) (xt_w1 hB.1 m_3d9e18a6) (xt_cdOf hB.1 m_3d9e18a6) (hts _ m_c1bef504) hB hR hS hA (fun vv h54 H locs hq hEh54 hR hS => ?_) (fun XX ax h54 H locs hq hEh54 hex hR hS => ?_)
                · obtain ⟨rfl, hw⟩ := hq
                  have hw := hw hEh54
                  have hE := hE.tr hEh54
                  refine W.eq (g2 := F0 m 98 ls [.ref q51, .ref x0]) rfl ?_
                  have hk7 : xb_k h50 x0 = 3 := by rw [eh50]; exact hk7
                  have hk7 : xb_k h52 x0 = 3 := by rw [eh52]; exact xb_nk hqq51 hk7
                  have hk7 : xb_k h54 x0 = 3 := hEh54.k hk7
                  refine xb_putPF (C := R_StackModule) (T := F_StackModule) (N := 19) (ty := .object "StackHost$Row") (x := (some q51)) hx hb 2 9 hts fin_StackModule t_StackModule t_StackModule_ok n_StackModule hown hR hS hk7 (by decide) rfl (by decide) rfl (hts _ m_da628c90) (fun _ h9 => h9) rfl hnm rfl (by decide +kernel) (xb_pnO _ _).1 (xb_pnO _ _).2 (xb_d D_StackModule_init 49 rfl) (fun H locs hR hS => ?_)
                  obtain ⟨h57, eh57⟩ : ∃ x : xb_H, x = xb_P h54 x0 9 (some q51) := ⟨_, rfl⟩
                  rw [← eh57] at hR
                  have hw := hw h57 eh57
                  have hE : xb_ext h0 h57 := by rw [eh57]; exact hE
                  refine lv_aload_n hx hb (xb_d D_StackModule_init 50 rfl) rfl (lv_at hl 0 rfl) ?_
                  obtain ⟨hcq58, hsq58, hw⟩ := hw
                  refine xb_newo (C := R_Row) (T := F_Row) (N := 3) hx hb 1 hts fin_Row t_Row t_Row_ok hown (hts _ m_cf9255b9) (hts _ m_decbd935) (hts _ m_c1bef504) hR hS hA (by decide) rfl dg_Row (show ((((((((((((((((k + 1) + c6) + 1) + c14) + 1) + c21) + 1) + c28) + 1) + c35) + 1) + c42) + 1) + c49) + 1) + c56) + 1 ≤ MC by omega) (show ((((((((((((((((n + 3) + sc6) + 3) + sc14) + 3) + sc21) + 3) + sc28) + 3) + sc35) + 3) + sc42) + 3) + sc49) + 3) + sc56) + 3 ≤ MS by omega) (xb_d D_StackModule_init 51 rfl) (fun q58 H hqq58 hR hS => ?_)
                  have hw := hw q58 hqq58
                  obtain ⟨h59, eh59⟩ : ∃ x : xb_H, x = xb_new h57 q58 2 0 := ⟨_, rfl⟩
                  rw [← eh59] at hR
                  have hw := hw h59 eh59
                  have hE : xb_ext h0 h59 := by rw [eh59]; exact hE.new _ _ hqq58
                  have hk60 : xb_k h59 q58 = 2 := by rw [eh59]; exact xb_new_k _ _ _ _
                  refine lv_dup hx hb (xb_d D_StackModule_init 52 rfl) rfl ?_
                  refine lv_iconst (v := 2) hx hb (xb_d D_StackModule_init 53 rfl) (by decide) ?_
                  obtain ⟨c63, sc63, hlc63, hlsc63, hw⟩ := hw
                  refine xb_call (D := D) (A := A) (σ := σ) (h := h59) (d := 2) (mc := c63) (ms := sc63) (maxL := 2) (rest := [.ref q58, .ref x0]) (av := [.ref q58, .int 2]) (fun T hT X => xt_invI X hx hown rfl (hts _ m_9c57bdbc) (hts _ m_16ca0e9f) (hts _ m_3d9e18a6) nm_Row_init (g := F0 m 107 ls [.int 2, .ref q58, .ref q58, .ref x0]) rfl (b := q58) (argsL := [.int 2]) (rest := [.ref q58, .ref x0]) rfl rfl (by rw [hb]; exact (xb_d D_StackModule_init 54 rfl))) (ok_Row_init l hfl D A σ q58 2 h59 c63 sc63 _ hw) (hml.trans hl.1.symm) (by rw [hb]; exact (xb_d D_StackModule_init 54 rfl)) (Nat.le_of_ble_eq_true rfl) (Nat.le_of_ble_eq_true rfl) (Nat.le_of_ble_eq_true rfl) (show (((((((((((((((((k + 1) + c6) + 1) + c14) + 1) + c21) + 1) + c28) + 1) + c35) + 1) + c42) + 1) + c49) + 1) + c56) + 1) + c63 ≤ MC by omega) (show (((((((((((((((((n + 3) + sc6) + 3) + sc14) + 3) + sc21) + 3) + sc28) + 3) + sc35) + 3) + sc42) + 3) + sc49) + 3) + sc56) + 3) + sc63 ≤ MS by omega) (xt_w1 hB.1 m_3d9e18a6) (xt_cdOf hB.1 m_3d9e18a6) (hts _ m_c1bef504) hB hR hS hA (fun vv h61 H locs hq hEh61 hR hS => ?_) (fun XX ax h61 H locs hq hEh61 hex hR hS => ?_)
                  · obtain ⟨rfl, hw⟩ := hq
                    have hw := hw hEh61
                    have hE := hE.tr hEh61
                    refine W.eq (g2 := F0 m 110 ls [.ref q58, .ref x0]) rfl ?_
                    have hk7 : xb_k h57 x0 = 3 := by rw [eh57]; exact hk7
                    have hk7 : xb_k h59 x0 = 3 := by rw [eh59]; exact xb_nk hqq58 hk7
                    have hk7 : xb_k h61 x0 = 3 := hEh61.k hk7
                    refine xb_putPF (C := R_StackModule) (T := F_StackModule) (N := 19) (ty := .object "StackHost$Row") (x := (some q58)) hx hb 2 10 hts fin_StackModule t_StackModule t_StackModule_ok n_StackModule hown hR hS hk7 (by decide) rfl (by decide) rfl (hts _ m_cca3a0b5) (fun _ h9 => h9) rfl hnm rfl (by decide +kernel) (xb_pnO _ _).1 (xb_pnO _ _).2 (xb_d D_StackModule_init 55 rfl) (fun H locs hR hS => ?_)
                    obtain ⟨h64, eh64⟩ : ∃ x : xb_H, x = xb_P h61 x0 10 (some q58) := ⟨_, rfl⟩
                    rw [← eh64] at hR
                    have hw := hw h64 eh64
                    have hE : xb_ext h0 h64 := by rw [eh64]; exact hE
                    refine lv_aload_n hx hb (xb_d D_StackModule_init 56 rfl) rfl (lv_at hl 0 rfl) ?_
                    obtain ⟨hcq65, hsq65, hw⟩ := hw
                    refine xb_newo (C := R_Row) (T := F_Row) (N := 3) hx hb 1 hts fin_Row t_Row t_Row_ok hown (hts _ m_cf9255b9) (hts _ m_decbd935) (hts _ m_c1bef504) hR hS hA (by decide) rfl dg_Row (show ((((((((((((((((((k + 1) + c6) + 1) + c14) + 1) + c21) + 1) + c28) + 1) + c35) + 1) + c42) + 1) + c49) + 1) + c56) + 1) + c63) + 1 ≤ MC by omega) (show ((((((((((((((((((n + 3) + sc6) + 3) + sc14) + 3) + sc21) + 3) + sc28) + 3) + sc35) + 3) + sc42) + 3) + sc49) + 3) + sc56) + 3) + sc63) + 3 ≤ MS by omega) (xb_d D_StackModule_init 57 rfl) (fun q65 H hqq65 hR hS => ?_)
                    have hw := hw q65 hqq65
                    obtain ⟨h66, eh66⟩ : ∃ x : xb_H, x = xb_new h64 q65 2 0 := ⟨_, rfl⟩
                    rw [← eh66] at hR
                    have hw := hw h66 eh66
                    have hE : xb_ext h0 h66 := by rw [eh66]; exact hE.new _ _ hqq65
                    have hk67 : xb_k h66 q65 = 2 := by rw [eh66]; exact xb_new_k _ _ _ _
                    refine lv_dup hx hb (xb_d D_StackModule_init 58 rfl) rfl ?_
                    refine lv_iconst (v := 5) hx hb (xb_d D_StackModule_init 59 rfl) (by decide) ?_
                    obtain ⟨c70, sc70, hlc70, hlsc70, hw⟩ := hw
                    refine xb_call (D := D) (A := A) (σ := σ) (h := h66) (d := 2) (mc := c70) (ms := sc70) (maxL := 2) (rest := [.ref q65, .ref x0]) (av := [.ref q65, .int 5]) (fun T hT X => xt_invI X hx hown rfl (hts _ m_9c57bdbc) (hts _ m_16ca0e9f) (hts _ m_3d9e18a6) nm_Row_init (g := F0 m 119 ls [.int 5, .ref q65, .ref q65, .ref x0]) rfl (b := q65) (argsL := [.int 5]) (rest := [.ref q65, .ref x0]) rfl rfl (by rw [hb]; exact (xb_d D_StackModule_init 60 rfl))) (ok_Row_init l hfl D A σ q65 5 h66 c70 sc70 _ hw) (hml.trans hl.1.symm) (by rw [hb]; exact (xb_d D_StackModule_init 60 rfl)) (Nat.le_of_ble_eq_true rfl) (Nat.le_of_ble_eq_true rfl) (Nat.le_of_ble_eq_true rfl) (show (((((((((((((((((((k + 1) + c6) + 1) + c14) + 1) + c21) + 1) + c28) + 1) + c35) + 1) + c42) + 1) + c49) + 1) + c56) + 1) + c63) + 1) + c70 ≤ MC by omega) (show (((((((((((((((((((n + 3) + sc6) + 3) + sc14) + 3) + sc21) + 3) + sc28) + 3) + sc35) + 3) + sc42) + 3) + sc49) + 3) + sc56) + 3) + sc63) + 3) + sc70 ≤ MS by omega) (xt_w1 hB.1 m_3d9e18a6) (xt_cdOf hB.1 m_3d9e18a6) (hts _ m_c1bef504) hB hR hS hA (fun vv h68 H locs hq hEh68 hR hS => ?_) (fun XX ax h68 H locs hq hEh68 hex hR hS => ?_)
                    · obtain ⟨rfl, hw⟩ := hq
                      have hw := hw hEh68
                      have hE := hE.tr hEh68
                      refine W.eq (g2 := F0 m 122 ls [.ref q65, .ref x0]) rfl ?_
                      have hk7 : xb_k h64 x0 = 3 := by rw [eh64]; exact hk7
                      have hk7 : xb_k h66 x0 = 3 := by rw [eh66]; exact xb_nk hqq65 hk7
                      have hk7 : xb_k h68 x0 = 3 := hEh68.k hk7
                      refine xb_putPF (C := R_StackModule) (T := F_StackModule) (N := 19) (ty := .object "StackHost$Row") (x := (some q65)) hx hb 2 11 hts fin_StackModule t_StackModule t_StackModule_ok n_StackModule hown hR hS hk7 (by decide) rfl (by decide) rfl (hts _ m_a932e3c3) (fun _ h9 => h9) rfl hnm rfl (by decide +kernel) (xb_pnO _ _).1 (xb_pnO _ _).2 (xb_d D_StackModule_init 61 rfl) (fun H locs hR hS => ?_)
                      obtain ⟨h71, eh71⟩ : ∃ x : xb_H, x = xb_P h68 x0 11 (some q65) := ⟨_, rfl⟩
                      rw [← eh71] at hR
                      have hw := hw h71 eh71
                      have hE : xb_ext h0 h71 := by rw [eh71]; exact hE
                      refine lv_aload_n hx hb (xb_d D_StackModule_init 62 rfl) rfl (lv_at hl 0 rfl) ?_
                      obtain ⟨hcq72, hsq72, hw⟩ := hw
                      refine xb_newo (C := R_Row) (T := F_Row) (N := 3) hx hb 1 hts fin_Row t_Row t_Row_ok hown (hts _ m_cf9255b9) (hts _ m_decbd935) (hts _ m_c1bef504) hR hS hA (by decide) rfl dg_Row (show ((((((((((((((((((((k + 1) + c6) + 1) + c14) + 1) + c21) + 1) + c28) + 1) + c35) + 1) + c42) + 1) + c49) + 1) + c56) + 1) + c63) + 1) + c70) + 1 ≤ MC by omega) (show ((((((((((((((((((((n + 3) + sc6) + 3) + sc14) + 3) + sc21) + 3) + sc28) + 3) + sc35) + 3) + sc42) + 3) + sc49) + 3) + sc56) + 3) + sc63) + 3) + sc70) + 3 ≤ MS by omega) (xb_d D_StackModule_init 63 rfl) (fun q72 H hqq72 hR hS => ?_)
                      have hw := hw q72 hqq72
                      obtain ⟨h73, eh73⟩ : ∃ x : xb_H, x = xb_new h71 q72 2 0 := ⟨_, rfl⟩
                      rw [← eh73] at hR
                      have hw := hw h73 eh73
                      have hE : xb_ext h0 h73 := by rw [eh73]; exact hE.new _ _ hqq72
                      have hk74 : xb_k h73 q72 = 2 := by rw [eh73]; exact xb_new_k _ _ _ _
                      refine lv_dup hx hb (xb_d D_StackModule_init 64 rfl) rfl ?_
                      refine lv_iconst (v := 2) hx hb (xb_d D_StackModule_init 65 rfl) (by decide) ?_
                      obtain ⟨c77, sc77, hlc77, hlsc77, hw⟩ := hw
                      refine xb_call (D := D) (A := A) (σ := σ) (h := h73) (d := 2) (mc := c77) (ms := sc77) (maxL := 2) (rest := [.ref q72, .ref x0]) (av := [.ref q72, .int 2]) (fun T hT X => xt_invI X hx hown rfl (hts _ m_9c57bdbc) (hts _ m_16ca0e9f) (hts _ m_3d9e18a6) nm_Row_init (g := F0 m 131 ls [.int 2, .ref q72, .ref q72, .ref x0]) rfl (b := q72) (argsL := [.int 2]) (rest := [.ref q72, .ref x0]) rfl rfl (by rw [hb]; exact (xb_d D_StackModule_init 66 rfl))) (ok_Row_init l hfl D A σ q72 2 h73 c77 sc77 _ hw) (hml.trans hl.1.symm) (by rw [hb]; exact (xb_d D_StackModule_init 66 rfl)) (Nat.le_of_ble_eq_true rfl) (Nat.le_of_ble_eq_true rfl) (Nat.le_of_ble_eq_true rfl) (show (((((((((((((((((((((k + 1) + c6) + 1) + c14) + 1) + c21) + 1) + c28) + 1) + c35) + 1) + c42) + 1) + c49) + 1) + c56) + 1) + c63) + 1) + c70) + 1) + c77 ≤ MC by omega) (show (((((((((((((((((((((n + 3) + sc6) + 3) + sc14) + 3) + sc21) + 3) + sc28) + 3) + sc35) + 3) + sc42) + 3) + sc49) + 3) + sc56) + 3) + sc63) + 3) + sc70) + 3) + sc77 ≤ MS by omega) (xt_w1 hB.1 m_3d9e18a6) (xt_cdOf hB.1 m_3d9e18a6) (hts _ m_c1bef504) hB hR hS hA (fun vv h75 H locs hq hEh75 hR hS => ?_) (fun XX ax h75 H locs hq hEh75 hex hR hS => ?_)
                      · obtain ⟨rfl, hw⟩ := hq
                        have hw := hw hEh75
                        have hE := hE.tr hEh75
                        refine W.eq (g2 := F0 m 134 ls [.ref q72, .ref x0]) rfl ?_
                        have hk7 : xb_k h71 x0 = 3 := by rw [eh71]; exact hk7
                        have hk7 : xb_k h73 x0 = 3 := by rw [eh73]; exact xb_nk hqq72 hk7
                        have hk7 : xb_k h75 x0 = 3 := hEh75.k hk7
                        refine xb_putPF (C := R_StackModule) (T := F_StackModule) (N := 19) (ty := .object "StackHost$Row") (x := (some q72)) hx hb 2 12 hts fin_StackModule t_StackModule t_StackModule_ok n_StackModule hown hR hS hk7 (by decide) rfl (by decide) rfl (hts _ m_e5061392) (fun _ h9 => h9) rfl hnm rfl (by decide +kernel) (xb_pnO _ _).1 (xb_pnO _ _).2 (xb_d D_StackModule_init 67 rfl) (fun H locs hR hS => ?_)
                        obtain ⟨h78, eh78⟩ : ∃ x : xb_H, x = xb_P h75 x0 12 (some q72) := ⟨_, rfl⟩
                        rw [← eh78] at hR
                        have hw := hw h78 eh78
                        have hE : xb_ext h0 h78 := by rw [eh78]; exact hE
                        refine lv_aload_n hx hb (xb_d D_StackModule_init 68 rfl) rfl (lv_at hl 0 rfl) ?_
                        obtain ⟨hcq79, hsq79, hw⟩ := hw
                        refine xb_newo (C := R_Row) (T := F_Row) (N := 3) hx hb 1 hts fin_Row t_Row t_Row_ok hown (hts _ m_cf9255b9) (hts _ m_decbd935) (hts _ m_c1bef504) hR hS hA (by decide) rfl dg_Row (show ((((((((((((((((((((((k + 1) + c6) + 1) + c14) + 1) + c21) + 1) + c28) + 1) + c35) + 1) + c42) + 1) + c49) + 1) + c56) + 1) + c63) + 1) + c70) + 1) + c77) + 1 ≤ MC by omega) (show ((((((((((((((((((((((n + 3) + sc6) + 3) + sc14) + 3) + sc21) + 3) + sc28) + 3) + sc35) + 3) + sc42) + 3) + sc49) + 3) + sc56) + 3) + sc63) + 3) + sc70) + 3) + sc77) + 3 ≤ MS by omega) (xb_d D_StackModule_init 69 rfl) (fun q79 H hqq79 hR hS => ?_)
                        have hw := hw q79 hqq79
                        obtain ⟨h80, eh80⟩ : ∃ x : xb_H, x = xb_new h78 q79 2 0 := ⟨_, rfl⟩
                        rw [← eh80] at hR
                        have hw := hw h80 eh80
                        have hE : xb_ext h0 h80 := by rw [eh80]; exact hE.new _ _ hqq79
                        have hk81 : xb_k h80 q79 = 2 := by rw [eh80]; exact xb_new_k _ _ _ _
                        refine lv_dup hx hb (xb_d D_StackModule_init 70 rfl) rfl ?_
                        refine lv_iconst (v := 5) hx hb (xb_d D_StackModule_init 71 rfl) (by decide) ?_
                        obtain ⟨c84, sc84, hlc84, hlsc84, hw⟩ := hw
                        refine xb_call (D := D) (A := A) (σ := σ) (h := h80) (d := 2) (mc := c84) (ms := sc84) (maxL := 2) (rest := [.ref q79, .ref x0]) (av := [.ref q79, .int 5]) (fun T hT X => xt_invI X hx hown rfl (hts _ m_9c57bdbc) (hts _ m_16ca0e9f) (hts _ m_3d9e18a6) nm_Row_init (g := F0 m 143 ls [.int 5, .ref q79, .ref q79, .ref x0]) rfl (b := q79) (argsL := [.int 5]) (rest := [.ref q79, .ref x0]) rfl rfl (by rw [hb]; exact (xb_d D_StackModule_init 72 rfl))) (ok_Row_init l hfl D A σ q79 5 h80 c84 sc84 _ hw) (hml.trans hl.1.symm) (by rw [hb]; exact (xb_d D_StackModule_init 72 rfl)) (Nat.le_of_ble_eq_true rfl) (Nat.le_of_ble_eq_true rfl) (Nat.le_of_ble_eq_true rfl) (show (((((((((((((((((((((((k + 1) + c6) + 1) + c14) + 1) + c21) + 1) + c28) + 1) + c35) + 1) + c42) + 1) + c49) + 1) + c56) + 1) + c63) + 1) + c70) + 1) + c77) + 1) + c84 ≤ MC by omega) (show (((((((((((((((((((((((n + 3) + sc6) + 3) + sc14) + 3) + sc21) + 3) + sc28) + 3) + sc35) + 3) + sc42) + 3) + sc49) + 3) + sc56) + 3) + sc63) + 3) + sc70) + 3) + sc77) + 3) + sc84 ≤ MS by omega) (xt_w1 hB.1 m_3d9e18a6) (xt_cdOf hB.1 m_3d9e18a6) (hts _ m_c1bef504) hB hR hS hA (fun vv h82 H locs hq hEh82 hR hS => ?_) (fun XX ax h82 H locs hq hEh82 hex hR hS => ?_)
                        · obtain ⟨rfl, hw⟩ := hq
                          have hw := hw hEh82
                          have hE := hE.tr hEh82
                          refine W.eq (g2 := F0 m 146 ls [.ref q79, .ref x0]) rfl ?_
                          have hk7 : xb_k h78 x0 = 3 := by rw [eh78]; exact hk7
                          have hk7 : xb_k h80 x0 = 3 := by rw [eh80]; exact xb_nk hqq79 hk7
                          have hk7 : xb_k h82 x0 = 3 := hEh82.k hk7
                          refine xb_putPF (C := R_StackModule) (T := F_StackModule) (N := 19) (ty := .object "StackHost$Row") (x := (some q79)) hx hb 2 13 hts fin_StackModule t_StackModule t_StackModule_ok n_StackModule hown hR hS hk7 (by decide) rfl (by decide) rfl (hts _ m_d482c833) (fun _ h9 => h9) rfl hnm rfl (by decide +kernel) (xb_pnO _ _).1 (xb_pnO _ _).2 (xb_d D_StackModule_init 73 rfl) (fun H locs hR hS => ?_)
                          obtain ⟨h85, eh85⟩ : ∃ x : xb_H, x = xb_P h82 x0 13 (some q79) := ⟨_, rfl⟩
                          rw [← eh85] at hR
                          have hw := hw h85 eh85
                          have hE : xb_ext h0 h85 := by rw [eh85]; exact hE
                          refine lv_aload_n hx hb (xb_d D_StackModule_init 74 rfl) rfl (lv_at hl 0 rfl) ?_
                          refine lv_iconst (v := 4) hx hb (xb_d D_StackModule_init 75 rfl) (by decide) ?_
                          obtain ⟨hcq86, hsq86, hw⟩ := hw
                          have enq86 : (4 : Int32).toNatClampNeg = 4 := by decide
                          refine xb_newa_i hx hb (hts _ m_d160d5ac) hR hS hA (by decide) (by decide +kernel) (show ((((((((((((((((((((((((k + 1) + c6) + 1) + c14) + 1) + c21) + 1) + c28) + 1) + c35) + 1) + c42) + 1) + c49) + 1) + c56) + 1) + c63) + 1) + c70) + 1) + c77) + 1) + c84) + 1 ≤ MC by omega) (show ((((((((((((((((((((((((n + 3) + sc6) + 3) + sc14) + 3) + sc21) + 3) + sc28) + 3) + sc35) + 3) + sc42) + 3) + sc49) + 3) + sc56) + 3) + sc63) + 3) + sc70) + 3) + sc77) + 3) + sc84) + _ ≤ MS by rw [enq86]; omega) (xb_d D_StackModule_init 76 rfl) (fun q86 H hqq86 hR hS => ?_)
                          rw [enq86] at hR ⊢
                          have hw := hw q86 hqq86
                          obtain ⟨h87, eh87⟩ : ∃ x : xb_H, x = xb_new h85 q86 102 4 := ⟨_, rfl⟩
                          rw [← eh87] at hR
                          have hw := hw h87 eh87
                          have hE : xb_ext h0 h87 := by rw [eh87]; exact hE.new _ _ hqq86
                          have hk88 : xb_k h87 q86 = 102 := by rw [eh87]; exact xb_new_k _ _ _ _
                          have hk7 : xb_k h85 x0 = 3 := by rw [eh85]; exact hk7
                          have hk7 : xb_k h87 x0 = 3 := by rw [eh87]; exact xb_nk hqq86 hk7
                          refine xb_putPF (C := R_StackModule) (T := F_StackModule) (N := 19) (ty := .array .int) (x := (some q86)) hx hb 2 14 hts fin_StackModule t_StackModule t_StackModule_ok n_StackModule hown hR hS hk7 (by decide) rfl (by decide) rfl (hts _ m_bb4d7013) (fun _ h9 => h9) rfl hnm rfl (by decide +kernel) (xb_pnA _ _).1 (xb_pnA _ _).2 (xb_d D_StackModule_init 77 rfl) (fun H locs hR hS => ?_)
                          obtain ⟨h89, eh89⟩ : ∃ x : xb_H, x = xb_P h87 x0 14 (some q86) := ⟨_, rfl⟩
                          rw [← eh89] at hR
                          have hw := hw h89 eh89
                          have hE : xb_ext h0 h89 := by rw [eh89]; exact hE
                          refine lv_aload_n hx hb (xb_d D_StackModule_init 78 rfl) rfl (lv_at hl 0 rfl) ?_
                          refine lv_iconst (v := (-1)) hx hb (xb_d D_StackModule_init 79 rfl) (by decide) ?_
                          have hk7 : xb_k h89 x0 = 3 := by rw [eh89]; exact hk7
                          refine xb_putI (C := R_StackModule) (T := F_StackModule) (N := 19) (ty := .int) (x := (-1)) hx hb 2 15 hts fin_StackModule t_StackModule t_StackModule_ok n_StackModule hown hR hS hk7 (by decide) rfl (by decide) rfl (hts _ m_828ab96c) (fun _ h9 => h9) rfl (by decide +kernel) rfl rfl (xb_d D_StackModule_init 80 rfl) (fun H locs hR hS => ?_)
                          obtain ⟨h90, eh90⟩ : ∃ x : xb_H, x = xb_I h89 x0 15 (-1) := ⟨_, rfl⟩
                          rw [← eh90] at hR
                          have hw := hw h90 eh90
                          have hE : xb_ext h0 h90 := by rw [eh90]; exact hE
                          refine lv_aload_n hx hb (xb_d D_StackModule_init 81 rfl) rfl (lv_at hl 0 rfl) ?_
                          refine lv_iconst (v := (-1)) hx hb (xb_d D_StackModule_init 82 rfl) (by decide) ?_
                          have hk7 : xb_k h90 x0 = 3 := by rw [eh90]; exact hk7
                          refine xb_putI (C := R_StackModule) (T := F_StackModule) (N := 19) (ty := .int) (x := (-1)) hx hb 2 16 hts fin_StackModule t_StackModule t_StackModule_ok n_StackModule hown hR hS hk7 (by decide) rfl (by decide) rfl (hts _ m_29ea2f5d) (fun _ h9 => h9) rfl (by decide +kernel) rfl rfl (xb_d D_StackModule_init 83 rfl) (fun H locs hR hS => ?_)
                          obtain ⟨h91, eh91⟩ : ∃ x : xb_H, x = xb_I h90 x0 16 (-1) := ⟨_, rfl⟩
                          rw [← eh91] at hR
                          have hw := hw h91 eh91
                          have hE : xb_ext h0 h91 := by rw [eh91]; exact hE
                          refine lv_aload_n hx hb (xb_d D_StackModule_init 84 rfl) rfl (lv_at hl 0 rfl) ?_
                          refine lv_aload_n hx hb (xb_d D_StackModule_init 85 rfl) rfl (lv_at hl 1 rfl) ?_
                          have hk7 : xb_k h91 x0 = 3 := by rw [eh91]; exact hk7
                          refine xb_putPF (C := R_StackModule) (T := F_StackModule) (N := 19) (ty := .array .byte) (x := (some x1)) hx hb 2 0 hts fin_StackModule t_StackModule t_StackModule_ok n_StackModule hown hR hS hk7 (by decide) rfl (by decide) rfl (hts _ m_18969b14) (fun _ h9 => h9) rfl hnm rfl (by decide +kernel) (xb_pnA _ _).1 (xb_pnA _ _).2 (xb_d D_StackModule_init 86 rfl) (fun H locs hR hS => ?_)
                          obtain ⟨h92, eh92⟩ : ∃ x : xb_H, x = xb_P h91 x0 0 (some x1) := ⟨_, rfl⟩
                          rw [← eh92] at hR
                          have hw := hw h92 eh92
                          have hE : xb_ext h0 h92 := by rw [eh92]; exact hE
                          refine lv_aload_n hx hb (xb_d D_StackModule_init 87 rfl) rfl (lv_at hl 0 rfl) ?_
                          refine lv_aload_n hx hb (xb_d D_StackModule_init 88 rfl) rfl (lv_at hl 1 rfl) ?_
                          obtain ⟨hk93, hw⟩ := hw
                          refine xb_alen hx hb hR hk93 (by decide) (xb_d D_StackModule_init 89 rfl) ?_
                          obtain ⟨hnq94, hbq94, hcq94, hsq94, hw⟩ := hw
                          have enq94 : (Int32.toNatClampNeg (nI (xb_n h92 x1))) = (Int32.toNatClampNeg (nI (xb_n h92 x1))) := rfl
                          refine xb_newa_i hx hb (hts _ m_d160d5ac) hR hS hA hnq94 hbq94 (show (((((((((((((((((((((((((k + 1) + c6) + 1) + c14) + 1) + c21) + 1) + c28) + 1) + c35) + 1) + c42) + 1) + c49) + 1) + c56) + 1) + c63) + 1) + c70) + 1) + c77) + 1) + c84) + 1) + 1 ≤ MC by omega) (show (((((((((((((((((((((((((n + 3) + sc6) + 3) + sc14) + 3) + sc21) + 3) + sc28) + 3) + sc35) + 3) + sc42) + 3) + sc49) + 3) + sc56) + 3) + sc63) + 3) + sc70) + 3) + sc77) + 3) + sc84) + 4) + _ ≤ MS by rw [enq94]; omega) (xb_d D_StackModule_init 90 rfl) (fun q94 H hqq94 hR hS => ?_)
                          rw [enq94] at hR ⊢
                          have hw := hw q94 hqq94
                          obtain ⟨h95, eh95⟩ : ∃ x : xb_H, x = xb_new h92 q94 102 (Int32.toNatClampNeg (nI (xb_n h92 x1))) := ⟨_, rfl⟩
                          rw [← eh95] at hR
                          have hw := hw h95 eh95
                          have hE : xb_ext h0 h95 := by rw [eh95]; exact hE.new _ _ hqq94
                          have hk96 : xb_k h95 q94 = 102 := by rw [eh95]; exact xb_new_k _ _ _ _
                          have hk7 : xb_k h92 x0 = 3 := by rw [eh92]; exact hk7
                          have hk7 : xb_k h95 x0 = 3 := by rw [eh95]; exact xb_nk hqq94 hk7
                          refine xb_putPF (C := R_StackModule) (T := F_StackModule) (N := 19) (ty := .array .int) (x := (some q94)) hx hb 2 1 hts fin_StackModule t_StackModule t_StackModule_ok n_StackModule hown hR hS hk7 (by decide) rfl (by decide) rfl (hts _ m_790d7a2e) (fun _ h9 => h9) rfl hnm rfl (by decide +kernel) (xb_pnA _ _).1 (xb_pnA _ _).2 (xb_d D_StackModule_init 91 rfl) (fun H locs hR hS => ?_)
                          obtain ⟨h97, eh97⟩ : ∃ x : xb_H, x = xb_P h95 x0 1 (some q94) := ⟨_, rfl⟩
                          rw [← eh97] at hR
                          have hw := hw h97 eh97
                          have hE : xb_ext h0 h97 := by rw [eh97]; exact hE
                          exact xb_vret hx hb hr hlocks (show ((((((((((((((((((((((((((k + 1) + c6) + 1) + c14) + 1) + c21) + 1) + c28) + 1) + c35) + 1) + c42) + 1) + c49) + 1) + c56) + 1) + c63) + 1) + c70) + 1) + c77) + 1) + c84) + 1) + 1) ≤ MC by omega) (show ((((((((((((((((((((((((((n + 3) + sc6) + 3) + sc14) + 3) + sc21) + 3) + sc28) + 3) + sc35) + 3) + sc42) + 3) + sc49) + 3) + sc56) + 3) + sc63) + 3) + sc70) + 3) + sc77) + 3) + sc84) + 4) + (Int32.toNatClampNeg (nI (xb_n h92 x1)))) ≤ MS by omega) hE hR hS (xb_d D_StackModule_init 92 rfl) hw
                        · exact False.elim hq
                      · exact False.elim hq
                    · exact False.elim hq
                  · exact False.elim hq
                · exact False.elim hq
              · exact False.elim hq
            · exact False.elim hq
          · exact False.elim hq
        · exact False.elim hq
      · exact False.elim hq
    · exact False.elim hq
  · exact False.elim hq

theorem m_2fc63c70 : (.methodLink "StackHost$StackModule" 84 y_Row_at : Cond) ∈ xt_tbl := xt_in (xt_t4 (List.mem_of_getElem? (i := 147) (by decide +kernel))) (by decide +kernel)
theorem m_c75cb26b : (.methodLink "StackHost$StackModule" 88 y_StackModule_sameBytes : Cond) ∈ xt_tbl := xt_in (xt_t4 (List.mem_of_getElem? (i := 148) (by decide +kernel))) (by decide +kernel)
theorem m_60db31ff : (.static y_StackModule_sameBytes : Cond) ∈ xt_tbl := xt_in (xt_t4 (List.mem_of_getElem? (i := 149) (by decide +kernel))) (by decide +kernel)
theorem m_e49b5738 : (.code y_StackModule_sameBytes b_StackModule_sameBytes 6 (some .boolean) : Cond) ∈ xt_tbl := xt_in (xt_t4 (List.mem_of_getElem? (i := 150) (by decide +kernel))) (by decide +kernel)
theorem nm_StackModule_sameBytes : xt_nm y_StackModule_sameBytes 5 := ⟨by decide +kernel, by decide +kernel⟩
set_option maxRecDepth 100000 in
def T_StackModule_exportNamedBelow : List (Nat × Instr × Nat) := [(0, .iconst 0, 1), (1, .istore 5, 2), (3, .iload 5, 2), (5, .iload_n 1, 1), (6, .if_icmp .ge 51, 3), (9, .aload_n 0, 1), (10, .getfield 35, 3), (13, .iload 5, 2), (15, .iconst 4, 1), (16, .invokevirtual 84, 3), (19, .iload 4, 2), (21, .if_icmp .ne 30, 3), (24, .aload_n 0, 1), (25, .getfield 64, 3), (28, .aload_n 0, 1), (29, .getfield 35, 3), (32, .iload 5, 2), (34, .iconst 3, 1), (35, .invokevirtual 84, 3), (38, .aload_n 2, 1), (39, .iload_n 3, 1), (40, .iload 4, 2), (42, .invokestatic 88, 3), (45, .ifCond .eq 6, 3), (48, .iload 5, 2), (50, .ireturn, 1), (51, .iinc 5 1, 3), (54, .goto (-51), 3), (57, .iconst (-1), 1), (58, .ireturn, 1)]
theorem D_StackModule_exportNamedBelow : ∀ q ∈ T_StackModule_exportNamedBelow, decode b_StackModule_exportNamedBelow q.1 = .ok (q.2.1, q.2.2) := by decide +kernel
def w_StackModule_exportNamedBelow_L51 (K3 : Nat → Int32 → Nat → Int32 → Int32 → Int32 → xb_H → Prop) (Qr : Int32 → xb_H → Prop) (x0 : Nat) (x1 : Int32) (x2 : Nat) (x3 : Int32) (x4 : Int32) (x5 : Int32) (h : xb_H) : Prop :=
    K3 x0 x1 x2 x3 x4 (x5 + 1) h

def w_StackModule_exportNamedBelow_L3 (Qr : Int32 → xb_H → Prop) : Nat → Nat → Int32 → Nat → Int32 → Int32 → Int32 → xb_H → Prop
  | 0, _, _, _, _, _, _, _ => False
  | n9 + 1, x0, x1, x2, x3, x4, x5, h =>
    ((x1 ≤ x5 → Qr (-1) h) ∧ (¬ x1 ≤ x5 → xb_k h x0 = 3 ∧ ∃ b3 : Nat, (xb_r h x0 8) = some b3 ∧ xb_k h b3 = 2 ∧ w_Row_at b3 x5 4 h (fun (r6 : Int32) (h5 : xb_H) => xb_ext h h5 → ((¬ r6 = x4 → w_StackModule_exportNamedBelow_L51 (w_StackModule_exportNamedBelow_L3 Qr n9) Qr x0 x1 x2 x3 x4 x5 h5) ∧ (r6 = x4 → ∃ b8 : Nat, (xb_r h5 x0 0) = some b8 ∧ ∃ b9 : Nat, (xb_r h5 x0 8) = some b9 ∧ xb_k h5 b9 = 2 ∧ w_Row_at b9 x5 3 h5 (fun (r12 : Int32) (h11 : xb_H) => xb_ext h5 h11 → w_StackModule_sameBytes b8 r12 x2 x3 x4 h11 (fun (r14 : Int32) (h13 : xb_H) => xb_ext h11 h13 → ((r14 = (0 : Int32) → w_StackModule_exportNamedBelow_L51 (w_StackModule_exportNamedBelow_L3 Qr n9) Qr x0 x1 x2 x3 x4 x5 h13) ∧ (¬ r14 = (0 : Int32) → Qr x5 h13)))))))))

def w_StackModule_exportNamedBelow (x0 : Nat) (x1 : Int32) (x2 : Nat) (x3 : Int32) (x4 : Int32) (h : xb_H) (Qr : Int32 → xb_H → Prop) : Prop :=
    (∃ n8 : Nat, w_StackModule_exportNamedBelow_L3 Qr n8 x0 x1 x2 x3 x4 0 h)

set_option maxHeartbeats 4000000 in
set_option maxRecDepth 100000 in
theorem am_StackModule_exportNamedBelow_L51 (l : Launch) (hfl : l.flags = pinnedFlags ++ [noTraceFlag]) (D : va_G) (A : Nat → Prop) (σ MC MS : Nat) (h0 : xb_H) (Qr : Int32 → xb_H → Prop) (K3 : Nat → Int32 → Nat → Int32 → Int32 → Int32 → xb_H → Prop) (hK3 : ∀ (x0 : Nat) (x1 : Int32) (x2 : Nat) (x3 : Int32) (x4 : Int32) (x5 : Int32) (h : xb_H), K3 x0 x1 x2 x3 x4 x5 h → xb_am l D A σ 3 MC MS h0 (fun v h => ∃ r, v = some (.int r) ∧ Qr r h) (fun _ _ => False) y_StackModule_exportNamedBelow.cls y_StackModule_exportNamedBelow.name b_StackModule_exportNamedBelow 6 ([] : List ExceptionTableEntry) (some .int) 3 [(0, .ref x0), (1, .int x1), (2, .ref x2), (3, .int x3), (4, .int x4), (5, .int x5)] [] h 0 0) (x0 : Nat) (x1 : Int32) (x2 : Nat) (x3 : Int32) (x4 : Int32) (x5 : Int32) (h : xb_H) (hw : w_StackModule_exportNamedBelow_L51 K3 Qr x0 x1 x2 x3 x4 x5 h) : xb_am l D A σ 3 MC MS h0 (fun v h => ∃ r, v = some (.int r) ∧ Qr r h) (fun _ _ => False) y_StackModule_exportNamedBelow.cls y_StackModule_exportNamedBelow.name b_StackModule_exportNamedBelow 6 ([] : List ExceptionTableEntry) (some .int) 51 [(0, .ref x0), (1, .int x1), (2, .ref x2), (3, .int x3), (4, .int x4), (5, .int x5)] [] h 0 0 := by
  unfold w_StackModule_exportNamedBelow_L51 at hw
  intro p e s m args below meth c hC H locs ls k n hE hl hR hS hk hn
  obtain ⟨hx, hb, hown, hlocks, htab, hml, hr, hB, hA, hnm⟩ := id hC
  have hts := hB.1.1.at args
  refine lv_iinc (v := (x5 + 1)) (k := 5) hx hb (xb_d D_StackModule_exportNamedBelow 26 rfl) hl rfl (by first | rfl | decide) (by decide) rfl (fun ls hl => ?_)
  have hl : lv_has ls 6 [(5, .int (x5 + 1)), (0, .ref x0), (1, .int x1), (2, .ref x2), (3, .int x3), (4, .int x4)] := hl
  refine lv_goto (tgt := 3) hx hb (xb_d D_StackModule_exportNamedBelow 27 rfl) rfl ?_
  exact hK3 x0 x1 x2 x3 x4 (x5 + 1) h hw p e s m args below meth c hC H locs ls k n hE (lv_sub hl [1, 2, 3, 4, 5, 0] rfl) hR hS (by omega) (by omega)

set_option maxHeartbeats 4000000 in
set_option maxRecDepth 100000 in
theorem am_StackModule_exportNamedBelow_L3 (l : Launch) (hfl : l.flags = pinnedFlags ++ [noTraceFlag]) (D : va_G) (A : Nat → Prop) (σ MC MS : Nat) (h0 : xb_H) (Qr : Int32 → xb_H → Prop) (n9 : Nat) : ∀ (x0 : Nat) (x1 : Int32) (x2 : Nat) (x3 : Int32) (x4 : Int32) (x5 : Int32) (h : xb_H), w_StackModule_exportNamedBelow_L3 Qr n9 x0 x1 x2 x3 x4 x5 h → xb_am l D A σ 3 MC MS h0 (fun v h => ∃ r, v = some (.int r) ∧ Qr r h) (fun _ _ => False) y_StackModule_exportNamedBelow.cls y_StackModule_exportNamedBelow.name b_StackModule_exportNamedBelow 6 ([] : List ExceptionTableEntry) (some .int) 3 [(0, .ref x0), (1, .int x1), (2, .ref x2), (3, .int x3), (4, .int x4), (5, .int x5)] [] h 0 0 := by
  induction n9 with
  | zero => intro x0 x1 x2 x3 x4 x5 h hw; exact False.elim hw
  | succ n9 ih =>
    intro x0 x1 x2 x3 x4 x5 h hw
    unfold w_StackModule_exportNamedBelow_L3 at hw
    intro p e s m args below meth c hC H locs ls k n hE hl hR hS hk hn
    obtain ⟨hx, hb, hown, hlocks, htab, hml, hr, hB, hA, hnm⟩ := id hC
    have hts := hB.1.1.at args
    refine lv_iload hx hb (xb_d D_StackModule_exportNamedBelow 2 rfl) (lv_at hl 5 rfl) ?_
    refine lv_iload_n hx hb (xb_d D_StackModule_exportNamedBelow 3 rfl) rfl (lv_at hl 1 rfl) ?_
    refine lv_icmp_ge (tgt := 57) hx hb (xb_d D_StackModule_exportNamedBelow 4 rfl) rfl (fun hc1 => ?_) (fun hc1 => ?_)
    · have hw := hw.1 hc1
      refine lv_iconst (v := (-1)) hx hb (xb_d D_StackModule_exportNamedBelow 28 rfl) (by decide) ?_
      exact xb_iret hx hb hr hlocks (show k ≤ MC by omega) (show n ≤ MS by omega) hE hR hS (xb_d D_StackModule_exportNamedBelow 29 rfl) hw
    · have hw := hw.2 hc1
      refine lv_aload_n hx hb (xb_d D_StackModule_exportNamedBelow 5 rfl) rfl (lv_at hl 0 rfl) ?_
      obtain ⟨hk2, hw⟩ := hw
      refine xb_getP (C := R_StackModule) (T := F_StackModule) (N := 19) hx hb 2 8 hts fin_StackModule hown hR hk2 (by decide) rfl (by decide) rfl (hts _ m_d9eb608a) (fun _ h9 => h9) (xb_d D_StackModule_exportNamedBelow 6 rfl) ?_
      obtain ⟨b3, eb3, hw⟩ := hw
      refine xb_some eb3 ?_
      refine lv_iload hx hb (xb_d D_StackModule_exportNamedBelow 7 rfl) (lv_at hl 5 rfl) ?_
      refine lv_iconst (v := 4) hx hb (xb_d D_StackModule_exportNamedBelow 8 rfl) (by decide) ?_
      obtain ⟨hk4, hw⟩ := hw
      refine xb_call (D := D) (A := A) (σ := σ) (h := h) (d := 2) (mc := 0) (ms := 0) (maxL := 3) (rest := []) (av := [.ref b3, .int x5, .int 4]) (fun T hT X => by obtain ⟨cb, r1, r2, r3⟩ := xb_recv (ci := 1) hR rfl hk4 (by decide); exact xt_invV X hx hown (hts _ m_2fc63c70) (hts _ m_8e233096) (hts _ m_27eed10c) (xt_sigOf (hts _ m_ff1c70ae)) nm_Row_at (by rw [hT]; exact r1) r2 r3 (g := F0 m 16 ls [.int 4, .int x5, .ref b3]) rfl (argsL := [.int x5, .int 4]) (rest := []) rfl rfl (by rw [hb]; exact (xb_d D_StackModule_exportNamedBelow 9 rfl))) (ok_Row_at l hfl D A σ b3 x5 4 h _ hw) (hml.trans hl.1.symm) (by rw [hb]; exact (xb_d D_StackModule_exportNamedBelow 9 rfl)) (Nat.le_of_ble_eq_true rfl) (Nat.le_of_ble_eq_true rfl) (Nat.le_of_ble_eq_true rfl) (show k + 0 ≤ MC by omega) (show n + 0 ≤ MS by omega) (xt_w1 hB.1 m_ff1c70ae) (xt_cdOf hB.1 m_ff1c70ae) (hts _ m_c1bef504) hB hR hS hA (fun vv h5 H locs hq hEh5 hR hS => ?_) (fun XX ax h5 H locs hq hEh5 hex hR hS => ?_)
      · obtain ⟨r6, rfl, hw⟩ := hq
        have hw := hw hEh5
        have hE := hE.tr hEh5
        refine W.eq (g2 := F0 m 19 ls [.int r6]) rfl ?_
        refine lv_iload hx hb (xb_d D_StackModule_exportNamedBelow 10 rfl) (lv_at hl 4 rfl) ?_
        refine lv_icmp_ne (tgt := 51) hx hb (xb_d D_StackModule_exportNamedBelow 11 rfl) rfl (fun hc7 => ?_) (fun hc7 => ?_)
        · have hw := hw.1 hc7
          exact am_StackModule_exportNamedBelow_L51 l hfl D A σ MC MS h0 Qr (w_StackModule_exportNamedBelow_L3 Qr n9) ih x0 x1 x2 x3 x4 x5 h5 hw p e s m args below meth c hC H locs ls k n hE (lv_sub hl [0, 1, 2, 3, 4, 5] rfl) hR hS (by omega) (by omega)
        · have hw := hw.2 hc7
          refine lv_aload_n hx hb (xb_d D_StackModule_exportNamedBelow 12 rfl) rfl (lv_at hl 0 rfl) ?_
          have hk2 : xb_k h5 x0 = 3 := hEh5.k hk2
          refine xb_getP (C := R_StackModule) (T := F_StackModule) (N := 19) hx hb 2 0 hts fin_StackModule hown hR hk2 (by decide) rfl (by decide) rfl (hts _ m_18969b14) (fun _ h9 => h9) (xb_d D_StackModule_exportNamedBelow 13 rfl) ?_
          obtain ⟨b8, eb8, hw⟩ := hw
          refine xb_some eb8 ?_
          refine lv_aload_n hx hb (xb_d D_StackModule_exportNamedBelow 14 rfl) rfl (lv_at hl 0 rfl) ?_
          refine xb_getP (C := R_StackModule) (T := F_StackModule) (N := 19) hx hb 2 8 hts fin_StackModule hown hR hk2 (by decide) rfl (by decide) rfl (hts _ m_d9eb608a) (fun _ h9 => h9) (xb_d D_StackModule_exportNamedBelow 15 rfl) ?_
          obtain ⟨b9, eb9, hw⟩ := hw
          refine xb_some eb9 ?_
          refine lv_iload hx hb (xb_d D_StackModule_exportNamedBelow 16 rfl) (lv_at hl 5 rfl) ?_
          refine lv_iconst (v := 3) hx hb (xb_d D_StackModule_exportNamedBelow 17 rfl) (by decide) ?_
          obtain ⟨hk10, hw⟩ := hw
          refine xb_call (D := D) (A := A) (σ := σ) (h := h5) (d := 2) (mc := 0) (ms := 0) (maxL := 3) (rest := [.ref b8]) (av := [.ref b9, .int x5, .int 3]) (fun T hT X => by obtain ⟨cb, r1, r2, r3⟩ := xb_recv (ci := 1) hR rfl hk10 (by decide); exact xt_invV X hx hown (hts _ m_2fc63c70) (hts _ m_8e233096) (hts _ m_27eed10c) (xt_sigOf (hts _ m_ff1c70ae)) nm_Row_at (by rw [hT]; exact r1) r2 r3 (g := F0 m 35 ls [.int 3, .int x5, .ref b9, .ref b8]) rfl (argsL := [.int x5, .int 3]) (rest := [.ref b8]) rfl rfl (by rw [hb]; exact (xb_d D_StackModule_exportNamedBelow 18 rfl))) (ok_Row_at l hfl D A σ b9 x5 3 h5 _ hw) (hml.trans hl.1.symm) (by rw [hb]; exact (xb_d D_StackModule_exportNamedBelow 18 rfl)) (Nat.le_of_ble_eq_true rfl) (Nat.le_of_ble_eq_true rfl) (Nat.le_of_ble_eq_true rfl) (show k + 0 ≤ MC by omega) (show n + 0 ≤ MS by omega) (xt_w1 hB.1 m_ff1c70ae) (xt_cdOf hB.1 m_ff1c70ae) (hts _ m_c1bef504) hB hR hS hA (fun vv h11 H locs hq hEh11 hR hS => ?_) (fun XX ax h11 H locs hq hEh11 hex hR hS => ?_)
          · obtain ⟨r12, rfl, hw⟩ := hq
            have hw := hw hEh11
            have hE := hE.tr hEh11
            refine W.eq (g2 := F0 m 38 ls [.int r12, .ref b8]) rfl ?_
            refine lv_aload_n hx hb (xb_d D_StackModule_exportNamedBelow 19 rfl) rfl (lv_at hl 2 rfl) ?_
            refine lv_iload_n hx hb (xb_d D_StackModule_exportNamedBelow 20 rfl) rfl (lv_at hl 3 rfl) ?_
            refine lv_iload hx hb (xb_d D_StackModule_exportNamedBelow 21 rfl) (lv_at hl 4 rfl) ?_
            refine xb_call (D := D) (A := A) (σ := σ) (h := h11) (d := 2) (mc := 0) (ms := 0) (maxL := 6) (rest := []) (av := [.ref b8, .int r12, .ref x2, .int x3, .int x4]) (fun T hT X => xt_invS X hx hown (hts _ m_c75cb26b) (hts _ m_60db31ff) (hts _ m_9c375545) (xt_sgS (hts _ m_e49b5738)).1 (xt_sgS (hts _ m_e49b5738)).2 nm_StackModule_sameBytes (g := F0 m 42 ls [.int x4, .int x3, .ref x2, .int r12, .ref b8]) rfl (argsL := [.ref b8, .int r12, .ref x2, .int x3, .int x4]) (rest := []) rfl rfl (by rw [hb]; exact (xb_d D_StackModule_exportNamedBelow 22 rfl))) (ok_StackModule_sameBytes l hfl D A σ b8 r12 x2 x3 x4 h11 _ hw) (hml.trans hl.1.symm) (by rw [hb]; exact (xb_d D_StackModule_exportNamedBelow 22 rfl)) (Nat.le_of_ble_eq_true rfl) (Nat.le_of_ble_eq_true rfl) (Nat.le_of_ble_eq_true rfl) (show k + 0 ≤ MC by omega) (show n + 0 ≤ MS by omega) (xt_w1 hB.1 m_e49b5738) (xt_cdOf hB.1 m_e49b5738) (hts _ m_9c375545) hB hR hS hA (fun vv h13 H locs hq hEh13 hR hS => ?_) (fun XX ax h13 H locs hq hEh13 hex hR hS => ?_)
            · obtain ⟨r14, rfl, hw⟩ := hq
              have hw := hw hEh13
              have hE := hE.tr hEh13
              refine W.eq (g2 := F0 m 45 ls [.int r14]) rfl ?_
              refine lv_if_eq (tgt := 51) hx hb (xb_d D_StackModule_exportNamedBelow 23 rfl) rfl (fun hc15 => ?_) (fun hc15 => ?_)
              · have hw := hw.1 hc15
                exact am_StackModule_exportNamedBelow_L51 l hfl D A σ MC MS h0 Qr (w_StackModule_exportNamedBelow_L3 Qr n9) ih x0 x1 x2 x3 x4 x5 h13 hw p e s m args below meth c hC H locs ls k n hE (lv_sub hl [0, 1, 2, 3, 4, 5] rfl) hR hS (by omega) (by omega)
              · have hw := hw.2 hc15
                refine lv_iload hx hb (xb_d D_StackModule_exportNamedBelow 24 rfl) (lv_at hl 5 rfl) ?_
                exact xb_iret hx hb hr hlocks (show k ≤ MC by omega) (show n ≤ MS by omega) hE hR hS (xb_d D_StackModule_exportNamedBelow 25 rfl) hw
            · exact False.elim hq
          · exact False.elim hq
      · exact False.elim hq

set_option maxHeartbeats 4000000 in
set_option maxRecDepth 100000 in
theorem ok_StackModule_exportNamedBelow (l : Launch) (hfl : l.flags = pinnedFlags ++ [noTraceFlag]) (D : va_G) (A : Nat → Prop) (σ : Nat) (x0 : Nat) (x1 : Int32) (x2 : Nat) (x3 : Int32) (x4 : Int32) (h : xb_H) (Qr : Int32 → xb_H → Prop) (hw : w_StackModule_exportNamedBelow x0 x1 x2 x3 x4 h Qr) : xt_Met l y_StackModule_exportNamedBelow [.code y_StackModule_exportNamedBelow b_StackModule_exportNamedBelow 6 (some .int)] (xb_rm 3 0 0) (xb_Pc D A σ h [.ref x0, .int x1, .ref x2, .int x3, .int x4]) (xb_Qc D A h (fun v h => ∃ r, v = some (.int r) ∧ Qr r h) (fun _ _ => False)) 0 0 A := by
  refine xb_ofAm (cc := b_StackModule_exportNamedBelow) (by decide) (Nat.le_of_ble_eq_true rfl) ?_
  unfold w_StackModule_exportNamedBelow at hw
  show xb_am l D A σ 3 0 0 h (fun v h => ∃ r, v = some (.int r) ∧ Qr r h) (fun _ _ => False) y_StackModule_exportNamedBelow.cls y_StackModule_exportNamedBelow.name b_StackModule_exportNamedBelow 6 ([] : List ExceptionTableEntry) (some .int) 0 [(0, .ref x0), (1, .int x1), (2, .ref x2), (3, .int x3), (4, .int x4)] [] h 0 0
  obtain ⟨MC, hMC⟩ : ∃ x, x = 0 := ⟨_, rfl⟩
  obtain ⟨MS, hMS⟩ : ∃ x, x = 0 := ⟨_, rfl⟩
  rw [show xb_am l D A σ 3 0 0 = xb_am l D A σ 3 MC MS by rw [hMC, hMS]]
  obtain ⟨h0, hh0⟩ : ∃ x, x = h := ⟨_, rfl⟩
  rw [show xb_am l D A σ 3 MC MS h = xb_am l D A σ 3 MC MS h0 by rw [hh0]]
  intro p e s m args below meth c hC H locs ls k n hE hl hR hS hk hn
  obtain ⟨hx, hb, hown, hlocks, htab, hml, hr, hB, hA, hnm⟩ := id hC
  have hts := hB.1.1.at args
  refine lv_iconst (v := 0) hx hb (xb_d D_StackModule_exportNamedBelow 0 rfl) (by decide) ?_
  refine lv_istore hx hb (xb_d D_StackModule_exportNamedBelow 1 rfl) hl (by decide) rfl (fun ls hl => ?_)
  have hl : lv_has ls 6 [(5, .int 0), (0, .ref x0), (1, .int x1), (2, .ref x2), (3, .int x3), (4, .int x4)] := hl
  obtain ⟨n8, hw⟩ := hw
  exact am_StackModule_exportNamedBelow_L3 l hfl D A σ MC MS h0 Qr n8 x0 x1 x2 x3 x4 0 h hw p e s m args below meth c hC H locs ls k n hE (lv_sub hl [1, 2, 3, 4, 5, 0] rfl) hR hS (by omega) (by omega)

set_option maxRecDepth 100000 in
def T_StackModule_hasResult : List (Nat × Instr × Nat) := [(0, .aload_n 0, 1), (1, .getfield 14, 3), (4, .iload_n 1, 1), (5, .iconst 4, 1), (6, .invokevirtual 84, 3), (9, .bipush 64, 2), (11, .if_icmp .eq 7, 3), (14, .iconst 1, 1), (15, .goto 4, 3), (18, .iconst 0, 1), (19, .ireturn, 1)]
theorem D_StackModule_hasResult : ∀ q ∈ T_StackModule_hasResult, decode b_StackModule_hasResult q.1 = .ok (q.2.1, q.2.2) := by decide +kernel
def w_StackModule_hasResult_L19 (Qr : Int32 → xb_H → Prop) (y0 : Int32) (h : xb_H) : Prop :=
    (y0 = 0 ∨ y0 = 1) ∧ Qr y0 h

def w_StackModule_hasResult (x0 : Nat) (x1 : Int32) (h : xb_H) (Qr : Int32 → xb_H → Prop) : Prop :=
    xb_k h x0 = 3 ∧ ∃ b2 : Nat, (xb_r h x0 2) = some b2 ∧ xb_k h b2 = 2 ∧ w_Row_at b2 x1 4 h (fun (r5 : Int32) (h4 : xb_H) => xb_ext h h4 → ((r5 = (64 : Int32) → w_StackModule_hasResult_L19 Qr 0 h4) ∧ (¬ r5 = (64 : Int32) → w_StackModule_hasResult_L19 Qr 1 h4)))

set_option maxHeartbeats 4000000 in
set_option maxRecDepth 100000 in
theorem am_StackModule_hasResult_L19 (l : Launch) (hfl : l.flags = pinnedFlags ++ [noTraceFlag]) (D : va_G) (A : Nat → Prop) (σ MC MS : Nat) (h0 : xb_H) (Qr : Int32 → xb_H → Prop) (y0 : Int32) (h : xb_H) (hw : w_StackModule_hasResult_L19 Qr y0 h) : xb_am l D A σ 3 MC MS h0 (fun v h => ∃ r, v = some (.int r) ∧ Qr r h) (fun _ _ => False) y_StackModule_hasResult.cls y_StackModule_hasResult.name b_StackModule_hasResult 2 ([] : List ExceptionTableEntry) (some .boolean) 19 [] [.int y0] h 0 0 := by
  unfold w_StackModule_hasResult_L19 at hw
  intro p e s m args below meth c hC H locs ls k n hE hl hR hS hk hn
  obtain ⟨hx, hb, hown, hlocks, htab, hml, hr, hB, hA, hnm⟩ := id hC
  have hts := hB.1.1.at args
  exact xb_zret hx hb hr hlocks (show k ≤ MC by omega) (show n ≤ MS by omega) hw.1 hE hR hS (xb_d D_StackModule_hasResult 10 rfl) hw.2

set_option maxHeartbeats 4000000 in
set_option maxRecDepth 100000 in
theorem ok_StackModule_hasResult (l : Launch) (hfl : l.flags = pinnedFlags ++ [noTraceFlag]) (D : va_G) (A : Nat → Prop) (σ : Nat) (x0 : Nat) (x1 : Int32) (h : xb_H) (Qr : Int32 → xb_H → Prop) (hw : w_StackModule_hasResult x0 x1 h Qr) : xt_Met l y_StackModule_hasResult [.code y_StackModule_hasResult b_StackModule_hasResult 2 (some .boolean)] (xb_rm 3 0 0) (xb_Pc D A σ h [.ref x0, .int x1]) (xb_Qc D A h (fun v h => ∃ r, v = some (.int r) ∧ Qr r h) (fun _ _ => False)) 0 0 A := by
  refine xb_ofAm (cc := b_StackModule_hasResult) (by decide) (Nat.le_of_ble_eq_true rfl) ?_
  unfold w_StackModule_hasResult at hw
  show xb_am l D A σ 3 0 0 h (fun v h => ∃ r, v = some (.int r) ∧ Qr r h) (fun _ _ => False) y_StackModule_hasResult.cls y_StackModule_hasResult.name b_StackModule_hasResult 2 ([] : List ExceptionTableEntry) (some .boolean) 0 [(0, .ref x0), (1, .int x1)] [] h 0 0
  obtain ⟨MC, hMC⟩ : ∃ x, x = 0 := ⟨_, rfl⟩
  obtain ⟨MS, hMS⟩ : ∃ x, x = 0 := ⟨_, rfl⟩
  rw [show xb_am l D A σ 3 0 0 = xb_am l D A σ 3 MC MS by rw [hMC, hMS]]
  obtain ⟨h0, hh0⟩ : ∃ x, x = h := ⟨_, rfl⟩
  rw [show xb_am l D A σ 3 MC MS h = xb_am l D A σ 3 MC MS h0 by rw [hh0]]
  intro p e s m args below meth c hC H locs ls k n hE hl hR hS hk hn
  obtain ⟨hx, hb, hown, hlocks, htab, hml, hr, hB, hA, hnm⟩ := id hC
  have hts := hB.1.1.at args
  refine lv_aload_n hx hb (xb_d D_StackModule_hasResult 0 rfl) rfl (lv_at hl 0 rfl) ?_
  obtain ⟨hk1, hw⟩ := hw
  refine xb_getP (C := R_StackModule) (T := F_StackModule) (N := 19) hx hb 2 2 hts fin_StackModule hown hR hk1 (by decide) rfl (by decide) rfl (hts _ m_b7ec8f62) (fun _ h9 => h9) (xb_d D_StackModule_hasResult 1 rfl) ?_
  obtain ⟨b2, eb2, hw⟩ := hw
  refine xb_some eb2 ?_
  refine lv_iload_n hx hb (xb_d D_StackModule_hasResult 2 rfl) rfl (lv_at hl 1 rfl) ?_
  refine lv_iconst (v := 4) hx hb (xb_d D_StackModule_hasResult 3 rfl) (by decide) ?_
  obtain ⟨hk3, hw⟩ := hw
  refine xb_call (D := D) (A := A) (σ := σ) (h := h) (d := 2) (mc := 0) (ms := 0) (maxL := 3) (rest := []) (av := [.ref b2, .int x1, .int 4]) (fun T hT X => by obtain ⟨cb, r1, r2, r3⟩ := xb_recv (ci := 1) hR rfl hk3 (by decide); exact xt_invV X hx hown (hts _ m_2fc63c70) (hts _ m_8e233096) (hts _ m_27eed10c) (xt_sigOf (hts _ m_ff1c70ae)) nm_Row_at (by rw [hT]; exact r1) r2 r3 (g := F0 m 6 ls [.int 4, .int x1, .ref b2]) rfl (argsL := [.int x1, .int 4]) (rest := []) rfl rfl (by rw [hb]; exact (xb_d D_StackModule_hasResult 4 rfl))) (ok_Row_at l hfl D A σ b2 x1 4 h _ hw) (hml.trans hl.1.symm) (by rw [hb]; exact (xb_d D_StackModule_hasResult 4 rfl)) (Nat.le_of_ble_eq_true rfl) (Nat.le_of_ble_eq_true rfl) (Nat.le_of_ble_eq_true rfl) (show k + 0 ≤ MC by omega) (show n + 0 ≤ MS by omega) (xt_w1 hB.1 m_ff1c70ae) (xt_cdOf hB.1 m_ff1c70ae) (hts _ m_c1bef504) hB hR hS hA (fun vv h4 H locs hq hEh4 hR hS => ?_) (fun XX ax h4 H locs hq hEh4 hex hR hS => ?_)
  · obtain ⟨r5, rfl, hw⟩ := hq
    have hw := hw hEh4
    have hE := hE.tr hEh4
    refine W.eq (g2 := F0 m 9 ls [.int r5]) rfl ?_
    refine lv_bipush (v := 64) hx hb (xb_d D_StackModule_hasResult 5 rfl) (by decide) ?_
    refine lv_icmp_eq (tgt := 18) hx hb (xb_d D_StackModule_hasResult 6 rfl) rfl (fun hc6 => ?_) (fun hc6 => ?_)
    · have hw := hw.1 hc6
      refine lv_iconst (v := 0) hx hb (xb_d D_StackModule_hasResult 9 rfl) (by decide) ?_
      exact am_StackModule_hasResult_L19 l hfl D A σ MC MS h0 Qr 0 h4 hw p e s m args below meth c hC H locs ls k n hE (lv_sub hl [] rfl) hR hS (by omega) (by omega)
    · have hw := hw.2 hc6
      refine lv_iconst (v := 1) hx hb (xb_d D_StackModule_hasResult 7 rfl) (by decide) ?_
      refine lv_goto (tgt := 19) hx hb (xb_d D_StackModule_hasResult 8 rfl) rfl ?_
      exact am_StackModule_hasResult_L19 l hfl D A σ MC MS h0 Qr 1 h4 hw p e s m args below meth c hC H locs ls k n hE (lv_sub hl [] rfl) hR hS (by omega) (by omega)
  · exact False.elim hq

theorem m_df1a1f74 : (.methodLink "StackHost$StackModule" 100 y_Reader_shapeOf : Cond) ∈ xt_tbl := xt_in (xt_t6 (List.mem_of_getElem? (i := 51) (by decide +kernel))) (by decide +kernel)
theorem m_9eb17383 : (.static y_Reader_shapeOf : Cond) ∈ xt_tbl := xt_in (xt_t4 (List.mem_of_getElem? (i := 32) (by decide +kernel))) (by decide +kernel)
theorem m_1e1b68a2 : (.code y_Reader_shapeOf b_Reader_shapeOf 1 (some .int) : Cond) ∈ xt_tbl := xt_in (xt_t4 (List.mem_of_getElem? (i := 33) (by decide +kernel))) (by decide +kernel)
theorem nm_Reader_shapeOf : xt_nm y_Reader_shapeOf 1 := ⟨by decide +kernel, by decide +kernel⟩
set_option maxRecDepth 100000 in
def T_StackModule_nextPlace : List (Nat × Instr × Nat) := [(0, .aload_n 0, 1), (1, .getfield 64, 3), (4, .iload_n 1, 1), (5, .baload, 1), (6, .sipush 255, 3), (9, .iand, 1), (10, .invokestatic 100, 3), (13, .tableswitch 39 0 3 #[31, 35, 31, 31], 31), (44, .iload_n 1, 1), (45, .iconst 1, 1), (46, .iadd, 1), (47, .ireturn, 1), (48, .iload_n 1, 1), (49, .iconst 2, 1), (50, .iadd, 1), (51, .ireturn, 1), (52, .aload_n 0, 1), (53, .getfield 68, 3), (56, .iload_n 1, 1), (57, .iaload, 1), (58, .ireturn, 1)]
theorem D_StackModule_nextPlace : ∀ q ∈ T_StackModule_nextPlace, decode b_StackModule_nextPlace q.1 = .ok (q.2.1, q.2.2) := by decide +kernel
def w_StackModule_nextPlace_L44 (Qr : Int32 → xb_H → Prop) (x1 : Int32) (h : xb_H) : Prop :=
    Qr (x1 + 1) h

def w_StackModule_nextPlace (x0 : Nat) (x1 : Int32) (h : xb_H) (Qr : Int32 → xb_H → Prop) : Prop :=
    xb_k h x0 = 3 ∧ ∃ b2 : Nat, (xb_r h x0 0) = some b2 ∧ xb_k h b2 = 100 ∧ vp_in x1 (xb_n h b2) ∧ w_Reader_shapeOf ((xb_i h b2 (Int32.toNatClampNeg x1)) &&& 255) h (fun (r6 : Int32) (h5 : xb_H) => xb_ext h h5 → ((r6 = 0 → w_StackModule_nextPlace_L44 Qr x1 h5) ∧ (r6 = 1 → Qr (x1 + 2) h5) ∧ (r6 = 2 → w_StackModule_nextPlace_L44 Qr x1 h5) ∧ (r6 = 3 → w_StackModule_nextPlace_L44 Qr x1 h5) ∧ (¬ r6 = 0 → ¬ r6 = 1 → ¬ r6 = 2 → ¬ r6 = 3 → ∃ b11 : Nat, (xb_r h5 x0 1) = some b11 ∧ xb_k h5 b11 = 102 ∧ vp_in x1 (xb_n h5 b11) ∧ Qr (xb_i h5 b11 (Int32.toNatClampNeg x1)) h5)))

set_option maxHeartbeats 4000000 in
set_option maxRecDepth 100000 in
theorem am_StackModule_nextPlace_L44 (l : Launch) (hfl : l.flags = pinnedFlags ++ [noTraceFlag]) (D : va_G) (A : Nat → Prop) (σ MC MS : Nat) (h0 : xb_H) (Qr : Int32 → xb_H → Prop) (x1 : Int32) (h : xb_H) (hw : w_StackModule_nextPlace_L44 Qr x1 h) : xb_am l D A σ 3 MC MS h0 (fun v h => ∃ r, v = some (.int r) ∧ Qr r h) (fun _ _ => False) y_StackModule_nextPlace.cls y_StackModule_nextPlace.name b_StackModule_nextPlace 2 ([] : List ExceptionTableEntry) (some .int) 44 [(1, .int x1)] [] h 0 0 := by
  unfold w_StackModule_nextPlace_L44 at hw
  intro p e s m args below meth c hC H locs ls k n hE hl hR hS hk hn
  obtain ⟨hx, hb, hown, hlocks, htab, hml, hr, hB, hA, hnm⟩ := id hC
  have hts := hB.1.1.at args
  refine lv_iload_n hx hb (xb_d D_StackModule_nextPlace 8 rfl) rfl (lv_at hl 0 rfl) ?_
  refine lv_iconst (v := 1) hx hb (xb_d D_StackModule_nextPlace 9 rfl) (by decide) ?_
  refine lv_iadd hx hb (xb_d D_StackModule_nextPlace 10 rfl) ?_
  exact xb_iret hx hb hr hlocks (show k ≤ MC by omega) (show n ≤ MS by omega) hE hR hS (xb_d D_StackModule_nextPlace 11 rfl) hw

set_option maxHeartbeats 4000000 in
set_option maxRecDepth 100000 in
theorem ok_StackModule_nextPlace (l : Launch) (hfl : l.flags = pinnedFlags ++ [noTraceFlag]) (D : va_G) (A : Nat → Prop) (σ : Nat) (x0 : Nat) (x1 : Int32) (h : xb_H) (Qr : Int32 → xb_H → Prop) (hw : w_StackModule_nextPlace x0 x1 h Qr) : xt_Met l y_StackModule_nextPlace [.code y_StackModule_nextPlace b_StackModule_nextPlace 2 (some .int)] (xb_rm 3 0 0) (xb_Pc D A σ h [.ref x0, .int x1]) (xb_Qc D A h (fun v h => ∃ r, v = some (.int r) ∧ Qr r h) (fun _ _ => False)) 0 0 A := by
  refine xb_ofAm (cc := b_StackModule_nextPlace) (by decide) (Nat.le_of_ble_eq_true rfl) ?_
  unfold w_StackModule_nextPlace at hw
  show xb_am l D A σ 3 0 0 h (fun v h => ∃ r, v = some (.int r) ∧ Qr r h) (fun _ _ => False) y_StackModule_nextPlace.cls y_StackModule_nextPlace.name b_StackModule_nextPlace 2 ([] : List ExceptionTableEntry) (some .int) 0 [(0, .ref x0), (1, .int x1)] [] h 0 0
  obtain ⟨MC, hMC⟩ : ∃ x, x = 0 := ⟨_, rfl⟩
  obtain ⟨MS, hMS⟩ : ∃ x, x = 0 := ⟨_, rfl⟩
  rw [show xb_am l D A σ 3 0 0 = xb_am l D A σ 3 MC MS by rw [hMC, hMS]]
  obtain ⟨h0, hh0⟩ : ∃ x, x = h := ⟨_, rfl⟩
  rw [show xb_am l D A σ 3 MC MS h = xb_am l D A σ 3 MC MS h0 by rw [hh0]]
  intro p e s m args below meth c hC H locs ls k n hE hl hR hS hk hn
  obtain ⟨hx, hb, hown, hlocks, htab, hml, hr, hB, hA, hnm⟩ := id hC
  have hts := hB.1.1.at args
  refine lv_aload_n hx hb (xb_d D_StackModule_nextPlace 0 rfl) rfl (lv_at hl 0 rfl) ?_
  obtain ⟨hk1, hw⟩ := hw
  refine xb_getP (C := R_StackModule) (T := F_StackModule) (N := 19) hx hb 2 0 hts fin_StackModule hown hR hk1 (by decide) rfl (by decide) rfl (hts _ m_18969b14) (fun _ h9 => h9) (xb_d D_StackModule_nextPlace 1 rfl) ?_
  obtain ⟨b2, eb2, hw⟩ := hw
  refine xb_some eb2 ?_
  refine lv_iload_n hx hb (xb_d D_StackModule_nextPlace 2 rfl) rfl (lv_at hl 1 rfl) ?_
  obtain ⟨hk4, hw⟩ := hw
  obtain ⟨hi3, hw⟩ := hw
  refine xb_bald hx hb hR hk4 hi3 (xb_d D_StackModule_nextPlace 3 rfl) ?_
  refine lv_sipush (v := 255) hx hb (xb_d D_StackModule_nextPlace 4 rfl) (by decide) ?_
  refine lv_iand hx hb (xb_d D_StackModule_nextPlace 5 rfl) ?_
  refine xb_call (D := D) (A := A) (σ := σ) (h := h) (d := 2) (mc := 0) (ms := 0) (maxL := 1) (rest := []) (av := [.int ((xb_i h b2 (Int32.toNatClampNeg x1)) &&& 255)]) (fun T hT X => xt_invS X hx hown (hts _ m_df1a1f74) (hts _ m_9eb17383) (hts _ m_938fcec4) (xt_sgS (hts _ m_1e1b68a2)).1 (xt_sgS (hts _ m_1e1b68a2)).2 nm_Reader_shapeOf (g := F0 m 10 ls [.int ((xb_i h b2 (Int32.toNatClampNeg x1)) &&& 255)]) rfl (argsL := [.int ((xb_i h b2 (Int32.toNatClampNeg x1)) &&& 255)]) (rest := []) rfl rfl (by rw [hb]; exact (xb_d D_StackModule_nextPlace 6 rfl))) (ok_Reader_shapeOf l hfl D A σ ((xb_i h b2 (Int32.toNatClampNeg x1)) &&& 255) h _ hw) (hml.trans hl.1.symm) (by rw [hb]; exact (xb_d D_StackModule_nextPlace 6 rfl)) (Nat.le_of_ble_eq_true rfl) (Nat.le_of_ble_eq_true rfl) (Nat.le_of_ble_eq_true rfl) (show k + 0 ≤ MC by omega) (show n + 0 ≤ MS by omega) (xt_w1 hB.1 m_1e1b68a2) (xt_cdOf hB.1 m_1e1b68a2) (hts _ m_938fcec4) hB hR hS hA (fun vv h5 H locs hq hEh5 hR hS => ?_) (fun XX ax h5 H locs hq hEh5 hex hR hS => ?_)
  · obtain ⟨r6, rfl, hw⟩ := hq
    have hw := hw hEh5
    have hE := hE.tr hEh5
    refine W.eq (g2 := F0 m 13 ls [.int r6]) rfl ?_
    by_cases hc7 : r6 = 0
    · have hw := hw.1 hc7
      refine xt_numi hc7 ?_
      refine lv_tableIn (off := 31) (tgt := 44) hx hb (xb_d D_StackModule_nextPlace 7 rfl) (by decide +kernel) (by decide +kernel) (by decide +kernel) (by decide) ?_
      exact am_StackModule_nextPlace_L44 l hfl D A σ MC MS h0 Qr x1 h5 hw p e s m args below meth c hC H locs ls k n hE (lv_sub hl [1] rfl) hR hS (by omega) (by omega)
    have hw := hw.2
    by_cases hc8 : r6 = 1
    · have hw := hw.1 hc8
      refine xt_numi hc8 ?_
      refine lv_tableIn (off := 35) (tgt := 48) hx hb (xb_d D_StackModule_nextPlace 7 rfl) (by decide +kernel) (by decide +kernel) (by decide +kernel) (by decide) ?_
      refine lv_iload_n hx hb (xb_d D_StackModule_nextPlace 12 rfl) rfl (lv_at hl 1 rfl) ?_
      refine lv_iconst (v := 2) hx hb (xb_d D_StackModule_nextPlace 13 rfl) (by decide) ?_
      refine lv_iadd hx hb (xb_d D_StackModule_nextPlace 14 rfl) ?_
      exact xb_iret hx hb hr hlocks (show k ≤ MC by omega) (show n ≤ MS by omega) hE hR hS (xb_d D_StackModule_nextPlace 15 rfl) hw
    have hw := hw.2
    by_cases hc9 : r6 = 2
    · have hw := hw.1 hc9
      refine xt_numi hc9 ?_
      refine lv_tableIn (off := 31) (tgt := 44) hx hb (xb_d D_StackModule_nextPlace 7 rfl) (by decide +kernel) (by decide +kernel) (by decide +kernel) (by decide) ?_
      exact am_StackModule_nextPlace_L44 l hfl D A σ MC MS h0 Qr x1 h5 hw p e s m args below meth c hC H locs ls k n hE (lv_sub hl [1] rfl) hR hS (by omega) (by omega)
    have hw := hw.2
    by_cases hc10 : r6 = 3
    · have hw := hw.1 hc10
      refine xt_numi hc10 ?_
      refine lv_tableIn (off := 31) (tgt := 44) hx hb (xb_d D_StackModule_nextPlace 7 rfl) (by decide +kernel) (by decide +kernel) (by decide +kernel) (by decide) ?_
      exact am_StackModule_nextPlace_L44 l hfl D A σ MC MS h0 Qr x1 h5 hw p e s m args below meth c hC H locs ls k n hE (lv_sub hl [1] rfl) hR hS (by omega) (by omega)
    have hw := hw.2
    have hw := hw hc7 hc8 hc9 hc10
    refine lv_tableOut (tgt := 52) hx hb (xb_d D_StackModule_nextPlace 7 rfl) (by have a0 := xb_nl (0) 0 (by decide) hc7; have a1 := xb_nl (1) 1 (by decide) hc8; have a2 := xb_nl (2) 2 (by decide) hc9; have a3 := xb_nl (3) 3 (by decide) hc10; omega) (by decide) ?_
    refine lv_aload_n hx hb (xb_d D_StackModule_nextPlace 16 rfl) rfl (lv_at hl 0 rfl) ?_
    have hk1 : xb_k h5 x0 = 3 := hEh5.k hk1
    refine xb_getP (C := R_StackModule) (T := F_StackModule) (N := 19) hx hb 2 1 hts fin_StackModule hown hR hk1 (by decide) rfl (by decide) rfl (hts _ m_790d7a2e) (fun _ h9 => h9) (xb_d D_StackModule_nextPlace 17 rfl) ?_
    obtain ⟨b11, eb11, hw⟩ := hw
    refine xb_some eb11 ?_
    refine lv_iload_n hx hb (xb_d D_StackModule_nextPlace 18 rfl) rfl (lv_at hl 1 rfl) ?_
    obtain ⟨hk13, hw⟩ := hw
    obtain ⟨hi12, hw⟩ := hw
    refine xb_iald hx hb hR hk13 hi12 (xb_d D_StackModule_nextPlace 19 rfl) ?_
    exact xb_iret hx hb hr hlocks (show k ≤ MC by omega) (show n ≤ MS by omega) hE hR hS (xb_d D_StackModule_nextPlace 20 rfl) hw
  · exact False.elim hq

set_option maxRecDepth 100000 in
def T_StackModule_parameterType : List (Nat × Instr × Nat) := [(0, .aload_n 0, 1), (1, .getfield 64, 3), (4, .aload_n 0, 1), (5, .getfield 14, 3), (8, .iload_n 1, 1), (9, .iconst 1, 1), (10, .invokevirtual 84, 3), (13, .iload_n 2, 1), (14, .iadd, 1), (15, .baload, 1), (16, .ireturn, 1)]
theorem D_StackModule_parameterType : ∀ q ∈ T_StackModule_parameterType, decode b_StackModule_parameterType q.1 = .ok (q.2.1, q.2.2) := by decide +kernel
def w_StackModule_parameterType (x0 : Nat) (x1 : Int32) (x2 : Int32) (h : xb_H) (Qr : Int32 → xb_H → Prop) : Prop :=
    xb_k h x0 = 3 ∧ ∃ b2 : Nat, (xb_r h x0 0) = some b2 ∧ ∃ b3 : Nat, (xb_r h x0 2) = some b3 ∧ xb_k h b3 = 2 ∧ w_Row_at b3 x1 1 h (fun (r6 : Int32) (h5 : xb_H) => xb_ext h h5 → xb_k h5 b2 = 100 ∧ vp_in (r6 + x2) (xb_n h5 b2) ∧ Qr (xb_i h5 b2 (Int32.toNatClampNeg (r6 + x2))) h5)

set_option maxHeartbeats 4000000 in
set_option maxRecDepth 100000 in
theorem ok_StackModule_parameterType (l : Launch) (hfl : l.flags = pinnedFlags ++ [noTraceFlag]) (D : va_G) (A : Nat → Prop) (σ : Nat) (x0 : Nat) (x1 : Int32) (x2 : Int32) (h : xb_H) (Qr : Int32 → xb_H → Prop) (hw : w_StackModule_parameterType x0 x1 x2 h Qr) : xt_Met l y_StackModule_parameterType [.code y_StackModule_parameterType b_StackModule_parameterType 3 (some .int)] (xb_rm 3 0 0) (xb_Pc D A σ h [.ref x0, .int x1, .int x2]) (xb_Qc D A h (fun v h => ∃ r, v = some (.int r) ∧ Qr r h) (fun _ _ => False)) 0 0 A := by
  refine xb_ofAm (cc := b_StackModule_parameterType) (by decide) (Nat.le_of_ble_eq_true rfl) ?_
  unfold w_StackModule_parameterType at hw
  show xb_am l D A σ 3 0 0 h (fun v h => ∃ r, v = some (.int r) ∧ Qr r h) (fun _ _ => False) y_StackModule_parameterType.cls y_StackModule_parameterType.name b_StackModule_parameterType 3 ([] : List ExceptionTableEntry) (some .int) 0 [(0, .ref x0), (1, .int x1), (2, .int x2)] [] h 0 0
  obtain ⟨MC, hMC⟩ : ∃ x, x = 0 := ⟨_, rfl⟩
  obtain ⟨MS, hMS⟩ : ∃ x, x = 0 := ⟨_, rfl⟩
  rw [show xb_am l D A σ 3 0 0 = xb_am l D A σ 3 MC MS by rw [hMC, hMS]]
  obtain ⟨h0, hh0⟩ : ∃ x, x = h := ⟨_, rfl⟩
  rw [show xb_am l D A σ 3 MC MS h = xb_am l D A σ 3 MC MS h0 by rw [hh0]]
  intro p e s m args below meth c hC H locs ls k n hE hl hR hS hk hn
  obtain ⟨hx, hb, hown, hlocks, htab, hml, hr, hB, hA, hnm⟩ := id hC
  have hts := hB.1.1.at args
  refine lv_aload_n hx hb (xb_d D_StackModule_parameterType 0 rfl) rfl (lv_at hl 0 rfl) ?_
  obtain ⟨hk1, hw⟩ := hw
  refine xb_getP (C := R_StackModule) (T := F_StackModule) (N := 19) hx hb 2 0 hts fin_StackModule hown hR hk1 (by decide) rfl (by decide) rfl (hts _ m_18969b14) (fun _ h9 => h9) (xb_d D_StackModule_parameterType 1 rfl) ?_
  obtain ⟨b2, eb2, hw⟩ := hw
  refine xb_some eb2 ?_
  refine lv_aload_n hx hb (xb_d D_StackModule_parameterType 2 rfl) rfl (lv_at hl 0 rfl) ?_
  refine xb_getP (C := R_StackModule) (T := F_StackModule) (N := 19) hx hb 2 2 hts fin_StackModule hown hR hk1 (by decide) rfl (by decide) rfl (hts _ m_b7ec8f62) (fun _ h9 => h9) (xb_d D_StackModule_parameterType 3 rfl) ?_
  obtain ⟨b3, eb3, hw⟩ := hw
  refine xb_some eb3 ?_
  refine lv_iload_n hx hb (xb_d D_StackModule_parameterType 4 rfl) rfl (lv_at hl 1 rfl) ?_
  refine lv_iconst (v := 1) hx hb (xb_d D_StackModule_parameterType 5 rfl) (by decide) ?_
  obtain ⟨hk4, hw⟩ := hw
  refine xb_call (D := D) (A := A) (σ := σ) (h := h) (d := 2) (mc := 0) (ms := 0) (maxL := 3) (rest := [.ref b2]) (av := [.ref b3, .int x1, .int 1]) (fun T hT X => by obtain ⟨cb, r1, r2, r3⟩ := xb_recv (ci := 1) hR rfl hk4 (by decide); exact xt_invV X hx hown (hts _ m_2fc63c70) (hts _ m_8e233096) (hts _ m_27eed10c) (xt_sigOf (hts _ m_ff1c70ae)) nm_Row_at (by rw [hT]; exact r1) r2 r3 (g := F0 m 10 ls [.int 1, .int x1, .ref b3, .ref b2]) rfl (argsL := [.int x1, .int 1]) (rest := [.ref b2]) rfl rfl (by rw [hb]; exact (xb_d D_StackModule_parameterType 6 rfl))) (ok_Row_at l hfl D A σ b3 x1 1 h _ hw) (hml.trans hl.1.symm) (by rw [hb]; exact (xb_d D_StackModule_parameterType 6 rfl)) (Nat.le_of_ble_eq_true rfl) (Nat.le_of_ble_eq_true rfl) (Nat.le_of_ble_eq_true rfl) (show k + 0 ≤ MC by omega) (show n + 0 ≤ MS by omega) (xt_w1 hB.1 m_ff1c70ae) (xt_cdOf hB.1 m_ff1c70ae) (hts _ m_c1bef504) hB hR hS hA (fun vv h5 H locs hq hEh5 hR hS => ?_) (fun XX ax h5 H locs hq hEh5 hex hR hS => ?_)
  · obtain ⟨r6, rfl, hw⟩ := hq
    have hw := hw hEh5
    have hE := hE.tr hEh5
    refine W.eq (g2 := F0 m 13 ls [.int r6, .ref b2]) rfl ?_
    refine lv_iload_n hx hb (xb_d D_StackModule_parameterType 7 rfl) rfl (lv_at hl 2 rfl) ?_
    refine lv_iadd hx hb (xb_d D_StackModule_parameterType 8 rfl) ?_
    obtain ⟨hk8, hw⟩ := hw
    obtain ⟨hi7, hw⟩ := hw
    refine xb_bald hx hb hR hk8 hi7 (xb_d D_StackModule_parameterType 9 rfl) ?_
    exact xb_iret hx hb hr hlocks (show k ≤ MC by omega) (show n ≤ MS by omega) hE hR hS (xb_d D_StackModule_parameterType 10 rfl) hw
  · exact False.elim hq

set_option maxRecDepth 100000 in
def T_StackModule_parameters : List (Nat × Instr × Nat) := [(0, .aload_n 0, 1), (1, .getfield 14, 3), (4, .iload_n 1, 1), (5, .iconst 2, 1), (6, .invokevirtual 84, 3), (9, .ireturn, 1)]
theorem D_StackModule_parameters : ∀ q ∈ T_StackModule_parameters, decode b_StackModule_parameters q.1 = .ok (q.2.1, q.2.2) := by decide +kernel
def w_StackModule_parameters (x0 : Nat) (x1 : Int32) (h : xb_H) (Qr : Int32 → xb_H → Prop) : Prop :=
    xb_k h x0 = 3 ∧ ∃ b2 : Nat, (xb_r h x0 2) = some b2 ∧ xb_k h b2 = 2 ∧ w_Row_at b2 x1 2 h (fun (r5 : Int32) (h4 : xb_H) => xb_ext h h4 → Qr r5 h4)

set_option maxHeartbeats 4000000 in
set_option maxRecDepth 100000 in
theorem ok_StackModule_parameters (l : Launch) (hfl : l.flags = pinnedFlags ++ [noTraceFlag]) (D : va_G) (A : Nat → Prop) (σ : Nat) (x0 : Nat) (x1 : Int32) (h : xb_H) (Qr : Int32 → xb_H → Prop) (hw : w_StackModule_parameters x0 x1 h Qr) : xt_Met l y_StackModule_parameters [.code y_StackModule_parameters b_StackModule_parameters 2 (some .int)] (xb_rm 3 0 0) (xb_Pc D A σ h [.ref x0, .int x1]) (xb_Qc D A h (fun v h => ∃ r, v = some (.int r) ∧ Qr r h) (fun _ _ => False)) 0 0 A := by
  refine xb_ofAm (cc := b_StackModule_parameters) (by decide) (Nat.le_of_ble_eq_true rfl) ?_
  unfold w_StackModule_parameters at hw
  show xb_am l D A σ 3 0 0 h (fun v h => ∃ r, v = some (.int r) ∧ Qr r h) (fun _ _ => False) y_StackModule_parameters.cls y_StackModule_parameters.name b_StackModule_parameters 2 ([] : List ExceptionTableEntry) (some .int) 0 [(0, .ref x0), (1, .int x1)] [] h 0 0
  obtain ⟨MC, hMC⟩ : ∃ x, x = 0 := ⟨_, rfl⟩
  obtain ⟨MS, hMS⟩ : ∃ x, x = 0 := ⟨_, rfl⟩
  rw [show xb_am l D A σ 3 0 0 = xb_am l D A σ 3 MC MS by rw [hMC, hMS]]
  obtain ⟨h0, hh0⟩ : ∃ x, x = h := ⟨_, rfl⟩
  rw [show xb_am l D A σ 3 MC MS h = xb_am l D A σ 3 MC MS h0 by rw [hh0]]
  intro p e s m args below meth c hC H locs ls k n hE hl hR hS hk hn
  obtain ⟨hx, hb, hown, hlocks, htab, hml, hr, hB, hA, hnm⟩ := id hC
  have hts := hB.1.1.at args
  refine lv_aload_n hx hb (xb_d D_StackModule_parameters 0 rfl) rfl (lv_at hl 0 rfl) ?_
  obtain ⟨hk1, hw⟩ := hw
  refine xb_getP (C := R_StackModule) (T := F_StackModule) (N := 19) hx hb 2 2 hts fin_StackModule hown hR hk1 (by decide) rfl (by decide) rfl (hts _ m_b7ec8f62) (fun _ h9 => h9) (xb_d D_StackModule_parameters 1 rfl) ?_
  obtain ⟨b2, eb2, hw⟩ := hw
  refine xb_some eb2 ?_
  refine lv_iload_n hx hb (xb_d D_StackModule_parameters 2 rfl) rfl (lv_at hl 1 rfl) ?_
  refine lv_iconst (v := 2) hx hb (xb_d D_StackModule_parameters 3 rfl) (by decide) ?_
  obtain ⟨hk3, hw⟩ := hw
  refine xb_call (D := D) (A := A) (σ := σ) (h := h) (d := 2) (mc := 0) (ms := 0) (maxL := 3) (rest := []) (av := [.ref b2, .int x1, .int 2]) (fun T hT X => by obtain ⟨cb, r1, r2, r3⟩ := xb_recv (ci := 1) hR rfl hk3 (by decide); exact xt_invV X hx hown (hts _ m_2fc63c70) (hts _ m_8e233096) (hts _ m_27eed10c) (xt_sigOf (hts _ m_ff1c70ae)) nm_Row_at (by rw [hT]; exact r1) r2 r3 (g := F0 m 6 ls [.int 2, .int x1, .ref b2]) rfl (argsL := [.int x1, .int 2]) (rest := []) rfl rfl (by rw [hb]; exact (xb_d D_StackModule_parameters 4 rfl))) (ok_Row_at l hfl D A σ b2 x1 2 h _ hw) (hml.trans hl.1.symm) (by rw [hb]; exact (xb_d D_StackModule_parameters 4 rfl)) (Nat.le_of_ble_eq_true rfl) (Nat.le_of_ble_eq_true rfl) (Nat.le_of_ble_eq_true rfl) (show k + 0 ≤ MC by omega) (show n + 0 ≤ MS by omega) (xt_w1 hB.1 m_ff1c70ae) (xt_cdOf hB.1 m_ff1c70ae) (hts _ m_c1bef504) hB hR hS hA (fun vv h4 H locs hq hEh4 hR hS => ?_) (fun XX ax h4 H locs hq hEh4 hex hR hS => ?_)
  · obtain ⟨r5, rfl, hw⟩ := hq
    have hw := hw hEh4
    have hE := hE.tr hEh4
    refine W.eq (g2 := F0 m 9 ls [.int r5]) rfl ?_
    exact xb_iret hx hb hr hlocks (show k ≤ MC by omega) (show n ≤ MS by omega) hE hR hS (xb_d D_StackModule_parameters 5 rfl) hw
  · exact False.elim hq

set_option maxRecDepth 100000 in
def T_StackModule_resultType : List (Nat × Instr × Nat) := [(0, .aload_n 0, 1), (1, .getfield 14, 3), (4, .iload_n 1, 1), (5, .iconst 4, 1), (6, .invokevirtual 84, 3), (9, .ireturn, 1)]
theorem D_StackModule_resultType : ∀ q ∈ T_StackModule_resultType, decode b_StackModule_resultType q.1 = .ok (q.2.1, q.2.2) := by decide +kernel
def w_StackModule_resultType (x0 : Nat) (x1 : Int32) (h : xb_H) (Qr : Int32 → xb_H → Prop) : Prop :=
    xb_k h x0 = 3 ∧ ∃ b2 : Nat, (xb_r h x0 2) = some b2 ∧ xb_k h b2 = 2 ∧ w_Row_at b2 x1 4 h (fun (r5 : Int32) (h4 : xb_H) => xb_ext h h4 → Qr r5 h4)

set_option maxHeartbeats 4000000 in
set_option maxRecDepth 100000 in
theorem ok_StackModule_resultType (l : Launch) (hfl : l.flags = pinnedFlags ++ [noTraceFlag]) (D : va_G) (A : Nat → Prop) (σ : Nat) (x0 : Nat) (x1 : Int32) (h : xb_H) (Qr : Int32 → xb_H → Prop) (hw : w_StackModule_resultType x0 x1 h Qr) : xt_Met l y_StackModule_resultType [.code y_StackModule_resultType b_StackModule_resultType 2 (some .int)] (xb_rm 3 0 0) (xb_Pc D A σ h [.ref x0, .int x1]) (xb_Qc D A h (fun v h => ∃ r, v = some (.int r) ∧ Qr r h) (fun _ _ => False)) 0 0 A := by
  refine xb_ofAm (cc := b_StackModule_resultType) (by decide) (Nat.le_of_ble_eq_true rfl) ?_
  unfold w_StackModule_resultType at hw
  show xb_am l D A σ 3 0 0 h (fun v h => ∃ r, v = some (.int r) ∧ Qr r h) (fun _ _ => False) y_StackModule_resultType.cls y_StackModule_resultType.name b_StackModule_resultType 2 ([] : List ExceptionTableEntry) (some .int) 0 [(0, .ref x0), (1, .int x1)] [] h 0 0
  obtain ⟨MC, hMC⟩ : ∃ x, x = 0 := ⟨_, rfl⟩
  obtain ⟨MS, hMS⟩ : ∃ x, x = 0 := ⟨_, rfl⟩
  rw [show xb_am l D A σ 3 0 0 = xb_am l D A σ 3 MC MS by rw [hMC, hMS]]
  obtain ⟨h0, hh0⟩ : ∃ x, x = h := ⟨_, rfl⟩
  rw [show xb_am l D A σ 3 MC MS h = xb_am l D A σ 3 MC MS h0 by rw [hh0]]
  intro p e s m args below meth c hC H locs ls k n hE hl hR hS hk hn
  obtain ⟨hx, hb, hown, hlocks, htab, hml, hr, hB, hA, hnm⟩ := id hC
  have hts := hB.1.1.at args
  refine lv_aload_n hx hb (xb_d D_StackModule_resultType 0 rfl) rfl (lv_at hl 0 rfl) ?_
  obtain ⟨hk1, hw⟩ := hw
  refine xb_getP (C := R_StackModule) (T := F_StackModule) (N := 19) hx hb 2 2 hts fin_StackModule hown hR hk1 (by decide) rfl (by decide) rfl (hts _ m_b7ec8f62) (fun _ h9 => h9) (xb_d D_StackModule_resultType 1 rfl) ?_
  obtain ⟨b2, eb2, hw⟩ := hw
  refine xb_some eb2 ?_
  refine lv_iload_n hx hb (xb_d D_StackModule_resultType 2 rfl) rfl (lv_at hl 1 rfl) ?_
  refine lv_iconst (v := 4) hx hb (xb_d D_StackModule_resultType 3 rfl) (by decide) ?_
  obtain ⟨hk3, hw⟩ := hw
  refine xb_call (D := D) (A := A) (σ := σ) (h := h) (d := 2) (mc := 0) (ms := 0) (maxL := 3) (rest := []) (av := [.ref b2, .int x1, .int 4]) (fun T hT X => by obtain ⟨cb, r1, r2, r3⟩ := xb_recv (ci := 1) hR rfl hk3 (by decide); exact xt_invV X hx hown (hts _ m_2fc63c70) (hts _ m_8e233096) (hts _ m_27eed10c) (xt_sigOf (hts _ m_ff1c70ae)) nm_Row_at (by rw [hT]; exact r1) r2 r3 (g := F0 m 6 ls [.int 4, .int x1, .ref b2]) rfl (argsL := [.int x1, .int 4]) (rest := []) rfl rfl (by rw [hb]; exact (xb_d D_StackModule_resultType 4 rfl))) (ok_Row_at l hfl D A σ b2 x1 4 h _ hw) (hml.trans hl.1.symm) (by rw [hb]; exact (xb_d D_StackModule_resultType 4 rfl)) (Nat.le_of_ble_eq_true rfl) (Nat.le_of_ble_eq_true rfl) (Nat.le_of_ble_eq_true rfl) (show k + 0 ≤ MC by omega) (show n + 0 ≤ MS by omega) (xt_w1 hB.1 m_ff1c70ae) (xt_cdOf hB.1 m_ff1c70ae) (hts _ m_c1bef504) hB hR hS hA (fun vv h4 H locs hq hEh4 hR hS => ?_) (fun XX ax h4 H locs hq hEh4 hex hR hS => ?_)
  · obtain ⟨r5, rfl, hw⟩ := hq
    have hw := hw hEh4
    have hE := hE.tr hEh4
    refine W.eq (g2 := F0 m 9 ls [.int r5]) rfl ?_
    exact xb_iret hx hb hr hlocks (show k ≤ MC by omega) (show n ≤ MS by omega) hE hR hS (xb_d D_StackModule_resultType 5 rfl) hw
  · exact False.elim hq

set_option maxRecDepth 100000 in
def T_StackModule_sameType : List (Nat × Instr × Nat) := [(0, .aload_n 0, 1), (1, .getfield 14, 3), (4, .iload_n 1, 1), (5, .iconst 2, 1), (6, .invokevirtual 84, 3), (9, .istore 4, 2), (11, .iload 4, 2), (13, .aload_n 2, 1), (14, .getfield 14, 3), (17, .iload_n 3, 1), (18, .iconst 2, 1), (19, .invokevirtual 84, 3), (22, .if_icmp .ne 24, 3), (25, .aload_n 0, 1), (26, .getfield 14, 3), (29, .iload_n 1, 1), (30, .iconst 4, 1), (31, .invokevirtual 84, 3), (34, .aload_n 2, 1), (35, .getfield 14, 3), (38, .iload_n 3, 1), (39, .iconst 4, 1), (40, .invokevirtual 84, 3), (43, .if_icmp .eq 5, 3), (46, .iconst 0, 1), (47, .ireturn, 1), (48, .aload_n 0, 1), (49, .getfield 14, 3), (52, .iload_n 1, 1), (53, .iconst 1, 1), (54, .invokevirtual 84, 3), (57, .istore 5, 2), (59, .aload_n 0, 1), (60, .getfield 64, 3), (63, .iload 5, 2), (65, .aload_n 2, 1), (66, .getfield 64, 3), (69, .aload_n 2, 1), (70, .getfield 14, 3), (73, .iload_n 3, 1), (74, .iconst 1, 1), (75, .invokevirtual 84, 3), (78, .iload 4, 2), (80, .invokestatic 88, 3), (83, .ireturn, 1)]
theorem D_StackModule_sameType : ∀ q ∈ T_StackModule_sameType, decode b_StackModule_sameType q.1 = .ok (q.2.1, q.2.2) := by decide +kernel
def w_StackModule_sameType_L46 (Qr : Int32 → xb_H → Prop) (h : xb_H) : Prop :=
    Qr 0 h

def w_StackModule_sameType (x0 : Nat) (x1 : Int32) (x2 : Nat) (x3 : Int32) (h : xb_H) (Qr : Int32 → xb_H → Prop) : Prop :=
    xb_k h x0 = 3 ∧ ∃ b2 : Nat, (xb_r h x0 2) = some b2 ∧ xb_k h b2 = 2 ∧ w_Row_at b2 x1 2 h (fun (r5 : Int32) (h4 : xb_H) => xb_ext h h4 → xb_k h4 x2 = 3 ∧ ∃ b7 : Nat, (xb_r h4 x2 2) = some b7 ∧ xb_k h4 b7 = 2 ∧ w_Row_at b7 x3 2 h4 (fun (r10 : Int32) (h9 : xb_H) => xb_ext h4 h9 → ((¬ r5 = r10 → w_StackModule_sameType_L46 Qr h9) ∧ (r5 = r10 → ∃ b12 : Nat, (xb_r h9 x0 2) = some b12 ∧ xb_k h9 b12 = 2 ∧ w_Row_at b12 x1 4 h9 (fun (r15 : Int32) (h14 : xb_H) => xb_ext h9 h14 → ∃ b16 : Nat, (xb_r h14 x2 2) = some b16 ∧ xb_k h14 b16 = 2 ∧ w_Row_at b16 x3 4 h14 (fun (r19 : Int32) (h18 : xb_H) => xb_ext h14 h18 → ((r15 = r19 → ∃ b21 : Nat, (xb_r h18 x0 2) = some b21 ∧ xb_k h18 b21 = 2 ∧ w_Row_at b21 x1 1 h18 (fun (r24 : Int32) (h23 : xb_H) => xb_ext h18 h23 → ∃ b25 : Nat, (xb_r h23 x0 0) = some b25 ∧ ∃ b26 : Nat, (xb_r h23 x2 0) = some b26 ∧ ∃ b27 : Nat, (xb_r h23 x2 2) = some b27 ∧ xb_k h23 b27 = 2 ∧ w_Row_at b27 x3 1 h23 (fun (r30 : Int32) (h29 : xb_H) => xb_ext h23 h29 → w_StackModule_sameBytes b25 r24 b26 r30 r5 h29 (fun (r32 : Int32) (h31 : xb_H) => xb_ext h29 h31 → (r32 = 0 ∨ r32 = 1) ∧ Qr r32 h31)))) ∧ (¬ r15 = r19 → w_StackModule_sameType_L46 Qr h18))))))))

set_option maxHeartbeats 4000000 in
set_option maxRecDepth 100000 in
theorem am_StackModule_sameType_L46 (l : Launch) (hfl : l.flags = pinnedFlags ++ [noTraceFlag]) (D : va_G) (A : Nat → Prop) (σ MC MS : Nat) (h0 : xb_H) (Qr : Int32 → xb_H → Prop) (h : xb_H) (hw : w_StackModule_sameType_L46 Qr h) : xb_am l D A σ 3 MC MS h0 (fun v h => ∃ r, v = some (.int r) ∧ Qr r h) (fun _ _ => False) y_StackModule_sameType.cls y_StackModule_sameType.name b_StackModule_sameType 6 ([] : List ExceptionTableEntry) (some .boolean) 46 [] [] h 0 0 := by
  unfold w_StackModule_sameType_L46 at hw
  intro p e s m args below meth c hC H locs ls k n hE hl hR hS hk hn
  obtain ⟨hx, hb, hown, hlocks, htab, hml, hr, hB, hA, hnm⟩ := id hC
  have hts := hB.1.1.at args
  refine lv_iconst (v := 0) hx hb (xb_d D_StackModule_sameType 24 rfl) (by decide) ?_
  exact xb_zret hx hb hr hlocks (show k ≤ MC by omega) (show n ≤ MS by omega) (by decide) hE hR hS (xb_d D_StackModule_sameType 25 rfl) hw

set_option maxHeartbeats 4000000 in
set_option maxRecDepth 100000 in
theorem ok_StackModule_sameType (l : Launch) (hfl : l.flags = pinnedFlags ++ [noTraceFlag]) (D : va_G) (A : Nat → Prop) (σ : Nat) (x0 : Nat) (x1 : Int32) (x2 : Nat) (x3 : Int32) (h : xb_H) (Qr : Int32 → xb_H → Prop) (hw : w_StackModule_sameType x0 x1 x2 x3 h Qr) : xt_Met l y_StackModule_sameType [.code y_StackModule_sameType b_StackModule_sameType 6 (some .boolean)] (xb_rm 3 0 0) (xb_Pc D A σ h [.ref x0, .int x1, .ref x2, .int x3]) (xb_Qc D A h (fun v h => ∃ r, v = some (.int r) ∧ Qr r h) (fun _ _ => False)) 0 0 A := by
  refine xb_ofAm (cc := b_StackModule_sameType) (by decide) (Nat.le_of_ble_eq_true rfl) ?_
  unfold w_StackModule_sameType at hw
  show xb_am l D A σ 3 0 0 h (fun v h => ∃ r, v = some (.int r) ∧ Qr r h) (fun _ _ => False) y_StackModule_sameType.cls y_StackModule_sameType.name b_StackModule_sameType 6 ([] : List ExceptionTableEntry) (some .boolean) 0 [(0, .ref x0), (1, .int x1), (2, .ref x2), (3, .int x3)] [] h 0 0
  obtain ⟨MC, hMC⟩ : ∃ x, x = 0 := ⟨_, rfl⟩
  obtain ⟨MS, hMS⟩ : ∃ x, x = 0 := ⟨_, rfl⟩
  rw [show xb_am l D A σ 3 0 0 = xb_am l D A σ 3 MC MS by rw [hMC, hMS]]
  obtain ⟨h0, hh0⟩ : ∃ x, x = h := ⟨_, rfl⟩
  rw [show xb_am l D A σ 3 MC MS h = xb_am l D A σ 3 MC MS h0 by rw [hh0]]
  intro p e s m args below meth c hC H locs ls k n hE hl hR hS hk hn
  obtain ⟨hx, hb, hown, hlocks, htab, hml, hr, hB, hA, hnm⟩ := id hC
  have hts := hB.1.1.at args
  refine lv_aload_n hx hb (xb_d D_StackModule_sameType 0 rfl) rfl (lv_at hl 0 rfl) ?_
  obtain ⟨hk1, hw⟩ := hw
  refine xb_getP (C := R_StackModule) (T := F_StackModule) (N := 19) hx hb 2 2 hts fin_StackModule hown hR hk1 (by decide) rfl (by decide) rfl (hts _ m_b7ec8f62) (fun _ h9 => h9) (xb_d D_StackModule_sameType 1 rfl) ?_
  obtain ⟨b2, eb2, hw⟩ := hw
  refine xb_some eb2 ?_
  refine lv_iload_n hx hb (xb_d D_StackModule_sameType 2 rfl) rfl (lv_at hl 1 rfl) ?_
  refine lv_iconst (v := 2) hx hb (xb_d D_StackModule_sameType 3 rfl) (by decide) ?_
  obtain ⟨hk3, hw⟩ := hw
  refine xb_call (D := D) (A := A) (σ := σ) (h := h) (d := 2) (mc := 0) (ms := 0) (maxL := 3) (rest := []) (av := [.ref b2, .int x1, .int 2]) (fun T hT X => by obtain ⟨cb, r1, r2, r3⟩ := xb_recv (ci := 1) hR rfl hk3 (by decide); exact xt_invV X hx hown (hts _ m_2fc63c70) (hts _ m_8e233096) (hts _ m_27eed10c) (xt_sigOf (hts _ m_ff1c70ae)) nm_Row_at (by rw [hT]; exact r1) r2 r3 (g := F0 m 6 ls [.int 2, .int x1, .ref b2]) rfl (argsL := [.int x1, .int 2]) (rest := []) rfl rfl (by rw [hb]; exact (xb_d D_StackModule_sameType 4 rfl))) (ok_Row_at l hfl D A σ b2 x1 2 h _ hw) (hml.trans hl.1.symm) (by rw [hb]; exact (xb_d D_StackModule_sameType 4 rfl)) (Nat.le_of_ble_eq_true rfl) (Nat.le_of_ble_eq_true rfl) (Nat.le_of_ble_eq_true rfl) (show k + 0 ≤ MC by omega) (show n + 0 ≤ MS by omega) (xt_w1 hB.1 m_ff1c70ae) (xt_cdOf hB.1 m_ff1c70ae) (hts _ m_c1bef504) hB hR hS hA (fun vv h4 H locs hq hEh4 hR hS => ?_) (fun XX ax h4 H locs hq hEh4 hex hR hS => ?_)
  · obtain ⟨r5, rfl, hw⟩ := hq
    have hw := hw hEh4
    have hE := hE.tr hEh4
    refine W.eq (g2 := F0 m 9 ls [.int r5]) rfl ?_
    refine lv_istore hx hb (xb_d D_StackModule_sameType 5 rfl) hl (by decide) rfl (fun ls hl => ?_)
    have hl : lv_has ls 6 [(4, .int r5), (0, .ref x0), (1, .int x1), (2, .ref x2), (3, .int x3)] := hl
    refine lv_iload hx hb (xb_d D_StackModule_sameType 6 rfl) (lv_at hl 0 rfl) ?_
    refine lv_aload_n hx hb (xb_d D_StackModule_sameType 7 rfl) rfl (lv_at hl 3 rfl) ?_
    obtain ⟨hk6, hw⟩ := hw
    refine xb_getP (C := R_StackModule) (T := F_StackModule) (N := 19) hx hb 2 2 hts fin_StackModule hown hR hk6 (by decide) rfl (by decide) rfl (hts _ m_b7ec8f62) (fun _ h9 => h9) (xb_d D_StackModule_sameType 8 rfl) ?_
    obtain ⟨b7, eb7, hw⟩ := hw
    refine xb_some eb7 ?_
    refine lv_iload_n hx hb (xb_d D_StackModule_sameType 9 rfl) rfl (lv_at hl 4 rfl) ?_
    refine lv_iconst (v := 2) hx hb (xb_d D_StackModule_sameType 10 rfl) (by decide) ?_
    obtain ⟨hk8, hw⟩ := hw
    refine xb_call (D := D) (A := A) (σ := σ) (h := h4) (d := 2) (mc := 0) (ms := 0) (maxL := 3) (rest := [.int r5]) (av := [.ref b7, .int x3, .int 2]) (fun T hT X => by obtain ⟨cb, r1, r2, r3⟩ := xb_recv (ci := 1) hR rfl hk8 (by decide); exact xt_invV X hx hown (hts _ m_2fc63c70) (hts _ m_8e233096) (hts _ m_27eed10c) (xt_sigOf (hts _ m_ff1c70ae)) nm_Row_at (by rw [hT]; exact r1) r2 r3 (g := F0 m 19 ls [.int 2, .int x3, .ref b7, .int r5]) rfl (argsL := [.int x3, .int 2]) (rest := [.int r5]) rfl rfl (by rw [hb]; exact (xb_d D_StackModule_sameType 11 rfl))) (ok_Row_at l hfl D A σ b7 x3 2 h4 _ hw) (hml.trans hl.1.symm) (by rw [hb]; exact (xb_d D_StackModule_sameType 11 rfl)) (Nat.le_of_ble_eq_true rfl) (Nat.le_of_ble_eq_true rfl) (Nat.le_of_ble_eq_true rfl) (show k + 0 ≤ MC by omega) (show n + 0 ≤ MS by omega) (xt_w1 hB.1 m_ff1c70ae) (xt_cdOf hB.1 m_ff1c70ae) (hts _ m_c1bef504) hB hR hS hA (fun vv h9 H locs hq hEh9 hR hS => ?_) (fun XX ax h9 H locs hq hEh9 hex hR hS => ?_)
    · obtain ⟨r10, rfl, hw⟩ := hq
      have hw := hw hEh9
      have hE := hE.tr hEh9
      refine W.eq (g2 := F0 m 22 ls [.int r10, .int r5]) rfl ?_
      refine lv_icmp_ne (tgt := 46) hx hb (xb_d D_StackModule_sameType 12 rfl) rfl (fun hc11 => ?_) (fun hc11 => ?_)
      · have hw := hw.1 hc11
        exact am_StackModule_sameType_L46 l hfl D A σ MC MS h0 Qr h9 hw p e s m args below meth c hC H locs ls k n hE (lv_sub hl [] rfl) hR hS (by omega) (by omega)
      · have hw := hw.2 hc11
        refine lv_aload_n hx hb (xb_d D_StackModule_sameType 13 rfl) rfl (lv_at hl 1 rfl) ?_
        have hk1 : xb_k h4 x0 = 3 := hEh4.k hk1
        have hk1 : xb_k h9 x0 = 3 := hEh9.k hk1
        refine xb_getP (C := R_StackModule) (T := F_StackModule) (N := 19) hx hb 2 2 hts fin_StackModule hown hR hk1 (by decide) rfl (by decide) rfl (hts _ m_b7ec8f62) (fun _ h9 => h9) (xb_d D_StackModule_sameType 14 rfl) ?_
        obtain ⟨b12, eb12, hw⟩ := hw
        refine xb_some eb12 ?_
        refine lv_iload_n hx hb (xb_d D_StackModule_sameType 15 rfl) rfl (lv_at hl 2 rfl) ?_
        refine lv_iconst (v := 4) hx hb (xb_d D_StackModule_sameType 16 rfl) (by decide) ?_
        obtain ⟨hk13, hw⟩ := hw
        refine xb_call (D := D) (A := A) (σ := σ) (h := h9) (d := 2) (mc := 0) (ms := 0) (maxL := 3) (rest := []) (av := [.ref b12, .int x1, .int 4]) (fun T hT X => by obtain ⟨cb, r1, r2, r3⟩ := xb_recv (ci := 1) hR rfl hk13 (by decide); exact xt_invV X hx hown (hts _ m_2fc63c70) (hts _ m_8e233096) (hts _ m_27eed10c) (xt_sigOf (hts _ m_ff1c70ae)) nm_Row_at (by rw [hT]; exact r1) r2 r3 (g := F0 m 31 ls [.int 4, .int x1, .ref b12]) rfl (argsL := [.int x1, .int 4]) (rest := []) rfl rfl (by rw [hb]; exact (xb_d D_StackModule_sameType 17 rfl))) (ok_Row_at l hfl D A σ b12 x1 4 h9 _ hw) (hml.trans hl.1.symm) (by rw [hb]; exact (xb_d D_StackModule_sameType 17 rfl)) (Nat.le_of_ble_eq_true rfl) (Nat.le_of_ble_eq_true rfl) (Nat.le_of_ble_eq_true rfl) (show k + 0 ≤ MC by omega) (show n + 0 ≤ MS by omega) (xt_w1 hB.1 m_ff1c70ae) (xt_cdOf hB.1 m_ff1c70ae) (hts _ m_c1bef504) hB hR hS hA (fun vv h14 H locs hq hEh14 hR hS => ?_) (fun XX ax h14 H locs hq hEh14 hex hR hS => ?_)
        · obtain ⟨r15, rfl, hw⟩ := hq
          have hw := hw hEh14
          have hE := hE.tr hEh14
          refine W.eq (g2 := F0 m 34 ls [.int r15]) rfl ?_
          refine lv_aload_n hx hb (xb_d D_StackModule_sameType 18 rfl) rfl (lv_at hl 3 rfl) ?_
          have hk6 : xb_k h9 x2 = 3 := hEh9.k hk6
          have hk6 : xb_k h14 x2 = 3 := hEh14.k hk6
          refine xb_getP (C := R_StackModule) (T := F_StackModule) (N := 19) hx hb 2 2 hts fin_StackModule hown hR hk6 (by decide) rfl (by decide) rfl (hts _ m_b7ec8f62) (fun _ h9 => h9) (xb_d D_StackModule_sameType 19 rfl) ?_
          obtain ⟨b16, eb16, hw⟩ := hw
          refine xb_some eb16 ?_
          refine lv_iload_n hx hb (xb_d D_StackModule_sameType 20 rfl) rfl (lv_at hl 4 rfl) ?_
          refine lv_iconst (v := 4) hx hb (xb_d D_StackModule_sameType 21 rfl) (by decide) ?_
          obtain ⟨hk17, hw⟩ := hw
          refine xb_call (D := D) (A := A) (σ := σ) (h := h14) (d := 2) (mc := 0) (ms := 0) (maxL := 3) (rest := [.int r15]) (av := [.ref b16, .int x3, .int 4]) (fun T hT X => by obtain ⟨cb, r1, r2, r3⟩ := xb_recv (ci := 1) hR rfl hk17 (by decide); exact xt_invV X hx hown (hts _ m_2fc63c70) (hts _ m_8e233096) (hts _ m_27eed10c) (xt_sigOf (hts _ m_ff1c70ae)) nm_Row_at (by rw [hT]; exact r1) r2 r3 (g := F0 m 40 ls [.int 4, .int x3, .ref b16, .int r15]) rfl (argsL := [.int x3, .int 4]) (rest := [.int r15]) rfl rfl (by rw [hb]; exact (xb_d D_StackModule_sameType 22 rfl))) (ok_Row_at l hfl D A σ b16 x3 4 h14 _ hw) (hml.trans hl.1.symm) (by rw [hb]; exact (xb_d D_StackModule_sameType 22 rfl)) (Nat.le_of_ble_eq_true rfl) (Nat.le_of_ble_eq_true rfl) (Nat.le_of_ble_eq_true rfl) (show k + 0 ≤ MC by omega) (show n + 0 ≤ MS by omega) (xt_w1 hB.1 m_ff1c70ae) (xt_cdOf hB.1 m_ff1c70ae) (hts _ m_c1bef504) hB hR hS hA (fun vv h18 H locs hq hEh18 hR hS => ?_) (fun XX ax h18 H locs hq hEh18 hex hR hS => ?_)
          · obtain ⟨r19, rfl, hw⟩ := hq
            have hw := hw hEh18
            have hE := hE.tr hEh18
            refine W.eq (g2 := F0 m 43 ls [.int r19, .int r15]) rfl ?_
            refine lv_icmp_eq (tgt := 48) hx hb (xb_d D_StackModule_sameType 23 rfl) rfl (fun hc20 => ?_) (fun hc20 => ?_)
            · have hw := hw.1 hc20
              refine lv_aload_n hx hb (xb_d D_StackModule_sameType 26 rfl) rfl (lv_at hl 1 rfl) ?_
              have hk1 : xb_k h14 x0 = 3 := hEh14.k hk1
              have hk1 : xb_k h18 x0 = 3 := hEh18.k hk1
              refine xb_getP (C := R_StackModule) (T := F_StackModule) (N := 19) hx hb 2 2 hts fin_StackModule hown hR hk1 (by decide) rfl (by decide) rfl (hts _ m_b7ec8f62) (fun _ h9 => h9) (xb_d D_StackModule_sameType 27 rfl) ?_
              obtain ⟨b21, eb21, hw⟩ := hw
              refine xb_some eb21 ?_
              refine lv_iload_n hx hb (xb_d D_StackModule_sameType 28 rfl) rfl (lv_at hl 2 rfl) ?_
              refine lv_iconst (v := 1) hx hb (xb_d D_StackModule_sameType 29 rfl) (by decide) ?_
              obtain ⟨hk22, hw⟩ := hw
              refine xb_call (D := D) (A := A) (σ := σ) (h := h18) (d := 2) (mc := 0) (ms := 0) (maxL := 3) (rest := []) (av := [.ref b21, .int x1, .int 1]) (fun T hT X => by obtain ⟨cb, r1, r2, r3⟩ := xb_recv (ci := 1) hR rfl hk22 (by decide); exact xt_invV X hx hown (hts _ m_2fc63c70) (hts _ m_8e233096) (hts _ m_27eed10c) (xt_sigOf (hts _ m_ff1c70ae)) nm_Row_at (by rw [hT]; exact r1) r2 r3 (g := F0 m 54 ls [.int 1, .int x1, .ref b21]) rfl (argsL := [.int x1, .int 1]) (rest := []) rfl rfl (by rw [hb]; exact (xb_d D_StackModule_sameType 30 rfl))) (ok_Row_at l hfl D A σ b21 x1 1 h18 _ hw) (hml.trans hl.1.symm) (by rw [hb]; exact (xb_d D_StackModule_sameType 30 rfl)) (Nat.le_of_ble_eq_true rfl) (Nat.le_of_ble_eq_true rfl) (Nat.le_of_ble_eq_true rfl) (show k + 0 ≤ MC by omega) (show n + 0 ≤ MS by omega) (xt_w1 hB.1 m_ff1c70ae) (xt_cdOf hB.1 m_ff1c70ae) (hts _ m_c1bef504) hB hR hS hA (fun vv h23 H locs hq hEh23 hR hS => ?_) (fun XX ax h23 H locs hq hEh23 hex hR hS => ?_)
              · obtain ⟨r24, rfl, hw⟩ := hq
                have hw := hw hEh23
                have hE := hE.tr hEh23
                refine W.eq (g2 := F0 m 57 ls [.int r24]) rfl ?_
                refine lv_istore hx hb (xb_d D_StackModule_sameType 31 rfl) hl (by decide) rfl (fun ls hl => ?_)
                have hl : lv_has ls 6 [(5, .int r24), (4, .int r5), (0, .ref x0), (1, .int x1), (2, .ref x2), (3, .int x3)] := hl
                refine lv_aload_n hx hb (xb_d D_StackModule_sameType 32 rfl) rfl (lv_at hl 2 rfl) ?_
                have hk1 : xb_k h23 x0 = 3 := hEh23.k hk1
                refine xb_getP (C := R_StackModule) (T := F_StackModule) (N := 19) hx hb 2 0 hts fin_StackModule hown hR hk1 (by decide) rfl (by decide) rfl (hts _ m_18969b14) (fun _ h9 => h9) (xb_d D_StackModule_sameType 33 rfl) ?_
                obtain ⟨b25, eb25, hw⟩ := hw
                refine xb_some eb25 ?_
                refine lv_iload hx hb (xb_d D_StackModule_sameType 34 rfl) (lv_at hl 0 rfl) ?_
                refine lv_aload_n hx hb (xb_d D_StackModule_sameType 35 rfl) rfl (lv_at hl 4 rfl) ?_
                have hk6 : xb_k h18 x2 = 3 := hEh18.k hk6
                have hk6 : xb_k h23 x2 = 3 := hEh23.k hk6
                refine xb_getP (C := R_StackModule) (T := F_StackModule) (N := 19) hx hb 2 0 hts fin_StackModule hown hR hk6 (by decide) rfl (by decide) rfl (hts _ m_18969b14) (fun _ h9 => h9) (xb_d D_StackModule_sameType 36 rfl) ?_
                obtain ⟨b26, eb26, hw⟩ := hw
                refine xb_some eb26 ?_
                refine lv_aload_n hx hb (xb_d D_StackModule_sameType 37 rfl) rfl (lv_at hl 4 rfl) ?_
                refine xb_getP (C := R_StackModule) (T := F_StackModule) (N := 19) hx hb 2 2 hts fin_StackModule hown hR hk6 (by decide) rfl (by decide) rfl (hts _ m_b7ec8f62) (fun _ h9 => h9) (xb_d D_StackModule_sameType 38 rfl) ?_
                obtain ⟨b27, eb27, hw⟩ := hw
                refine xb_some eb27 ?_
                refine lv_iload_n hx hb (xb_d D_StackModule_sameType 39 rfl) rfl (lv_at hl 5 rfl) ?_
                refine lv_iconst (v := 1) hx hb (xb_d D_StackModule_sameType 40 rfl) (by decide) ?_
                obtain ⟨hk28, hw⟩ := hw
                refine xb_call (D := D) (A := A) (σ := σ) (h := h23) (d := 2) (mc := 0) (ms := 0) (maxL := 3) (rest := [.ref b26, .int r24, .ref b25]) (av := [.ref b27, .int x3, .int 1]) (fun T hT X => by obtain ⟨cb, r1, r2, r3⟩ := xb_recv (ci := 1) hR rfl hk28 (by decide); exact xt_invV X hx hown (hts _ m_2fc63c70) (hts _ m_8e233096) (hts _ m_27eed10c) (xt_sigOf (hts _ m_ff1c70ae)) nm_Row_at (by rw [hT]; exact r1) r2 r3 (g := F0 m 75 ls [.int 1, .int x3, .ref b27, .ref b26, .int r24, .ref b25]) rfl (argsL := [.int x3, .int 1]) (rest := [.ref b26, .int r24, .ref b25]) rfl rfl (by rw [hb]; exact (xb_d D_StackModule_sameType 41 rfl))) (ok_Row_at l hfl D A σ b27 x3 1 h23 _ hw) (hml.trans hl.1.symm) (by rw [hb]; exact (xb_d D_StackModule_sameType 41 rfl)) (Nat.le_of_ble_eq_true rfl) (Nat.le_of_ble_eq_true rfl) (Nat.le_of_ble_eq_true rfl) (show k + 0 ≤ MC by omega) (show n + 0 ≤ MS by omega) (xt_w1 hB.1 m_ff1c70ae) (xt_cdOf hB.1 m_ff1c70ae) (hts _ m_c1bef504) hB hR hS hA (fun vv h29 H locs hq hEh29 hR hS => ?_) (fun XX ax h29 H locs hq hEh29 hex hR hS => ?_)
                · obtain ⟨r30, rfl, hw⟩ := hq
                  have hw := hw hEh29
                  have hE := hE.tr hEh29
                  refine W.eq (g2 := F0 m 78 ls [.int r30, .ref b26, .int r24, .ref b25]) rfl ?_
                  refine lv_iload hx hb (xb_d D_StackModule_sameType 42 rfl) (lv_at hl 1 rfl) ?_
                  refine xb_call (D := D) (A := A) (σ := σ) (h := h29) (d := 2) (mc := 0) (ms := 0) (maxL := 6) (rest := []) (av := [.ref b25, .int r24, .ref b26, .int r30, .int r5]) (fun T hT X => xt_invS X hx hown (hts _ m_c75cb26b) (hts _ m_60db31ff) (hts _ m_9c375545) (xt_sgS (hts _ m_e49b5738)).1 (xt_sgS (hts _ m_e49b5738)).2 nm_StackModule_sameBytes (g := F0 m 80 ls [.int r5, .int r30, .ref b26, .int r24, .ref b25]) rfl (argsL := [.ref b25, .int r24, .ref b26, .int r30, .int r5]) (rest := []) rfl rfl (by rw [hb]; exact (xb_d D_StackModule_sameType 43 rfl))) (ok_StackModule_sameBytes l hfl D A σ b25 r24 b26 r30 r5 h29 _ hw) (hml.trans hl.1.symm) (by rw [hb]; exact (xb_d D_StackModule_sameType 43 rfl)) (Nat.le_of_ble_eq_true rfl) (Nat.le_of_ble_eq_true rfl) (Nat.le_of_ble_eq_true rfl) (show k + 0 ≤ MC by omega) (show n + 0 ≤ MS by omega) (xt_w1 hB.1 m_e49b5738) (xt_cdOf hB.1 m_e49b5738) (hts _ m_9c375545) hB hR hS hA (fun vv h31 H locs hq hEh31 hR hS => ?_) (fun XX ax h31 H locs hq hEh31 hex hR hS => ?_)
                  · obtain ⟨r32, rfl, hw⟩ := hq
                    have hw := hw hEh31
                    have hE := hE.tr hEh31
                    refine W.eq (g2 := F0 m 83 ls [.int r32]) rfl ?_
                    exact xb_zret hx hb hr hlocks (show k ≤ MC by omega) (show n ≤ MS by omega) hw.1 hE hR hS (xb_d D_StackModule_sameType 44 rfl) hw.2
                  · exact False.elim hq
                · exact False.elim hq
              · exact False.elim hq
            · have hw := hw.2 hc20
              exact am_StackModule_sameType_L46 l hfl D A σ MC MS h0 Qr h18 hw p e s m args below meth c hC H locs ls k n hE (lv_sub hl [] rfl) hR hS (by omega) (by omega)
          · exact False.elim hq
        · exact False.elim hq
    · exact False.elim hq
  · exact False.elim hq

set_option maxRecDepth 100000 in
def T_StackModule_typeOf : List (Nat × Instr × Nat) := [(0, .aload_n 0, 1), (1, .getfield 23, 3), (4, .iload_n 1, 1), (5, .iconst 1, 1), (6, .invokevirtual 84, 3), (9, .ireturn, 1)]
theorem D_StackModule_typeOf : ∀ q ∈ T_StackModule_typeOf, decode b_StackModule_typeOf q.1 = .ok (q.2.1, q.2.2) := by decide +kernel
def w_StackModule_typeOf (x0 : Nat) (x1 : Int32) (h : xb_H) (Qr : Int32 → xb_H → Prop) : Prop :=
    xb_k h x0 = 3 ∧ ∃ b2 : Nat, (xb_r h x0 4) = some b2 ∧ xb_k h b2 = 2 ∧ w_Row_at b2 x1 1 h (fun (r5 : Int32) (h4 : xb_H) => xb_ext h h4 → Qr r5 h4)

set_option maxHeartbeats 4000000 in
set_option maxRecDepth 100000 in
theorem ok_StackModule_typeOf (l : Launch) (hfl : l.flags = pinnedFlags ++ [noTraceFlag]) (D : va_G) (A : Nat → Prop) (σ : Nat) (x0 : Nat) (x1 : Int32) (h : xb_H) (Qr : Int32 → xb_H → Prop) (hw : w_StackModule_typeOf x0 x1 h Qr) : xt_Met l y_StackModule_typeOf [.code y_StackModule_typeOf b_StackModule_typeOf 2 (some .int)] (xb_rm 3 0 0) (xb_Pc D A σ h [.ref x0, .int x1]) (xb_Qc D A h (fun v h => ∃ r, v = some (.int r) ∧ Qr r h) (fun _ _ => False)) 0 0 A := by
  refine xb_ofAm (cc := b_StackModule_typeOf) (by decide) (Nat.le_of_ble_eq_true rfl) ?_
  unfold w_StackModule_typeOf at hw
  show xb_am l D A σ 3 0 0 h (fun v h => ∃ r, v = some (.int r) ∧ Qr r h) (fun _ _ => False) y_StackModule_typeOf.cls y_StackModule_typeOf.name b_StackModule_typeOf 2 ([] : List ExceptionTableEntry) (some .int) 0 [(0, .ref x0), (1, .int x1)] [] h 0 0
  obtain ⟨MC, hMC⟩ : ∃ x, x = 0 := ⟨_, rfl⟩
  obtain ⟨MS, hMS⟩ : ∃ x, x = 0 := ⟨_, rfl⟩
  rw [show xb_am l D A σ 3 0 0 = xb_am l D A σ 3 MC MS by rw [hMC, hMS]]
  obtain ⟨h0, hh0⟩ : ∃ x, x = h := ⟨_, rfl⟩
  rw [show xb_am l D A σ 3 MC MS h = xb_am l D A σ 3 MC MS h0 by rw [hh0]]
  intro p e s m args below meth c hC H locs ls k n hE hl hR hS hk hn
  obtain ⟨hx, hb, hown, hlocks, htab, hml, hr, hB, hA, hnm⟩ := id hC
  have hts := hB.1.1.at args
  refine lv_aload_n hx hb (xb_d D_StackModule_typeOf 0 rfl) rfl (lv_at hl 0 rfl) ?_
  obtain ⟨hk1, hw⟩ := hw
  refine xb_getP (C := R_StackModule) (T := F_StackModule) (N := 19) hx hb 2 4 hts fin_StackModule hown hR hk1 (by decide) rfl (by decide) rfl (hts _ m_4d92b9c1) (fun _ h9 => h9) (xb_d D_StackModule_typeOf 1 rfl) ?_
  obtain ⟨b2, eb2, hw⟩ := hw
  refine xb_some eb2 ?_
  refine lv_iload_n hx hb (xb_d D_StackModule_typeOf 2 rfl) rfl (lv_at hl 1 rfl) ?_
  refine lv_iconst (v := 1) hx hb (xb_d D_StackModule_typeOf 3 rfl) (by decide) ?_
  obtain ⟨hk3, hw⟩ := hw
  refine xb_call (D := D) (A := A) (σ := σ) (h := h) (d := 2) (mc := 0) (ms := 0) (maxL := 3) (rest := []) (av := [.ref b2, .int x1, .int 1]) (fun T hT X => by obtain ⟨cb, r1, r2, r3⟩ := xb_recv (ci := 1) hR rfl hk3 (by decide); exact xt_invV X hx hown (hts _ m_2fc63c70) (hts _ m_8e233096) (hts _ m_27eed10c) (xt_sigOf (hts _ m_ff1c70ae)) nm_Row_at (by rw [hT]; exact r1) r2 r3 (g := F0 m 6 ls [.int 1, .int x1, .ref b2]) rfl (argsL := [.int x1, .int 1]) (rest := []) rfl rfl (by rw [hb]; exact (xb_d D_StackModule_typeOf 4 rfl))) (ok_Row_at l hfl D A σ b2 x1 1 h _ hw) (hml.trans hl.1.symm) (by rw [hb]; exact (xb_d D_StackModule_typeOf 4 rfl)) (Nat.le_of_ble_eq_true rfl) (Nat.le_of_ble_eq_true rfl) (Nat.le_of_ble_eq_true rfl) (show k + 0 ≤ MC by omega) (show n + 0 ≤ MS by omega) (xt_w1 hB.1 m_ff1c70ae) (xt_cdOf hB.1 m_ff1c70ae) (hts _ m_c1bef504) hB hR hS hA (fun vv h4 H locs hq hEh4 hR hS => ?_) (fun XX ax h4 H locs hq hEh4 hex hR hS => ?_)
  · obtain ⟨r5, rfl, hw⟩ := hq
    have hw := hw hEh4
    have hE := hE.tr hEh4
    refine W.eq (g2 := F0 m 9 ls [.int r5]) rfl ?_
    exact xb_iret hx hb hr hlocks (show k ≤ MC by omega) (show n ≤ MS by omega) hE hR hS (xb_d D_StackModule_typeOf 5 rfl) hw
  · exact False.elim hq

theorem m_30bc8b83 : (.methodLink "StackHost$Whole" 19 y_Whole_zerosAbove : Cond) ∈ xt_tbl := xt_in (xt_t8 (List.mem_of_getElem? (i := 171) (by decide +kernel))) (by decide +kernel)
theorem m_c4b80527 : (.constantLong "StackHost$Whole" 29 (-1) : Cond) ∈ xt_tbl := xt_in (xt_t8 (List.mem_of_getElem? (i := 195) (by decide +kernel))) (by decide +kernel)
theorem m_fc8fcc72 : (.methodLink "StackHost$Whole" 31 y_Long_bitCount : Cond) ∈ xt_tbl := xt_in (xt_t8 (List.mem_of_getElem? (i := 196) (by decide +kernel))) (by decide +kernel)
theorem m_2ec6347b : (.static y_Long_bitCount : Cond) ∈ xt_tbl := xt_in (xt_t8 (List.mem_of_getElem? (i := 197) (by decide +kernel))) (by decide +kernel)
theorem m_82f837e0 : (.initialized "java/lang/Long" : Cond) ∈ xt_tbl := xt_in (xt_t1 (List.mem_of_getElem? (i := 33) (by decide +kernel))) (by decide +kernel)
theorem m_48fbbabc : (.code y_Long_bitCount b_Long_bitCount 2 (some .int) : Cond) ∈ xt_tbl := xt_in (xt_t8 (List.mem_of_getElem? (i := 198) (by decide +kernel))) (by decide +kernel)
theorem nm_Long_bitCount : xt_nm y_Long_bitCount 1 := ⟨by decide +kernel, by decide +kernel⟩
set_option maxRecDepth 100000 in
def T_Whole_countLong : List (Nat × Instr × Nat) := [(0, .iload_n 0, 1), (1, .lookupswitch 45 #[(0, 27), (1, 32)], 27), (28, .lload_n 1, 1), (29, .invokestatic 19, 3), (32, .ireturn, 1), (33, .lload_n 1, 1), (34, .ldc2_w 29, 3), (37, .lxor, 1), (38, .lload_n 1, 1), (39, .lconst 1, 1), (40, .lsub, 1), (41, .land, 1), (42, .invokestatic 31, 3), (45, .ireturn, 1), (46, .lload_n 1, 1), (47, .invokestatic 31, 3), (50, .ireturn, 1)]
theorem D_Whole_countLong : ∀ q ∈ T_Whole_countLong, decode b_Whole_countLong q.1 = .ok (q.2.1, q.2.2) := by decide +kernel
def w_Whole_countLong (x0 : Int32) (x1 : Int64) (h : xb_H) (Qr : Int32 → xb_H → Prop) : Prop :=
    ((x0 = 0 → w_Whole_zerosAbove x1 h (fun (r3 : Int32) (h2 : xb_H) => xb_ext h h2 → Qr r3 h2)) ∧ (x0 = 1 → w_Long_bitCount ((x1 ^^^ (-1)) &&& (x1 - 1)) h (fun (r6 : Int32) (h5 : xb_H) => xb_ext h h5 → Qr r6 h5)) ∧ (¬ x0 = 0 → ¬ x0 = 1 → w_Long_bitCount x1 h (fun (r8 : Int32) (h7 : xb_H) => xb_ext h h7 → Qr r8 h7)))

set_option maxHeartbeats 4000000 in
set_option maxRecDepth 100000 in
theorem ok_Whole_countLong (l : Launch) (hfl : l.flags = pinnedFlags ++ [noTraceFlag]) (D : va_G) (A : Nat → Prop) (σ : Nat) (x0 : Int32) (x1 : Int64) (h : xb_H) (Qr : Int32 → xb_H → Prop) (hw : w_Whole_countLong x0 x1 h Qr) : xt_Met l y_Whole_countLong [.code y_Whole_countLong b_Whole_countLong 3 (some .int)] (xb_rm 3 0 0) (xb_Pc D A σ h [.int x0, .long x1]) (xb_Qc D A h (fun v h => ∃ r, v = some (.int r) ∧ Qr r h) (fun _ _ => False)) 0 0 A := by
  refine xb_ofAm (cc := b_Whole_countLong) (by decide) (Nat.le_of_ble_eq_true rfl) ?_
  unfold w_Whole_countLong at hw
  show xb_am l D A σ 3 0 0 h (fun v h => ∃ r, v = some (.int r) ∧ Qr r h) (fun _ _ => False) y_Whole_countLong.cls y_Whole_countLong.name b_Whole_countLong 3 ([] : List ExceptionTableEntry) (some .int) 0 [(0, .int x0), (1, .long x1)] [] h 0 0
  obtain ⟨MC, hMC⟩ : ∃ x, x = 0 := ⟨_, rfl⟩
  obtain ⟨MS, hMS⟩ : ∃ x, x = 0 := ⟨_, rfl⟩
  rw [show xb_am l D A σ 3 0 0 = xb_am l D A σ 3 MC MS by rw [hMC, hMS]]
  obtain ⟨h0, hh0⟩ : ∃ x, x = h := ⟨_, rfl⟩
  rw [show xb_am l D A σ 3 MC MS h = xb_am l D A σ 3 MC MS h0 by rw [hh0]]
  intro p e s m args below meth c hC H locs ls k n hE hl hR hS hk hn
  obtain ⟨hx, hb, hown, hlocks, htab, hml, hr, hB, hA, hnm⟩ := id hC
  have hts := hB.1.1.at args
  refine lv_iload_n hx hb (xb_d D_Whole_countLong 0 rfl) rfl (lv_at hl 0 rfl) ?_
  by_cases hc1 : x0 = 0
  · have hw := hw.1 hc1
    refine xt_numi hc1 ?_
    refine lv_lookup (off := 27) (tgt := 28) hx hb (xb_d D_Whole_countLong 1 rfl) (by decide +kernel) (by decide +kernel) (by decide) ?_
    refine lv_lload_n hx hb (xb_d D_Whole_countLong 2 rfl) rfl (lv_at hl 1 rfl) ?_
    refine xb_call (D := D) (A := A) (σ := σ) (h := h) (d := 2) (mc := 0) (ms := 0) (maxL := 6) (rest := []) (av := [.long x1]) (fun T hT X => xt_invS X hx hown (hts _ m_30bc8b83) (hts _ m_a350c52f) (hts _ m_912e4ef6) (xt_sgS (hts _ m_041868e1)).1 (xt_sgS (hts _ m_041868e1)).2 nm_Whole_zerosAbove (g := F0 m 29 ls [.long x1]) rfl (argsL := [.long x1]) (rest := []) rfl rfl (by rw [hb]; exact (xb_d D_Whole_countLong 3 rfl))) (ok_Whole_zerosAbove l hfl D A σ x1 h _ hw) (hml.trans hl.1.symm) (by rw [hb]; exact (xb_d D_Whole_countLong 3 rfl)) (Nat.le_of_ble_eq_true rfl) (Nat.le_of_ble_eq_true rfl) (Nat.le_of_ble_eq_true rfl) (show k + 0 ≤ MC by omega) (show n + 0 ≤ MS by omega) (xt_w1 hB.1 m_041868e1) (xt_cdOf hB.1 m_041868e1) (hts _ m_912e4ef6) hB hR hS hA (fun vv h2 H locs hq hEh2 hR hS => ?_) (fun XX ax h2 H locs hq hEh2 hex hR hS => ?_)
    · obtain ⟨r3, rfl, hw⟩ := hq
      have hw := hw hEh2
      have hE := hE.tr hEh2
      refine W.eq (g2 := F0 m 32 ls [.int r3]) rfl ?_
      exact xb_iret hx hb hr hlocks (show k ≤ MC by omega) (show n ≤ MS by omega) hE hR hS (xb_d D_Whole_countLong 4 rfl) hw
    · exact False.elim hq
  have hw := hw.2
  by_cases hc4 : x0 = 1
  · have hw := hw.1 hc4
    refine xt_numi hc4 ?_
    refine lv_lookup (off := 32) (tgt := 33) hx hb (xb_d D_Whole_countLong 1 rfl) (by decide +kernel) (by decide +kernel) (by decide) ?_
    refine lv_lload_n hx hb (xb_d D_Whole_countLong 5 rfl) rfl (lv_at hl 1 rfl) ?_
    refine lv_ldc2 (v := (-1)) hx hb hown (hts _ m_c4b80527) (xb_d D_Whole_countLong 6 rfl) ?_
    refine lv_lxor hx hb (xb_d D_Whole_countLong 7 rfl) ?_
    refine lv_lload_n hx hb (xb_d D_Whole_countLong 8 rfl) rfl (lv_at hl 1 rfl) ?_
    refine lv_lconst (v := 1) hx hb (xb_d D_Whole_countLong 9 rfl) (by decide) ?_
    refine lv_lsub hx hb (xb_d D_Whole_countLong 10 rfl) ?_
    refine lv_land hx hb (xb_d D_Whole_countLong 11 rfl) ?_
    refine xb_call (D := D) (A := A) (σ := σ) (h := h) (d := 2) (mc := 0) (ms := 0) (maxL := 2) (rest := []) (av := [.long ((x1 ^^^ (-1)) &&& (x1 - 1))]) (fun T hT X => xt_invS X hx hown (hts _ m_fc8fcc72) (hts _ m_2ec6347b) (hts _ m_82f837e0) (xt_sgS (hts _ m_48fbbabc)).1 (xt_sgS (hts _ m_48fbbabc)).2 nm_Long_bitCount (g := F0 m 42 ls [.long ((x1 ^^^ (-1)) &&& (x1 - 1))]) rfl (argsL := [.long ((x1 ^^^ (-1)) &&& (x1 - 1))]) (rest := []) rfl rfl (by rw [hb]; exact (xb_d D_Whole_countLong 12 rfl))) (ok_Long_bitCount l hfl D A σ ((x1 ^^^ (-1)) &&& (x1 - 1)) h _ hw) (hml.trans hl.1.symm) (by rw [hb]; exact (xb_d D_Whole_countLong 12 rfl)) (Nat.le_of_ble_eq_true rfl) (Nat.le_of_ble_eq_true rfl) (Nat.le_of_ble_eq_true rfl) (show k + 0 ≤ MC by omega) (show n + 0 ≤ MS by omega) (xt_w1 hB.1 m_48fbbabc) (xt_cdOf hB.1 m_48fbbabc) (hts _ m_82f837e0) hB hR hS hA (fun vv h5 H locs hq hEh5 hR hS => ?_) (fun XX ax h5 H locs hq hEh5 hex hR hS => ?_)
    · obtain ⟨r6, rfl, hw⟩ := hq
      have hw := hw hEh5
      have hE := hE.tr hEh5
      refine W.eq (g2 := F0 m 45 ls [.int r6]) rfl ?_
      exact xb_iret hx hb hr hlocks (show k ≤ MC by omega) (show n ≤ MS by omega) hE hR hS (xb_d D_Whole_countLong 13 rfl) hw
    · exact False.elim hq
  have hw := hw.2
  have hw := hw hc1 hc4
  refine lv_lookup (off := 45) (tgt := 46) hx hb (xb_d D_Whole_countLong 1 rfl) (by decide +kernel) (by simp only [List.toList_toArray, Op.lookupswitch.offset_cons, Op.lookupswitch.offset_nil]; rw [if_neg (fun h9 => xb_nl (0) 0 (by decide) hc1 h9.symm), if_neg (fun h9 => xb_nl (1) 1 (by decide) hc4 h9.symm)]) (by decide) ?_
  refine lv_lload_n hx hb (xb_d D_Whole_countLong 14 rfl) rfl (lv_at hl 1 rfl) ?_
  refine xb_call (D := D) (A := A) (σ := σ) (h := h) (d := 2) (mc := 0) (ms := 0) (maxL := 2) (rest := []) (av := [.long x1]) (fun T hT X => xt_invS X hx hown (hts _ m_fc8fcc72) (hts _ m_2ec6347b) (hts _ m_82f837e0) (xt_sgS (hts _ m_48fbbabc)).1 (xt_sgS (hts _ m_48fbbabc)).2 nm_Long_bitCount (g := F0 m 47 ls [.long x1]) rfl (argsL := [.long x1]) (rest := []) rfl rfl (by rw [hb]; exact (xb_d D_Whole_countLong 15 rfl))) (ok_Long_bitCount l hfl D A σ x1 h _ hw) (hml.trans hl.1.symm) (by rw [hb]; exact (xb_d D_Whole_countLong 15 rfl)) (Nat.le_of_ble_eq_true rfl) (Nat.le_of_ble_eq_true rfl) (Nat.le_of_ble_eq_true rfl) (show k + 0 ≤ MC by omega) (show n + 0 ≤ MS by omega) (xt_w1 hB.1 m_48fbbabc) (xt_cdOf hB.1 m_48fbbabc) (hts _ m_82f837e0) hB hR hS hA (fun vv h7 H locs hq hEh7 hR hS => ?_) (fun XX ax h7 H locs hq hEh7 hex hR hS => ?_)
  · obtain ⟨r8, rfl, hw⟩ := hq
    have hw := hw hEh7
    have hE := hE.tr hEh7
    refine W.eq (g2 := F0 m 50 ls [.int r8]) rfl ?_
    exact xb_iret hx hb hr hlocks (show k ≤ MC by omega) (show n ≤ MS by omega) hE hR hS (xb_d D_Whole_countLong 16 rfl) hw
  · exact False.elim hq

theorem m_e1828f80 : (.methodLink "StackHost$Whole" 23 y_Integer_bitCount : Cond) ∈ xt_tbl := xt_in (xt_t8 (List.mem_of_getElem? (i := 172) (by decide +kernel))) (by decide +kernel)
theorem m_63bc7ab2 : (.static y_Integer_bitCount : Cond) ∈ xt_tbl := xt_in (xt_t8 (List.mem_of_getElem? (i := 173) (by decide +kernel))) (by decide +kernel)
theorem m_4a61c565 : (.initialized "java/lang/Integer" : Cond) ∈ xt_tbl := xt_in (xt_t1 (List.mem_of_getElem? (i := 26) (by decide +kernel))) (by decide +kernel)
theorem m_c9c99516 : (.code y_Integer_bitCount b_Integer_bitCount 1 (some .int) : Cond) ∈ xt_tbl := xt_in (xt_t8 (List.mem_of_getElem? (i := 174) (by decide +kernel))) (by decide +kernel)
theorem nm_Integer_bitCount : xt_nm y_Integer_bitCount 1 := ⟨by decide +kernel, by decide +kernel⟩
set_option maxRecDepth 100000 in
def T_Whole_countShort : List (Nat × Instr × Nat) := [(0, .iload_n 0, 1), (1, .lookupswitch 51 #[(0, 27), (1, 40)], 27), (28, .iload_n 1, 1), (29, .i2l, 1), (30, .ldc2_w 17, 3), (33, .land, 1), (34, .invokestatic 19, 3), (37, .bipush 32, 2), (39, .isub, 1), (40, .ireturn, 1), (41, .iload_n 1, 1), (42, .iconst (-1), 1), (43, .ixor, 1), (44, .iload_n 1, 1), (45, .iconst 1, 1), (46, .isub, 1), (47, .iand, 1), (48, .invokestatic 23, 3), (51, .ireturn, 1), (52, .iload_n 1, 1), (53, .invokestatic 23, 3), (56, .ireturn, 1)]
theorem D_Whole_countShort : ∀ q ∈ T_Whole_countShort, decode b_Whole_countShort q.1 = .ok (q.2.1, q.2.2) := by decide +kernel
def w_Whole_countShort (x0 : Int32) (x1 : Int32) (h : xb_H) (Qr : Int32 → xb_H → Prop) : Prop :=
    ((x0 = 0 → w_Whole_zerosAbove ((Int32.toInt64 x1) &&& 4294967295) h (fun (r3 : Int32) (h2 : xb_H) => xb_ext h h2 → Qr (r3 - 32) h2)) ∧ (x0 = 1 → w_Integer_bitCount ((x1 ^^^ (-1)) &&& (x1 - 1)) h (fun (r6 : Int32) (h5 : xb_H) => xb_ext h h5 → Qr r6 h5)) ∧ (¬ x0 = 0 → ¬ x0 = 1 → w_Integer_bitCount x1 h (fun (r8 : Int32) (h7 : xb_H) => xb_ext h h7 → Qr r8 h7)))

set_option maxHeartbeats 4000000 in
set_option maxRecDepth 100000 in
theorem ok_Whole_countShort (l : Launch) (hfl : l.flags = pinnedFlags ++ [noTraceFlag]) (D : va_G) (A : Nat → Prop) (σ : Nat) (x0 : Int32) (x1 : Int32) (h : xb_H) (Qr : Int32 → xb_H → Prop) (hw : w_Whole_countShort x0 x1 h Qr) : xt_Met l y_Whole_countShort [.code y_Whole_countShort b_Whole_countShort 2 (some .int)] (xb_rm 3 0 0) (xb_Pc D A σ h [.int x0, .int x1]) (xb_Qc D A h (fun v h => ∃ r, v = some (.int r) ∧ Qr r h) (fun _ _ => False)) 0 0 A := by
  refine xb_ofAm (cc := b_Whole_countShort) (by decide) (Nat.le_of_ble_eq_true rfl) ?_
  unfold w_Whole_countShort at hw
  show xb_am l D A σ 3 0 0 h (fun v h => ∃ r, v = some (.int r) ∧ Qr r h) (fun _ _ => False) y_Whole_countShort.cls y_Whole_countShort.name b_Whole_countShort 2 ([] : List ExceptionTableEntry) (some .int) 0 [(0, .int x0), (1, .int x1)] [] h 0 0
  obtain ⟨MC, hMC⟩ : ∃ x, x = 0 := ⟨_, rfl⟩
  obtain ⟨MS, hMS⟩ : ∃ x, x = 0 := ⟨_, rfl⟩
  rw [show xb_am l D A σ 3 0 0 = xb_am l D A σ 3 MC MS by rw [hMC, hMS]]
  obtain ⟨h0, hh0⟩ : ∃ x, x = h := ⟨_, rfl⟩
  rw [show xb_am l D A σ 3 MC MS h = xb_am l D A σ 3 MC MS h0 by rw [hh0]]
  intro p e s m args below meth c hC H locs ls k n hE hl hR hS hk hn
  obtain ⟨hx, hb, hown, hlocks, htab, hml, hr, hB, hA, hnm⟩ := id hC
  have hts := hB.1.1.at args
  refine lv_iload_n hx hb (xb_d D_Whole_countShort 0 rfl) rfl (lv_at hl 0 rfl) ?_
  by_cases hc1 : x0 = 0
  · have hw := hw.1 hc1
    refine xt_numi hc1 ?_
    refine lv_lookup (off := 27) (tgt := 28) hx hb (xb_d D_Whole_countShort 1 rfl) (by decide +kernel) (by decide +kernel) (by decide) ?_
    refine lv_iload_n hx hb (xb_d D_Whole_countShort 2 rfl) rfl (lv_at hl 1 rfl) ?_
    refine lv_i2l hx hb (xb_d D_Whole_countShort 3 rfl) rfl ?_
    refine lv_ldc2 (v := 4294967295) hx hb hown (hts _ m_b9681625) (xb_d D_Whole_countShort 4 rfl) ?_
    refine lv_land hx hb (xb_d D_Whole_countShort 5 rfl) ?_
    refine xb_call (D := D) (A := A) (σ := σ) (h := h) (d := 2) (mc := 0) (ms := 0) (maxL := 6) (rest := []) (av := [.long ((Int32.toInt64 x1) &&& 4294967295)]) (fun T hT X => xt_invS X hx hown (hts _ m_30bc8b83) (hts _ m_a350c52f) (hts _ m_912e4ef6) (xt_sgS (hts _ m_041868e1)).1 (xt_sgS (hts _ m_041868e1)).2 nm_Whole_zerosAbove (g := F0 m 34 ls [.long ((Int32.toInt64 x1) &&& 4294967295)]) rfl (argsL := [.long ((Int32.toInt64 x1) &&& 4294967295)]) (rest := []) rfl rfl (by rw [hb]; exact (xb_d D_Whole_countShort 6 rfl))) (ok_Whole_zerosAbove l hfl D A σ ((Int32.toInt64 x1) &&& 4294967295) h _ hw) (hml.trans hl.1.symm) (by rw [hb]; exact (xb_d D_Whole_countShort 6 rfl)) (Nat.le_of_ble_eq_true rfl) (Nat.le_of_ble_eq_true rfl) (Nat.le_of_ble_eq_true rfl) (show k + 0 ≤ MC by omega) (show n + 0 ≤ MS by omega) (xt_w1 hB.1 m_041868e1) (xt_cdOf hB.1 m_041868e1) (hts _ m_912e4ef6) hB hR hS hA (fun vv h2 H locs hq hEh2 hR hS => ?_) (fun XX ax h2 H locs hq hEh2 hex hR hS => ?_)
    · obtain ⟨r3, rfl, hw⟩ := hq
      have hw := hw hEh2
      have hE := hE.tr hEh2
      refine W.eq (g2 := F0 m 37 ls [.int r3]) rfl ?_
      refine lv_bipush (v := 32) hx hb (xb_d D_Whole_countShort 7 rfl) (by decide) ?_
      refine lv_isub hx hb (xb_d D_Whole_countShort 8 rfl) ?_
      exact xb_iret hx hb hr hlocks (show k ≤ MC by omega) (show n ≤ MS by omega) hE hR hS (xb_d D_Whole_countShort 9 rfl) hw
    · exact False.elim hq
  have hw := hw.2
  by_cases hc4 : x0 = 1
  · have hw := hw.1 hc4
    refine xt_numi hc4 ?_
    refine lv_lookup (off := 40) (tgt := 41) hx hb (xb_d D_Whole_countShort 1 rfl) (by decide +kernel) (by decide +kernel) (by decide) ?_
    refine lv_iload_n hx hb (xb_d D_Whole_countShort 10 rfl) rfl (lv_at hl 1 rfl) ?_
    refine lv_iconst (v := (-1)) hx hb (xb_d D_Whole_countShort 11 rfl) (by decide) ?_
    refine lv_ixor hx hb (xb_d D_Whole_countShort 12 rfl) ?_
    refine lv_iload_n hx hb (xb_d D_Whole_countShort 13 rfl) rfl (lv_at hl 1 rfl) ?_
    refine lv_iconst (v := 1) hx hb (xb_d D_Whole_countShort 14 rfl) (by decide) ?_
    refine lv_isub hx hb (xb_d D_Whole_countShort 15 rfl) ?_
    refine lv_iand hx hb (xb_d D_Whole_countShort 16 rfl) ?_
    refine xb_call (D := D) (A := A) (σ := σ) (h := h) (d := 2) (mc := 0) (ms := 0) (maxL := 1) (rest := []) (av := [.int ((x1 ^^^ (-1)) &&& (x1 - 1))]) (fun T hT X => xt_invS X hx hown (hts _ m_e1828f80) (hts _ m_63bc7ab2) (hts _ m_4a61c565) (xt_sgS (hts _ m_c9c99516)).1 (xt_sgS (hts _ m_c9c99516)).2 nm_Integer_bitCount (g := F0 m 48 ls [.int ((x1 ^^^ (-1)) &&& (x1 - 1))]) rfl (argsL := [.int ((x1 ^^^ (-1)) &&& (x1 - 1))]) (rest := []) rfl rfl (by rw [hb]; exact (xb_d D_Whole_countShort 17 rfl))) (ok_Integer_bitCount l hfl D A σ ((x1 ^^^ (-1)) &&& (x1 - 1)) h _ hw) (hml.trans hl.1.symm) (by rw [hb]; exact (xb_d D_Whole_countShort 17 rfl)) (Nat.le_of_ble_eq_true rfl) (Nat.le_of_ble_eq_true rfl) (Nat.le_of_ble_eq_true rfl) (show k + 0 ≤ MC by omega) (show n + 0 ≤ MS by omega) (xt_w1 hB.1 m_c9c99516) (xt_cdOf hB.1 m_c9c99516) (hts _ m_4a61c565) hB hR hS hA (fun vv h5 H locs hq hEh5 hR hS => ?_) (fun XX ax h5 H locs hq hEh5 hex hR hS => ?_)
    · obtain ⟨r6, rfl, hw⟩ := hq
      have hw := hw hEh5
      have hE := hE.tr hEh5
      refine W.eq (g2 := F0 m 51 ls [.int r6]) rfl ?_
      exact xb_iret hx hb hr hlocks (show k ≤ MC by omega) (show n ≤ MS by omega) hE hR hS (xb_d D_Whole_countShort 18 rfl) hw
    · exact False.elim hq
  have hw := hw.2
  have hw := hw hc1 hc4
  refine lv_lookup (off := 51) (tgt := 52) hx hb (xb_d D_Whole_countShort 1 rfl) (by decide +kernel) (by simp only [List.toList_toArray, Op.lookupswitch.offset_cons, Op.lookupswitch.offset_nil]; rw [if_neg (fun h9 => xb_nl (0) 0 (by decide) hc1 h9.symm), if_neg (fun h9 => xb_nl (1) 1 (by decide) hc4 h9.symm)]) (by decide) ?_
  refine lv_iload_n hx hb (xb_d D_Whole_countShort 19 rfl) rfl (lv_at hl 1 rfl) ?_
  refine xb_call (D := D) (A := A) (σ := σ) (h := h) (d := 2) (mc := 0) (ms := 0) (maxL := 1) (rest := []) (av := [.int x1]) (fun T hT X => xt_invS X hx hown (hts _ m_e1828f80) (hts _ m_63bc7ab2) (hts _ m_4a61c565) (xt_sgS (hts _ m_c9c99516)).1 (xt_sgS (hts _ m_c9c99516)).2 nm_Integer_bitCount (g := F0 m 53 ls [.int x1]) rfl (argsL := [.int x1]) (rest := []) rfl rfl (by rw [hb]; exact (xb_d D_Whole_countShort 20 rfl))) (ok_Integer_bitCount l hfl D A σ x1 h _ hw) (hml.trans hl.1.symm) (by rw [hb]; exact (xb_d D_Whole_countShort 20 rfl)) (Nat.le_of_ble_eq_true rfl) (Nat.le_of_ble_eq_true rfl) (Nat.le_of_ble_eq_true rfl) (show k + 0 ≤ MC by omega) (show n + 0 ≤ MS by omega) (xt_w1 hB.1 m_c9c99516) (xt_cdOf hB.1 m_c9c99516) (hts _ m_4a61c565) hB hR hS hA (fun vv h7 H locs hq hEh7 hR hS => ?_) (fun XX ax h7 H locs hq hEh7 hex hR hS => ?_)
  · obtain ⟨r8, rfl, hw⟩ := hq
    have hw := hw hEh7
    have hE := hE.tr hEh7
    refine W.eq (g2 := F0 m 56 ls [.int r8]) rfl ?_
    exact xb_iret hx hb hr hlocks (show k ≤ MC by omega) (show n ≤ MS by omega) hE hR hS (xb_d D_Whole_countShort 21 rfl) hw
  · exact False.elim hq

theorem m_601e0a48 : (.methodLink "StackHost$Whole" 43 y_Whole_quotient : Cond) ∈ xt_tbl := xt_in (xt_t8 (List.mem_of_getElem? (i := 209) (by decide +kernel))) (by decide +kernel)
theorem m_39b8ef05 : (.static y_Whole_quotient : Cond) ∈ xt_tbl := xt_in (xt_t8 (List.mem_of_getElem? (i := 210) (by decide +kernel))) (by decide +kernel)
theorem m_be008d72 : (.code y_Whole_quotient b_Whole_quotient 8 (some .long) : Cond) ∈ xt_tbl := xt_in (xt_t8 (List.mem_of_getElem? (i := 211) (by decide +kernel))) (by decide +kernel)
theorem nm_Whole_quotient : xt_nm y_Whole_quotient 2 := ⟨by decide +kernel, by decide +kernel⟩
set_option maxRecDepth 100000 in
def T_Whole_divideLong : List (Nat × Instr × Nat) := [(0, .iload_n 0, 1), (1, .tableswitch 41 3 5 #[27, 31, 37], 27), (28, .lload_n 1, 1), (29, .lload_n 3, 1), (30, .ldiv, 1), (31, .lreturn, 1), (32, .lload_n 1, 1), (33, .lload_n 3, 1), (34, .invokestatic 43, 3), (37, .lreturn, 1), (38, .lload_n 1, 1), (39, .lload_n 3, 1), (40, .lrem, 1), (41, .lreturn, 1), (42, .lload_n 1, 1), (43, .lload_n 1, 1), (44, .lload_n 3, 1), (45, .invokestatic 43, 3), (48, .lload_n 3, 1), (49, .lmul, 1), (50, .lsub, 1), (51, .lreturn, 1)]
theorem D_Whole_divideLong : ∀ q ∈ T_Whole_divideLong, decode b_Whole_divideLong q.1 = .ok (q.2.1, q.2.2) := by decide +kernel
def w_Whole_divideLong (x0 : Int32) (x1 : Int64) (x3 : Int64) (h : xb_H) (Qr : Int64 → xb_H → Prop) : Prop :=
    ((x0 = 3 → ¬ x3 = 0 ∧ Qr (x1 / x3) h) ∧ (x0 = 4 → w_Whole_quotient x1 x3 h (fun (r5 : Int64) (h4 : xb_H) => xb_ext h h4 → Qr r5 h4)) ∧ (x0 = 5 → ¬ x3 = 0 ∧ Qr (x1 - x1 / x3 * x3) h) ∧ (¬ x0 = 3 → ¬ x0 = 4 → ¬ x0 = 5 → w_Whole_quotient x1 x3 h (fun (r9 : Int64) (h8 : xb_H) => xb_ext h h8 → Qr (x1 - (r9 * x3)) h8)))

set_option maxHeartbeats 4000000 in
set_option maxRecDepth 100000 in
theorem ok_Whole_divideLong (l : Launch) (hfl : l.flags = pinnedFlags ++ [noTraceFlag]) (D : va_G) (A : Nat → Prop) (σ : Nat) (x0 : Int32) (x1 : Int64) (x3 : Int64) (h : xb_H) (Qr : Int64 → xb_H → Prop) (hw : w_Whole_divideLong x0 x1 x3 h Qr) : xt_Met l y_Whole_divideLong [.code y_Whole_divideLong b_Whole_divideLong 5 (some .long)] (xb_rm 3 0 0) (xb_Pc D A σ h [.int x0, .long x1, .long x3]) (xb_Qc D A h (fun v h => ∃ r, v = some (.long r) ∧ Qr r h) (fun _ _ => False)) 0 0 A := by
  refine xb_ofAm (cc := b_Whole_divideLong) (by decide) (Nat.le_of_ble_eq_true rfl) ?_
  unfold w_Whole_divideLong at hw
  show xb_am l D A σ 3 0 0 h (fun v h => ∃ r, v = some (.long r) ∧ Qr r h) (fun _ _ => False) y_Whole_divideLong.cls y_Whole_divideLong.name b_Whole_divideLong 5 ([] : List ExceptionTableEntry) (some .long) 0 [(0, .int x0), (1, .long x1), (3, .long x3)] [] h 0 0
  obtain ⟨MC, hMC⟩ : ∃ x, x = 0 := ⟨_, rfl⟩
  obtain ⟨MS, hMS⟩ : ∃ x, x = 0 := ⟨_, rfl⟩
  rw [show xb_am l D A σ 3 0 0 = xb_am l D A σ 3 MC MS by rw [hMC, hMS]]
  obtain ⟨h0, hh0⟩ : ∃ x, x = h := ⟨_, rfl⟩
  rw [show xb_am l D A σ 3 MC MS h = xb_am l D A σ 3 MC MS h0 by rw [hh0]]
  intro p e s m args below meth c hC H locs ls k n hE hl hR hS hk hn
  obtain ⟨hx, hb, hown, hlocks, htab, hml, hr, hB, hA, hnm⟩ := id hC
  have hts := hB.1.1.at args
  refine lv_iload_n hx hb (xb_d D_Whole_divideLong 0 rfl) rfl (lv_at hl 0 rfl) ?_
  by_cases hc1 : x0 = 3
  · have hw := hw.1 hc1
    refine xt_numi hc1 ?_
    refine lv_tableIn (off := 27) (tgt := 28) hx hb (xb_d D_Whole_divideLong 1 rfl) (by decide +kernel) (by decide +kernel) (by decide +kernel) (by decide) ?_
    refine lv_lload_n hx hb (xb_d D_Whole_divideLong 2 rfl) rfl (lv_at hl 1 rfl) ?_
    refine lv_lload_n hx hb (xb_d D_Whole_divideLong 3 rfl) rfl (lv_at hl 2 rfl) ?_
    obtain ⟨hz2, hw⟩ := hw
    refine lv_ldiv hx hb (xb_d D_Whole_divideLong 4 rfl) hz2 ?_
    exact xb_lret hx hb hr hlocks (show k ≤ MC by omega) (show n ≤ MS by omega) hE hR hS (xb_d D_Whole_divideLong 5 rfl) hw
  have hw := hw.2
  by_cases hc3 : x0 = 4
  · have hw := hw.1 hc3
    refine xt_numi hc3 ?_
    refine lv_tableIn (off := 31) (tgt := 32) hx hb (xb_d D_Whole_divideLong 1 rfl) (by decide +kernel) (by decide +kernel) (by decide +kernel) (by decide) ?_
    refine lv_lload_n hx hb (xb_d D_Whole_divideLong 6 rfl) rfl (lv_at hl 1 rfl) ?_
    refine lv_lload_n hx hb (xb_d D_Whole_divideLong 7 rfl) rfl (lv_at hl 2 rfl) ?_
    refine xb_call (D := D) (A := A) (σ := σ) (h := h) (d := 2) (mc := 0) (ms := 0) (maxL := 8) (rest := []) (av := [.long x1, .long x3]) (fun T hT X => xt_invS X hx hown (hts _ m_601e0a48) (hts _ m_39b8ef05) (hts _ m_912e4ef6) (xt_sgS (hts _ m_be008d72)).1 (xt_sgS (hts _ m_be008d72)).2 nm_Whole_quotient (g := F0 m 34 ls [.long x3, .long x1]) rfl (argsL := [.long x1, .long x3]) (rest := []) rfl rfl (by rw [hb]; exact (xb_d D_Whole_divideLong 8 rfl))) (ok_Whole_quotient l hfl D A σ x1 x3 h _ hw) (hml.trans hl.1.symm) (by rw [hb]; exact (xb_d D_Whole_divideLong 8 rfl)) (Nat.le_of_ble_eq_true rfl) (Nat.le_of_ble_eq_true rfl) (Nat.le_of_ble_eq_true rfl) (show k + 0 ≤ MC by omega) (show n + 0 ≤ MS by omega) (xt_w1 hB.1 m_be008d72) (xt_cdOf hB.1 m_be008d72) (hts _ m_912e4ef6) hB hR hS hA (fun vv h4 H locs hq hEh4 hR hS => ?_) (fun XX ax h4 H locs hq hEh4 hex hR hS => ?_)
    · obtain ⟨r5, rfl, hw⟩ := hq
      have hw := hw hEh4
      have hE := hE.tr hEh4
      refine W.eq (g2 := F0 m 37 ls [.long r5]) rfl ?_
      exact xb_lret hx hb hr hlocks (show k ≤ MC by omega) (show n ≤ MS by omega) hE hR hS (xb_d D_Whole_divideLong 9 rfl) hw
    · exact False.elim hq
  have hw := hw.2
  by_cases hc6 : x0 = 5
  · have hw := hw.1 hc6
    refine xt_numi hc6 ?_
    refine lv_tableIn (off := 37) (tgt := 38) hx hb (xb_d D_Whole_divideLong 1 rfl) (by decide +kernel) (by decide +kernel) (by decide +kernel) (by decide) ?_
    refine lv_lload_n hx hb (xb_d D_Whole_divideLong 10 rfl) rfl (lv_at hl 1 rfl) ?_
    refine lv_lload_n hx hb (xb_d D_Whole_divideLong 11 rfl) rfl (lv_at hl 2 rfl) ?_
    obtain ⟨hz7, hw⟩ := hw
    refine lv_lrem hx hb (xb_d D_Whole_divideLong 12 rfl) hz7 ?_
    exact xb_lret hx hb hr hlocks (show k ≤ MC by omega) (show n ≤ MS by omega) hE hR hS (xb_d D_Whole_divideLong 13 rfl) hw
  have hw := hw.2
  have hw := hw hc1 hc3 hc6
  refine lv_tableOut (tgt := 42) hx hb (xb_d D_Whole_divideLong 1 rfl) (by have a0 := xb_nl (3) 3 (by decide) hc1; have a1 := xb_nl (4) 4 (by decide) hc3; have a2 := xb_nl (5) 5 (by decide) hc6; omega) (by decide) ?_
  refine lv_lload_n hx hb (xb_d D_Whole_divideLong 14 rfl) rfl (lv_at hl 1 rfl) ?_
  refine lv_lload_n hx hb (xb_d D_Whole_divideLong 15 rfl) rfl (lv_at hl 1 rfl) ?_
  refine lv_lload_n hx hb (xb_d D_Whole_divideLong 16 rfl) rfl (lv_at hl 2 rfl) ?_
  refine xb_call (D := D) (A := A) (σ := σ) (h := h) (d := 2) (mc := 0) (ms := 0) (maxL := 8) (rest := [.long x1]) (av := [.long x1, .long x3]) (fun T hT X => xt_invS X hx hown (hts _ m_601e0a48) (hts _ m_39b8ef05) (hts _ m_912e4ef6) (xt_sgS (hts _ m_be008d72)).1 (xt_sgS (hts _ m_be008d72)).2 nm_Whole_quotient (g := F0 m 45 ls [.long x3, .long x1, .long x1]) rfl (argsL := [.long x1, .long x3]) (rest := [.long x1]) rfl rfl (by rw [hb]; exact (xb_d D_Whole_divideLong 17 rfl))) (ok_Whole_quotient l hfl D A σ x1 x3 h _ hw) (hml.trans hl.1.symm) (by rw [hb]; exact (xb_d D_Whole_divideLong 17 rfl)) (Nat.le_of_ble_eq_true rfl) (Nat.le_of_ble_eq_true rfl) (Nat.le_of_ble_eq_true rfl) (show k + 0 ≤ MC by omega) (show n + 0 ≤ MS by omega) (xt_w1 hB.1 m_be008d72) (xt_cdOf hB.1 m_be008d72) (hts _ m_912e4ef6) hB hR hS hA (fun vv h8 H locs hq hEh8 hR hS => ?_) (fun XX ax h8 H locs hq hEh8 hex hR hS => ?_)
  · obtain ⟨r9, rfl, hw⟩ := hq
    have hw := hw hEh8
    have hE := hE.tr hEh8
    refine W.eq (g2 := F0 m 48 ls [.long r9, .long x1]) rfl ?_
    refine lv_lload_n hx hb (xb_d D_Whole_divideLong 18 rfl) rfl (lv_at hl 2 rfl) ?_
    refine lv_lmul hx hb (xb_d D_Whole_divideLong 19 rfl) ?_
    refine lv_lsub hx hb (xb_d D_Whole_divideLong 20 rfl) ?_
    exact xb_lret hx hb hr hlocks (show k ≤ MC by omega) (show n ≤ MS by omega) hE hR hS (xb_d D_Whole_divideLong 21 rfl) hw
  · exact False.elim hq

