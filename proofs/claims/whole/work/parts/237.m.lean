theorem m_c60bdb4f : (.methodLink "StackHost$Machine" 166 y_StackModule_parameters : Cond) ∈ xt_tbl := xt_in (xt_t7 (List.mem_of_getElem? (i := 229) (by decide +kernel))) (by decide +kernel)
theorem m_5ec583bc : (.fieldLink "StackHost$Machine" 150 "StackHost$StackModule" "bodies" "LStackHost$Row;" : Cond) ∈ xt_tbl := xt_in (xt_t3 (List.mem_of_getElem? (i := 103) (by decide +kernel))) (by decide +kernel)
theorem m_556e657b : (.methodLink "StackHost$Machine" 133 y_World_ownerOf : Cond) ∈ xt_tbl := xt_in (xt_t7 (List.mem_of_getElem? (i := 224) (by decide +kernel))) (by decide +kernel)
theorem m_1360c288 : (.methodLink "StackHost$Machine" 143 y_Instance_numberOf : Cond) ∈ xt_tbl := xt_in (xt_t7 (List.mem_of_getElem? (i := 225) (by decide +kernel))) (by decide +kernel)
theorem m_fe87a8a2 : (.fieldLink "StackHost$Machine" 147 "StackHost$StackModule" "imported" "[I" : Cond) ∈ xt_tbl := xt_in (xt_t3 (List.mem_of_getElem? (i := 115) (by decide +kernel))) (by decide +kernel)
theorem m_203d63fb : (.methodLink "StackHost$Machine" 159 y_Arrays_fill1 : Cond) ∈ xt_tbl := xt_in (xt_t7 (List.mem_of_getElem? (i := 227) (by decide +kernel))) (by decide +kernel)
theorem m_e14bc95b : (.methodLink "StackHost$Machine" 130 y_Machine_callHost : Cond) ∈ xt_tbl := xt_in (xt_t7 (List.mem_of_getElem? (i := 211) (by decide +kernel))) (by decide +kernel)
theorem m_55509cb2 : (.instanceMethod y_Machine_callHost : Cond) ∈ xt_tbl := xt_in (xt_t7 (List.mem_of_getElem? (i := 213) (by decide +kernel))) (by decide +kernel)
theorem m_b8a1c73a : (.selects "StackHost$Machine" y_Machine_callHost y_Machine_callHost : Cond) ∈ xt_tbl := xt_in (xt_v6 (q := (⟨"StackHost$Machine", "callHost", "(I)V"⟩, 18)) (List.mem_of_getElem? (i := 6) (by decide +kernel))) (by decide +kernel)
theorem m_1c382bc9 : (.code y_Machine_callHost b_Machine_callHost 2 none : Cond) ∈ xt_tbl := xt_in (xt_t7 (List.mem_of_getElem? (i := 214) (by decide +kernel))) (by decide +kernel)
theorem nm_Machine_callHost : xt_nm y_Machine_callHost 1 := ⟨by decide +kernel, by decide +kernel⟩
set_option maxRecDepth 100000 in
def T_Machine_call : List (Nat × Instr × Nat) := [(0, .iload_n 1, 1), (1, .sipush 8192, 3), (4, .if_icmp .lt 9, 3), (7, .aload_n 0, 1), (8, .iload_n 2, 1), (9, .invokevirtual 130, 3), (12, .return_, 1), (13, .aload_n 0, 1), (14, .getfield 42, 3), (17, .iload_n 1, 1), (18, .invokevirtual 133, 3), (21, .astore_n 3, 1), (22, .aload_n 3, 1), (23, .getfield 139, 3), (26, .astore 4, 2), (28, .aload_n 3, 1), (29, .iload_n 1, 1), (30, .invokevirtual 143, 3), (33, .istore 5, 2), (35, .iload 5, 2), (37, .aload 4, 2), (39, .getfield 147, 3), (42, .iconst 0, 1), (43, .iaload, 1), (44, .isub, 1), (45, .istore 6, 2), (47, .aload 4, 2), (49, .getfield 150, 3), (52, .iload 6, 2), (54, .iconst 1, 1), (55, .invokevirtual 154, 3), (58, .istore 7, 2), (60, .aload_n 0, 1), (61, .getfield 53, 3), (64, .iload 7, 2), (66, .iadd, 1), (67, .aload 4, 2), (69, .getfield 150, 3), (72, .iload 6, 2), (74, .iconst 4, 1), (75, .invokevirtual 154, 3), (78, .iadd, 1), (79, .istore 8, 2), (81, .aload_n 0, 1), (82, .getfield 50, 3), (85, .sipush 200, 3), (88, .if_icmp .ge 11, 3), (91, .iload 8, 2), (93, .sipush 16384, 3), (96, .if_icmp .le 10, 3), (99, .aload_n 0, 1), (100, .bipush 9, 2), (102, .invokevirtual 156, 3), (105, .return_, 1), (106, .aload_n 0, 1), (107, .iload 8, 2), (109, .invokevirtual 61, 3), (112, .aload_n 0, 1), (113, .getfield 35, 3), (116, .aload_n 0, 1), (117, .getfield 53, 3), (120, .aload_n 0, 1), (121, .getfield 53, 3), (124, .iload 7, 2), (126, .iadd, 1), (127, .lconst 0, 1), (128, .invokestatic 159, 3), (131, .aload_n 0, 1), (132, .getfield 50, 3), (135, .ifCond .le 19, 3), (138, .aload_n 0, 1), (139, .getfield 39, 3), (142, .aload_n 0, 1), (143, .getfield 50, 3), (146, .iconst 1, 1), (147, .isub, 1), (148, .iconst 5, 1), (149, .imul, 1), (150, .iconst 2, 1), (151, .iadd, 1), (152, .iload_n 2, 1), (153, .iastore, 1), (154, .aload_n 0, 1), (155, .getfield 50, 3), (158, .iconst 5, 1), (159, .imul, 1), (160, .istore 9, 2), (162, .aload_n 0, 1), (163, .getfield 39, 3), (166, .iload 9, 2), (168, .iconst 0, 1), (169, .iadd, 1), (170, .aload_n 3, 1), (171, .getfield 121, 3), (174, .iastore, 1), (175, .aload_n 0, 1), (176, .getfield 39, 3), (179, .iload 9, 2), (181, .iconst 1, 1), (182, .iadd, 1), (183, .iload 5, 2), (185, .iastore, 1), (186, .aload_n 0, 1), (187, .getfield 39, 3), (190, .iload 9, 2), (192, .iconst 3, 1), (193, .iadd, 1), (194, .aload_n 0, 1), (195, .getfield 53, 3), (198, .aload 4, 2), (200, .aload 4, 2), (202, .iload 5, 2), (204, .invokevirtual 163, 3), (207, .invokevirtual 166, 3), (210, .isub, 1), (211, .iastore, 1), (212, .aload_n 0, 1), (213, .getfield 39, 3), (216, .iload 9, 2), (218, .iconst 4, 1), (219, .iadd, 1), (220, .aload_n 0, 1), (221, .getfield 53, 3), (224, .iload 7, 2), (226, .iadd, 1), (227, .iastore, 1), (228, .aload_n 0, 1), (229, .dup, 1), (230, .getfield 53, 3), (233, .iload 7, 2), (235, .iadd, 1), (236, .putfield 53, 3), (239, .aload_n 0, 1), (240, .dup, 1), (241, .getfield 50, 3), (244, .iconst 1, 1), (245, .iadd, 1), (246, .putfield 50, 3), (249, .aload_n 0, 1), (250, .iload 9, 2), (252, .invokevirtual 169, 3), (255, .aload_n 0, 1), (256, .aload 4, 2), (258, .getfield 150, 3), (261, .iload 6, 2), (263, .iconst 0, 1), (264, .invokevirtual 154, 3), (267, .putfield 108, 3), (270, .return_, 1)]
theorem D_Machine_call : ∀ q ∈ T_Machine_call, decode b_Machine_call q.1 = .ok (q.2.1, q.2.2) := by decide +kernel
def w_Machine_call_L154 (Qr : xb_H → Prop) (x0 : Nat) (x3 : Nat) (x4 : Nat) (x5 : Int32) (x6 : Int32) (x7 : Int32) (h : xb_H) (bc : Nat) (bs : Nat) : Prop :=
    xb_k h x0 = 8 ∧ ∀ v2 : Int32, v2 = ((xb_i h x0 4) * 5) → ∃ b3 : Nat, (xb_r h x0 11) = some b3 ∧ xb_k h x3 = 11 ∧ xb_k h b3 = 102 ∧ vp_in (v2 + 0) (xb_n h b3) ∧ ∀ h7 : xb_H, h7 = xb_I h b3 (Int32.toNatClampNeg (v2 + 0)) (xb_i h x3 0) → ∃ b8 : Nat, (xb_r h7 x0 11) = some b8 ∧ xb_k h7 b8 = 102 ∧ vp_in (v2 + 1) (xb_n h7 b8) ∧ ∀ h11 : xb_H, h11 = xb_I h7 b8 (Int32.toNatClampNeg (v2 + 1)) x5 → ∃ b12 : Nat, (xb_r h11 x0 11) = some b12 ∧ xb_k h11 x4 = 3 ∧ w_StackModule_typeOf x4 x5 h11 (fun (r15 : Int32) (h14 : xb_H) => xb_ext h11 h14 → w_StackModule_parameters x4 r15 h14 (fun (r17 : Int32) (h16 : xb_H) => xb_ext h14 h16 → xb_k h16 b12 = 102 ∧ vp_in (v2 + 3) (xb_n h16 b12) ∧ ∀ h20 : xb_H, h20 = xb_I h16 b12 (Int32.toNatClampNeg (v2 + 3)) ((xb_i h11 x0 10) - r17) → ∃ b21 : Nat, (xb_r h20 x0 11) = some b21 ∧ xb_k h20 b21 = 102 ∧ vp_in (v2 + 4) (xb_n h20 b21) ∧ ∀ h24 : xb_H, h24 = xb_I h20 b21 (Int32.toNatClampNeg (v2 + 4)) ((xb_i h20 x0 10) + x7) → ∀ h25 : xb_H, h25 = xb_I h24 x0 10 ((xb_i h24 x0 10) + x7) → ∀ h26 : xb_H, h26 = xb_I h25 x0 4 ((xb_i h25 x0 4) + 1) → w_Machine_enter x0 v2 h26 (fun (h27 : xb_H) => xb_ext h26 h27 → ∃ b29 : Nat, (xb_r h27 x4 11) = some b29 ∧ xb_k h27 b29 = 2 ∧ w_Row_at b29 x6 0 h27 (fun (r32 : Int32) (h31 : xb_H) => xb_ext h27 h31 → ∀ h33 : xb_H, h33 = xb_I h31 x0 15 r32 → Qr h33))))

def w_Machine_call_L99 (Qr : xb_H → Prop) (x0 : Nat) (h : xb_H) (bc : Nat) (bs : Nat) : Prop :=
    xb_k h x0 = 8 ∧ w_Machine_fall x0 9 h (fun (h2 : xb_H) => xb_ext h h2 → Qr h2)

def w_Machine_call (x0 : Nat) (x1 : Int32) (x2 : Int32) (h : xb_H) (bc : Nat) (bs : Nat) (Qr : xb_H → Prop) : Prop :=
    ((x1 < (8192 : Int32) → xb_k h x0 = 8 ∧ ∃ b3 : Nat, (xb_r h x0 0) = some b3 ∧ xb_k h b3 = 7 ∧ w_World_ownerOf b3 x1 h (fun (r6 : Nat) (h5 : xb_H) => xb_ext h h5 → xb_k h5 r6 = 11 ∧ ∃ b8 : Nat, (xb_r h5 r6 1) = some b8 ∧ w_Instance_numberOf r6 x1 h5 (fun (r10 : Int32) (h9 : xb_H) => xb_ext h5 h9 → xb_k h9 b8 = 3 ∧ ∃ b12 : Nat, (xb_r h9 b8 14) = some b12 ∧ xb_k h9 b12 = 102 ∧ vp_in 0 (xb_n h9 b12) ∧ ∀ v15 : Int32, v15 = (r10 - (xb_i h9 b12 0)) → ∃ b16 : Nat, (xb_r h9 b8 11) = some b16 ∧ xb_k h9 b16 = 2 ∧ w_Row_at b16 v15 1 h9 (fun (r19 : Int32) (h18 : xb_H) => xb_ext h9 h18 → ∃ b20 : Nat, (xb_r h18 b8 11) = some b20 ∧ xb_k h18 b20 = 2 ∧ w_Row_at b20 v15 4 h18 (fun (r23 : Int32) (h22 : xb_H) => xb_ext h18 h22 → ∀ v24 : Int32, v24 = (((xb_i h18 x0 10) + r19) + r23) → (((200 : Int32) ≤ (xb_i h22 x0 4) → w_Machine_call_L99 Qr x0 h22 bc bs) ∧ (¬ (200 : Int32) ≤ (xb_i h22 x0 4) → ((v24 ≤ (16384 : Int32) → ∃ c29 sc29 : Nat, c29 ≤ bc ∧ sc29 ≤ bs ∧ w_Machine_makeRoom x0 v24 h22 c29 sc29 (fun (h27 : xb_H) => xb_ext h22 h27 → ∃ b30 : Nat, (xb_r h27 x0 9) = some b30 ∧ w_Arrays_fill1 b30 (xb_i h27 x0 10) ((xb_i h27 x0 10) + r19) 0 h27 (fun (h31 : xb_H) => xb_ext h27 h31 → (((xb_i h31 x0 4) ≤ (0 : Int32) → w_Machine_call_L154 Qr x0 r6 b8 r10 v15 r19 h31 (bc - c29) (bs - sc29)) ∧ (¬ (xb_i h31 x0 4) ≤ (0 : Int32) → ∃ b34 : Nat, (xb_r h31 x0 11) = some b34 ∧ xb_k h31 b34 = 102 ∧ vp_in ((((xb_i h31 x0 4) - 1) * 5) + 2) (xb_n h31 b34) ∧ ∀ h37 : xb_H, h37 = xb_I h31 b34 (Int32.toNatClampNeg ((((xb_i h31 x0 4) - 1) * 5) + 2)) x2 → w_Machine_call_L154 Qr x0 r6 b8 r10 v15 r19 h37 (bc - c29) (bs - sc29)))))) ∧ (¬ v24 ≤ (16384 : Int32) → w_Machine_call_L99 Qr x0 h22 bc bs))))))))) ∧ (¬ x1 < (8192 : Int32) → xb_k h x0 = 8 ∧ ∃ c41 sc41 : Nat, c41 ≤ bc ∧ sc41 ≤ bs ∧ w_Machine_callHost x0 x2 h c41 sc41 (fun (h39 : xb_H) => xb_ext h h39 → Qr h39)))

set_option maxHeartbeats 4000000 in
set_option maxRecDepth 100000 in
theorem am_Machine_call_L154 (l : Launch) (hfl : l.flags = pinnedFlags ++ [noTraceFlag]) (D : va_G) (A : Nat → Prop) (σ MC MS : Nat) (h0 : xb_H) (Qr : xb_H → Prop) (x0 : Nat) (x3 : Nat) (x4 : Nat) (x5 : Int32) (x6 : Int32) (x7 : Int32) (h : xb_H) (bc : Nat) (bs : Nat) (hw : w_Machine_call_L154 Qr x0 x3 x4 x5 x6 x7 h bc bs) : xb_am l D A σ 6 MC MS h0 (fun v h => v = none ∧ Qr h) (fun _ _ => False) y_Machine_call.cls y_Machine_call.name b_Machine_call 10 ([] : List ExceptionTableEntry) none 154 [(0, .ref x0), (3, .ref x3), (4, .ref x4), (5, .int x5), (6, .int x6), (7, .int x7)] [] h bc bs := by
  unfold w_Machine_call_L154 at hw
  intro p e s m args below meth c hC H locs ls k n hE hl hR hS hk hn
  obtain ⟨hx, hb, hown, hlocks, htab, hml, hr, hB, hA, hnm⟩ := id hC
  have hts := hB.1.1.at args
  refine lv_aload_n hx hb (xb_d D_Machine_call 82 rfl) rfl (lv_at hl 0 rfl) ?_
  obtain ⟨hk1, hw⟩ := hw
  refine xb_getI (C := R_Machine) (T := F_Machine) (N := 18) hx hb 7 4 hts fin_Machine hown hR hk1 (by decide) rfl (by decide) rfl (hts _ m_61f414b6) (fun _ h9 => h9) (xb_d D_Machine_call 83 rfl) ?_
  refine lv_iconst (v := 5) hx hb (xb_d D_Machine_call 84 rfl) (by decide) ?_
  refine lv_imul hx hb (xb_d D_Machine_call 85 rfl) ?_
  obtain ⟨v2, ev2⟩ : ∃ x : Int32, x = ((xb_i h x0 4) * 5) := ⟨_, rfl⟩
  have hw := hw v2 ev2
  refine xt_numi (y := v2) ev2.symm ?_
  refine lv_istore hx hb (xb_d D_Machine_call 86 rfl) hl (by decide) rfl (fun ls hl => ?_)
  have hl : lv_has ls 10 [(9, .int v2), (0, .ref x0), (3, .ref x3), (4, .ref x4), (5, .int x5), (6, .int x6), (7, .int x7)] := hl
  refine lv_aload_n hx hb (xb_d D_Machine_call 87 rfl) rfl (lv_at hl 1 rfl) ?_
  refine xb_getP (C := R_Machine) (T := F_Machine) (N := 18) hx hb 7 11 hts fin_Machine hown hR hk1 (by decide) rfl (by decide) rfl (hts _ m_ca1fb183) (fun _ h9 => h9) (xb_d D_Machine_call 88 rfl) ?_
  obtain ⟨b3, eb3, hw⟩ := hw
  refine xb_some eb3 ?_
  refine lv_iload hx hb (xb_d D_Machine_call 89 rfl) (lv_at hl 0 rfl) ?_
  refine lv_iconst (v := 0) hx hb (xb_d D_Machine_call 90 rfl) (by decide) ?_
  refine lv_iadd hx hb (xb_d D_Machine_call 91 rfl) ?_
  refine lv_aload_n hx hb (xb_d D_Machine_call 92 rfl) rfl (lv_at hl 2 rfl) ?_
  obtain ⟨hk4, hw⟩ := hw
  refine xb_getI (C := R_Instance) (T := F_Instance) (N := 8) hx hb 10 0 hts fin_Instance hown hR hk4 (by decide) rfl (by decide) rfl (hts _ m_0e2a43da) (fun _ h9 => h9) (xb_d D_Machine_call 93 rfl) ?_
  obtain ⟨hk5, hw⟩ := hw
  obtain ⟨hi6, hw⟩ := hw
  refine xb_iast hx hb hR hS hk5 hi6 (xb_d D_Machine_call 94 rfl) (fun H locs hR hS => ?_)
  obtain ⟨h7, eh7⟩ : ∃ x : xb_H, x = xb_I h b3 (Int32.toNatClampNeg (v2 + 0)) (xb_i h x3 0) := ⟨_, rfl⟩
  rw [← eh7] at hR
  have hw := hw h7 eh7
  have hE : xb_ext h0 h7 := by rw [eh7]; exact hE
  refine lv_aload_n hx hb (xb_d D_Machine_call 95 rfl) rfl (lv_at hl 1 rfl) ?_
  have hk1 : xb_k h7 x0 = 8 := by rw [eh7]; exact hk1
  refine xb_getP (C := R_Machine) (T := F_Machine) (N := 18) hx hb 7 11 hts fin_Machine hown hR hk1 (by decide) rfl (by decide) rfl (hts _ m_ca1fb183) (fun _ h9 => h9) (xb_d D_Machine_call 96 rfl) ?_
  obtain ⟨b8, eb8, hw⟩ := hw
  refine xb_some eb8 ?_
  refine lv_iload hx hb (xb_d D_Machine_call 97 rfl) (lv_at hl 0 rfl) ?_
  refine lv_iconst (v := 1) hx hb (xb_d D_Machine_call 98 rfl) (by decide) ?_
  refine lv_iadd hx hb (xb_d D_Machine_call 99 rfl) ?_
  refine lv_iload hx hb (xb_d D_Machine_call 100 rfl) (lv_at hl 4 rfl) ?_
  obtain ⟨hk9, hw⟩ := hw
  obtain ⟨hi10, hw⟩ := hw
  refine xb_iast hx hb hR hS hk9 hi10 (xb_d D_Machine_call 101 rfl) (fun H locs hR hS => ?_)
  obtain ⟨h11, eh11⟩ : ∃ x : xb_H, x = xb_I h7 b8 (Int32.toNatClampNeg (v2 + 1)) x5 := ⟨_, rfl⟩
  rw [← eh11] at hR
  have hw := hw h11 eh11
  have hE : xb_ext h0 h11 := by rw [eh11]; exact hE
  refine lv_aload_n hx hb (xb_d D_Machine_call 102 rfl) rfl (lv_at hl 1 rfl) ?_
  have hk1 : xb_k h11 x0 = 8 := by rw [eh11]; exact hk1
  refine xb_getP (C := R_Machine) (T := F_Machine) (N := 18) hx hb 7 11 hts fin_Machine hown hR hk1 (by decide) rfl (by decide) rfl (hts _ m_ca1fb183) (fun _ h9 => h9) (xb_d D_Machine_call 103 rfl) ?_
  obtain ⟨b12, eb12, hw⟩ := hw
  refine xb_some eb12 ?_
  refine lv_iload hx hb (xb_d D_Machine_call 104 rfl) (lv_at hl 0 rfl) ?_
  refine lv_iconst (v := 3) hx hb (xb_d D_Machine_call 105 rfl) (by decide) ?_
  refine lv_iadd hx hb (xb_d D_Machine_call 106 rfl) ?_
  refine lv_aload_n hx hb (xb_d D_Machine_call 107 rfl) rfl (lv_at hl 1 rfl) ?_
  refine xb_getI (C := R_Machine) (T := F_Machine) (N := 18) hx hb 7 10 hts fin_Machine hown hR hk1 (by decide) rfl (by decide) rfl (hts _ m_79cf62f6) (fun _ h9 => h9) (xb_d D_Machine_call 108 rfl) ?_
  refine lv_aload hx hb (xb_d D_Machine_call 109 rfl) (lv_at hl 3 rfl) ?_
  refine lv_aload hx hb (xb_d D_Machine_call 110 rfl) (lv_at hl 3 rfl) ?_
  refine lv_iload hx hb (xb_d D_Machine_call 111 rfl) (lv_at hl 4 rfl) ?_
  obtain ⟨hk13, hw⟩ := hw
  refine xb_call (D := D) (A := A) (σ := σ) (h := h11) (d := 3) (mc := 0) (ms := 0) (maxL := 2) (rest := [.ref x4, .int (xb_i h11 x0 10), .int (v2 + 3), .ref b12]) (av := [.ref x4, .int x5]) (fun T hT X => by obtain ⟨cb, r1, r2, r3⟩ := xb_recv (ci := 2) hR rfl hk13 (by decide); exact xt_invV X hx hown (hts _ m_fe0066c0) (hts _ m_eb5729e5) (hts _ m_9cf0d8be) (xt_sigOf (hts _ m_42e2443a)) nm_StackModule_typeOf (by rw [hT]; exact r1) r2 r3 (g := F0 m 204 ls [.int x5, .ref x4, .ref x4, .int (xb_i h11 x0 10), .int (v2 + 3), .ref b12]) rfl (argsL := [.int x5]) (rest := [.ref x4, .int (xb_i h11 x0 10), .int (v2 + 3), .ref b12]) rfl rfl (by rw [hb]; exact (xb_d D_Machine_call 112 rfl))) (ok_StackModule_typeOf l hfl D A σ x4 x5 h11 _ hw) (hml.trans hl.1.symm) (by rw [hb]; exact (xb_d D_Machine_call 112 rfl)) (Nat.le_of_ble_eq_true rfl) (Nat.le_of_ble_eq_true rfl) (Nat.le_of_ble_eq_true rfl) (show k + 0 ≤ MC by omega) (show n + 0 ≤ MS by omega) (xt_w1 hB.1 m_42e2443a) (xt_cdOf hB.1 m_42e2443a) (hts _ m_9c375545) hB hR hS hA (fun vv h14 H locs hq hEh14 hR hS => ?_) (fun XX ax h14 H locs hq hEh14 hex hR hS => ?_)
  · obtain ⟨r15, rfl, hw⟩ := hq
    have hw := hw hEh14
    have hE := hE.tr hEh14
    refine W.eq (g2 := F0 m 207 ls [.int r15, .ref x4, .int (xb_i h11 x0 10), .int (v2 + 3), .ref b12]) rfl ?_
    have hk13 : xb_k h14 x4 = 3 := hEh14.k hk13
    refine xb_call (D := D) (A := A) (σ := σ) (h := h14) (d := 3) (mc := 0) (ms := 0) (maxL := 2) (rest := [.int (xb_i h11 x0 10), .int (v2 + 3), .ref b12]) (av := [.ref x4, .int r15]) (fun T hT X => by obtain ⟨cb, r1, r2, r3⟩ := xb_recv (ci := 2) hR rfl hk13 (by decide); exact xt_invV X hx hown (hts _ m_c60bdb4f) (hts _ m_aa97372f) (hts _ m_8160d9b3) (xt_sigOf (hts _ m_8621e59b)) nm_StackModule_parameters (by rw [hT]; exact r1) r2 r3 (g := F0 m 207 ls [.int r15, .ref x4, .int (xb_i h11 x0 10), .int (v2 + 3), .ref b12]) rfl (argsL := [.int r15]) (rest := [.int (xb_i h11 x0 10), .int (v2 + 3), .ref b12]) rfl rfl (by rw [hb]; exact (xb_d D_Machine_call 113 rfl))) (ok_StackModule_parameters l hfl D A σ x4 r15 h14 _ hw) (hml.trans hl.1.symm) (by rw [hb]; exact (xb_d D_Machine_call 113 rfl)) (Nat.le_of_ble_eq_true rfl) (Nat.le_of_ble_eq_true rfl) (Nat.le_of_ble_eq_true rfl) (show k + 0 ≤ MC by omega) (show n + 0 ≤ MS by omega) (xt_w1 hB.1 m_8621e59b) (xt_cdOf hB.1 m_8621e59b) (hts _ m_9c375545) hB hR hS hA (fun vv h16 H locs hq hEh16 hR hS => ?_) (fun XX ax h16 H locs hq hEh16 hex hR hS => ?_)
    · obtain ⟨r17, rfl, hw⟩ := hq
      have hw := hw hEh16
      have hE := hE.tr hEh16
      refine W.eq (g2 := F0 m 210 ls [.int r17, .int (xb_i h11 x0 10), .int (v2 + 3), .ref b12]) rfl ?_
      refine lv_isub hx hb (xb_d D_Machine_call 114 rfl) ?_
      obtain ⟨hk18, hw⟩ := hw
      obtain ⟨hi19, hw⟩ := hw
      refine xb_iast hx hb hR hS hk18 hi19 (xb_d D_Machine_call 115 rfl) (fun H locs hR hS => ?_)
      obtain ⟨h20, eh20⟩ : ∃ x : xb_H, x = xb_I h16 b12 (Int32.toNatClampNeg (v2 + 3)) ((xb_i h11 x0 10) - r17) := ⟨_, rfl⟩
      rw [← eh20] at hR
      have hw := hw h20 eh20
      have hE : xb_ext h0 h20 := by rw [eh20]; exact hE
      refine lv_aload_n hx hb (xb_d D_Machine_call 116 rfl) rfl (lv_at hl 1 rfl) ?_
      have hk1 : xb_k h14 x0 = 8 := hEh14.k hk1
      have hk1 : xb_k h16 x0 = 8 := hEh16.k hk1
      have hk1 : xb_k h20 x0 = 8 := by rw [eh20]; exact hk1
      refine xb_getP (C := R_Machine) (T := F_Machine) (N := 18) hx hb 7 11 hts fin_Machine hown hR hk1 (by decide) rfl (by decide) rfl (hts _ m_ca1fb183) (fun _ h9 => h9) (xb_d D_Machine_call 117 rfl) ?_
      obtain ⟨b21, eb21, hw⟩ := hw
      refine xb_some eb21 ?_
      refine lv_iload hx hb (xb_d D_Machine_call 118 rfl) (lv_at hl 0 rfl) ?_
      refine lv_iconst (v := 4) hx hb (xb_d D_Machine_call 119 rfl) (by decide) ?_
      refine lv_iadd hx hb (xb_d D_Machine_call 120 rfl) ?_
      refine lv_aload_n hx hb (xb_d D_Machine_call 121 rfl) rfl (lv_at hl 1 rfl) ?_
      refine xb_getI (C := R_Machine) (T := F_Machine) (N := 18) hx hb 7 10 hts fin_Machine hown hR hk1 (by decide) rfl (by decide) rfl (hts _ m_79cf62f6) (fun _ h9 => h9) (xb_d D_Machine_call 122 rfl) ?_
      refine lv_iload hx hb (xb_d D_Machine_call 123 rfl) (lv_at hl 6 rfl) ?_
      refine lv_iadd hx hb (xb_d D_Machine_call 124 rfl) ?_
      obtain ⟨hk22, hw⟩ := hw
      obtain ⟨hi23, hw⟩ := hw
      refine xb_iast hx hb hR hS hk22 hi23 (xb_d D_Machine_call 125 rfl) (fun H locs hR hS => ?_)
      obtain ⟨h24, eh24⟩ : ∃ x : xb_H, x = xb_I h20 b21 (Int32.toNatClampNeg (v2 + 4)) ((xb_i h20 x0 10) + x7) := ⟨_, rfl⟩
      rw [← eh24] at hR
      have hw := hw h24 eh24
      have hE : xb_ext h0 h24 := by rw [eh24]; exact hE
      refine lv_aload_n hx hb (xb_d D_Machine_call 126 rfl) rfl (lv_at hl 1 rfl) ?_
      refine lv_dup hx hb (xb_d D_Machine_call 127 rfl) rfl ?_
      have hk1 : xb_k h24 x0 = 8 := by rw [eh24]; exact hk1
      refine xb_getI (C := R_Machine) (T := F_Machine) (N := 18) hx hb 7 10 hts fin_Machine hown hR hk1 (by decide) rfl (by decide) rfl (hts _ m_79cf62f6) (fun _ h9 => h9) (xb_d D_Machine_call 128 rfl) ?_
      refine lv_iload hx hb (xb_d D_Machine_call 129 rfl) (lv_at hl 6 rfl) ?_
      refine lv_iadd hx hb (xb_d D_Machine_call 130 rfl) ?_
      refine xb_putI (C := R_Machine) (T := F_Machine) (N := 18) (ty := .int) (x := ((xb_i h24 x0 10) + x7)) hx hb 7 10 hts fin_Machine t_Machine t_Machine_ok n_Machine hown hR hS hk1 (by decide) rfl (by decide) rfl (hts _ m_79cf62f6) (fun _ h9 => h9) rfl (by decide +kernel) rfl rfl (xb_d D_Machine_call 131 rfl) (fun H locs hR hS => ?_)
      obtain ⟨h25, eh25⟩ : ∃ x : xb_H, x = xb_I h24 x0 10 ((xb_i h24 x0 10) + x7) := ⟨_, rfl⟩
      rw [← eh25] at hR
      have hw := hw h25 eh25
      have hE : xb_ext h0 h25 := by rw [eh25]; exact hE
      refine lv_aload_n hx hb (xb_d D_Machine_call 132 rfl) rfl (lv_at hl 1 rfl) ?_
      refine lv_dup hx hb (xb_d D_Machine_call 133 rfl) rfl ?_
      have hk1 : xb_k h25 x0 = 8 := by rw [eh25]; exact hk1
      refine xb_getI (C := R_Machine) (T := F_Machine) (N := 18) hx hb 7 4 hts fin_Machine hown hR hk1 (by decide) rfl (by decide) rfl (hts _ m_61f414b6) (fun _ h9 => h9) (xb_d D_Machine_call 134 rfl) ?_
      refine lv_iconst (v := 1) hx hb (xb_d D_Machine_call 135 rfl) (by decide) ?_
      refine lv_iadd hx hb (xb_d D_Machine_call 136 rfl) ?_
      refine xb_putI (C := R_Machine) (T := F_Machine) (N := 18) (ty := .int) (x := ((xb_i h25 x0 4) + 1)) hx hb 7 4 hts fin_Machine t_Machine t_Machine_ok n_Machine hown hR hS hk1 (by decide) rfl (by decide) rfl (hts _ m_61f414b6) (fun _ h9 => h9) rfl (by decide +kernel) rfl rfl (xb_d D_Machine_call 137 rfl) (fun H locs hR hS => ?_)
      obtain ⟨h26, eh26⟩ : ∃ x : xb_H, x = xb_I h25 x0 4 ((xb_i h25 x0 4) + 1) := ⟨_, rfl⟩
      rw [← eh26] at hR
      have hw := hw h26 eh26
      have hE : xb_ext h0 h26 := by rw [eh26]; exact hE
      refine lv_aload_n hx hb (xb_d D_Machine_call 138 rfl) rfl (lv_at hl 1 rfl) ?_
      refine lv_iload hx hb (xb_d D_Machine_call 139 rfl) (lv_at hl 0 rfl) ?_
      have hk1 : xb_k h26 x0 = 8 := by rw [eh26]; exact hk1
      refine xb_call (D := D) (A := A) (σ := σ) (h := h26) (d := 2) (mc := 0) (ms := 0) (maxL := 2) (rest := []) (av := [.ref x0, .int v2]) (fun T hT X => by obtain ⟨cb, r1, r2, r3⟩ := xb_recv (ci := 7) hR rfl hk1 (by decide); exact xt_invV X hx hown (hts _ m_2169ca30) (hts _ m_e9857fea) (hts _ m_6e9e1f90) (xt_sigOf (hts _ m_6008b1ed)) nm_Machine_enter (by rw [hT]; exact r1) r2 r3 (g := F0 m 252 ls [.int v2, .ref x0]) rfl (argsL := [.int v2]) (rest := []) rfl rfl (by rw [hb]; exact (xb_d D_Machine_call 140 rfl))) (ok_Machine_enter l hfl D A σ x0 v2 h26 _ hw) (hml.trans hl.1.symm) (by rw [hb]; exact (xb_d D_Machine_call 140 rfl)) (Nat.le_of_ble_eq_true rfl) (Nat.le_of_ble_eq_true rfl) (Nat.le_of_ble_eq_true rfl) (show k + 0 ≤ MC by omega) (show n + 0 ≤ MS by omega) (xt_w1 hB.1 m_6008b1ed) (xt_cdOf hB.1 m_6008b1ed) (hts _ m_73451f9b) hB hR hS hA (fun vv h27 H locs hq hEh27 hR hS => ?_) (fun XX ax h27 H locs hq hEh27 hex hR hS => ?_)
      · obtain ⟨rfl, hw⟩ := hq
        have hw := hw hEh27
        have hE := hE.tr hEh27
        refine W.eq (g2 := F0 m 255 ls []) rfl ?_
        refine lv_aload_n hx hb (xb_d D_Machine_call 141 rfl) rfl (lv_at hl 1 rfl) ?_
        refine lv_aload hx hb (xb_d D_Machine_call 142 rfl) (lv_at hl 3 rfl) ?_
        have hk13 : xb_k h16 x4 = 3 := hEh16.k hk13
        have hk13 : xb_k h20 x4 = 3 := by rw [eh20]; exact hk13
        have hk13 : xb_k h24 x4 = 3 := by rw [eh24]; exact hk13
        have hk13 : xb_k h25 x4 = 3 := by rw [eh25]; exact hk13
        have hk13 : xb_k h26 x4 = 3 := by rw [eh26]; exact hk13
        have hk13 : xb_k h27 x4 = 3 := hEh27.k hk13
        refine xb_getP (C := R_StackModule) (T := F_StackModule) (N := 19) hx hb 2 11 hts fin_StackModule hown hR hk13 (by decide) rfl (by decide) rfl (hts _ m_5ec583bc) (fun _ h9 => h9) (xb_d D_Machine_call 143 rfl) ?_
        obtain ⟨b29, eb29, hw⟩ := hw
        refine xb_some eb29 ?_
        refine lv_iload hx hb (xb_d D_Machine_call 144 rfl) (lv_at hl 5 rfl) ?_
        refine lv_iconst (v := 0) hx hb (xb_d D_Machine_call 145 rfl) (by decide) ?_
        obtain ⟨hk30, hw⟩ := hw
        refine xb_call (D := D) (A := A) (σ := σ) (h := h27) (d := 2) (mc := 0) (ms := 0) (maxL := 3) (rest := [.ref x0]) (av := [.ref b29, .int x6, .int 0]) (fun T hT X => by obtain ⟨cb, r1, r2, r3⟩ := xb_recv (ci := 1) hR rfl hk30 (by decide); exact xt_invV X hx hown (hts _ m_f57edc11) (hts _ m_8e233096) (hts _ m_27eed10c) (xt_sigOf (hts _ m_ff1c70ae)) nm_Row_at (by rw [hT]; exact r1) r2 r3 (g := F0 m 264 ls [.int 0, .int x6, .ref b29, .ref x0]) rfl (argsL := [.int x6, .int 0]) (rest := [.ref x0]) rfl rfl (by rw [hb]; exact (xb_d D_Machine_call 146 rfl))) (ok_Row_at l hfl D A σ b29 x6 0 h27 _ hw) (hml.trans hl.1.symm) (by rw [hb]; exact (xb_d D_Machine_call 146 rfl)) (Nat.le_of_ble_eq_true rfl) (Nat.le_of_ble_eq_true rfl) (Nat.le_of_ble_eq_true rfl) (show k + 0 ≤ MC by omega) (show n + 0 ≤ MS by omega) (xt_w1 hB.1 m_ff1c70ae) (xt_cdOf hB.1 m_ff1c70ae) (hts _ m_c1bef504) hB hR hS hA (fun vv h31 H locs hq hEh31 hR hS => ?_) (fun XX ax h31 H locs hq hEh31 hex hR hS => ?_)
        · obtain ⟨r32, rfl, hw⟩ := hq
          have hw := hw hEh31
          have hE := hE.tr hEh31
          refine W.eq (g2 := F0 m 267 ls [.int r32, .ref x0]) rfl ?_
          have hk1 : xb_k h27 x0 = 8 := hEh27.k hk1
          have hk1 : xb_k h31 x0 = 8 := hEh31.k hk1
          refine xb_putI (C := R_Machine) (T := F_Machine) (N := 18) (ty := .int) (x := r32) hx hb 7 15 hts fin_Machine t_Machine t_Machine_ok n_Machine hown hR hS hk1 (by decide) rfl (by decide) rfl (hts _ m_6a595805) (fun _ h9 => h9) rfl (by decide +kernel) rfl rfl (xb_d D_Machine_call 147 rfl) (fun H locs hR hS => ?_)
          obtain ⟨h33, eh33⟩ : ∃ x : xb_H, x = xb_I h31 x0 15 r32 := ⟨_, rfl⟩
          rw [← eh33] at hR
          have hw := hw h33 eh33
          have hE : xb_ext h0 h33 := by rw [eh33]; exact hE
          exact xb_vret hx hb hr hlocks (show k ≤ MC by omega) (show n ≤ MS by omega) hE hR hS (xb_d D_Machine_call 148 rfl) hw
        · exact False.elim hq
      · exact False.elim hq
    · exact False.elim hq
  · exact False.elim hq

set_option maxHeartbeats 4000000 in
set_option maxRecDepth 100000 in
theorem am_Machine_call_L99 (l : Launch) (hfl : l.flags = pinnedFlags ++ [noTraceFlag]) (D : va_G) (A : Nat → Prop) (σ MC MS : Nat) (h0 : xb_H) (Qr : xb_H → Prop) (x0 : Nat) (h : xb_H) (bc : Nat) (bs : Nat) (hw : w_Machine_call_L99 Qr x0 h bc bs) : xb_am l D A σ 6 MC MS h0 (fun v h => v = none ∧ Qr h) (fun _ _ => False) y_Machine_call.cls y_Machine_call.name b_Machine_call 10 ([] : List ExceptionTableEntry) none 99 [(0, .ref x0)] [] h bc bs := by
  unfold w_Machine_call_L99 at hw
  intro p e s m args below meth c hC H locs ls k n hE hl hR hS hk hn
  obtain ⟨hx, hb, hown, hlocks, htab, hml, hr, hB, hA, hnm⟩ := id hC
  have hts := hB.1.1.at args
  refine lv_aload_n hx hb (xb_d D_Machine_call 50 rfl) rfl (lv_at hl 0 rfl) ?_
  refine lv_bipush (v := 9) hx hb (xb_d D_Machine_call 51 rfl) (by decide) ?_
  obtain ⟨hk1, hw⟩ := hw
  refine xb_call (D := D) (A := A) (σ := σ) (h := h) (d := 2) (mc := 0) (ms := 0) (maxL := 3) (rest := []) (av := [.ref x0, .int 9]) (fun T hT X => by obtain ⟨cb, r1, r2, r3⟩ := xb_recv (ci := 7) hR rfl hk1 (by decide); exact xt_invV X hx hown (hts _ m_8f5db99d) (hts _ m_0ddc8afe) (hts _ m_f5561462) (xt_sigOf (hts _ m_f0d4fd47)) nm_Machine_fall (by rw [hT]; exact r1) r2 r3 (g := F0 m 102 ls [.int 9, .ref x0]) rfl (argsL := [.int 9]) (rest := []) rfl rfl (by rw [hb]; exact (xb_d D_Machine_call 52 rfl))) (ok_Machine_fall l hfl D A σ x0 9 h _ hw) (hml.trans hl.1.symm) (by rw [hb]; exact (xb_d D_Machine_call 52 rfl)) (Nat.le_of_ble_eq_true rfl) (Nat.le_of_ble_eq_true rfl) (Nat.le_of_ble_eq_true rfl) (show k + 0 ≤ MC by omega) (show n + 0 ≤ MS by omega) (xt_w1 hB.1 m_f0d4fd47) (xt_cdOf hB.1 m_f0d4fd47) (hts _ m_73451f9b) hB hR hS hA (fun vv h2 H locs hq hEh2 hR hS => ?_) (fun XX ax h2 H locs hq hEh2 hex hR hS => ?_)
  · obtain ⟨rfl, hw⟩ := hq
    have hw := hw hEh2
    have hE := hE.tr hEh2
    refine W.eq (g2 := F0 m 105 ls []) rfl ?_
    exact xb_vret hx hb hr hlocks (show k ≤ MC by omega) (show n ≤ MS by omega) hE hR hS (xb_d D_Machine_call 53 rfl) hw
  · exact False.elim hq

set_option maxHeartbeats 4000000 in
set_option maxRecDepth 100000 in
theorem ok_Machine_call (l : Launch) (hfl : l.flags = pinnedFlags ++ [noTraceFlag]) (D : va_G) (A : Nat → Prop) (σ : Nat) (x0 : Nat) (x1 : Int32) (x2 : Int32) (h : xb_H) (bc : Nat) (bs : Nat) (Qr : xb_H → Prop) (hw : w_Machine_call x0 x1 x2 h bc bs Qr) : xt_Met l y_Machine_call [.code y_Machine_call b_Machine_call 10 none] (xb_rm 6 bc bs) (xb_Pc D A σ h [.ref x0, .int x1, .int x2]) (xb_Qc D A h (fun v h => v = none ∧ Qr h) (fun _ _ => False)) bc bs A := by
  refine xb_ofAm (cc := b_Machine_call) (by decide) (Nat.le_of_ble_eq_true rfl) ?_
  unfold w_Machine_call at hw
  show xb_am l D A σ 6 bc bs h (fun v h => v = none ∧ Qr h) (fun _ _ => False) y_Machine_call.cls y_Machine_call.name b_Machine_call 10 ([] : List ExceptionTableEntry) none 0 [(0, .ref x0), (1, .int x1), (2, .int x2)] [] h bc bs
  obtain ⟨MC, hMC⟩ : ∃ x, x = bc := ⟨_, rfl⟩
  obtain ⟨MS, hMS⟩ : ∃ x, x = bs := ⟨_, rfl⟩
  rw [show xb_am l D A σ 6 bc bs = xb_am l D A σ 6 MC MS by rw [hMC, hMS]]
  obtain ⟨h0, hh0⟩ : ∃ x, x = h := ⟨_, rfl⟩
  rw [show xb_am l D A σ 6 MC MS h = xb_am l D A σ 6 MC MS h0 by rw [hh0]]
  intro p e s m args below meth c hC H locs ls k n hE hl hR hS hk hn
  obtain ⟨hx, hb, hown, hlocks, htab, hml, hr, hB, hA, hnm⟩ := id hC
  have hts := hB.1.1.at args
  refine lv_iload_n hx hb (xb_d D_Machine_call 0 rfl) rfl (lv_at hl 1 rfl) ?_
  refine lv_sipush (v := 8192) hx hb (xb_d D_Machine_call 1 rfl) (by decide) ?_
  refine lv_icmp_lt (tgt := 13) hx hb (xb_d D_Machine_call 2 rfl) rfl (fun hc1 => ?_) (fun hc1 => ?_)
  · have hw := hw.1 hc1
    refine lv_aload_n hx hb (xb_d D_Machine_call 7 rfl) rfl (lv_at hl 0 rfl) ?_
    obtain ⟨hk2, hw⟩ := hw
    refine xb_getP (C := R_Machine) (T := F_Machine) (N := 18) hx hb 7 0 hts fin_Machine hown hR hk2 (by decide) rfl (by decide) rfl (hts _ m_436e7c8c) (fun _ h9 => h9) (xb_d D_Machine_call 8 rfl) ?_
    obtain ⟨b3, eb3, hw⟩ := hw
    refine xb_some eb3 ?_
    refine lv_iload_n hx hb (xb_d D_Machine_call 9 rfl) rfl (lv_at hl 1 rfl) ?_
    obtain ⟨hk4, hw⟩ := hw
    refine xb_call (D := D) (A := A) (σ := σ) (h := h) (d := 3) (mc := 0) (ms := 0) (maxL := 2) (rest := []) (av := [.ref b3, .int x1]) (fun T hT X => by obtain ⟨cb, r1, r2, r3⟩ := xb_recv (ci := 6) hR rfl hk4 (by decide); exact xt_invV X hx hown (hts _ m_556e657b) (hts _ m_905f65dc) (hts _ m_94d0d6f7) (xt_sigOf (hts _ m_267eaad3)) nm_World_ownerOf (by rw [hT]; exact r1) r2 r3 (g := F0 m 18 ls [.int x1, .ref b3]) rfl (argsL := [.int x1]) (rest := []) rfl rfl (by rw [hb]; exact (xb_d D_Machine_call 10 rfl))) (ok_World_ownerOf l hfl D A σ b3 x1 h _ hw) (hml.trans hl.1.symm) (by rw [hb]; exact (xb_d D_Machine_call 10 rfl)) (Nat.le_of_ble_eq_true rfl) (Nat.le_of_ble_eq_true rfl) (Nat.le_of_ble_eq_true rfl) (show k + 0 ≤ MC by omega) (show n + 0 ≤ MS by omega) (xt_w1 hB.1 m_267eaad3) (xt_cdOf hB.1 m_267eaad3) (hts _ m_4534b440) hB hR hS hA (fun vv h5 H locs hq hEh5 hR hS => ?_) (fun XX ax h5 H locs hq hEh5 hex hR hS => ?_)
    · obtain ⟨r6, rfl, hw⟩ := hq
      have hw := hw hEh5
      have hE := hE.tr hEh5
      refine W.eq (g2 := F0 m 21 ls [.ref r6]) rfl ?_
      refine lv_astore_n hx hb (xb_d D_Machine_call 11 rfl) rfl hl (by decide) rfl (fun ls hl => ?_)
      have hl : lv_has ls 10 [(3, .ref r6), (0, .ref x0), (1, .int x1), (2, .int x2)] := hl
      refine lv_aload_n hx hb (xb_d D_Machine_call 12 rfl) rfl (lv_at hl 0 rfl) ?_
      obtain ⟨hk7, hw⟩ := hw
      refine xb_getP (C := R_Instance) (T := F_Instance) (N := 8) hx hb 10 1 hts fin_Instance hown hR hk7 (by decide) rfl (by decide) rfl (hts _ m_142b55ed) (fun _ h9 => h9) (xb_d D_Machine_call 13 rfl) ?_
      obtain ⟨b8, eb8, hw⟩ := hw
      refine xb_some eb8 ?_
      refine lv_astore hx hb (xb_d D_Machine_call 14 rfl) hl (by decide) rfl (fun ls hl => ?_)
      have hl : lv_has ls 10 [(4, .ref b8), (3, .ref r6), (0, .ref x0), (1, .int x1), (2, .int x2)] := hl
      refine lv_aload_n hx hb (xb_d D_Machine_call 15 rfl) rfl (lv_at hl 1 rfl) ?_
      refine lv_iload_n hx hb (xb_d D_Machine_call 16 rfl) rfl (lv_at hl 3 rfl) ?_
      refine xb_call (D := D) (A := A) (σ := σ) (h := h5) (d := 2) (mc := 0) (ms := 0) (maxL := 2) (rest := []) (av := [.ref r6, .int x1]) (fun T hT X => by obtain ⟨cb, r1, r2, r3⟩ := xb_recv (ci := 10) hR rfl hk7 (by decide); exact xt_invV X hx hown (hts _ m_1360c288) (hts _ m_5272c608) (hts _ m_455039e8) (xt_sigOf (hts _ m_bf66480a)) nm_Instance_numberOf (by rw [hT]; exact r1) r2 r3 (g := F0 m 30 ls [.int x1, .ref r6]) rfl (argsL := [.int x1]) (rest := []) rfl rfl (by rw [hb]; exact (xb_d D_Machine_call 17 rfl))) (ok_Instance_numberOf l hfl D A σ r6 x1 h5 _ hw) (hml.trans hl.1.symm) (by rw [hb]; exact (xb_d D_Machine_call 17 rfl)) (Nat.le_of_ble_eq_true rfl) (Nat.le_of_ble_eq_true rfl) (Nat.le_of_ble_eq_true rfl) (show k + 0 ≤ MC by omega) (show n + 0 ≤ MS by omega) (xt_w1 hB.1 m_bf66480a) (xt_cdOf hB.1 m_bf66480a) (hts _ m_7a4e907b) hB hR hS hA (fun vv h9 H locs hq hEh9 hR hS => ?_) (fun XX ax h9 H locs hq hEh9 hex hR hS => ?_)
      · obtain ⟨r10, rfl, hw⟩ := hq
        have hw := hw hEh9
        have hE := hE.tr hEh9
        refine W.eq (g2 := F0 m 33 ls [.int r10]) rfl ?_
        refine lv_istore hx hb (xb_d D_Machine_call 18 rfl) hl (by decide) rfl (fun ls hl => ?_)
        have hl : lv_has ls 10 [(5, .int r10), (4, .ref b8), (3, .ref r6), (0, .ref x0), (1, .int x1), (2, .int x2)] := hl
        refine lv_iload hx hb (xb_d D_Machine_call 19 rfl) (lv_at hl 0 rfl) ?_
        refine lv_aload hx hb (xb_d D_Machine_call 20 rfl) (lv_at hl 1 rfl) ?_
        obtain ⟨hk11, hw⟩ := hw
        refine xb_getP (C := R_StackModule) (T := F_StackModule) (N := 19) hx hb 2 14 hts fin_StackModule hown hR hk11 (by decide) rfl (by decide) rfl (hts _ m_fe87a8a2) (fun _ h9 => h9) (xb_d D_Machine_call 21 rfl) ?_
        obtain ⟨b12, eb12, hw⟩ := hw
        refine xb_some eb12 ?_
        refine lv_iconst (v := 0) hx hb (xb_d D_Machine_call 22 rfl) (by decide) ?_
        obtain ⟨hk14, hw⟩ := hw
        obtain ⟨hi13, hw⟩ := hw
        refine xb_iald hx hb hR hk14 hi13 (xb_d D_Machine_call 23 rfl) ?_
        refine xt_numi (y := (xb_i h9 b12 0)) (congrArg (xb_i h9 b12) (by decide : (0 : Int32).toNatClampNeg = 0)) ?_
        refine lv_isub hx hb (xb_d D_Machine_call 24 rfl) ?_
        obtain ⟨v15, ev15⟩ : ∃ x : Int32, x = (r10 - (xb_i h9 b12 0)) := ⟨_, rfl⟩
        have hw := hw v15 ev15
        refine xt_numi (y := v15) ev15.symm ?_
        refine lv_istore hx hb (xb_d D_Machine_call 25 rfl) hl (by decide) rfl (fun ls hl => ?_)
        have hl : lv_has ls 10 [(6, .int v15), (5, .int r10), (4, .ref b8), (3, .ref r6), (0, .ref x0), (1, .int x1), (2, .int x2)] := hl
        refine lv_aload hx hb (xb_d D_Machine_call 26 rfl) (lv_at hl 2 rfl) ?_
        refine xb_getP (C := R_StackModule) (T := F_StackModule) (N := 19) hx hb 2 11 hts fin_StackModule hown hR hk11 (by decide) rfl (by decide) rfl (hts _ m_5ec583bc) (fun _ h9 => h9) (xb_d D_Machine_call 27 rfl) ?_
        obtain ⟨b16, eb16, hw⟩ := hw
        refine xb_some eb16 ?_
        refine lv_iload hx hb (xb_d D_Machine_call 28 rfl) (lv_at hl 0 rfl) ?_
        refine lv_iconst (v := 1) hx hb (xb_d D_Machine_call 29 rfl) (by decide) ?_
        obtain ⟨hk17, hw⟩ := hw
        refine xb_call (D := D) (A := A) (σ := σ) (h := h9) (d := 2) (mc := 0) (ms := 0) (maxL := 3) (rest := []) (av := [.ref b16, .int v15, .int 1]) (fun T hT X => by obtain ⟨cb, r1, r2, r3⟩ := xb_recv (ci := 1) hR rfl hk17 (by decide); exact xt_invV X hx hown (hts _ m_f57edc11) (hts _ m_8e233096) (hts _ m_27eed10c) (xt_sigOf (hts _ m_ff1c70ae)) nm_Row_at (by rw [hT]; exact r1) r2 r3 (g := F0 m 55 ls [.int 1, .int v15, .ref b16]) rfl (argsL := [.int v15, .int 1]) (rest := []) rfl rfl (by rw [hb]; exact (xb_d D_Machine_call 30 rfl))) (ok_Row_at l hfl D A σ b16 v15 1 h9 _ hw) (hml.trans hl.1.symm) (by rw [hb]; exact (xb_d D_Machine_call 30 rfl)) (Nat.le_of_ble_eq_true rfl) (Nat.le_of_ble_eq_true rfl) (Nat.le_of_ble_eq_true rfl) (show k + 0 ≤ MC by omega) (show n + 0 ≤ MS by omega) (xt_w1 hB.1 m_ff1c70ae) (xt_cdOf hB.1 m_ff1c70ae) (hts _ m_c1bef504) hB hR hS hA (fun vv h18 H locs hq hEh18 hR hS => ?_) (fun XX ax h18 H locs hq hEh18 hex hR hS => ?_)
        · obtain ⟨r19, rfl, hw⟩ := hq
          have hw := hw hEh18
          have hE := hE.tr hEh18
          refine W.eq (g2 := F0 m 58 ls [.int r19]) rfl ?_
          refine lv_istore hx hb (xb_d D_Machine_call 31 rfl) hl (by decide) rfl (fun ls hl => ?_)
          have hl : lv_has ls 10 [(7, .int r19), (6, .int v15), (5, .int r10), (4, .ref b8), (3, .ref r6), (0, .ref x0), (1, .int x1), (2, .int x2)] := hl
          refine lv_aload_n hx hb (xb_d D_Machine_call 32 rfl) rfl (lv_at hl 5 rfl) ?_
          have hk2 : xb_k h5 x0 = 8 := hEh5.k hk2
          have hk2 : xb_k h9 x0 = 8 := hEh9.k hk2
          have hk2 : xb_k h18 x0 = 8 := hEh18.k hk2
          refine xb_getI (C := R_Machine) (T := F_Machine) (N := 18) hx hb 7 10 hts fin_Machine hown hR hk2 (by decide) rfl (by decide) rfl (hts _ m_79cf62f6) (fun _ h9 => h9) (xb_d D_Machine_call 33 rfl) ?_
          refine lv_iload hx hb (xb_d D_Machine_call 34 rfl) (lv_at hl 0 rfl) ?_
          refine lv_iadd hx hb (xb_d D_Machine_call 35 rfl) ?_
          refine lv_aload hx hb (xb_d D_Machine_call 36 rfl) (lv_at hl 3 rfl) ?_
          have hk11 : xb_k h18 b8 = 3 := hEh18.k hk11
          refine xb_getP (C := R_StackModule) (T := F_StackModule) (N := 19) hx hb 2 11 hts fin_StackModule hown hR hk11 (by decide) rfl (by decide) rfl (hts _ m_5ec583bc) (fun _ h9 => h9) (xb_d D_Machine_call 37 rfl) ?_
          obtain ⟨b20, eb20, hw⟩ := hw
          refine xb_some eb20 ?_
          refine lv_iload hx hb (xb_d D_Machine_call 38 rfl) (lv_at hl 1 rfl) ?_
          refine lv_iconst (v := 4) hx hb (xb_d D_Machine_call 39 rfl) (by decide) ?_
          obtain ⟨hk21, hw⟩ := hw
          refine xb_call (D := D) (A := A) (σ := σ) (h := h18) (d := 2) (mc := 0) (ms := 0) (maxL := 3) (rest := [.int ((xb_i h18 x0 10) + r19)]) (av := [.ref b20, .int v15, .int 4]) (fun T hT X => by obtain ⟨cb, r1, r2, r3⟩ := xb_recv (ci := 1) hR rfl hk21 (by decide); exact xt_invV X hx hown (hts _ m_f57edc11) (hts _ m_8e233096) (hts _ m_27eed10c) (xt_sigOf (hts _ m_ff1c70ae)) nm_Row_at (by rw [hT]; exact r1) r2 r3 (g := F0 m 75 ls [.int 4, .int v15, .ref b20, .int ((xb_i h18 x0 10) + r19)]) rfl (argsL := [.int v15, .int 4]) (rest := [.int ((xb_i h18 x0 10) + r19)]) rfl rfl (by rw [hb]; exact (xb_d D_Machine_call 40 rfl))) (ok_Row_at l hfl D A σ b20 v15 4 h18 _ hw) (hml.trans hl.1.symm) (by rw [hb]; exact (xb_d D_Machine_call 40 rfl)) (Nat.le_of_ble_eq_true rfl) (Nat.le_of_ble_eq_true rfl) (Nat.le_of_ble_eq_true rfl) (show k + 0 ≤ MC by omega) (show n + 0 ≤ MS by omega) (xt_w1 hB.1 m_ff1c70ae) (xt_cdOf hB.1 m_ff1c70ae) (hts _ m_c1bef504) hB hR hS hA (fun vv h22 H locs hq hEh22 hR hS => ?_) (fun XX ax h22 H locs hq hEh22 hex hR hS => ?_)
          · obtain ⟨r23, rfl, hw⟩ := hq
            have hw := hw hEh22
            have hE := hE.tr hEh22
            refine W.eq (g2 := F0 m 78 ls [.int r23, .int ((xb_i h18 x0 10) + r19)]) rfl ?_
            refine lv_iadd hx hb (xb_d D_Machine_call 41 rfl) ?_
            obtain ⟨v24, ev24⟩ : ∃ x : Int32, x = (((xb_i h18 x0 10) + r19) + r23) := ⟨_, rfl⟩
            have hw := hw v24 ev24
            refine xt_numi (y := v24) ev24.symm ?_
            refine lv_istore hx hb (xb_d D_Machine_call 42 rfl) hl (by decide) rfl (fun ls hl => ?_)
            have hl : lv_has ls 10 [(8, .int v24), (7, .int r19), (6, .int v15), (5, .int r10), (4, .ref b8), (3, .ref r6), (0, .ref x0), (1, .int x1), (2, .int x2)] := hl
            refine lv_aload_n hx hb (xb_d D_Machine_call 43 rfl) rfl (lv_at hl 6 rfl) ?_
            have hk2 : xb_k h22 x0 = 8 := hEh22.k hk2
            refine xb_getI (C := R_Machine) (T := F_Machine) (N := 18) hx hb 7 4 hts fin_Machine hown hR hk2 (by decide) rfl (by decide) rfl (hts _ m_61f414b6) (fun _ h9 => h9) (xb_d D_Machine_call 44 rfl) ?_
            refine lv_sipush (v := 200) hx hb (xb_d D_Machine_call 45 rfl) (by decide) ?_
            refine lv_icmp_ge (tgt := 99) hx hb (xb_d D_Machine_call 46 rfl) rfl (fun hc25 => ?_) (fun hc25 => ?_)
            · have hw := hw.1 hc25
              exact am_Machine_call_L99 l hfl D A σ MC MS h0 Qr x0 h22 bc bs hw p e s m args below meth c hC H locs ls k n hE (lv_sub hl [6] rfl) hR hS (by omega) (by omega)
            · have hw := hw.2 hc25
              refine lv_iload hx hb (xb_d D_Machine_call 47 rfl) (lv_at hl 0 rfl) ?_
              refine lv_sipush (v := 16384) hx hb (xb_d D_Machine_call 48 rfl) (by decide) ?_
              refine lv_icmp_le (tgt := 106) hx hb (xb_d D_Machine_call 49 rfl) rfl (fun hc26 => ?_) (fun hc26 => ?_)
              · have hw := hw.1 hc26
                refine lv_aload_n hx hb (xb_d D_Machine_call 54 rfl) rfl (lv_at hl 6 rfl) ?_
                refine lv_iload hx hb (xb_d D_Machine_call 55 rfl) (lv_at hl 0 rfl) ?_
                obtain ⟨c29, sc29, hlc29, hlsc29, hw⟩ := hw
                refine xb_call (D := D) (A := A) (σ := σ) (h := h22) (d := 3) (mc := c29) (ms := sc29) (maxL := 2) (rest := []) (av := [.ref x0, .int v24]) (fun T hT X => by obtain ⟨cb, r1, r2, r3⟩ := xb_recv (ci := 7) hR rfl hk2 (by decide); exact xt_invV X hx hown (hts _ m_2051d47a) (hts _ m_6ef13cc2) (hts _ m_5d2c6006) (xt_sigOf (hts _ m_bdd998e7)) nm_Machine_makeRoom (by rw [hT]; exact r1) r2 r3 (g := F0 m 109 ls [.int v24, .ref x0]) rfl (argsL := [.int v24]) (rest := []) rfl rfl (by rw [hb]; exact (xb_d D_Machine_call 56 rfl))) (ok_Machine_makeRoom l hfl D A σ x0 v24 h22 c29 sc29 _ hw) (hml.trans hl.1.symm) (by rw [hb]; exact (xb_d D_Machine_call 56 rfl)) (Nat.le_of_ble_eq_true rfl) (Nat.le_of_ble_eq_true rfl) (Nat.le_of_ble_eq_true rfl) (show k + c29 ≤ MC by omega) (show n + sc29 ≤ MS by omega) (xt_w1 hB.1 m_bdd998e7) (xt_cdOf hB.1 m_bdd998e7) (hts _ m_73451f9b) hB hR hS hA (fun vv h27 H locs hq hEh27 hR hS => ?_) (fun XX ax h27 H locs hq hEh27 hex hR hS => ?_)
                · obtain ⟨rfl, hw⟩ := hq
                  have hw := hw hEh27
                  have hE := hE.tr hEh27
                  refine W.eq (g2 := F0 m 112 ls []) rfl ?_
                  refine lv_aload_n hx hb (xb_d D_Machine_call 57 rfl) rfl (lv_at hl 6 rfl) ?_
                  have hk2 : xb_k h27 x0 = 8 := hEh27.k hk2
                  refine xb_getP (C := R_Machine) (T := F_Machine) (N := 18) hx hb 7 9 hts fin_Machine hown hR hk2 (by decide) rfl (by decide) rfl (hts _ m_6904195b) (fun _ h9 => h9) (xb_d D_Machine_call 58 rfl) ?_
                  obtain ⟨b30, eb30, hw⟩ := hw
                  refine xb_some eb30 ?_
                  refine lv_aload_n hx hb (xb_d D_Machine_call 59 rfl) rfl (lv_at hl 6 rfl) ?_
                  refine xb_getI (C := R_Machine) (T := F_Machine) (N := 18) hx hb 7 10 hts fin_Machine hown hR hk2 (by decide) rfl (by decide) rfl (hts _ m_79cf62f6) (fun _ h9 => h9) (xb_d D_Machine_call 60 rfl) ?_
                  refine lv_aload_n hx hb (xb_d D_Machine_call 61 rfl) rfl (lv_at hl 6 rfl) ?_
                  refine xb_getI (C := R_Machine) (T := F_Machine) (N := 18) hx hb 7 10 hts fin_Machine hown hR hk2 (by decide) rfl (by decide) rfl (hts _ m_79cf62f6) (fun _ h9 => h9) (xb_d D_Machine_call 62 rfl) ?_
                  refine lv_iload hx hb (xb_d D_Machine_call 63 rfl) (lv_at hl 1 rfl) ?_
                  refine lv_iadd hx hb (xb_d D_Machine_call 64 rfl) ?_
                  refine lv_lconst (v := 0) hx hb (xb_d D_Machine_call 65 rfl) (by decide) ?_
                  refine xb_call (D := D) (A := A) (σ := σ) (h := h27) (d := 3) (mc := 0) (ms := 0) (maxL := 6) (rest := []) (av := [.ref b30, .int (xb_i h27 x0 10), .int ((xb_i h27 x0 10) + r19), .long 0]) (fun T hT X => xt_invS X hx hown (hts _ m_203d63fb) (hts _ m_4775e2a5) (hts _ m_b999e92a) (xt_sgS (hts _ m_afc58b1e)).1 (xt_sgS (hts _ m_afc58b1e)).2 nm_Arrays_fill1 (g := F0 m 128 ls [.long 0, .int ((xb_i h27 x0 10) + r19), .int (xb_i h27 x0 10), .ref b30]) rfl (argsL := [.ref b30, .int (xb_i h27 x0 10), .int ((xb_i h27 x0 10) + r19), .long 0]) (rest := []) rfl rfl (by rw [hb]; exact (xb_d D_Machine_call 66 rfl))) (ok_Arrays_fill1 l hfl D A σ b30 (xb_i h27 x0 10) ((xb_i h27 x0 10) + r19) 0 h27 _ hw) (hml.trans hl.1.symm) (by rw [hb]; exact (xb_d D_Machine_call 66 rfl)) (Nat.le_of_ble_eq_true rfl) (Nat.le_of_ble_eq_true rfl) (Nat.le_of_ble_eq_true rfl) (show (k + c29) + 0 ≤ MC by omega) (show (n + sc29) + 0 ≤ MS by omega) (xt_w1 hB.1 m_afc58b1e) (xt_cdOf hB.1 m_afc58b1e) (hts _ m_b999e92a) hB hR hS hA (fun vv h31 H locs hq hEh31 hR hS => ?_) (fun XX ax h31 H locs hq hEh31 hex hR hS => ?_)
                  · obtain ⟨rfl, hw⟩ := hq
                    have hw := hw hEh31
                    have hE := hE.tr hEh31
                    refine W.eq (g2 := F0 m 131 ls []) rfl ?_
                    refine lv_aload_n hx hb (xb_d D_Machine_call 67 rfl) rfl (lv_at hl 6 rfl) ?_
                    have hk2 : xb_k h31 x0 = 8 := hEh31.k hk2
                    refine xb_getI (C := R_Machine) (T := F_Machine) (N := 18) hx hb 7 4 hts fin_Machine hown hR hk2 (by decide) rfl (by decide) rfl (hts _ m_61f414b6) (fun _ h9 => h9) (xb_d D_Machine_call 68 rfl) ?_
                    refine lv_if_le (tgt := 154) hx hb (xb_d D_Machine_call 69 rfl) rfl (fun hc33 => ?_) (fun hc33 => ?_)
                    · have hw := hw.1 hc33
                      exact am_Machine_call_L154 l hfl D A σ MC MS h0 Qr x0 r6 b8 r10 v15 r19 h31 (bc - c29) (bs - sc29) hw p e s m args below meth c hC H locs ls (k + c29) (n + sc29) hE (lv_sub hl [6, 5, 4, 3, 2, 1] rfl) hR hS (by omega) (by omega)
                    · have hw := hw.2 hc33
                      refine lv_aload_n hx hb (xb_d D_Machine_call 70 rfl) rfl (lv_at hl 6 rfl) ?_
                      refine xb_getP (C := R_Machine) (T := F_Machine) (N := 18) hx hb 7 11 hts fin_Machine hown hR hk2 (by decide) rfl (by decide) rfl (hts _ m_ca1fb183) (fun _ h9 => h9) (xb_d D_Machine_call 71 rfl) ?_
                      obtain ⟨b34, eb34, hw⟩ := hw
                      refine xb_some eb34 ?_
                      refine lv_aload_n hx hb (xb_d D_Machine_call 72 rfl) rfl (lv_at hl 6 rfl) ?_
                      refine xb_getI (C := R_Machine) (T := F_Machine) (N := 18) hx hb 7 4 hts fin_Machine hown hR hk2 (by decide) rfl (by decide) rfl (hts _ m_61f414b6) (fun _ h9 => h9) (xb_d D_Machine_call 73 rfl) ?_
                      refine lv_iconst (v := 1) hx hb (xb_d D_Machine_call 74 rfl) (by decide) ?_
                      refine lv_isub hx hb (xb_d D_Machine_call 75 rfl) ?_
                      refine lv_iconst (v := 5) hx hb (xb_d D_Machine_call 76 rfl) (by decide) ?_
                      refine lv_imul hx hb (xb_d D_Machine_call 77 rfl) ?_
                      refine lv_iconst (v := 2) hx hb (xb_d D_Machine_call 78 rfl) (by decide) ?_
                      refine lv_iadd hx hb (xb_d D_Machine_call 79 rfl) ?_
                      refine lv_iload_n hx hb (xb_d D_Machine_call 80 rfl) rfl (lv_at hl 8 rfl) ?_
                      obtain ⟨hk35, hw⟩ := hw
                      obtain ⟨hi36, hw⟩ := hw
                      refine xb_iast hx hb hR hS hk35 hi36 (xb_d D_Machine_call 81 rfl) (fun H locs hR hS => ?_)
                      obtain ⟨h37, eh37⟩ : ∃ x : xb_H, x = xb_I h31 b34 (Int32.toNatClampNeg ((((xb_i h31 x0 4) - 1) * 5) + 2)) x2 := ⟨_, rfl⟩
                      rw [← eh37] at hR
                      have hw := hw h37 eh37
                      have hE : xb_ext h0 h37 := by rw [eh37]; exact hE
                      exact am_Machine_call_L154 l hfl D A σ MC MS h0 Qr x0 r6 b8 r10 v15 r19 h37 (bc - c29) (bs - sc29) hw p e s m args below meth c hC H locs ls (k + c29) (n + sc29) hE (lv_sub hl [6, 5, 4, 3, 2, 1] rfl) hR hS (by omega) (by omega)
                  · exact False.elim hq
                · exact False.elim hq
              · have hw := hw.2 hc26
                exact am_Machine_call_L99 l hfl D A σ MC MS h0 Qr x0 h22 bc bs hw p e s m args below meth c hC H locs ls k n hE (lv_sub hl [6] rfl) hR hS (by omega) (by omega)
          · exact False.elim hq
        · exact False.elim hq
      · exact False.elim hq
    · exact False.elim hq
  · have hw := hw.2 hc1
    refine lv_aload_n hx hb (xb_d D_Machine_call 3 rfl) rfl (lv_at hl 0 rfl) ?_
    refine lv_iload_n hx hb (xb_d D_Machine_call 4 rfl) rfl (lv_at hl 2 rfl) ?_
    obtain ⟨hk38, hw⟩ := hw
    obtain ⟨c41, sc41, hlc41, hlsc41, hw⟩ := hw
    refine xb_call (D := D) (A := A) (σ := σ) (h := h) (d := 5) (mc := c41) (ms := sc41) (maxL := 2) (rest := []) (av := [.ref x0, .int x2]) (fun T hT X => by obtain ⟨cb, r1, r2, r3⟩ := xb_recv (ci := 7) hR rfl hk38 (by decide); exact xt_invV X hx hown (hts _ m_e14bc95b) (hts _ m_55509cb2) (hts _ m_b8a1c73a) (xt_sigOf (hts _ m_1c382bc9)) nm_Machine_callHost (by rw [hT]; exact r1) r2 r3 (g := F0 m 9 ls [.int x2, .ref x0]) rfl (argsL := [.int x2]) (rest := []) rfl rfl (by rw [hb]; exact (xb_d D_Machine_call 5 rfl))) (ok_Machine_callHost l hfl D A σ x0 x2 h c41 sc41 _ hw) (hml.trans hl.1.symm) (by rw [hb]; exact (xb_d D_Machine_call 5 rfl)) (Nat.le_of_ble_eq_true rfl) (Nat.le_of_ble_eq_true rfl) (Nat.le_of_ble_eq_true rfl) (show k + c41 ≤ MC by omega) (show n + sc41 ≤ MS by omega) (xt_w1 hB.1 m_1c382bc9) (xt_cdOf hB.1 m_1c382bc9) (hts _ m_73451f9b) hB hR hS hA (fun vv h39 H locs hq hEh39 hR hS => ?_) (fun XX ax h39 H locs hq hEh39 hex hR hS => ?_)
    · obtain ⟨rfl, hw⟩ := hq
      have hw := hw hEh39
      have hE := hE.tr hEh39
      refine W.eq (g2 := F0 m 12 ls []) rfl ?_
      exact xb_vret hx hb hr hlocks (show (k + c41) ≤ MC by omega) (show (n + sc41) ≤ MS by omega) hE hR hS (xb_d D_Machine_call 6 rfl) hw
    · exact False.elim hq

theorem m_b9fbe8ac : (.methodLink "StackHost$Machine" 338 y_Machine_converted : Cond) ∈ xt_tbl := xt_in (xt_t8 (List.mem_of_getElem? (i := 42) (by decide +kernel))) (by decide +kernel)
theorem m_9cfa5b9e : (.instanceMethod y_Machine_converted : Cond) ∈ xt_tbl := xt_in (xt_t8 (List.mem_of_getElem? (i := 44) (by decide +kernel))) (by decide +kernel)
theorem m_56a142af : (.selects "StackHost$Machine" y_Machine_converted y_Machine_converted : Cond) ∈ xt_tbl := xt_in (xt_v7 (q := (⟨"StackHost$Machine", "converted", "(IJ)J"⟩, 18)) (List.mem_of_getElem? (i := 2) (by decide +kernel))) (by decide +kernel)
theorem m_125e82fa : (.code y_Machine_converted b_Machine_converted 4 (some .long) : Cond) ∈ xt_tbl := xt_in (xt_t8 (List.mem_of_getElem? (i := 45) (by decide +kernel))) (by decide +kernel)
theorem m_9e4fc57f : (.methodLink "StackHost$Machine" 334 y_Machine_truncate : Cond) ∈ xt_tbl := xt_in (xt_t8 (List.mem_of_getElem? (i := 16) (by decide +kernel))) (by decide +kernel)
theorem m_6eb19272 : (.instanceMethod y_Machine_truncate : Cond) ∈ xt_tbl := xt_in (xt_t8 (List.mem_of_getElem? (i := 18) (by decide +kernel))) (by decide +kernel)
theorem m_a4413c7f : (.selects "StackHost$Machine" y_Machine_truncate y_Machine_truncate : Cond) ∈ xt_tbl := xt_in (xt_v6 (q := (⟨"StackHost$Machine", "truncate", "(LStackHost$Format;JIZ)V"⟩, 18)) (List.mem_of_getElem? (i := 15) (by decide +kernel))) (by decide +kernel)
theorem m_9d6196c5 : (.code y_Machine_truncate b_Machine_truncate 9 none : Cond) ∈ xt_tbl := xt_in (xt_t8 (List.mem_of_getElem? (i := 19) (by decide +kernel))) (by decide +kernel)
theorem nm_Machine_converted : xt_nm y_Machine_converted 2 := ⟨by decide +kernel, by decide +kernel⟩
theorem nm_Machine_truncate : xt_nm y_Machine_truncate 4 := ⟨by decide +kernel, by decide +kernel⟩
set_option maxRecDepth 100000 in
def T_Machine_convert : List (Nat × Instr × Nat) := [(0, .aload_n 0, 1), (1, .getfield 35, 3), (4, .aload_n 0, 1), (5, .getfield 53, 3), (8, .iconst 1, 1), (9, .isub, 1), (10, .laload, 1), (11, .lstore_n 2, 1), (12, .iload_n 1, 1), (13, .tableswitch 159 168 177 #[55, 55, 81, 81, 159, 159, 107, 107, 133, 133], 55), (68, .aload_n 0, 1), (69, .aload_n 0, 1), (70, .getfield 16, 3), (73, .lload_n 2, 1), (74, .bipush 32, 2), (76, .iload_n 1, 1), (77, .sipush 168, 3), (80, .if_icmp .ne 7, 3), (83, .iconst 1, 1), (84, .goto 4, 3), (87, .iconst 0, 1), (88, .invokevirtual 334, 3), (91, .goto 98, 3), (94, .aload_n 0, 1), (95, .aload_n 0, 1), (96, .getfield 24, 3), (99, .lload_n 2, 1), (100, .bipush 32, 2), (102, .iload_n 1, 1), (103, .sipush 170, 3), (106, .if_icmp .ne 7, 3), (109, .iconst 1, 1), (110, .goto 4, 3), (113, .iconst 0, 1), (114, .invokevirtual 334, 3), (117, .goto 72, 3), (120, .aload_n 0, 1), (121, .aload_n 0, 1), (122, .getfield 16, 3), (125, .lload_n 2, 1), (126, .bipush 64, 2), (128, .iload_n 1, 1), (129, .sipush 174, 3), (132, .if_icmp .ne 7, 3), (135, .iconst 1, 1), (136, .goto 4, 3), (139, .iconst 0, 1), (140, .invokevirtual 334, 3), (143, .goto 46, 3), (146, .aload_n 0, 1), (147, .aload_n 0, 1), (148, .getfield 24, 3), (151, .lload_n 2, 1), (152, .bipush 64, 2), (154, .iload_n 1, 1), (155, .sipush 176, 3), (158, .if_icmp .ne 7, 3), (161, .iconst 1, 1), (162, .goto 4, 3), (165, .iconst 0, 1), (166, .invokevirtual 334, 3), (169, .goto 20, 3), (172, .aload_n 0, 1), (173, .getfield 35, 3), (176, .aload_n 0, 1), (177, .getfield 53, 3), (180, .iconst 1, 1), (181, .isub, 1), (182, .aload_n 0, 1), (183, .iload_n 1, 1), (184, .lload_n 2, 1), (185, .invokevirtual 338, 3), (188, .lastore, 1), (189, .return_, 1)]
theorem D_Machine_convert : ∀ q ∈ T_Machine_convert, decode b_Machine_convert q.1 = .ok (q.2.1, q.2.2) := by decide +kernel
def w_Machine_convert_L189 (Qr : xb_H → Prop) (h : xb_H) : Prop :=
    Qr h

def w_Machine_convert_L172 (Qr : xb_H → Prop) (x0 : Nat) (x1 : Int32) (x2 : Int64) (h : xb_H) : Prop :=
    xb_k h x0 = 8 ∧ ∃ b2 : Nat, (xb_r h x0 9) = some b2 ∧ w_Machine_converted x0 x1 x2 h (fun (r4 : Int64) (h3 : xb_H) => xb_ext h h3 → xb_k h3 b2 = 103 ∧ vp_in ((xb_i h x0 10) - 1) (xb_n h3 b2) ∧ ∀ h7 : xb_H, h7 = xb_L h3 b2 (Int32.toNatClampNeg ((xb_i h x0 10) - 1)) r4 → w_Machine_convert_L189 Qr h7)

def w_Machine_convert_L166 (Qr : xb_H → Prop) (y0 : Int32) (y1 : Int32) (y2 : Int64) (y3 : Nat) (y4 : Nat) (h : xb_H) : Prop :=
    xb_k h y4 = 8 ∧ w_Machine_truncate y4 y3 y2 y1 y0 h (fun (h2 : xb_H) => xb_ext h h2 → w_Machine_convert_L189 Qr h2)

def w_Machine_convert_L146 (Qr : xb_H → Prop) (x0 : Nat) (x1 : Int32) (x2 : Int64) (h : xb_H) : Prop :=
    xb_k h x0 = 8 ∧ ∃ b2 : Nat, (xb_r h x0 2) = some b2 ∧ ((¬ x1 = (176 : Int32) → w_Machine_convert_L166 Qr 0 64 x2 b2 x0 h) ∧ (x1 = (176 : Int32) → w_Machine_convert_L166 Qr 1 64 x2 b2 x0 h))

def w_Machine_convert_L140 (Qr : xb_H → Prop) (y0 : Int32) (y1 : Int32) (y2 : Int64) (y3 : Nat) (y4 : Nat) (h : xb_H) : Prop :=
    xb_k h y4 = 8 ∧ w_Machine_truncate y4 y3 y2 y1 y0 h (fun (h2 : xb_H) => xb_ext h h2 → w_Machine_convert_L189 Qr h2)

def w_Machine_convert_L120 (Qr : xb_H → Prop) (x0 : Nat) (x1 : Int32) (x2 : Int64) (h : xb_H) : Prop :=
    xb_k h x0 = 8 ∧ ∃ b2 : Nat, (xb_r h x0 1) = some b2 ∧ ((¬ x1 = (174 : Int32) → w_Machine_convert_L140 Qr 0 64 x2 b2 x0 h) ∧ (x1 = (174 : Int32) → w_Machine_convert_L140 Qr 1 64 x2 b2 x0 h))

def w_Machine_convert_L114 (Qr : xb_H → Prop) (y0 : Int32) (y1 : Int32) (y2 : Int64) (y3 : Nat) (y4 : Nat) (h : xb_H) : Prop :=
    xb_k h y4 = 8 ∧ w_Machine_truncate y4 y3 y2 y1 y0 h (fun (h2 : xb_H) => xb_ext h h2 → w_Machine_convert_L189 Qr h2)

def w_Machine_convert_L94 (Qr : xb_H → Prop) (x0 : Nat) (x1 : Int32) (x2 : Int64) (h : xb_H) : Prop :=
    xb_k h x0 = 8 ∧ ∃ b2 : Nat, (xb_r h x0 2) = some b2 ∧ ((¬ x1 = (170 : Int32) → w_Machine_convert_L114 Qr 0 32 x2 b2 x0 h) ∧ (x1 = (170 : Int32) → w_Machine_convert_L114 Qr 1 32 x2 b2 x0 h))

def w_Machine_convert_L88 (Qr : xb_H → Prop) (y0 : Int32) (y1 : Int32) (y2 : Int64) (y3 : Nat) (y4 : Nat) (h : xb_H) : Prop :=
    xb_k h y4 = 8 ∧ w_Machine_truncate y4 y3 y2 y1 y0 h (fun (h2 : xb_H) => xb_ext h h2 → w_Machine_convert_L189 Qr h2)

def w_Machine_convert_L68 (Qr : xb_H → Prop) (x0 : Nat) (x1 : Int32) (x2 : Int64) (h : xb_H) : Prop :=
    xb_k h x0 = 8 ∧ ∃ b2 : Nat, (xb_r h x0 1) = some b2 ∧ ((¬ x1 = (168 : Int32) → w_Machine_convert_L88 Qr 0 32 x2 b2 x0 h) ∧ (x1 = (168 : Int32) → w_Machine_convert_L88 Qr 1 32 x2 b2 x0 h))

def w_Machine_convert (x0 : Nat) (x1 : Int32) (h : xb_H) (Qr : xb_H → Prop) : Prop :=
    xb_k h x0 = 8 ∧ ∃ b2 : Nat, (xb_r h x0 9) = some b2 ∧ xb_k h b2 = 103 ∧ vp_in ((xb_i h x0 10) - 1) (xb_n h b2) ∧ ∀ v5 : Int64, v5 = (xb_l h b2 (Int32.toNatClampNeg ((xb_i h x0 10) - 1))) → ((x1 = 168 → w_Machine_convert_L68 Qr x0 x1 v5 h) ∧ (x1 = 169 → w_Machine_convert_L68 Qr x0 x1 v5 h) ∧ (x1 = 170 → w_Machine_convert_L94 Qr x0 x1 v5 h) ∧ (x1 = 171 → w_Machine_convert_L94 Qr x0 x1 v5 h) ∧ (x1 = 172 → w_Machine_convert_L172 Qr x0 x1 v5 h) ∧ (x1 = 173 → w_Machine_convert_L172 Qr x0 x1 v5 h) ∧ (x1 = 174 → w_Machine_convert_L120 Qr x0 x1 v5 h) ∧ (x1 = 175 → w_Machine_convert_L120 Qr x0 x1 v5 h) ∧ (x1 = 176 → w_Machine_convert_L146 Qr x0 x1 v5 h) ∧ (x1 = 177 → w_Machine_convert_L146 Qr x0 x1 v5 h) ∧ (¬ x1 = 168 → ¬ x1 = 169 → ¬ x1 = 170 → ¬ x1 = 171 → ¬ x1 = 172 → ¬ x1 = 173 → ¬ x1 = 174 → ¬ x1 = 175 → ¬ x1 = 176 → ¬ x1 = 177 → w_Machine_convert_L172 Qr x0 x1 v5 h))

set_option maxHeartbeats 4000000 in
set_option maxRecDepth 100000 in
theorem am_Machine_convert_L189 (l : Launch) (hfl : l.flags = pinnedFlags ++ [noTraceFlag]) (D : va_G) (A : Nat → Prop) (σ MC MS : Nat) (h0 : xb_H) (Qr : xb_H → Prop) (h : xb_H) (hw : w_Machine_convert_L189 Qr h) : xb_am l D A σ 6 MC MS h0 (fun v h => v = none ∧ Qr h) (fun _ _ => False) y_Machine_convert.cls y_Machine_convert.name b_Machine_convert 4 ([] : List ExceptionTableEntry) none 189 [] [] h 0 0 := by
  unfold w_Machine_convert_L189 at hw
  intro p e s m args below meth c hC H locs ls k n hE hl hR hS hk hn
  obtain ⟨hx, hb, hown, hlocks, htab, hml, hr, hB, hA, hnm⟩ := id hC
  have hts := hB.1.1.at args
  exact xb_vret hx hb hr hlocks (show k ≤ MC by omega) (show n ≤ MS by omega) hE hR hS (xb_d D_Machine_convert 73 rfl) hw

set_option maxHeartbeats 4000000 in
set_option maxRecDepth 100000 in
theorem am_Machine_convert_L172 (l : Launch) (hfl : l.flags = pinnedFlags ++ [noTraceFlag]) (D : va_G) (A : Nat → Prop) (σ MC MS : Nat) (h0 : xb_H) (Qr : xb_H → Prop) (x0 : Nat) (x1 : Int32) (x2 : Int64) (h : xb_H) (hw : w_Machine_convert_L172 Qr x0 x1 x2 h) : xb_am l D A σ 6 MC MS h0 (fun v h => v = none ∧ Qr h) (fun _ _ => False) y_Machine_convert.cls y_Machine_convert.name b_Machine_convert 4 ([] : List ExceptionTableEntry) none 172 [(0, .ref x0), (1, .int x1), (2, .long x2)] [] h 0 0 := by
  unfold w_Machine_convert_L172 at hw
  intro p e s m args below meth c hC H locs ls k n hE hl hR hS hk hn
  obtain ⟨hx, hb, hown, hlocks, htab, hml, hr, hB, hA, hnm⟩ := id hC
  have hts := hB.1.1.at args
  refine lv_aload_n hx hb (xb_d D_Machine_convert 62 rfl) rfl (lv_at hl 0 rfl) ?_
  obtain ⟨hk1, hw⟩ := hw
  refine xb_getP (C := R_Machine) (T := F_Machine) (N := 18) hx hb 7 9 hts fin_Machine hown hR hk1 (by decide) rfl (by decide) rfl (hts _ m_6904195b) (fun _ h9 => h9) (xb_d D_Machine_convert 63 rfl) ?_
  obtain ⟨b2, eb2, hw⟩ := hw
  refine xb_some eb2 ?_
  refine lv_aload_n hx hb (xb_d D_Machine_convert 64 rfl) rfl (lv_at hl 0 rfl) ?_
  refine xb_getI (C := R_Machine) (T := F_Machine) (N := 18) hx hb 7 10 hts fin_Machine hown hR hk1 (by decide) rfl (by decide) rfl (hts _ m_79cf62f6) (fun _ h9 => h9) (xb_d D_Machine_convert 65 rfl) ?_
  refine lv_iconst (v := 1) hx hb (xb_d D_Machine_convert 66 rfl) (by decide) ?_
  refine lv_isub hx hb (xb_d D_Machine_convert 67 rfl) ?_
  refine lv_aload_n hx hb (xb_d D_Machine_convert 68 rfl) rfl (lv_at hl 0 rfl) ?_
  refine lv_iload_n hx hb (xb_d D_Machine_convert 69 rfl) rfl (lv_at hl 1 rfl) ?_
  refine lv_lload_n hx hb (xb_d D_Machine_convert 70 rfl) rfl (lv_at hl 2 rfl) ?_
  refine xb_call (D := D) (A := A) (σ := σ) (h := h) (d := 5) (mc := 0) (ms := 0) (maxL := 4) (rest := [.int ((xb_i h x0 10) - 1), .ref b2]) (av := [.ref x0, .int x1, .long x2]) (fun T hT X => by obtain ⟨cb, r1, r2, r3⟩ := xb_recv (ci := 7) hR rfl hk1 (by decide); exact xt_invV X hx hown (hts _ m_b9fbe8ac) (hts _ m_9cfa5b9e) (hts _ m_56a142af) (xt_sigOf (hts _ m_125e82fa)) nm_Machine_converted (by rw [hT]; exact r1) r2 r3 (g := F0 m 185 ls [.long x2, .int x1, .ref x0, .int ((xb_i h x0 10) - 1), .ref b2]) rfl (argsL := [.int x1, .long x2]) (rest := [.int ((xb_i h x0 10) - 1), .ref b2]) rfl rfl (by rw [hb]; exact (xb_d D_Machine_convert 71 rfl))) (ok_Machine_converted l hfl D A σ x0 x1 x2 h _ hw) (hml.trans hl.1.symm) (by rw [hb]; exact (xb_d D_Machine_convert 71 rfl)) (Nat.le_of_ble_eq_true rfl) (Nat.le_of_ble_eq_true rfl) (Nat.le_of_ble_eq_true rfl) (show k + 0 ≤ MC by omega) (show n + 0 ≤ MS by omega) (xt_w1 hB.1 m_125e82fa) (xt_cdOf hB.1 m_125e82fa) (hts _ m_73451f9b) hB hR hS hA (fun vv h3 H locs hq hEh3 hR hS => ?_) (fun XX ax h3 H locs hq hEh3 hex hR hS => ?_)
  · obtain ⟨r4, rfl, hw⟩ := hq
    have hw := hw hEh3
    have hE := hE.tr hEh3
    refine W.eq (g2 := F0 m 188 ls [.long r4, .int ((xb_i h x0 10) - 1), .ref b2]) rfl ?_
    obtain ⟨hk5, hw⟩ := hw
    obtain ⟨hi6, hw⟩ := hw
    refine xb_last hx hb hR hS hk5 hi6 (xb_d D_Machine_convert 72 rfl) (fun H locs hR hS => ?_)
    obtain ⟨h7, eh7⟩ : ∃ x : xb_H, x = xb_L h3 b2 (Int32.toNatClampNeg ((xb_i h x0 10) - 1)) r4 := ⟨_, rfl⟩
    rw [← eh7] at hR
    have hw := hw h7 eh7
    have hE : xb_ext h0 h7 := by rw [eh7]; exact hE
    exact am_Machine_convert_L189 l hfl D A σ MC MS h0 Qr h7 hw p e s m args below meth c hC H locs ls k n hE (lv_sub hl [] rfl) hR hS (by omega) (by omega)
  · exact False.elim hq

set_option maxHeartbeats 4000000 in
set_option maxRecDepth 100000 in
theorem am_Machine_convert_L166 (l : Launch) (hfl : l.flags = pinnedFlags ++ [noTraceFlag]) (D : va_G) (A : Nat → Prop) (σ MC MS : Nat) (h0 : xb_H) (Qr : xb_H → Prop) (y0 : Int32) (y1 : Int32) (y2 : Int64) (y3 : Nat) (y4 : Nat) (h : xb_H) (hw : w_Machine_convert_L166 Qr y0 y1 y2 y3 y4 h) : xb_am l D A σ 6 MC MS h0 (fun v h => v = none ∧ Qr h) (fun _ _ => False) y_Machine_convert.cls y_Machine_convert.name b_Machine_convert 4 ([] : List ExceptionTableEntry) none 166 [] [.int y0, .int y1, .long y2, .ref y3, .ref y4] h 0 0 := by
  unfold w_Machine_convert_L166 at hw
  intro p e s m args below meth c hC H locs ls k n hE hl hR hS hk hn
  obtain ⟨hx, hb, hown, hlocks, htab, hml, hr, hB, hA, hnm⟩ := id hC
  have hts := hB.1.1.at args
  obtain ⟨hk1, hw⟩ := hw
  refine xb_call (D := D) (A := A) (σ := σ) (h := h) (d := 5) (mc := 0) (ms := 0) (maxL := 9) (rest := []) (av := [.ref y4, .ref y3, .long y2, .int y1, .int y0]) (fun T hT X => by obtain ⟨cb, r1, r2, r3⟩ := xb_recv (ci := 7) hR rfl hk1 (by decide); exact xt_invV X hx hown (hts _ m_9e4fc57f) (hts _ m_6eb19272) (hts _ m_a4413c7f) (xt_sigOf (hts _ m_9d6196c5)) nm_Machine_truncate (by rw [hT]; exact r1) r2 r3 (g := F0 m 166 ls [.int y0, .int y1, .long y2, .ref y3, .ref y4]) rfl (argsL := [.ref y3, .long y2, .int y1, .int y0]) (rest := []) rfl rfl (by rw [hb]; exact (xb_d D_Machine_convert 60 rfl))) (ok_Machine_truncate l hfl D A σ y4 y3 y2 y1 y0 h _ hw) (hml.trans hl.1.symm) (by rw [hb]; exact (xb_d D_Machine_convert 60 rfl)) (Nat.le_of_ble_eq_true rfl) (Nat.le_of_ble_eq_true rfl) (Nat.le_of_ble_eq_true rfl) (show k + 0 ≤ MC by omega) (show n + 0 ≤ MS by omega) (xt_w1 hB.1 m_9d6196c5) (xt_cdOf hB.1 m_9d6196c5) (hts _ m_73451f9b) hB hR hS hA (fun vv h2 H locs hq hEh2 hR hS => ?_) (fun XX ax h2 H locs hq hEh2 hex hR hS => ?_)
  · obtain ⟨rfl, hw⟩ := hq
    have hw := hw hEh2
    have hE := hE.tr hEh2
    refine W.eq (g2 := F0 m 169 ls []) rfl ?_
    refine lv_goto (tgt := 189) hx hb (xb_d D_Machine_convert 61 rfl) rfl ?_
    exact am_Machine_convert_L189 l hfl D A σ MC MS h0 Qr h2 hw p e s m args below meth c hC H locs ls k n hE (lv_sub hl [] rfl) hR hS (by omega) (by omega)
  · exact False.elim hq

set_option maxHeartbeats 4000000 in
set_option maxRecDepth 100000 in
theorem am_Machine_convert_L146 (l : Launch) (hfl : l.flags = pinnedFlags ++ [noTraceFlag]) (D : va_G) (A : Nat → Prop) (σ MC MS : Nat) (h0 : xb_H) (Qr : xb_H → Prop) (x0 : Nat) (x1 : Int32) (x2 : Int64) (h : xb_H) (hw : w_Machine_convert_L146 Qr x0 x1 x2 h) : xb_am l D A σ 6 MC MS h0 (fun v h => v = none ∧ Qr h) (fun _ _ => False) y_Machine_convert.cls y_Machine_convert.name b_Machine_convert 4 ([] : List ExceptionTableEntry) none 146 [(0, .ref x0), (1, .int x1), (2, .long x2)] [] h 0 0 := by
  unfold w_Machine_convert_L146 at hw
  intro p e s m args below meth c hC H locs ls k n hE hl hR hS hk hn
  obtain ⟨hx, hb, hown, hlocks, htab, hml, hr, hB, hA, hnm⟩ := id hC
  have hts := hB.1.1.at args
  refine lv_aload_n hx hb (xb_d D_Machine_convert 49 rfl) rfl (lv_at hl 0 rfl) ?_
  refine lv_aload_n hx hb (xb_d D_Machine_convert 50 rfl) rfl (lv_at hl 0 rfl) ?_
  obtain ⟨hk1, hw⟩ := hw
  refine xb_getP (C := R_Machine) (T := F_Machine) (N := 18) hx hb 7 2 hts fin_Machine hown hR hk1 (by decide) rfl (by decide) rfl (hts _ m_ba1eb42f) (fun _ h9 => h9) (xb_d D_Machine_convert 51 rfl) ?_
  obtain ⟨b2, eb2, hw⟩ := hw
  refine xb_some eb2 ?_
  refine lv_lload_n hx hb (xb_d D_Machine_convert 52 rfl) rfl (lv_at hl 2 rfl) ?_
  refine lv_bipush (v := 64) hx hb (xb_d D_Machine_convert 53 rfl) (by decide) ?_
  refine lv_iload_n hx hb (xb_d D_Machine_convert 54 rfl) rfl (lv_at hl 1 rfl) ?_
  refine lv_sipush (v := 176) hx hb (xb_d D_Machine_convert 55 rfl) (by decide) ?_
  refine lv_icmp_ne (tgt := 165) hx hb (xb_d D_Machine_convert 56 rfl) rfl (fun hc3 => ?_) (fun hc3 => ?_)
  · have hw := hw.1 hc3
    refine lv_iconst (v := 0) hx hb (xb_d D_Machine_convert 59 rfl) (by decide) ?_
    exact am_Machine_convert_L166 l hfl D A σ MC MS h0 Qr 0 64 x2 b2 x0 h hw p e s m args below meth c hC H locs ls k n hE (lv_sub hl [] rfl) hR hS (by omega) (by omega)
  · have hw := hw.2 hc3
    refine lv_iconst (v := 1) hx hb (xb_d D_Machine_convert 57 rfl) (by decide) ?_
    refine lv_goto (tgt := 166) hx hb (xb_d D_Machine_convert 58 rfl) rfl ?_
    exact am_Machine_convert_L166 l hfl D A σ MC MS h0 Qr 1 64 x2 b2 x0 h hw p e s m args below meth c hC H locs ls k n hE (lv_sub hl [] rfl) hR hS (by omega) (by omega)

set_option maxHeartbeats 4000000 in
set_option maxRecDepth 100000 in
theorem am_Machine_convert_L140 (l : Launch) (hfl : l.flags = pinnedFlags ++ [noTraceFlag]) (D : va_G) (A : Nat → Prop) (σ MC MS : Nat) (h0 : xb_H) (Qr : xb_H → Prop) (y0 : Int32) (y1 : Int32) (y2 : Int64) (y3 : Nat) (y4 : Nat) (h : xb_H) (hw : w_Machine_convert_L140 Qr y0 y1 y2 y3 y4 h) : xb_am l D A σ 6 MC MS h0 (fun v h => v = none ∧ Qr h) (fun _ _ => False) y_Machine_convert.cls y_Machine_convert.name b_Machine_convert 4 ([] : List ExceptionTableEntry) none 140 [] [.int y0, .int y1, .long y2, .ref y3, .ref y4] h 0 0 := by
  unfold w_Machine_convert_L140 at hw
  intro p e s m args below meth c hC H locs ls k n hE hl hR hS hk hn
  obtain ⟨hx, hb, hown, hlocks, htab, hml, hr, hB, hA, hnm⟩ := id hC
  have hts := hB.1.1.at args
  obtain ⟨hk1, hw⟩ := hw
  refine xb_call (D := D) (A := A) (σ := σ) (h := h) (d := 5) (mc := 0) (ms := 0) (maxL := 9) (rest := []) (av := [.ref y4, .ref y3, .long y2, .int y1, .int y0]) (fun T hT X => by obtain ⟨cb, r1, r2, r3⟩ := xb_recv (ci := 7) hR rfl hk1 (by decide); exact xt_invV X hx hown (hts _ m_9e4fc57f) (hts _ m_6eb19272) (hts _ m_a4413c7f) (xt_sigOf (hts _ m_9d6196c5)) nm_Machine_truncate (by rw [hT]; exact r1) r2 r3 (g := F0 m 140 ls [.int y0, .int y1, .long y2, .ref y3, .ref y4]) rfl (argsL := [.ref y3, .long y2, .int y1, .int y0]) (rest := []) rfl rfl (by rw [hb]; exact (xb_d D_Machine_convert 47 rfl))) (ok_Machine_truncate l hfl D A σ y4 y3 y2 y1 y0 h _ hw) (hml.trans hl.1.symm) (by rw [hb]; exact (xb_d D_Machine_convert 47 rfl)) (Nat.le_of_ble_eq_true rfl) (Nat.le_of_ble_eq_true rfl) (Nat.le_of_ble_eq_true rfl) (show k + 0 ≤ MC by omega) (show n + 0 ≤ MS by omega) (xt_w1 hB.1 m_9d6196c5) (xt_cdOf hB.1 m_9d6196c5) (hts _ m_73451f9b) hB hR hS hA (fun vv h2 H locs hq hEh2 hR hS => ?_) (fun XX ax h2 H locs hq hEh2 hex hR hS => ?_)
  · obtain ⟨rfl, hw⟩ := hq
    have hw := hw hEh2
    have hE := hE.tr hEh2
    refine W.eq (g2 := F0 m 143 ls []) rfl ?_
    refine lv_goto (tgt := 189) hx hb (xb_d D_Machine_convert 48 rfl) rfl ?_
    exact am_Machine_convert_L189 l hfl D A σ MC MS h0 Qr h2 hw p e s m args below meth c hC H locs ls k n hE (lv_sub hl [] rfl) hR hS (by omega) (by omega)
  · exact False.elim hq

set_option maxHeartbeats 4000000 in
set_option maxRecDepth 100000 in
theorem am_Machine_convert_L120 (l : Launch) (hfl : l.flags = pinnedFlags ++ [noTraceFlag]) (D : va_G) (A : Nat → Prop) (σ MC MS : Nat) (h0 : xb_H) (Qr : xb_H → Prop) (x0 : Nat) (x1 : Int32) (x2 : Int64) (h : xb_H) (hw : w_Machine_convert_L120 Qr x0 x1 x2 h) : xb_am l D A σ 6 MC MS h0 (fun v h => v = none ∧ Qr h) (fun _ _ => False) y_Machine_convert.cls y_Machine_convert.name b_Machine_convert 4 ([] : List ExceptionTableEntry) none 120 [(0, .ref x0), (1, .int x1), (2, .long x2)] [] h 0 0 := by
  unfold w_Machine_convert_L120 at hw
  intro p e s m args below meth c hC H locs ls k n hE hl hR hS hk hn
  obtain ⟨hx, hb, hown, hlocks, htab, hml, hr, hB, hA, hnm⟩ := id hC
  have hts := hB.1.1.at args
  refine lv_aload_n hx hb (xb_d D_Machine_convert 36 rfl) rfl (lv_at hl 0 rfl) ?_
  refine lv_aload_n hx hb (xb_d D_Machine_convert 37 rfl) rfl (lv_at hl 0 rfl) ?_
  obtain ⟨hk1, hw⟩ := hw
  refine xb_getP (C := R_Machine) (T := F_Machine) (N := 18) hx hb 7 1 hts fin_Machine hown hR hk1 (by decide) rfl (by decide) rfl (hts _ m_ae64f9ca) (fun _ h9 => h9) (xb_d D_Machine_convert 38 rfl) ?_
  obtain ⟨b2, eb2, hw⟩ := hw
  refine xb_some eb2 ?_
  refine lv_lload_n hx hb (xb_d D_Machine_convert 39 rfl) rfl (lv_at hl 2 rfl) ?_
  refine lv_bipush (v := 64) hx hb (xb_d D_Machine_convert 40 rfl) (by decide) ?_
  refine lv_iload_n hx hb (xb_d D_Machine_convert 41 rfl) rfl (lv_at hl 1 rfl) ?_
  refine lv_sipush (v := 174) hx hb (xb_d D_Machine_convert 42 rfl) (by decide) ?_
  refine lv_icmp_ne (tgt := 139) hx hb (xb_d D_Machine_convert 43 rfl) rfl (fun hc3 => ?_) (fun hc3 => ?_)
  · have hw := hw.1 hc3
    refine lv_iconst (v := 0) hx hb (xb_d D_Machine_convert 46 rfl) (by decide) ?_
    exact am_Machine_convert_L140 l hfl D A σ MC MS h0 Qr 0 64 x2 b2 x0 h hw p e s m args below meth c hC H locs ls k n hE (lv_sub hl [] rfl) hR hS (by omega) (by omega)
  · have hw := hw.2 hc3
    refine lv_iconst (v := 1) hx hb (xb_d D_Machine_convert 44 rfl) (by decide) ?_
    refine lv_goto (tgt := 140) hx hb (xb_d D_Machine_convert 45 rfl) rfl ?_
    exact am_Machine_convert_L140 l hfl D A σ MC MS h0 Qr 1 64 x2 b2 x0 h hw p e s m args below meth c hC H locs ls k n hE (lv_sub hl [] rfl) hR hS (by omega) (by omega)

set_option maxHeartbeats 4000000 in
set_option maxRecDepth 100000 in
theorem am_Machine_convert_L114 (l : Launch) (hfl : l.flags = pinnedFlags ++ [noTraceFlag]) (D : va_G) (A : Nat → Prop) (σ MC MS : Nat) (h0 : xb_H) (Qr : xb_H → Prop) (y0 : Int32) (y1 : Int32) (y2 : Int64) (y3 : Nat) (y4 : Nat) (h : xb_H) (hw : w_Machine_convert_L114 Qr y0 y1 y2 y3 y4 h) : xb_am l D A σ 6 MC MS h0 (fun v h => v = none ∧ Qr h) (fun _ _ => False) y_Machine_convert.cls y_Machine_convert.name b_Machine_convert 4 ([] : List ExceptionTableEntry) none 114 [] [.int y0, .int y1, .long y2, .ref y3, .ref y4] h 0 0 := by
  unfold w_Machine_convert_L114 at hw
  intro p e s m args below meth c hC H locs ls k n hE hl hR hS hk hn
  obtain ⟨hx, hb, hown, hlocks, htab, hml, hr, hB, hA, hnm⟩ := id hC
  have hts := hB.1.1.at args
  obtain ⟨hk1, hw⟩ := hw
  refine xb_call (D := D) (A := A) (σ := σ) (h := h) (d := 5) (mc := 0) (ms := 0) (maxL := 9) (rest := []) (av := [.ref y4, .ref y3, .long y2, .int y1, .int y0]) (fun T hT X => by obtain ⟨cb, r1, r2, r3⟩ := xb_recv (ci := 7) hR rfl hk1 (by decide); exact xt_invV X hx hown (hts _ m_9e4fc57f) (hts _ m_6eb19272) (hts _ m_a4413c7f) (xt_sigOf (hts _ m_9d6196c5)) nm_Machine_truncate (by rw [hT]; exact r1) r2 r3 (g := F0 m 114 ls [.int y0, .int y1, .long y2, .ref y3, .ref y4]) rfl (argsL := [.ref y3, .long y2, .int y1, .int y0]) (rest := []) rfl rfl (by rw [hb]; exact (xb_d D_Machine_convert 34 rfl))) (ok_Machine_truncate l hfl D A σ y4 y3 y2 y1 y0 h _ hw) (hml.trans hl.1.symm) (by rw [hb]; exact (xb_d D_Machine_convert 34 rfl)) (Nat.le_of_ble_eq_true rfl) (Nat.le_of_ble_eq_true rfl) (Nat.le_of_ble_eq_true rfl) (show k + 0 ≤ MC by omega) (show n + 0 ≤ MS by omega) (xt_w1 hB.1 m_9d6196c5) (xt_cdOf hB.1 m_9d6196c5) (hts _ m_73451f9b) hB hR hS hA (fun vv h2 H locs hq hEh2 hR hS => ?_) (fun XX ax h2 H locs hq hEh2 hex hR hS => ?_)
  · obtain ⟨rfl, hw⟩ := hq
    have hw := hw hEh2
    have hE := hE.tr hEh2
    refine W.eq (g2 := F0 m 117 ls []) rfl ?_
    refine lv_goto (tgt := 189) hx hb (xb_d D_Machine_convert 35 rfl) rfl ?_
    exact am_Machine_convert_L189 l hfl D A σ MC MS h0 Qr h2 hw p e s m args below meth c hC H locs ls k n hE (lv_sub hl [] rfl) hR hS (by omega) (by omega)
  · exact False.elim hq

set_option maxHeartbeats 4000000 in
set_option maxRecDepth 100000 in
theorem am_Machine_convert_L94 (l : Launch) (hfl : l.flags = pinnedFlags ++ [noTraceFlag]) (D : va_G) (A : Nat → Prop) (σ MC MS : Nat) (h0 : xb_H) (Qr : xb_H → Prop) (x0 : Nat) (x1 : Int32) (x2 : Int64) (h : xb_H) (hw : w_Machine_convert_L94 Qr x0 x1 x2 h) : xb_am l D A σ 6 MC MS h0 (fun v h => v = none ∧ Qr h) (fun _ _ => False) y_Machine_convert.cls y_Machine_convert.name b_Machine_convert 4 ([] : List ExceptionTableEntry) none 94 [(0, .ref x0), (1, .int x1), (2, .long x2)] [] h 0 0 := by
  unfold w_Machine_convert_L94 at hw
  intro p e s m args below meth c hC H locs ls k n hE hl hR hS hk hn
  obtain ⟨hx, hb, hown, hlocks, htab, hml, hr, hB, hA, hnm⟩ := id hC
  have hts := hB.1.1.at args
  refine lv_aload_n hx hb (xb_d D_Machine_convert 23 rfl) rfl (lv_at hl 0 rfl) ?_
  refine lv_aload_n hx hb (xb_d D_Machine_convert 24 rfl) rfl (lv_at hl 0 rfl) ?_
  obtain ⟨hk1, hw⟩ := hw
  refine xb_getP (C := R_Machine) (T := F_Machine) (N := 18) hx hb 7 2 hts fin_Machine hown hR hk1 (by decide) rfl (by decide) rfl (hts _ m_ba1eb42f) (fun _ h9 => h9) (xb_d D_Machine_convert 25 rfl) ?_
  obtain ⟨b2, eb2, hw⟩ := hw
  refine xb_some eb2 ?_
  refine lv_lload_n hx hb (xb_d D_Machine_convert 26 rfl) rfl (lv_at hl 2 rfl) ?_
  refine lv_bipush (v := 32) hx hb (xb_d D_Machine_convert 27 rfl) (by decide) ?_
  refine lv_iload_n hx hb (xb_d D_Machine_convert 28 rfl) rfl (lv_at hl 1 rfl) ?_
  refine lv_sipush (v := 170) hx hb (xb_d D_Machine_convert 29 rfl) (by decide) ?_
  refine lv_icmp_ne (tgt := 113) hx hb (xb_d D_Machine_convert 30 rfl) rfl (fun hc3 => ?_) (fun hc3 => ?_)
  · have hw := hw.1 hc3
    refine lv_iconst (v := 0) hx hb (xb_d D_Machine_convert 33 rfl) (by decide) ?_
    exact am_Machine_convert_L114 l hfl D A σ MC MS h0 Qr 0 32 x2 b2 x0 h hw p e s m args below meth c hC H locs ls k n hE (lv_sub hl [] rfl) hR hS (by omega) (by omega)
  · have hw := hw.2 hc3
    refine lv_iconst (v := 1) hx hb (xb_d D_Machine_convert 31 rfl) (by decide) ?_
    refine lv_goto (tgt := 114) hx hb (xb_d D_Machine_convert 32 rfl) rfl ?_
    exact am_Machine_convert_L114 l hfl D A σ MC MS h0 Qr 1 32 x2 b2 x0 h hw p e s m args below meth c hC H locs ls k n hE (lv_sub hl [] rfl) hR hS (by omega) (by omega)

set_option maxHeartbeats 4000000 in
set_option maxRecDepth 100000 in
theorem am_Machine_convert_L88 (l : Launch) (hfl : l.flags = pinnedFlags ++ [noTraceFlag]) (D : va_G) (A : Nat → Prop) (σ MC MS : Nat) (h0 : xb_H) (Qr : xb_H → Prop) (y0 : Int32) (y1 : Int32) (y2 : Int64) (y3 : Nat) (y4 : Nat) (h : xb_H) (hw : w_Machine_convert_L88 Qr y0 y1 y2 y3 y4 h) : xb_am l D A σ 6 MC MS h0 (fun v h => v = none ∧ Qr h) (fun _ _ => False) y_Machine_convert.cls y_Machine_convert.name b_Machine_convert 4 ([] : List ExceptionTableEntry) none 88 [] [.int y0, .int y1, .long y2, .ref y3, .ref y4] h 0 0 := by
  unfold w_Machine_convert_L88 at hw
  intro p e s m args below meth c hC H locs ls k n hE hl hR hS hk hn
  obtain ⟨hx, hb, hown, hlocks, htab, hml, hr, hB, hA, hnm⟩ := id hC
  have hts := hB.1.1.at args
  obtain ⟨hk1, hw⟩ := hw
  refine xb_call (D := D) (A := A) (σ := σ) (h := h) (d := 5) (mc := 0) (ms := 0) (maxL := 9) (rest := []) (av := [.ref y4, .ref y3, .long y2, .int y1, .int y0]) (fun T hT X => by obtain ⟨cb, r1, r2, r3⟩ := xb_recv (ci := 7) hR rfl hk1 (by decide); exact xt_invV X hx hown (hts _ m_9e4fc57f) (hts _ m_6eb19272) (hts _ m_a4413c7f) (xt_sigOf (hts _ m_9d6196c5)) nm_Machine_truncate (by rw [hT]; exact r1) r2 r3 (g := F0 m 88 ls [.int y0, .int y1, .long y2, .ref y3, .ref y4]) rfl (argsL := [.ref y3, .long y2, .int y1, .int y0]) (rest := []) rfl rfl (by rw [hb]; exact (xb_d D_Machine_convert 21 rfl))) (ok_Machine_truncate l hfl D A σ y4 y3 y2 y1 y0 h _ hw) (hml.trans hl.1.symm) (by rw [hb]; exact (xb_d D_Machine_convert 21 rfl)) (Nat.le_of_ble_eq_true rfl) (Nat.le_of_ble_eq_true rfl) (Nat.le_of_ble_eq_true rfl) (show k + 0 ≤ MC by omega) (show n + 0 ≤ MS by omega) (xt_w1 hB.1 m_9d6196c5) (xt_cdOf hB.1 m_9d6196c5) (hts _ m_73451f9b) hB hR hS hA (fun vv h2 H locs hq hEh2 hR hS => ?_) (fun XX ax h2 H locs hq hEh2 hex hR hS => ?_)
  · obtain ⟨rfl, hw⟩ := hq
    have hw := hw hEh2
    have hE := hE.tr hEh2
    refine W.eq (g2 := F0 m 91 ls []) rfl ?_
    refine lv_goto (tgt := 189) hx hb (xb_d D_Machine_convert 22 rfl) rfl ?_
    exact am_Machine_convert_L189 l hfl D A σ MC MS h0 Qr h2 hw p e s m args below meth c hC H locs ls k n hE (lv_sub hl [] rfl) hR hS (by omega) (by omega)
  · exact False.elim hq

set_option maxHeartbeats 4000000 in
set_option maxRecDepth 100000 in
theorem am_Machine_convert_L68 (l : Launch) (hfl : l.flags = pinnedFlags ++ [noTraceFlag]) (D : va_G) (A : Nat → Prop) (σ MC MS : Nat) (h0 : xb_H) (Qr : xb_H → Prop) (x0 : Nat) (x1 : Int32) (x2 : Int64) (h : xb_H) (hw : w_Machine_convert_L68 Qr x0 x1 x2 h) : xb_am l D A σ 6 MC MS h0 (fun v h => v = none ∧ Qr h) (fun _ _ => False) y_Machine_convert.cls y_Machine_convert.name b_Machine_convert 4 ([] : List ExceptionTableEntry) none 68 [(0, .ref x0), (1, .int x1), (2, .long x2)] [] h 0 0 := by
  unfold w_Machine_convert_L68 at hw
  intro p e s m args below meth c hC H locs ls k n hE hl hR hS hk hn
  obtain ⟨hx, hb, hown, hlocks, htab, hml, hr, hB, hA, hnm⟩ := id hC
  have hts := hB.1.1.at args
  refine lv_aload_n hx hb (xb_d D_Machine_convert 10 rfl) rfl (lv_at hl 0 rfl) ?_
  refine lv_aload_n hx hb (xb_d D_Machine_convert 11 rfl) rfl (lv_at hl 0 rfl) ?_
  obtain ⟨hk1, hw⟩ := hw
  refine xb_getP (C := R_Machine) (T := F_Machine) (N := 18) hx hb 7 1 hts fin_Machine hown hR hk1 (by decide) rfl (by decide) rfl (hts _ m_ae64f9ca) (fun _ h9 => h9) (xb_d D_Machine_convert 12 rfl) ?_
  obtain ⟨b2, eb2, hw⟩ := hw
  refine xb_some eb2 ?_
  refine lv_lload_n hx hb (xb_d D_Machine_convert 13 rfl) rfl (lv_at hl 2 rfl) ?_
  refine lv_bipush (v := 32) hx hb (xb_d D_Machine_convert 14 rfl) (by decide) ?_
  refine lv_iload_n hx hb (xb_d D_Machine_convert 15 rfl) rfl (lv_at hl 1 rfl) ?_
  refine lv_sipush (v := 168) hx hb (xb_d D_Machine_convert 16 rfl) (by decide) ?_
  refine lv_icmp_ne (tgt := 87) hx hb (xb_d D_Machine_convert 17 rfl) rfl (fun hc3 => ?_) (fun hc3 => ?_)
  · have hw := hw.1 hc3
    refine lv_iconst (v := 0) hx hb (xb_d D_Machine_convert 20 rfl) (by decide) ?_
    exact am_Machine_convert_L88 l hfl D A σ MC MS h0 Qr 0 32 x2 b2 x0 h hw p e s m args below meth c hC H locs ls k n hE (lv_sub hl [] rfl) hR hS (by omega) (by omega)
  · have hw := hw.2 hc3
    refine lv_iconst (v := 1) hx hb (xb_d D_Machine_convert 18 rfl) (by decide) ?_
    refine lv_goto (tgt := 88) hx hb (xb_d D_Machine_convert 19 rfl) rfl ?_
    exact am_Machine_convert_L88 l hfl D A σ MC MS h0 Qr 1 32 x2 b2 x0 h hw p e s m args below meth c hC H locs ls k n hE (lv_sub hl [] rfl) hR hS (by omega) (by omega)

set_option maxHeartbeats 4000000 in
set_option maxRecDepth 100000 in
theorem ok_Machine_convert (l : Launch) (hfl : l.flags = pinnedFlags ++ [noTraceFlag]) (D : va_G) (A : Nat → Prop) (σ : Nat) (x0 : Nat) (x1 : Int32) (h : xb_H) (Qr : xb_H → Prop) (hw : w_Machine_convert x0 x1 h Qr) : xt_Met l y_Machine_convert [.code y_Machine_convert b_Machine_convert 4 none] (xb_rm 6 0 0) (xb_Pc D A σ h [.ref x0, .int x1]) (xb_Qc D A h (fun v h => v = none ∧ Qr h) (fun _ _ => False)) 0 0 A := by
  refine xb_ofAm (cc := b_Machine_convert) (by decide) (Nat.le_of_ble_eq_true rfl) ?_
  unfold w_Machine_convert at hw
  show xb_am l D A σ 6 0 0 h (fun v h => v = none ∧ Qr h) (fun _ _ => False) y_Machine_convert.cls y_Machine_convert.name b_Machine_convert 4 ([] : List ExceptionTableEntry) none 0 [(0, .ref x0), (1, .int x1)] [] h 0 0
  obtain ⟨MC, hMC⟩ : ∃ x, x = 0 := ⟨_, rfl⟩
  obtain ⟨MS, hMS⟩ : ∃ x, x = 0 := ⟨_, rfl⟩
  rw [show xb_am l D A σ 6 0 0 = xb_am l D A σ 6 MC MS by rw [hMC, hMS]]
  obtain ⟨h0, hh0⟩ : ∃ x, x = h := ⟨_, rfl⟩
  rw [show xb_am l D A σ 6 MC MS h = xb_am l D A σ 6 MC MS h0 by rw [hh0]]
  intro p e s m args below meth c hC H locs ls k n hE hl hR hS hk hn
  obtain ⟨hx, hb, hown, hlocks, htab, hml, hr, hB, hA, hnm⟩ := id hC
  have hts := hB.1.1.at args
  refine lv_aload_n hx hb (xb_d D_Machine_convert 0 rfl) rfl (lv_at hl 0 rfl) ?_
  obtain ⟨hk1, hw⟩ := hw
  refine xb_getP (C := R_Machine) (T := F_Machine) (N := 18) hx hb 7 9 hts fin_Machine hown hR hk1 (by decide) rfl (by decide) rfl (hts _ m_6904195b) (fun _ h9 => h9) (xb_d D_Machine_convert 1 rfl) ?_
  obtain ⟨b2, eb2, hw⟩ := hw
  refine xb_some eb2 ?_
  refine lv_aload_n hx hb (xb_d D_Machine_convert 2 rfl) rfl (lv_at hl 0 rfl) ?_
  refine xb_getI (C := R_Machine) (T := F_Machine) (N := 18) hx hb 7 10 hts fin_Machine hown hR hk1 (by decide) rfl (by decide) rfl (hts _ m_79cf62f6) (fun _ h9 => h9) (xb_d D_Machine_convert 3 rfl) ?_
  refine lv_iconst (v := 1) hx hb (xb_d D_Machine_convert 4 rfl) (by decide) ?_
  refine lv_isub hx hb (xb_d D_Machine_convert 5 rfl) ?_
  obtain ⟨hk4, hw⟩ := hw
  obtain ⟨hi3, hw⟩ := hw
  refine xb_lald hx hb hR hk4 hi3 (xb_d D_Machine_convert 6 rfl) ?_
  obtain ⟨v5, ev5⟩ : ∃ x : Int64, x = (xb_l h b2 (Int32.toNatClampNeg ((xb_i h x0 10) - 1))) := ⟨_, rfl⟩
  have hw := hw v5 ev5
  refine xt_numl (y := v5) ev5.symm ?_
  refine lv_lstore_n hx hb (xb_d D_Machine_convert 7 rfl) rfl hl (by decide) rfl (fun ls hl => ?_)
  have hl : lv_has ls 4 [(2, .long v5), (0, .ref x0), (1, .int x1)] := hl
  refine lv_iload_n hx hb (xb_d D_Machine_convert 8 rfl) rfl (lv_at hl 2 rfl) ?_
  by_cases hc6 : x1 = 168
  · have hw := hw.1 hc6
    refine xt_numi hc6 ?_
    refine lv_tableIn (off := 55) (tgt := 68) hx hb (xb_d D_Machine_convert 9 rfl) (by decide +kernel) (by decide +kernel) (by decide +kernel) (by decide) ?_
    exact am_Machine_convert_L68 l hfl D A σ MC MS h0 Qr x0 x1 v5 h hw p e s m args below meth c hC H locs ls k n hE (lv_sub hl [1, 2, 0] rfl) hR hS (by omega) (by omega)
  have hw := hw.2
  by_cases hc7 : x1 = 169
  · have hw := hw.1 hc7
    refine xt_numi hc7 ?_
    refine lv_tableIn (off := 55) (tgt := 68) hx hb (xb_d D_Machine_convert 9 rfl) (by decide +kernel) (by decide +kernel) (by decide +kernel) (by decide) ?_
    exact am_Machine_convert_L68 l hfl D A σ MC MS h0 Qr x0 x1 v5 h hw p e s m args below meth c hC H locs ls k n hE (lv_sub hl [1, 2, 0] rfl) hR hS (by omega) (by omega)
  have hw := hw.2
  by_cases hc8 : x1 = 170
  · have hw := hw.1 hc8
    refine xt_numi hc8 ?_
    refine lv_tableIn (off := 81) (tgt := 94) hx hb (xb_d D_Machine_convert 9 rfl) (by decide +kernel) (by decide +kernel) (by decide +kernel) (by decide) ?_
    exact am_Machine_convert_L94 l hfl D A σ MC MS h0 Qr x0 x1 v5 h hw p e s m args below meth c hC H locs ls k n hE (lv_sub hl [1, 2, 0] rfl) hR hS (by omega) (by omega)
  have hw := hw.2
  by_cases hc9 : x1 = 171
  · have hw := hw.1 hc9
    refine xt_numi hc9 ?_
    refine lv_tableIn (off := 81) (tgt := 94) hx hb (xb_d D_Machine_convert 9 rfl) (by decide +kernel) (by decide +kernel) (by decide +kernel) (by decide) ?_
    exact am_Machine_convert_L94 l hfl D A σ MC MS h0 Qr x0 x1 v5 h hw p e s m args below meth c hC H locs ls k n hE (lv_sub hl [1, 2, 0] rfl) hR hS (by omega) (by omega)
  have hw := hw.2
  by_cases hc10 : x1 = 172
  · have hw := hw.1 hc10
    refine xt_numi hc10 ?_
    refine lv_tableIn (off := 159) (tgt := 172) hx hb (xb_d D_Machine_convert 9 rfl) (by decide +kernel) (by decide +kernel) (by decide +kernel) (by decide) ?_
    exact am_Machine_convert_L172 l hfl D A σ MC MS h0 Qr x0 x1 v5 h hw p e s m args below meth c hC H locs ls k n hE (lv_sub hl [1, 2, 0] rfl) hR hS (by omega) (by omega)
  have hw := hw.2
  by_cases hc11 : x1 = 173
  · have hw := hw.1 hc11
    refine xt_numi hc11 ?_
    refine lv_tableIn (off := 159) (tgt := 172) hx hb (xb_d D_Machine_convert 9 rfl) (by decide +kernel) (by decide +kernel) (by decide +kernel) (by decide) ?_
    exact am_Machine_convert_L172 l hfl D A σ MC MS h0 Qr x0 x1 v5 h hw p e s m args below meth c hC H locs ls k n hE (lv_sub hl [1, 2, 0] rfl) hR hS (by omega) (by omega)
  have hw := hw.2
  by_cases hc12 : x1 = 174
  · have hw := hw.1 hc12
    refine xt_numi hc12 ?_
    refine lv_tableIn (off := 107) (tgt := 120) hx hb (xb_d D_Machine_convert 9 rfl) (by decide +kernel) (by decide +kernel) (by decide +kernel) (by decide) ?_
    exact am_Machine_convert_L120 l hfl D A σ MC MS h0 Qr x0 x1 v5 h hw p e s m args below meth c hC H locs ls k n hE (lv_sub hl [1, 2, 0] rfl) hR hS (by omega) (by omega)
  have hw := hw.2
  by_cases hc13 : x1 = 175
  · have hw := hw.1 hc13
    refine xt_numi hc13 ?_
    refine lv_tableIn (off := 107) (tgt := 120) hx hb (xb_d D_Machine_convert 9 rfl) (by decide +kernel) (by decide +kernel) (by decide +kernel) (by decide) ?_
    exact am_Machine_convert_L120 l hfl D A σ MC MS h0 Qr x0 x1 v5 h hw p e s m args below meth c hC H locs ls k n hE (lv_sub hl [1, 2, 0] rfl) hR hS (by omega) (by omega)
  have hw := hw.2
  by_cases hc14 : x1 = 176
  · have hw := hw.1 hc14
    refine xt_numi hc14 ?_
    refine lv_tableIn (off := 133) (tgt := 146) hx hb (xb_d D_Machine_convert 9 rfl) (by decide +kernel) (by decide +kernel) (by decide +kernel) (by decide) ?_
    exact am_Machine_convert_L146 l hfl D A σ MC MS h0 Qr x0 x1 v5 h hw p e s m args below meth c hC H locs ls k n hE (lv_sub hl [1, 2, 0] rfl) hR hS (by omega) (by omega)
  have hw := hw.2
  by_cases hc15 : x1 = 177
  · have hw := hw.1 hc15
    refine xt_numi hc15 ?_
    refine lv_tableIn (off := 133) (tgt := 146) hx hb (xb_d D_Machine_convert 9 rfl) (by decide +kernel) (by decide +kernel) (by decide +kernel) (by decide) ?_
    exact am_Machine_convert_L146 l hfl D A σ MC MS h0 Qr x0 x1 v5 h hw p e s m args below meth c hC H locs ls k n hE (lv_sub hl [1, 2, 0] rfl) hR hS (by omega) (by omega)
  have hw := hw.2
  have hw := hw hc6 hc7 hc8 hc9 hc10 hc11 hc12 hc13 hc14 hc15
  refine lv_tableOut (tgt := 172) hx hb (xb_d D_Machine_convert 9 rfl) (by have a0 := xb_nl (168) 168 (by decide) hc6; have a1 := xb_nl (169) 169 (by decide) hc7; have a2 := xb_nl (170) 170 (by decide) hc8; have a3 := xb_nl (171) 171 (by decide) hc9; have a4 := xb_nl (172) 172 (by decide) hc10; have a5 := xb_nl (173) 173 (by decide) hc11; have a6 := xb_nl (174) 174 (by decide) hc12; have a7 := xb_nl (175) 175 (by decide) hc13; have a8 := xb_nl (176) 176 (by decide) hc14; have a9 := xb_nl (177) 177 (by decide) hc15; omega) (by decide) ?_
  exact am_Machine_convert_L172 l hfl D A σ MC MS h0 Qr x0 x1 v5 h hw p e s m args below meth c hC H locs ls k n hE (lv_sub hl [1, 2, 0] rfl) hR hS (by omega) (by omega)

theorem m_5610b66b : (.methodLink "StackHost$Machine" 304 y_Format_reckonTwo : Cond) ∈ xt_tbl := xt_in (xt_t8 (List.mem_of_getElem? (i := 105) (by decide +kernel))) (by decide +kernel)
theorem m_e04f8616 : (.instanceMethod y_Format_reckonTwo : Cond) ∈ xt_tbl := xt_in (xt_t8 (List.mem_of_getElem? (i := 106) (by decide +kernel))) (by decide +kernel)
theorem m_16b8250f : (.selects "StackHost$Format" y_Format_reckonTwo y_Format_reckonTwo : Cond) ∈ xt_tbl := xt_in (xt_t8 (List.mem_of_getElem? (i := 107) (by decide +kernel))) (by decide +kernel)
theorem m_f110ac2a : (.code y_Format_reckonTwo b_Format_reckonTwo 6 (some .long) : Cond) ∈ xt_tbl := xt_in (xt_t8 (List.mem_of_getElem? (i := 108) (by decide +kernel))) (by decide +kernel)
theorem m_4d1726a0 : (.methodLink "StackHost$Machine" 301 y_Format_reckonOne : Cond) ∈ xt_tbl := xt_in (xt_t8 (List.mem_of_getElem? (i := 86) (by decide +kernel))) (by decide +kernel)
theorem m_9ee2b80a : (.instanceMethod y_Format_reckonOne : Cond) ∈ xt_tbl := xt_in (xt_t8 (List.mem_of_getElem? (i := 87) (by decide +kernel))) (by decide +kernel)
theorem m_c7f2623d : (.selects "StackHost$Format" y_Format_reckonOne y_Format_reckonOne : Cond) ∈ xt_tbl := xt_in (xt_t8 (List.mem_of_getElem? (i := 88) (by decide +kernel))) (by decide +kernel)
theorem m_eef03726 : (.code y_Format_reckonOne b_Format_reckonOne 4 (some .long) : Cond) ∈ xt_tbl := xt_in (xt_t8 (List.mem_of_getElem? (i := 89) (by decide +kernel))) (by decide +kernel)
theorem nm_Format_reckonTwo : xt_nm y_Format_reckonTwo 3 := ⟨by decide +kernel, by decide +kernel⟩
theorem nm_Format_reckonOne : xt_nm y_Format_reckonOne 2 := ⟨by decide +kernel, by decide +kernel⟩
set_option maxRecDepth 100000 in
def T_Machine_reckonFloating : List (Nat × Instr × Nat) := [(0, .iload_n 1, 1), (1, .sipush 153, 3), (4, .if_icmp .lt 7, 3), (7, .iconst 1, 1), (8, .goto 4, 3), (11, .iconst 0, 1), (12, .istore_n 2, 1), (13, .iload_n 2, 1), (14, .ifCond .eq 10, 3), (17, .aload_n 0, 1), (18, .getfield 24, 3), (21, .goto 7, 3), (24, .aload_n 0, 1), (25, .getfield 16, 3), (28, .astore_n 3, 1), (29, .iload_n 1, 1), (30, .iload_n 2, 1), (31, .ifCond .eq 9, 3), (34, .sipush 153, 3), (37, .goto 6, 3), (40, .sipush 139, 3), (43, .isub, 1), (44, .istore 4, 2), (46, .iload 4, 2), (48, .bipush 7, 2), (50, .if_icmp .ge 34, 3), (53, .aload_n 0, 1), (54, .getfield 35, 3), (57, .aload_n 0, 1), (58, .getfield 53, 3), (61, .iconst 1, 1), (62, .isub, 1), (63, .aload_n 3, 1), (64, .iload 4, 2), (66, .aload_n 0, 1), (67, .getfield 35, 3), (70, .aload_n 0, 1), (71, .getfield 53, 3), (74, .iconst 1, 1), (75, .isub, 1), (76, .laload, 1), (77, .invokevirtual 301, 3), (80, .lastore, 1), (81, .goto 53, 3), (84, .aload_n 0, 1), (85, .dup, 1), (86, .getfield 53, 3), (89, .iconst 1, 1), (90, .isub, 1), (91, .putfield 53, 3), (94, .aload_n 0, 1), (95, .getfield 35, 3), (98, .aload_n 0, 1), (99, .getfield 53, 3), (102, .iconst 1, 1), (103, .isub, 1), (104, .aload_n 3, 1), (105, .iload 4, 2), (107, .bipush 7, 2), (109, .isub, 1), (110, .aload_n 0, 1), (111, .getfield 35, 3), (114, .aload_n 0, 1), (115, .getfield 53, 3), (118, .iconst 1, 1), (119, .isub, 1), (120, .laload, 1), (121, .aload_n 0, 1), (122, .getfield 35, 3), (125, .aload_n 0, 1), (126, .getfield 53, 3), (129, .laload, 1), (130, .invokevirtual 304, 3), (133, .lastore, 1), (134, .return_, 1)]
theorem D_Machine_reckonFloating : ∀ q ∈ T_Machine_reckonFloating, decode b_Machine_reckonFloating q.1 = .ok (q.2.1, q.2.2) := by decide +kernel
def w_Machine_reckonFloating_L134 (Qr : xb_H → Prop) (h : xb_H) : Prop :=
    Qr h

def w_Machine_reckonFloating_L43 (Qr : xb_H → Prop) (x0 : Nat) (x3 : Nat) (y0 : Int32) (y1 : Int32) (h : xb_H) : Prop :=
    ∀ v1 : Int32, v1 = (y1 - y0) → (((7 : Int32) ≤ v1 → xb_k h x0 = 8 ∧ ∀ h4 : xb_H, h4 = xb_I h x0 10 ((xb_i h x0 10) - 1) → ∃ b5 : Nat, (xb_r h4 x0 9) = some b5 ∧ ∃ b6 : Nat, (xb_r h4 x0 9) = some b6 ∧ xb_k h4 b6 = 103 ∧ vp_in ((xb_i h4 x0 10) - 1) (xb_n h4 b6) ∧ ∃ b9 : Nat, (xb_r h4 x0 9) = some b9 ∧ xb_k h4 b9 = 103 ∧ vp_in (xb_i h4 x0 10) (xb_n h4 b9) ∧ xb_k h4 x3 = 6 ∧ w_Format_reckonTwo x3 (v1 - 7) (xb_l h4 b6 (Int32.toNatClampNeg ((xb_i h4 x0 10) - 1))) (xb_l h4 b9 (Int32.toNatClampNeg (xb_i h4 x0 10))) h4 (fun (r14 : Int64) (h13 : xb_H) => xb_ext h4 h13 → xb_k h13 b5 = 103 ∧ vp_in ((xb_i h4 x0 10) - 1) (xb_n h13 b5) ∧ ∀ h17 : xb_H, h17 = xb_L h13 b5 (Int32.toNatClampNeg ((xb_i h4 x0 10) - 1)) r14 → w_Machine_reckonFloating_L134 Qr h17)) ∧ (¬ (7 : Int32) ≤ v1 → xb_k h x0 = 8 ∧ ∃ b19 : Nat, (xb_r h x0 9) = some b19 ∧ ∃ b20 : Nat, (xb_r h x0 9) = some b20 ∧ xb_k h b20 = 103 ∧ vp_in ((xb_i h x0 10) - 1) (xb_n h b20) ∧ xb_k h x3 = 6 ∧ w_Format_reckonOne x3 v1 (xb_l h b20 (Int32.toNatClampNeg ((xb_i h x0 10) - 1))) h (fun (r25 : Int64) (h24 : xb_H) => xb_ext h h24 → xb_k h24 b19 = 103 ∧ vp_in ((xb_i h x0 10) - 1) (xb_n h24 b19) ∧ ∀ h28 : xb_H, h28 = xb_L h24 b19 (Int32.toNatClampNeg ((xb_i h x0 10) - 1)) r25 → w_Machine_reckonFloating_L134 Qr h28)))

def w_Machine_reckonFloating_L28 (Qr : xb_H → Prop) (x0 : Nat) (x1 : Int32) (x2 : Int32) (y0 : Nat) (h : xb_H) : Prop :=
    ((x2 = (0 : Int32) → w_Machine_reckonFloating_L43 Qr x0 y0 139 x1 h) ∧ (¬ x2 = (0 : Int32) → w_Machine_reckonFloating_L43 Qr x0 y0 153 x1 h))

def w_Machine_reckonFloating_L12 (Qr : xb_H → Prop) (x0 : Nat) (x1 : Int32) (y0 : Int32) (h : xb_H) : Prop :=
    ((y0 = (0 : Int32) → xb_k h x0 = 8 ∧ ∃ b3 : Nat, (xb_r h x0 1) = some b3 ∧ w_Machine_reckonFloating_L28 Qr x0 x1 y0 b3 h) ∧ (¬ y0 = (0 : Int32) → xb_k h x0 = 8 ∧ ∃ b5 : Nat, (xb_r h x0 2) = some b5 ∧ w_Machine_reckonFloating_L28 Qr x0 x1 y0 b5 h))

def w_Machine_reckonFloating (x0 : Nat) (x1 : Int32) (h : xb_H) (Qr : xb_H → Prop) : Prop :=
    ((x1 < (153 : Int32) → w_Machine_reckonFloating_L12 Qr x0 x1 0 h) ∧ (¬ x1 < (153 : Int32) → w_Machine_reckonFloating_L12 Qr x0 x1 1 h))

set_option maxHeartbeats 4000000 in
set_option maxRecDepth 100000 in
theorem am_Machine_reckonFloating_L134 (l : Launch) (hfl : l.flags = pinnedFlags ++ [noTraceFlag]) (D : va_G) (A : Nat → Prop) (σ MC MS : Nat) (h0 : xb_H) (Qr : xb_H → Prop) (h : xb_H) (hw : w_Machine_reckonFloating_L134 Qr h) : xb_am l D A σ 6 MC MS h0 (fun v h => v = none ∧ Qr h) (fun _ _ => False) y_Machine_reckonFloating.cls y_Machine_reckonFloating.name b_Machine_reckonFloating 5 ([] : List ExceptionTableEntry) none 134 [] [] h 0 0 := by
  unfold w_Machine_reckonFloating_L134 at hw
  intro p e s m args below meth c hC H locs ls k n hE hl hR hS hk hn
  obtain ⟨hx, hb, hown, hlocks, htab, hml, hr, hB, hA, hnm⟩ := id hC
  have hts := hB.1.1.at args
  exact xb_vret hx hb hr hlocks (show k ≤ MC by omega) (show n ≤ MS by omega) hE hR hS (xb_d D_Machine_reckonFloating 74 rfl) hw

set_option maxHeartbeats 4000000 in
set_option maxRecDepth 100000 in
theorem am_Machine_reckonFloating_L43 (l : Launch) (hfl : l.flags = pinnedFlags ++ [noTraceFlag]) (D : va_G) (A : Nat → Prop) (σ MC MS : Nat) (h0 : xb_H) (Qr : xb_H → Prop) (x0 : Nat) (x3 : Nat) (y0 : Int32) (y1 : Int32) (h : xb_H) (hw : w_Machine_reckonFloating_L43 Qr x0 x3 y0 y1 h) : xb_am l D A σ 6 MC MS h0 (fun v h => v = none ∧ Qr h) (fun _ _ => False) y_Machine_reckonFloating.cls y_Machine_reckonFloating.name b_Machine_reckonFloating 5 ([] : List ExceptionTableEntry) none 43 [(0, .ref x0), (3, .ref x3)] [.int y0, .int y1] h 0 0 := by
  unfold w_Machine_reckonFloating_L43 at hw
  intro p e s m args below meth c hC H locs ls k n hE hl hR hS hk hn
  obtain ⟨hx, hb, hown, hlocks, htab, hml, hr, hB, hA, hnm⟩ := id hC
  have hts := hB.1.1.at args
  refine lv_isub hx hb (xb_d D_Machine_reckonFloating 21 rfl) ?_
  obtain ⟨v1, ev1⟩ : ∃ x : Int32, x = (y1 - y0) := ⟨_, rfl⟩
  have hw := hw v1 ev1
  refine xt_numi (y := v1) ev1.symm ?_
  refine lv_istore hx hb (xb_d D_Machine_reckonFloating 22 rfl) hl (by decide) rfl (fun ls hl => ?_)
  have hl : lv_has ls 5 [(4, .int v1), (0, .ref x0), (3, .ref x3)] := hl
  refine lv_iload hx hb (xb_d D_Machine_reckonFloating 23 rfl) (lv_at hl 0 rfl) ?_
  refine lv_bipush (v := 7) hx hb (xb_d D_Machine_reckonFloating 24 rfl) (by decide) ?_
  refine lv_icmp_ge (tgt := 84) hx hb (xb_d D_Machine_reckonFloating 25 rfl) rfl (fun hc2 => ?_) (fun hc2 => ?_)
  · have hw := hw.1 hc2
    refine lv_aload_n hx hb (xb_d D_Machine_reckonFloating 44 rfl) rfl (lv_at hl 1 rfl) ?_
    refine lv_dup hx hb (xb_d D_Machine_reckonFloating 45 rfl) rfl ?_
    obtain ⟨hk3, hw⟩ := hw
    refine xb_getI (C := R_Machine) (T := F_Machine) (N := 18) hx hb 7 10 hts fin_Machine hown hR hk3 (by decide) rfl (by decide) rfl (hts _ m_79cf62f6) (fun _ h9 => h9) (xb_d D_Machine_reckonFloating 46 rfl) ?_
    refine lv_iconst (v := 1) hx hb (xb_d D_Machine_reckonFloating 47 rfl) (by decide) ?_
    refine lv_isub hx hb (xb_d D_Machine_reckonFloating 48 rfl) ?_
    refine xb_putI (C := R_Machine) (T := F_Machine) (N := 18) (ty := .int) (x := ((xb_i h x0 10) - 1)) hx hb 7 10 hts fin_Machine t_Machine t_Machine_ok n_Machine hown hR hS hk3 (by decide) rfl (by decide) rfl (hts _ m_79cf62f6) (fun _ h9 => h9) rfl (by decide +kernel) rfl rfl (xb_d D_Machine_reckonFloating 49 rfl) (fun H locs hR hS => ?_)
    obtain ⟨h4, eh4⟩ : ∃ x : xb_H, x = xb_I h x0 10 ((xb_i h x0 10) - 1) := ⟨_, rfl⟩
    rw [← eh4] at hR
    have hw := hw h4 eh4
    have hE : xb_ext h0 h4 := by rw [eh4]; exact hE
    refine lv_aload_n hx hb (xb_d D_Machine_reckonFloating 50 rfl) rfl (lv_at hl 1 rfl) ?_
    have hk3 : xb_k h4 x0 = 8 := by rw [eh4]; exact hk3
    refine xb_getP (C := R_Machine) (T := F_Machine) (N := 18) hx hb 7 9 hts fin_Machine hown hR hk3 (by decide) rfl (by decide) rfl (hts _ m_6904195b) (fun _ h9 => h9) (xb_d D_Machine_reckonFloating 51 rfl) ?_
    obtain ⟨b5, eb5, hw⟩ := hw
    refine xb_some eb5 ?_
    refine lv_aload_n hx hb (xb_d D_Machine_reckonFloating 52 rfl) rfl (lv_at hl 1 rfl) ?_
    refine xb_getI (C := R_Machine) (T := F_Machine) (N := 18) hx hb 7 10 hts fin_Machine hown hR hk3 (by decide) rfl (by decide) rfl (hts _ m_79cf62f6) (fun _ h9 => h9) (xb_d D_Machine_reckonFloating 53 rfl) ?_
    refine lv_iconst (v := 1) hx hb (xb_d D_Machine_reckonFloating 54 rfl) (by decide) ?_
    refine lv_isub hx hb (xb_d D_Machine_reckonFloating 55 rfl) ?_
    refine lv_aload_n hx hb (xb_d D_Machine_reckonFloating 56 rfl) rfl (lv_at hl 2 rfl) ?_
    refine lv_iload hx hb (xb_d D_Machine_reckonFloating 57 rfl) (lv_at hl 0 rfl) ?_
    refine lv_bipush (v := 7) hx hb (xb_d D_Machine_reckonFloating 58 rfl) (by decide) ?_
    refine lv_isub hx hb (xb_d D_Machine_reckonFloating 59 rfl) ?_
    refine lv_aload_n hx hb (xb_d D_Machine_reckonFloating 60 rfl) rfl (lv_at hl 1 rfl) ?_
    refine xb_getP (C := R_Machine) (T := F_Machine) (N := 18) hx hb 7 9 hts fin_Machine hown hR hk3 (by decide) rfl (by decide) rfl (hts _ m_6904195b) (fun _ h9 => h9) (xb_d D_Machine_reckonFloating 61 rfl) ?_
    obtain ⟨b6, eb6, hw⟩ := hw
    refine xb_some eb6 ?_
    refine lv_aload_n hx hb (xb_d D_Machine_reckonFloating 62 rfl) rfl (lv_at hl 1 rfl) ?_
    refine xb_getI (C := R_Machine) (T := F_Machine) (N := 18) hx hb 7 10 hts fin_Machine hown hR hk3 (by decide) rfl (by decide) rfl (hts _ m_79cf62f6) (fun _ h9 => h9) (xb_d D_Machine_reckonFloating 63 rfl) ?_
    refine lv_iconst (v := 1) hx hb (xb_d D_Machine_reckonFloating 64 rfl) (by decide) ?_
    refine lv_isub hx hb (xb_d D_Machine_reckonFloating 65 rfl) ?_
    obtain ⟨hk8, hw⟩ := hw
    obtain ⟨hi7, hw⟩ := hw
    refine xb_lald hx hb hR hk8 hi7 (xb_d D_Machine_reckonFloating 66 rfl) ?_
    refine lv_aload_n hx hb (xb_d D_Machine_reckonFloating 67 rfl) rfl (lv_at hl 1 rfl) ?_
    refine xb_getP (C := R_Machine) (T := F_Machine) (N := 18) hx hb 7 9 hts fin_Machine hown hR hk3 (by decide) rfl (by decide) rfl (hts _ m_6904195b) (fun _ h9 => h9) (xb_d D_Machine_reckonFloating 68 rfl) ?_
    obtain ⟨b9, eb9, hw⟩ := hw
    refine xb_some eb9 ?_
    refine lv_aload_n hx hb (xb_d D_Machine_reckonFloating 69 rfl) rfl (lv_at hl 1 rfl) ?_
    refine xb_getI (C := R_Machine) (T := F_Machine) (N := 18) hx hb 7 10 hts fin_Machine hown hR hk3 (by decide) rfl (by decide) rfl (hts _ m_79cf62f6) (fun _ h9 => h9) (xb_d D_Machine_reckonFloating 70 rfl) ?_
    obtain ⟨hk11, hw⟩ := hw
    obtain ⟨hi10, hw⟩ := hw
    refine xb_lald hx hb hR hk11 hi10 (xb_d D_Machine_reckonFloating 71 rfl) ?_
    obtain ⟨hk12, hw⟩ := hw
    refine xb_call (D := D) (A := A) (σ := σ) (h := h4) (d := 5) (mc := 0) (ms := 0) (maxL := 6) (rest := [.int ((xb_i h4 x0 10) - 1), .ref b5]) (av := [.ref x3, .int (v1 - 7), .long (xb_l h4 b6 (Int32.toNatClampNeg ((xb_i h4 x0 10) - 1))), .long (xb_l h4 b9 (Int32.toNatClampNeg (xb_i h4 x0 10)))]) (fun T hT X => by obtain ⟨cb, r1, r2, r3⟩ := xb_recv (ci := 5) hR rfl hk12 (by decide); exact xt_invV X hx hown (hts _ m_5610b66b) (hts _ m_e04f8616) (hts _ m_16b8250f) (xt_sigOf (hts _ m_f110ac2a)) nm_Format_reckonTwo (by rw [hT]; exact r1) r2 r3 (g := F0 m 130 ls [.long (xb_l h4 b9 (Int32.toNatClampNeg (xb_i h4 x0 10))), .long (xb_l h4 b6 (Int32.toNatClampNeg ((xb_i h4 x0 10) - 1))), .int (v1 - 7), .ref x3, .int ((xb_i h4 x0 10) - 1), .ref b5]) rfl (argsL := [.int (v1 - 7), .long (xb_l h4 b6 (Int32.toNatClampNeg ((xb_i h4 x0 10) - 1))), .long (xb_l h4 b9 (Int32.toNatClampNeg (xb_i h4 x0 10)))]) (rest := [.int ((xb_i h4 x0 10) - 1), .ref b5]) rfl rfl (by rw [hb]; exact (xb_d D_Machine_reckonFloating 72 rfl))) (ok_Format_reckonTwo l hfl D A σ x3 (v1 - 7) (xb_l h4 b6 (Int32.toNatClampNeg ((xb_i h4 x0 10) - 1))) (xb_l h4 b9 (Int32.toNatClampNeg (xb_i h4 x0 10))) h4 _ hw) (hml.trans hl.1.symm) (by rw [hb]; exact (xb_d D_Machine_reckonFloating 72 rfl)) (Nat.le_of_ble_eq_true rfl) (Nat.le_of_ble_eq_true rfl) (Nat.le_of_ble_eq_true rfl) (show k + 0 ≤ MC by omega) (show n + 0 ≤ MS by omega) (xt_w1 hB.1 m_f110ac2a) (xt_cdOf hB.1 m_f110ac2a) (hts _ m_64857de5) hB hR hS hA (fun vv h13 H locs hq hEh13 hR hS => ?_) (fun XX ax h13 H locs hq hEh13 hex hR hS => ?_)
    · obtain ⟨r14, rfl, hw⟩ := hq
      have hw := hw hEh13
      have hE := hE.tr hEh13
      refine W.eq (g2 := F0 m 133 ls [.long r14, .int ((xb_i h4 x0 10) - 1), .ref b5]) rfl ?_
      obtain ⟨hk15, hw⟩ := hw
      obtain ⟨hi16, hw⟩ := hw
      refine xb_last hx hb hR hS hk15 hi16 (xb_d D_Machine_reckonFloating 73 rfl) (fun H locs hR hS => ?_)
      obtain ⟨h17, eh17⟩ : ∃ x : xb_H, x = xb_L h13 b5 (Int32.toNatClampNeg ((xb_i h4 x0 10) - 1)) r14 := ⟨_, rfl⟩
      rw [← eh17] at hR
      have hw := hw h17 eh17
      have hE : xb_ext h0 h17 := by rw [eh17]; exact hE
      exact am_Machine_reckonFloating_L134 l hfl D A σ MC MS h0 Qr h17 hw p e s m args below meth c hC H locs ls k n hE (lv_sub hl [] rfl) hR hS (by omega) (by omega)
    · exact False.elim hq
  · have hw := hw.2 hc2
    refine lv_aload_n hx hb (xb_d D_Machine_reckonFloating 26 rfl) rfl (lv_at hl 1 rfl) ?_
    obtain ⟨hk18, hw⟩ := hw
    refine xb_getP (C := R_Machine) (T := F_Machine) (N := 18) hx hb 7 9 hts fin_Machine hown hR hk18 (by decide) rfl (by decide) rfl (hts _ m_6904195b) (fun _ h9 => h9) (xb_d D_Machine_reckonFloating 27 rfl) ?_
    obtain ⟨b19, eb19, hw⟩ := hw
    refine xb_some eb19 ?_
    refine lv_aload_n hx hb (xb_d D_Machine_reckonFloating 28 rfl) rfl (lv_at hl 1 rfl) ?_
    refine xb_getI (C := R_Machine) (T := F_Machine) (N := 18) hx hb 7 10 hts fin_Machine hown hR hk18 (by decide) rfl (by decide) rfl (hts _ m_79cf62f6) (fun _ h9 => h9) (xb_d D_Machine_reckonFloating 29 rfl) ?_
    refine lv_iconst (v := 1) hx hb (xb_d D_Machine_reckonFloating 30 rfl) (by decide) ?_
    refine lv_isub hx hb (xb_d D_Machine_reckonFloating 31 rfl) ?_
    refine lv_aload_n hx hb (xb_d D_Machine_reckonFloating 32 rfl) rfl (lv_at hl 2 rfl) ?_
    refine lv_iload hx hb (xb_d D_Machine_reckonFloating 33 rfl) (lv_at hl 0 rfl) ?_
    refine lv_aload_n hx hb (xb_d D_Machine_reckonFloating 34 rfl) rfl (lv_at hl 1 rfl) ?_
    refine xb_getP (C := R_Machine) (T := F_Machine) (N := 18) hx hb 7 9 hts fin_Machine hown hR hk18 (by decide) rfl (by decide) rfl (hts _ m_6904195b) (fun _ h9 => h9) (xb_d D_Machine_reckonFloating 35 rfl) ?_
    obtain ⟨b20, eb20, hw⟩ := hw
    refine xb_some eb20 ?_
    refine lv_aload_n hx hb (xb_d D_Machine_reckonFloating 36 rfl) rfl (lv_at hl 1 rfl) ?_
    refine xb_getI (C := R_Machine) (T := F_Machine) (N := 18) hx hb 7 10 hts fin_Machine hown hR hk18 (by decide) rfl (by decide) rfl (hts _ m_79cf62f6) (fun _ h9 => h9) (xb_d D_Machine_reckonFloating 37 rfl) ?_
    refine lv_iconst (v := 1) hx hb (xb_d D_Machine_reckonFloating 38 rfl) (by decide) ?_
    refine lv_isub hx hb (xb_d D_Machine_reckonFloating 39 rfl) ?_
    obtain ⟨hk22, hw⟩ := hw
    obtain ⟨hi21, hw⟩ := hw
    refine xb_lald hx hb hR hk22 hi21 (xb_d D_Machine_reckonFloating 40 rfl) ?_
    obtain ⟨hk23, hw⟩ := hw
    refine xb_call (D := D) (A := A) (σ := σ) (h := h) (d := 5) (mc := 0) (ms := 0) (maxL := 4) (rest := [.int ((xb_i h x0 10) - 1), .ref b19]) (av := [.ref x3, .int v1, .long (xb_l h b20 (Int32.toNatClampNeg ((xb_i h x0 10) - 1)))]) (fun T hT X => by obtain ⟨cb, r1, r2, r3⟩ := xb_recv (ci := 5) hR rfl hk23 (by decide); exact xt_invV X hx hown (hts _ m_4d1726a0) (hts _ m_9ee2b80a) (hts _ m_c7f2623d) (xt_sigOf (hts _ m_eef03726)) nm_Format_reckonOne (by rw [hT]; exact r1) r2 r3 (g := F0 m 77 ls [.long (xb_l h b20 (Int32.toNatClampNeg ((xb_i h x0 10) - 1))), .int v1, .ref x3, .int ((xb_i h x0 10) - 1), .ref b19]) rfl (argsL := [.int v1, .long (xb_l h b20 (Int32.toNatClampNeg ((xb_i h x0 10) - 1)))]) (rest := [.int ((xb_i h x0 10) - 1), .ref b19]) rfl rfl (by rw [hb]; exact (xb_d D_Machine_reckonFloating 41 rfl))) (ok_Format_reckonOne l hfl D A σ x3 v1 (xb_l h b20 (Int32.toNatClampNeg ((xb_i h x0 10) - 1))) h _ hw) (hml.trans hl.1.symm) (by rw [hb]; exact (xb_d D_Machine_reckonFloating 41 rfl)) (Nat.le_of_ble_eq_true rfl) (Nat.le_of_ble_eq_true rfl) (Nat.le_of_ble_eq_true rfl) (show k + 0 ≤ MC by omega) (show n + 0 ≤ MS by omega) (xt_w1 hB.1 m_eef03726) (xt_cdOf hB.1 m_eef03726) (hts _ m_64857de5) hB hR hS hA (fun vv h24 H locs hq hEh24 hR hS => ?_) (fun XX ax h24 H locs hq hEh24 hex hR hS => ?_)
    · obtain ⟨r25, rfl, hw⟩ := hq
      have hw := hw hEh24
      have hE := hE.tr hEh24
      refine W.eq (g2 := F0 m 80 ls [.long r25, .int ((xb_i h x0 10) - 1), .ref b19]) rfl ?_
      obtain ⟨hk26, hw⟩ := hw
      obtain ⟨hi27, hw⟩ := hw
      refine xb_last hx hb hR hS hk26 hi27 (xb_d D_Machine_reckonFloating 42 rfl) (fun H locs hR hS => ?_)
      obtain ⟨h28, eh28⟩ : ∃ x : xb_H, x = xb_L h24 b19 (Int32.toNatClampNeg ((xb_i h x0 10) - 1)) r25 := ⟨_, rfl⟩
      rw [← eh28] at hR
      have hw := hw h28 eh28
      have hE : xb_ext h0 h28 := by rw [eh28]; exact hE
      refine lv_goto (tgt := 134) hx hb (xb_d D_Machine_reckonFloating 43 rfl) rfl ?_
      exact am_Machine_reckonFloating_L134 l hfl D A σ MC MS h0 Qr h28 hw p e s m args below meth c hC H locs ls k n hE (lv_sub hl [] rfl) hR hS (by omega) (by omega)
    · exact False.elim hq

set_option maxHeartbeats 4000000 in
set_option maxRecDepth 100000 in
theorem am_Machine_reckonFloating_L28 (l : Launch) (hfl : l.flags = pinnedFlags ++ [noTraceFlag]) (D : va_G) (A : Nat → Prop) (σ MC MS : Nat) (h0 : xb_H) (Qr : xb_H → Prop) (x0 : Nat) (x1 : Int32) (x2 : Int32) (y0 : Nat) (h : xb_H) (hw : w_Machine_reckonFloating_L28 Qr x0 x1 x2 y0 h) : xb_am l D A σ 6 MC MS h0 (fun v h => v = none ∧ Qr h) (fun _ _ => False) y_Machine_reckonFloating.cls y_Machine_reckonFloating.name b_Machine_reckonFloating 5 ([] : List ExceptionTableEntry) none 28 [(0, .ref x0), (1, .int x1), (2, .int x2)] [.ref y0] h 0 0 := by
  unfold w_Machine_reckonFloating_L28 at hw
  intro p e s m args below meth c hC H locs ls k n hE hl hR hS hk hn
  obtain ⟨hx, hb, hown, hlocks, htab, hml, hr, hB, hA, hnm⟩ := id hC
  have hts := hB.1.1.at args
  refine lv_astore_n hx hb (xb_d D_Machine_reckonFloating 14 rfl) rfl hl (by decide) rfl (fun ls hl => ?_)
  have hl : lv_has ls 5 [(3, .ref y0), (0, .ref x0), (1, .int x1), (2, .int x2)] := hl
  refine lv_iload_n hx hb (xb_d D_Machine_reckonFloating 15 rfl) rfl (lv_at hl 2 rfl) ?_
  refine lv_iload_n hx hb (xb_d D_Machine_reckonFloating 16 rfl) rfl (lv_at hl 3 rfl) ?_
  refine lv_if_eq (tgt := 40) hx hb (xb_d D_Machine_reckonFloating 17 rfl) rfl (fun hc1 => ?_) (fun hc1 => ?_)
  · have hw := hw.1 hc1
    refine lv_sipush (v := 139) hx hb (xb_d D_Machine_reckonFloating 20 rfl) (by decide) ?_
    exact am_Machine_reckonFloating_L43 l hfl D A σ MC MS h0 Qr x0 y0 139 x1 h hw p e s m args below meth c hC H locs ls k n hE (lv_sub hl [1, 0] rfl) hR hS (by omega) (by omega)
  · have hw := hw.2 hc1
    refine lv_sipush (v := 153) hx hb (xb_d D_Machine_reckonFloating 18 rfl) (by decide) ?_
    refine lv_goto (tgt := 43) hx hb (xb_d D_Machine_reckonFloating 19 rfl) rfl ?_
    exact am_Machine_reckonFloating_L43 l hfl D A σ MC MS h0 Qr x0 y0 153 x1 h hw p e s m args below meth c hC H locs ls k n hE (lv_sub hl [1, 0] rfl) hR hS (by omega) (by omega)

set_option maxHeartbeats 4000000 in
set_option maxRecDepth 100000 in
theorem am_Machine_reckonFloating_L12 (l : Launch) (hfl : l.flags = pinnedFlags ++ [noTraceFlag]) (D : va_G) (A : Nat → Prop) (σ MC MS : Nat) (h0 : xb_H) (Qr : xb_H → Prop) (x0 : Nat) (x1 : Int32) (y0 : Int32) (h : xb_H) (hw : w_Machine_reckonFloating_L12 Qr x0 x1 y0 h) : xb_am l D A σ 6 MC MS h0 (fun v h => v = none ∧ Qr h) (fun _ _ => False) y_Machine_reckonFloating.cls y_Machine_reckonFloating.name b_Machine_reckonFloating 5 ([] : List ExceptionTableEntry) none 12 [(0, .ref x0), (1, .int x1)] [.int y0] h 0 0 := by
  unfold w_Machine_reckonFloating_L12 at hw
  intro p e s m args below meth c hC H locs ls k n hE hl hR hS hk hn
  obtain ⟨hx, hb, hown, hlocks, htab, hml, hr, hB, hA, hnm⟩ := id hC
  have hts := hB.1.1.at args
  refine lv_istore_n hx hb (xb_d D_Machine_reckonFloating 6 rfl) rfl hl (by decide) rfl (fun ls hl => ?_)
  have hl : lv_has ls 5 [(2, .int y0), (0, .ref x0), (1, .int x1)] := hl
  refine lv_iload_n hx hb (xb_d D_Machine_reckonFloating 7 rfl) rfl (lv_at hl 0 rfl) ?_
  refine lv_if_eq (tgt := 24) hx hb (xb_d D_Machine_reckonFloating 8 rfl) rfl (fun hc1 => ?_) (fun hc1 => ?_)
  · have hw := hw.1 hc1
    refine lv_aload_n hx hb (xb_d D_Machine_reckonFloating 12 rfl) rfl (lv_at hl 1 rfl) ?_
    obtain ⟨hk2, hw⟩ := hw
    refine xb_getP (C := R_Machine) (T := F_Machine) (N := 18) hx hb 7 1 hts fin_Machine hown hR hk2 (by decide) rfl (by decide) rfl (hts _ m_ae64f9ca) (fun _ h9 => h9) (xb_d D_Machine_reckonFloating 13 rfl) ?_
    obtain ⟨b3, eb3, hw⟩ := hw
    refine xb_some eb3 ?_
    exact am_Machine_reckonFloating_L28 l hfl D A σ MC MS h0 Qr x0 x1 y0 b3 h hw p e s m args below meth c hC H locs ls k n hE (lv_sub hl [1, 2, 0] rfl) hR hS (by omega) (by omega)
  · have hw := hw.2 hc1
    refine lv_aload_n hx hb (xb_d D_Machine_reckonFloating 9 rfl) rfl (lv_at hl 1 rfl) ?_
    obtain ⟨hk4, hw⟩ := hw
    refine xb_getP (C := R_Machine) (T := F_Machine) (N := 18) hx hb 7 2 hts fin_Machine hown hR hk4 (by decide) rfl (by decide) rfl (hts _ m_ba1eb42f) (fun _ h9 => h9) (xb_d D_Machine_reckonFloating 10 rfl) ?_
    obtain ⟨b5, eb5, hw⟩ := hw
    refine xb_some eb5 ?_
    refine lv_goto (tgt := 28) hx hb (xb_d D_Machine_reckonFloating 11 rfl) rfl ?_
    exact am_Machine_reckonFloating_L28 l hfl D A σ MC MS h0 Qr x0 x1 y0 b5 h hw p e s m args below meth c hC H locs ls k n hE (lv_sub hl [1, 2, 0] rfl) hR hS (by omega) (by omega)

set_option maxHeartbeats 4000000 in
set_option maxRecDepth 100000 in
theorem ok_Machine_reckonFloating (l : Launch) (hfl : l.flags = pinnedFlags ++ [noTraceFlag]) (D : va_G) (A : Nat → Prop) (σ : Nat) (x0 : Nat) (x1 : Int32) (h : xb_H) (Qr : xb_H → Prop) (hw : w_Machine_reckonFloating x0 x1 h Qr) : xt_Met l y_Machine_reckonFloating [.code y_Machine_reckonFloating b_Machine_reckonFloating 5 none] (xb_rm 6 0 0) (xb_Pc D A σ h [.ref x0, .int x1]) (xb_Qc D A h (fun v h => v = none ∧ Qr h) (fun _ _ => False)) 0 0 A := by
  refine xb_ofAm (cc := b_Machine_reckonFloating) (by decide) (Nat.le_of_ble_eq_true rfl) ?_
  unfold w_Machine_reckonFloating at hw
  show xb_am l D A σ 6 0 0 h (fun v h => v = none ∧ Qr h) (fun _ _ => False) y_Machine_reckonFloating.cls y_Machine_reckonFloating.name b_Machine_reckonFloating 5 ([] : List ExceptionTableEntry) none 0 [(0, .ref x0), (1, .int x1)] [] h 0 0
  obtain ⟨MC, hMC⟩ : ∃ x, x = 0 := ⟨_, rfl⟩
  obtain ⟨MS, hMS⟩ : ∃ x, x = 0 := ⟨_, rfl⟩
  rw [show xb_am l D A σ 6 0 0 = xb_am l D A σ 6 MC MS by rw [hMC, hMS]]
  obtain ⟨h0, hh0⟩ : ∃ x, x = h := ⟨_, rfl⟩
  rw [show xb_am l D A σ 6 MC MS h = xb_am l D A σ 6 MC MS h0 by rw [hh0]]
  intro p e s m args below meth c hC H locs ls k n hE hl hR hS hk hn
  obtain ⟨hx, hb, hown, hlocks, htab, hml, hr, hB, hA, hnm⟩ := id hC
  have hts := hB.1.1.at args
  refine lv_iload_n hx hb (xb_d D_Machine_reckonFloating 0 rfl) rfl (lv_at hl 1 rfl) ?_
  refine lv_sipush (v := 153) hx hb (xb_d D_Machine_reckonFloating 1 rfl) (by decide) ?_
  refine lv_icmp_lt (tgt := 11) hx hb (xb_d D_Machine_reckonFloating 2 rfl) rfl (fun hc1 => ?_) (fun hc1 => ?_)
  · have hw := hw.1 hc1
    refine lv_iconst (v := 0) hx hb (xb_d D_Machine_reckonFloating 5 rfl) (by decide) ?_
    exact am_Machine_reckonFloating_L12 l hfl D A σ MC MS h0 Qr x0 x1 0 h hw p e s m args below meth c hC H locs ls k n hE (lv_sub hl [0, 1] rfl) hR hS (by omega) (by omega)
  · have hw := hw.2 hc1
    refine lv_iconst (v := 1) hx hb (xb_d D_Machine_reckonFloating 3 rfl) (by decide) ?_
    refine lv_goto (tgt := 12) hx hb (xb_d D_Machine_reckonFloating 4 rfl) rfl ?_
    exact am_Machine_reckonFloating_L12 l hfl D A σ MC MS h0 Qr x0 x1 1 h hw p e s m args below meth c hC H locs ls k n hE (lv_sub hl [0, 1] rfl) hR hS (by omega) (by omega)

theorem m_70762adc : (.methodLink "StackHost$Machine" 298 y_Machine_reckonLong : Cond) ∈ xt_tbl := xt_in (xt_t8 (List.mem_of_getElem? (i := 188) (by decide +kernel))) (by decide +kernel)
theorem m_c764cec6 : (.instanceMethod y_Machine_reckonLong : Cond) ∈ xt_tbl := xt_in (xt_t8 (List.mem_of_getElem? (i := 190) (by decide +kernel))) (by decide +kernel)
theorem m_6bf99063 : (.selects "StackHost$Machine" y_Machine_reckonLong y_Machine_reckonLong : Cond) ∈ xt_tbl := xt_in (xt_v8 (q := (⟨"StackHost$Machine", "reckonLong", "(I)V"⟩, 18)) (List.mem_of_getElem? (i := 7) (by decide +kernel))) (by decide +kernel)
theorem m_d1cda5f1 : (.code y_Machine_reckonLong b_Machine_reckonLong 8 none : Cond) ∈ xt_tbl := xt_in (xt_t8 (List.mem_of_getElem? (i := 191) (by decide +kernel))) (by decide +kernel)
theorem m_9cdb1e1f : (.methodLink "StackHost$Machine" 295 y_Machine_reckonShort : Cond) ∈ xt_tbl := xt_in (xt_t8 (List.mem_of_getElem? (i := 163) (by decide +kernel))) (by decide +kernel)
theorem m_b63c993f : (.instanceMethod y_Machine_reckonShort : Cond) ∈ xt_tbl := xt_in (xt_t8 (List.mem_of_getElem? (i := 165) (by decide +kernel))) (by decide +kernel)
theorem m_a8dc9191 : (.selects "StackHost$Machine" y_Machine_reckonShort y_Machine_reckonShort : Cond) ∈ xt_tbl := xt_in (xt_v8 (q := (⟨"StackHost$Machine", "reckonShort", "(I)V"⟩, 18)) (List.mem_of_getElem? (i := 6) (by decide +kernel))) (by decide +kernel)
theorem m_72b93e58 : (.code y_Machine_reckonShort b_Machine_reckonShort 6 none : Cond) ∈ xt_tbl := xt_in (xt_t8 (List.mem_of_getElem? (i := 166) (by decide +kernel))) (by decide +kernel)
theorem m_32e64923 : (.methodLink "StackHost$Machine" 292 y_Machine_compare : Cond) ∈ xt_tbl := xt_in (xt_t8 (List.mem_of_getElem? (i := 148) (by decide +kernel))) (by decide +kernel)
theorem m_ebb28528 : (.instanceMethod y_Machine_compare : Cond) ∈ xt_tbl := xt_in (xt_t8 (List.mem_of_getElem? (i := 150) (by decide +kernel))) (by decide +kernel)
theorem m_2b4b7dab : (.selects "StackHost$Machine" y_Machine_compare y_Machine_compare : Cond) ∈ xt_tbl := xt_in (xt_v8 (q := (⟨"StackHost$Machine", "compare", "(I)V"⟩, 18)) (List.mem_of_getElem? (i := 5) (by decide +kernel))) (by decide +kernel)
theorem m_5e8846bd : (.code y_Machine_compare b_Machine_compare 7 none : Cond) ∈ xt_tbl := xt_in (xt_t8 (List.mem_of_getElem? (i := 151) (by decide +kernel))) (by decide +kernel)
theorem nm_Machine_reckonLong : xt_nm y_Machine_reckonLong 1 := ⟨by decide +kernel, by decide +kernel⟩
theorem nm_Machine_reckonShort : xt_nm y_Machine_reckonShort 1 := ⟨by decide +kernel, by decide +kernel⟩
theorem nm_Machine_compare : xt_nm y_Machine_compare 1 := ⟨by decide +kernel, by decide +kernel⟩
set_option maxRecDepth 100000 in
def T_Machine_reckonWhole : List (Nat × Instr × Nat) := [(0, .iload_n 1, 1), (1, .bipush 102, 2), (3, .if_icmp .gt 11, 3), (6, .aload_n 0, 1), (7, .iload_n 1, 1), (8, .invokevirtual 292, 3), (11, .goto 22, 3), (14, .iload_n 1, 1), (15, .bipush 120, 2), (17, .if_icmp .gt 11, 3), (20, .aload_n 0, 1), (21, .iload_n 1, 1), (22, .invokevirtual 295, 3), (25, .goto 8, 3), (28, .aload_n 0, 1), (29, .iload_n 1, 1), (30, .invokevirtual 298, 3), (33, .return_, 1)]
theorem D_Machine_reckonWhole : ∀ q ∈ T_Machine_reckonWhole, decode b_Machine_reckonWhole q.1 = .ok (q.2.1, q.2.2) := by decide +kernel
def w_Machine_reckonWhole_L33 (Qr : xb_H → Prop) (h : xb_H) : Prop :=
    Qr h

def w_Machine_reckonWhole (x0 : Nat) (x1 : Int32) (h : xb_H) (Qr : xb_H → Prop) : Prop :=
    (((102 : Int32) < x1 → (((120 : Int32) < x1 → xb_k h x0 = 8 ∧ w_Machine_reckonLong x0 x1 h (fun (h4 : xb_H) => xb_ext h h4 → w_Machine_reckonWhole_L33 Qr h4)) ∧ (¬ (120 : Int32) < x1 → xb_k h x0 = 8 ∧ w_Machine_reckonShort x0 x1 h (fun (h7 : xb_H) => xb_ext h h7 → w_Machine_reckonWhole_L33 Qr h7)))) ∧ (¬ (102 : Int32) < x1 → xb_k h x0 = 8 ∧ w_Machine_compare x0 x1 h (fun (h10 : xb_H) => xb_ext h h10 → w_Machine_reckonWhole_L33 Qr h10)))

set_option maxHeartbeats 4000000 in
set_option maxRecDepth 100000 in
theorem am_Machine_reckonWhole_L33 (l : Launch) (hfl : l.flags = pinnedFlags ++ [noTraceFlag]) (D : va_G) (A : Nat → Prop) (σ MC MS : Nat) (h0 : xb_H) (Qr : xb_H → Prop) (h : xb_H) (hw : w_Machine_reckonWhole_L33 Qr h) : xb_am l D A σ 6 MC MS h0 (fun v h => v = none ∧ Qr h) (fun _ _ => False) y_Machine_reckonWhole.cls y_Machine_reckonWhole.name b_Machine_reckonWhole 2 ([] : List ExceptionTableEntry) none 33 [] [] h 0 0 := by
  unfold w_Machine_reckonWhole_L33 at hw
  intro p e s m args below meth c hC H locs ls k n hE hl hR hS hk hn
  obtain ⟨hx, hb, hown, hlocks, htab, hml, hr, hB, hA, hnm⟩ := id hC
  have hts := hB.1.1.at args
  exact xb_vret hx hb hr hlocks (show k ≤ MC by omega) (show n ≤ MS by omega) hE hR hS (xb_d D_Machine_reckonWhole 17 rfl) hw

set_option maxHeartbeats 4000000 in
set_option maxRecDepth 100000 in
theorem ok_Machine_reckonWhole (l : Launch) (hfl : l.flags = pinnedFlags ++ [noTraceFlag]) (D : va_G) (A : Nat → Prop) (σ : Nat) (x0 : Nat) (x1 : Int32) (h : xb_H) (Qr : xb_H → Prop) (hw : w_Machine_reckonWhole x0 x1 h Qr) : xt_Met l y_Machine_reckonWhole [.code y_Machine_reckonWhole b_Machine_reckonWhole 2 none] (xb_rm 6 0 0) (xb_Pc D A σ h [.ref x0, .int x1]) (xb_Qc D A h (fun v h => v = none ∧ Qr h) (fun _ _ => False)) 0 0 A := by
  refine xb_ofAm (cc := b_Machine_reckonWhole) (by decide) (Nat.le_of_ble_eq_true rfl) ?_
  unfold w_Machine_reckonWhole at hw
  show xb_am l D A σ 6 0 0 h (fun v h => v = none ∧ Qr h) (fun _ _ => False) y_Machine_reckonWhole.cls y_Machine_reckonWhole.name b_Machine_reckonWhole 2 ([] : List ExceptionTableEntry) none 0 [(0, .ref x0), (1, .int x1)] [] h 0 0
  obtain ⟨MC, hMC⟩ : ∃ x, x = 0 := ⟨_, rfl⟩
  obtain ⟨MS, hMS⟩ : ∃ x, x = 0 := ⟨_, rfl⟩
  rw [show xb_am l D A σ 6 0 0 = xb_am l D A σ 6 MC MS by rw [hMC, hMS]]
  obtain ⟨h0, hh0⟩ : ∃ x, x = h := ⟨_, rfl⟩
  rw [show xb_am l D A σ 6 MC MS h = xb_am l D A σ 6 MC MS h0 by rw [hh0]]
  intro p e s m args below meth c hC H locs ls k n hE hl hR hS hk hn
  obtain ⟨hx, hb, hown, hlocks, htab, hml, hr, hB, hA, hnm⟩ := id hC
  have hts := hB.1.1.at args
  refine lv_iload_n hx hb (xb_d D_Machine_reckonWhole 0 rfl) rfl (lv_at hl 1 rfl) ?_
  refine lv_bipush (v := 102) hx hb (xb_d D_Machine_reckonWhole 1 rfl) (by decide) ?_
  refine lv_icmp_gt (tgt := 14) hx hb (xb_d D_Machine_reckonWhole 2 rfl) rfl (fun hc1 => ?_) (fun hc1 => ?_)
  · have hw := hw.1 hc1
    refine lv_iload_n hx hb (xb_d D_Machine_reckonWhole 7 rfl) rfl (lv_at hl 1 rfl) ?_
    refine lv_bipush (v := 120) hx hb (xb_d D_Machine_reckonWhole 8 rfl) (by decide) ?_
    refine lv_icmp_gt (tgt := 28) hx hb (xb_d D_Machine_reckonWhole 9 rfl) rfl (fun hc2 => ?_) (fun hc2 => ?_)
    · have hw := hw.1 hc2
      refine lv_aload_n hx hb (xb_d D_Machine_reckonWhole 14 rfl) rfl (lv_at hl 0 rfl) ?_
      refine lv_iload_n hx hb (xb_d D_Machine_reckonWhole 15 rfl) rfl (lv_at hl 1 rfl) ?_
      obtain ⟨hk3, hw⟩ := hw
      refine xb_call (D := D) (A := A) (σ := σ) (h := h) (d := 5) (mc := 0) (ms := 0) (maxL := 8) (rest := []) (av := [.ref x0, .int x1]) (fun T hT X => by obtain ⟨cb, r1, r2, r3⟩ := xb_recv (ci := 7) hR rfl hk3 (by decide); exact xt_invV X hx hown (hts _ m_70762adc) (hts _ m_c764cec6) (hts _ m_6bf99063) (xt_sigOf (hts _ m_d1cda5f1)) nm_Machine_reckonLong (by rw [hT]; exact r1) r2 r3 (g := F0 m 30 ls [.int x1, .ref x0]) rfl (argsL := [.int x1]) (rest := []) rfl rfl (by rw [hb]; exact (xb_d D_Machine_reckonWhole 16 rfl))) (ok_Machine_reckonLong l hfl D A σ x0 x1 h _ hw) (hml.trans hl.1.symm) (by rw [hb]; exact (xb_d D_Machine_reckonWhole 16 rfl)) (Nat.le_of_ble_eq_true rfl) (Nat.le_of_ble_eq_true rfl) (Nat.le_of_ble_eq_true rfl) (show k + 0 ≤ MC by omega) (show n + 0 ≤ MS by omega) (xt_w1 hB.1 m_d1cda5f1) (xt_cdOf hB.1 m_d1cda5f1) (hts _ m_73451f9b) hB hR hS hA (fun vv h4 H locs hq hEh4 hR hS => ?_) (fun XX ax h4 H locs hq hEh4 hex hR hS => ?_)
      · obtain ⟨rfl, hw⟩ := hq
        have hw := hw hEh4
        have hE := hE.tr hEh4
        refine W.eq (g2 := F0 m 33 ls []) rfl ?_
        exact am_Machine_reckonWhole_L33 l hfl D A σ MC MS h0 Qr h4 hw p e s m args below meth c hC H locs ls k n hE (lv_sub hl [] rfl) hR hS (by omega) (by omega)
      · exact False.elim hq
    · have hw := hw.2 hc2
      refine lv_aload_n hx hb (xb_d D_Machine_reckonWhole 10 rfl) rfl (lv_at hl 0 rfl) ?_
      refine lv_iload_n hx hb (xb_d D_Machine_reckonWhole 11 rfl) rfl (lv_at hl 1 rfl) ?_
      obtain ⟨hk6, hw⟩ := hw
      refine xb_call (D := D) (A := A) (σ := σ) (h := h) (d := 4) (mc := 0) (ms := 0) (maxL := 6) (rest := []) (av := [.ref x0, .int x1]) (fun T hT X => by obtain ⟨cb, r1, r2, r3⟩ := xb_recv (ci := 7) hR rfl hk6 (by decide); exact xt_invV X hx hown (hts _ m_9cdb1e1f) (hts _ m_b63c993f) (hts _ m_a8dc9191) (xt_sigOf (hts _ m_72b93e58)) nm_Machine_reckonShort (by rw [hT]; exact r1) r2 r3 (g := F0 m 22 ls [.int x1, .ref x0]) rfl (argsL := [.int x1]) (rest := []) rfl rfl (by rw [hb]; exact (xb_d D_Machine_reckonWhole 12 rfl))) (ok_Machine_reckonShort l hfl D A σ x0 x1 h _ hw) (hml.trans hl.1.symm) (by rw [hb]; exact (xb_d D_Machine_reckonWhole 12 rfl)) (Nat.le_of_ble_eq_true rfl) (Nat.le_of_ble_eq_true rfl) (Nat.le_of_ble_eq_true rfl) (show k + 0 ≤ MC by omega) (show n + 0 ≤ MS by omega) (xt_w1 hB.1 m_72b93e58) (xt_cdOf hB.1 m_72b93e58) (hts _ m_73451f9b) hB hR hS hA (fun vv h7 H locs hq hEh7 hR hS => ?_) (fun XX ax h7 H locs hq hEh7 hex hR hS => ?_)
      · obtain ⟨rfl, hw⟩ := hq
        have hw := hw hEh7
        have hE := hE.tr hEh7
        refine W.eq (g2 := F0 m 25 ls []) rfl ?_
        refine lv_goto (tgt := 33) hx hb (xb_d D_Machine_reckonWhole 13 rfl) rfl ?_
        exact am_Machine_reckonWhole_L33 l hfl D A σ MC MS h0 Qr h7 hw p e s m args below meth c hC H locs ls k n hE (lv_sub hl [] rfl) hR hS (by omega) (by omega)
      · exact False.elim hq
  · have hw := hw.2 hc1
    refine lv_aload_n hx hb (xb_d D_Machine_reckonWhole 3 rfl) rfl (lv_at hl 0 rfl) ?_
    refine lv_iload_n hx hb (xb_d D_Machine_reckonWhole 4 rfl) rfl (lv_at hl 1 rfl) ?_
    obtain ⟨hk9, hw⟩ := hw
    refine xb_call (D := D) (A := A) (σ := σ) (h := h) (d := 5) (mc := 0) (ms := 0) (maxL := 7) (rest := []) (av := [.ref x0, .int x1]) (fun T hT X => by obtain ⟨cb, r1, r2, r3⟩ := xb_recv (ci := 7) hR rfl hk9 (by decide); exact xt_invV X hx hown (hts _ m_32e64923) (hts _ m_ebb28528) (hts _ m_2b4b7dab) (xt_sigOf (hts _ m_5e8846bd)) nm_Machine_compare (by rw [hT]; exact r1) r2 r3 (g := F0 m 8 ls [.int x1, .ref x0]) rfl (argsL := [.int x1]) (rest := []) rfl rfl (by rw [hb]; exact (xb_d D_Machine_reckonWhole 5 rfl))) (ok_Machine_compare l hfl D A σ x0 x1 h _ hw) (hml.trans hl.1.symm) (by rw [hb]; exact (xb_d D_Machine_reckonWhole 5 rfl)) (Nat.le_of_ble_eq_true rfl) (Nat.le_of_ble_eq_true rfl) (Nat.le_of_ble_eq_true rfl) (show k + 0 ≤ MC by omega) (show n + 0 ≤ MS by omega) (xt_w1 hB.1 m_5e8846bd) (xt_cdOf hB.1 m_5e8846bd) (hts _ m_73451f9b) hB hR hS hA (fun vv h10 H locs hq hEh10 hR hS => ?_) (fun XX ax h10 H locs hq hEh10 hex hR hS => ?_)
    · obtain ⟨rfl, hw⟩ := hq
      have hw := hw hEh10
      have hE := hE.tr hEh10
      refine W.eq (g2 := F0 m 11 ls []) rfl ?_
      refine lv_goto (tgt := 33) hx hb (xb_d D_Machine_reckonWhole 6 rfl) rfl ?_
      exact am_Machine_reckonWhole_L33 l hfl D A σ MC MS h0 Qr h10 hw p e s m args below meth c hC H locs ls k n hE (lv_sub hl [] rfl) hR hS (by omega) (by omega)
    · exact False.elim hq

theorem m_41903b94 : (.methodLink "StackHost$Machine" 271 y_World_grow : Cond) ∈ xt_tbl := xt_in (xt_t8 (List.mem_of_getElem? (i := 217) (by decide +kernel))) (by decide +kernel)
theorem m_34bae24b : (.instanceMethod y_World_grow : Cond) ∈ xt_tbl := xt_in (xt_t7 (List.mem_of_getElem? (i := 92) (by decide +kernel))) (by decide +kernel)
theorem m_04718ef1 : (.selects "StackHost$World" y_World_grow y_World_grow : Cond) ∈ xt_tbl := xt_in (xt_t7 (List.mem_of_getElem? (i := 93) (by decide +kernel))) (by decide +kernel)
theorem m_89170230 : (.code y_World_grow b_World_grow 8 (some .int) : Cond) ∈ xt_tbl := xt_in (xt_t7 (List.mem_of_getElem? (i := 94) (by decide +kernel))) (by decide +kernel)
theorem m_af1596dc : (.fieldLink "StackHost$Machine" 266 "StackHost$Memory" "pageCount" "I" : Cond) ∈ xt_tbl := xt_in (xt_t7 (List.mem_of_getElem? (i := 80) (by decide +kernel))) (by decide +kernel)
theorem nm_World_grow : xt_nm y_World_grow 2 := ⟨by decide +kernel, by decide +kernel⟩
set_option maxRecDepth 100000 in
def T_Machine_sizeMemory : List (Nat × Instr × Nat) := [(0, .iload_n 1, 1), (1, .bipush 63, 2), (3, .if_icmp .ne 21, 3), (6, .aload_n 0, 1), (7, .aload_n 0, 1), (8, .getfield 117, 3), (11, .getfield 262, 3), (14, .getfield 266, 3), (17, .i2l, 1), (18, .invokevirtual 198, 3), (21, .goto 44, 3), (24, .aload_n 0, 1), (25, .getfield 35, 3), (28, .aload_n 0, 1), (29, .getfield 53, 3), (32, .iconst 1, 1), (33, .isub, 1), (34, .aload_n 0, 1), (35, .getfield 42, 3), (38, .aload_n 0, 1), (39, .getfield 117, 3), (42, .getfield 262, 3), (45, .aload_n 0, 1), (46, .getfield 35, 3), (49, .aload_n 0, 1), (50, .getfield 53, 3), (53, .iconst 1, 1), (54, .isub, 1), (55, .laload, 1), (56, .invokevirtual 271, 3), (59, .i2l, 1), (60, .ldc2_w 74, 3), (63, .land, 1), (64, .lastore, 1), (65, .aload_n 0, 1), (66, .aload_n 0, 1), (67, .getfield 111, 3), (70, .aload_n 0, 1), (71, .getfield 108, 3), (74, .iaload, 1), (75, .putfield 108, 3), (78, .return_, 1)]
theorem D_Machine_sizeMemory : ∀ q ∈ T_Machine_sizeMemory, decode b_Machine_sizeMemory q.1 = .ok (q.2.1, q.2.2) := by decide +kernel
def w_Machine_sizeMemory_L65 (Qr : xb_H → Prop) (x0 : Nat) (h : xb_H) (bc : Nat) (bs : Nat) : Prop :=
    xb_k h x0 = 8 ∧ ∃ b2 : Nat, (xb_r h x0 14) = some b2 ∧ xb_k h b2 = 102 ∧ vp_in (xb_i h x0 15) (xb_n h b2) ∧ ∀ h5 : xb_H, h5 = xb_I h x0 15 (xb_i h b2 (Int32.toNatClampNeg (xb_i h x0 15))) → Qr h5

def w_Machine_sizeMemory (x0 : Nat) (x1 : Int32) (h : xb_H) (bc : Nat) (bs : Nat) (Qr : xb_H → Prop) : Prop :=
    ((¬ x1 = (63 : Int32) → xb_k h x0 = 8 ∧ ∃ b3 : Nat, (xb_r h x0 9) = some b3 ∧ ∃ b4 : Nat, (xb_r h x0 0) = some b4 ∧ ∃ b5 : Nat, (xb_r h x0 12) = some b5 ∧ xb_k h b5 = 11 ∧ ∃ b7 : Nat, (xb_r h b5 7) = some b7 ∧ ∃ b8 : Nat, (xb_r h x0 9) = some b8 ∧ xb_k h b8 = 103 ∧ vp_in ((xb_i h x0 10) - 1) (xb_n h b8) ∧ xb_k h b4 = 7 ∧ ∃ c14 sc14 : Nat, c14 ≤ bc ∧ sc14 ≤ bs ∧ w_World_grow b4 b7 (xb_l h b8 (Int32.toNatClampNeg ((xb_i h x0 10) - 1))) h c14 sc14 (fun (r13 : Int32) (h12 : xb_H) => xb_ext h h12 → xb_k h12 b3 = 103 ∧ vp_in ((xb_i h x0 10) - 1) (xb_n h12 b3) ∧ ∀ h17 : xb_H, h17 = xb_L h12 b3 (Int32.toNatClampNeg ((xb_i h x0 10) - 1)) ((Int32.toInt64 r13) &&& 4294967295) → w_Machine_sizeMemory_L65 Qr x0 h17 (bc - c14) (bs - sc14))) ∧ (x1 = (63 : Int32) → xb_k h x0 = 8 ∧ ∃ b19 : Nat, (xb_r h x0 12) = some b19 ∧ xb_k h b19 = 11 ∧ ∃ b21 : Nat, (xb_r h b19 7) = some b21 ∧ xb_k h b21 = 13 ∧ w_Machine_putValue x0 (Int32.toInt64 (xb_i h b21 3)) h (fun (h23 : xb_H) => xb_ext h h23 → w_Machine_sizeMemory_L65 Qr x0 h23 bc bs)))

set_option maxHeartbeats 4000000 in
set_option maxRecDepth 100000 in
theorem am_Machine_sizeMemory_L65 (l : Launch) (hfl : l.flags = pinnedFlags ++ [noTraceFlag]) (D : va_G) (A : Nat → Prop) (σ MC MS : Nat) (h0 : xb_H) (Qr : xb_H → Prop) (x0 : Nat) (h : xb_H) (bc : Nat) (bs : Nat) (hw : w_Machine_sizeMemory_L65 Qr x0 h bc bs) : xb_am l D A σ 6 MC MS h0 (fun v h => v = none ∧ Qr h) (fun _ _ => False) y_Machine_sizeMemory.cls y_Machine_sizeMemory.name b_Machine_sizeMemory 2 ([] : List ExceptionTableEntry) none 65 [(0, .ref x0)] [] h bc bs := by
  unfold w_Machine_sizeMemory_L65 at hw
  intro p e s m args below meth c hC H locs ls k n hE hl hR hS hk hn
  obtain ⟨hx, hb, hown, hlocks, htab, hml, hr, hB, hA, hnm⟩ := id hC
  have hts := hB.1.1.at args
  refine lv_aload_n hx hb (xb_d D_Machine_sizeMemory 34 rfl) rfl (lv_at hl 0 rfl) ?_
  refine lv_aload_n hx hb (xb_d D_Machine_sizeMemory 35 rfl) rfl (lv_at hl 0 rfl) ?_
  obtain ⟨hk1, hw⟩ := hw
  refine xb_getP (C := R_Machine) (T := F_Machine) (N := 18) hx hb 7 14 hts fin_Machine hown hR hk1 (by decide) rfl (by decide) rfl (hts _ m_8f763f86) (fun _ h9 => h9) (xb_d D_Machine_sizeMemory 36 rfl) ?_
  obtain ⟨b2, eb2, hw⟩ := hw
  refine xb_some eb2 ?_
  refine lv_aload_n hx hb (xb_d D_Machine_sizeMemory 37 rfl) rfl (lv_at hl 0 rfl) ?_
  refine xb_getI (C := R_Machine) (T := F_Machine) (N := 18) hx hb 7 15 hts fin_Machine hown hR hk1 (by decide) rfl (by decide) rfl (hts _ m_6a595805) (fun _ h9 => h9) (xb_d D_Machine_sizeMemory 38 rfl) ?_
  obtain ⟨hk4, hw⟩ := hw
  obtain ⟨hi3, hw⟩ := hw
  refine xb_iald hx hb hR hk4 hi3 (xb_d D_Machine_sizeMemory 39 rfl) ?_
  refine xb_putI (C := R_Machine) (T := F_Machine) (N := 18) (ty := .int) (x := (xb_i h b2 (Int32.toNatClampNeg (xb_i h x0 15)))) hx hb 7 15 hts fin_Machine t_Machine t_Machine_ok n_Machine hown hR hS hk1 (by decide) rfl (by decide) rfl (hts _ m_6a595805) (fun _ h9 => h9) rfl (by decide +kernel) rfl rfl (xb_d D_Machine_sizeMemory 40 rfl) (fun H locs hR hS => ?_)
  obtain ⟨h5, eh5⟩ : ∃ x : xb_H, x = xb_I h x0 15 (xb_i h b2 (Int32.toNatClampNeg (xb_i h x0 15))) := ⟨_, rfl⟩
  rw [← eh5] at hR
  have hw := hw h5 eh5
  have hE : xb_ext h0 h5 := by rw [eh5]; exact hE
  exact xb_vret hx hb hr hlocks (show k ≤ MC by omega) (show n ≤ MS by omega) hE hR hS (xb_d D_Machine_sizeMemory 41 rfl) hw

set_option maxHeartbeats 4000000 in
set_option maxRecDepth 100000 in
theorem ok_Machine_sizeMemory (l : Launch) (hfl : l.flags = pinnedFlags ++ [noTraceFlag]) (D : va_G) (A : Nat → Prop) (σ : Nat) (x0 : Nat) (x1 : Int32) (h : xb_H) (bc : Nat) (bs : Nat) (Qr : xb_H → Prop) (hw : w_Machine_sizeMemory x0 x1 h bc bs Qr) : xt_Met l y_Machine_sizeMemory [.code y_Machine_sizeMemory b_Machine_sizeMemory 2 none] (xb_rm 6 bc bs) (xb_Pc D A σ h [.ref x0, .int x1]) (xb_Qc D A h (fun v h => v = none ∧ Qr h) (fun _ _ => False)) bc bs A := by
  refine xb_ofAm (cc := b_Machine_sizeMemory) (by decide) (Nat.le_of_ble_eq_true rfl) ?_
  unfold w_Machine_sizeMemory at hw
  show xb_am l D A σ 6 bc bs h (fun v h => v = none ∧ Qr h) (fun _ _ => False) y_Machine_sizeMemory.cls y_Machine_sizeMemory.name b_Machine_sizeMemory 2 ([] : List ExceptionTableEntry) none 0 [(0, .ref x0), (1, .int x1)] [] h bc bs
  obtain ⟨MC, hMC⟩ : ∃ x, x = bc := ⟨_, rfl⟩
  obtain ⟨MS, hMS⟩ : ∃ x, x = bs := ⟨_, rfl⟩
  rw [show xb_am l D A σ 6 bc bs = xb_am l D A σ 6 MC MS by rw [hMC, hMS]]
  obtain ⟨h0, hh0⟩ : ∃ x, x = h := ⟨_, rfl⟩
  rw [show xb_am l D A σ 6 MC MS h = xb_am l D A σ 6 MC MS h0 by rw [hh0]]
  intro p e s m args below meth c hC H locs ls k n hE hl hR hS hk hn
  obtain ⟨hx, hb, hown, hlocks, htab, hml, hr, hB, hA, hnm⟩ := id hC
  have hts := hB.1.1.at args
  refine lv_iload_n hx hb (xb_d D_Machine_sizeMemory 0 rfl) rfl (lv_at hl 1 rfl) ?_
  refine lv_bipush (v := 63) hx hb (xb_d D_Machine_sizeMemory 1 rfl) (by decide) ?_
  refine lv_icmp_ne (tgt := 24) hx hb (xb_d D_Machine_sizeMemory 2 rfl) rfl (fun hc1 => ?_) (fun hc1 => ?_)
  · have hw := hw.1 hc1
    refine lv_aload_n hx hb (xb_d D_Machine_sizeMemory 11 rfl) rfl (lv_at hl 0 rfl) ?_
    obtain ⟨hk2, hw⟩ := hw
    refine xb_getP (C := R_Machine) (T := F_Machine) (N := 18) hx hb 7 9 hts fin_Machine hown hR hk2 (by decide) rfl (by decide) rfl (hts _ m_6904195b) (fun _ h9 => h9) (xb_d D_Machine_sizeMemory 12 rfl) ?_
    obtain ⟨b3, eb3, hw⟩ := hw
    refine xb_some eb3 ?_
    refine lv_aload_n hx hb (xb_d D_Machine_sizeMemory 13 rfl) rfl (lv_at hl 0 rfl) ?_
    refine xb_getI (C := R_Machine) (T := F_Machine) (N := 18) hx hb 7 10 hts fin_Machine hown hR hk2 (by decide) rfl (by decide) rfl (hts _ m_79cf62f6) (fun _ h9 => h9) (xb_d D_Machine_sizeMemory 14 rfl) ?_
    refine lv_iconst (v := 1) hx hb (xb_d D_Machine_sizeMemory 15 rfl) (by decide) ?_
    refine lv_isub hx hb (xb_d D_Machine_sizeMemory 16 rfl) ?_
    refine lv_aload_n hx hb (xb_d D_Machine_sizeMemory 17 rfl) rfl (lv_at hl 0 rfl) ?_
    refine xb_getP (C := R_Machine) (T := F_Machine) (N := 18) hx hb 7 0 hts fin_Machine hown hR hk2 (by decide) rfl (by decide) rfl (hts _ m_436e7c8c) (fun _ h9 => h9) (xb_d D_Machine_sizeMemory 18 rfl) ?_
    obtain ⟨b4, eb4, hw⟩ := hw
    refine xb_some eb4 ?_
    refine lv_aload_n hx hb (xb_d D_Machine_sizeMemory 19 rfl) rfl (lv_at hl 0 rfl) ?_
    refine xb_getP (C := R_Machine) (T := F_Machine) (N := 18) hx hb 7 12 hts fin_Machine hown hR hk2 (by decide) rfl (by decide) rfl (hts _ m_a347cb26) (fun _ h9 => h9) (xb_d D_Machine_sizeMemory 20 rfl) ?_
    obtain ⟨b5, eb5, hw⟩ := hw
    refine xb_some eb5 ?_
    obtain ⟨hk6, hw⟩ := hw
    refine xb_getP (C := R_Instance) (T := F_Instance) (N := 8) hx hb 10 7 hts fin_Instance hown hR hk6 (by decide) rfl (by decide) rfl (hts _ m_e2094cf0) (fun _ h9 => h9) (xb_d D_Machine_sizeMemory 21 rfl) ?_
    obtain ⟨b7, eb7, hw⟩ := hw
    refine xb_some eb7 ?_
    refine lv_aload_n hx hb (xb_d D_Machine_sizeMemory 22 rfl) rfl (lv_at hl 0 rfl) ?_
    refine xb_getP (C := R_Machine) (T := F_Machine) (N := 18) hx hb 7 9 hts fin_Machine hown hR hk2 (by decide) rfl (by decide) rfl (hts _ m_6904195b) (fun _ h9 => h9) (xb_d D_Machine_sizeMemory 23 rfl) ?_
    obtain ⟨b8, eb8, hw⟩ := hw
    refine xb_some eb8 ?_
    refine lv_aload_n hx hb (xb_d D_Machine_sizeMemory 24 rfl) rfl (lv_at hl 0 rfl) ?_
    refine xb_getI (C := R_Machine) (T := F_Machine) (N := 18) hx hb 7 10 hts fin_Machine hown hR hk2 (by decide) rfl (by decide) rfl (hts _ m_79cf62f6) (fun _ h9 => h9) (xb_d D_Machine_sizeMemory 25 rfl) ?_
    refine lv_iconst (v := 1) hx hb (xb_d D_Machine_sizeMemory 26 rfl) (by decide) ?_
    refine lv_isub hx hb (xb_d D_Machine_sizeMemory 27 rfl) ?_
    obtain ⟨hk10, hw⟩ := hw
    obtain ⟨hi9, hw⟩ := hw
    refine xb_lald hx hb hR hk10 hi9 (xb_d D_Machine_sizeMemory 28 rfl) ?_
    obtain ⟨hk11, hw⟩ := hw
    obtain ⟨c14, sc14, hlc14, hlsc14, hw⟩ := hw
    refine xb_call (D := D) (A := A) (σ := σ) (h := h) (d := 5) (mc := c14) (ms := sc14) (maxL := 8) (rest := [.int ((xb_i h x0 10) - 1), .ref b3]) (av := [.ref b4, .ref b7, .long (xb_l h b8 (Int32.toNatClampNeg ((xb_i h x0 10) - 1)))]) (fun T hT X => by obtain ⟨cb, r1, r2, r3⟩ := xb_recv (ci := 6) hR rfl hk11 (by decide); exact xt_invV X hx hown (hts _ m_41903b94) (hts _ m_34bae24b) (hts _ m_04718ef1) (xt_sigOf (hts _ m_89170230)) nm_World_grow (by rw [hT]; exact r1) r2 r3 (g := F0 m 56 ls [.long (xb_l h b8 (Int32.toNatClampNeg ((xb_i h x0 10) - 1))), .ref b7, .ref b4, .int ((xb_i h x0 10) - 1), .ref b3]) rfl (argsL := [.ref b7, .long (xb_l h b8 (Int32.toNatClampNeg ((xb_i h x0 10) - 1)))]) (rest := [.int ((xb_i h x0 10) - 1), .ref b3]) rfl rfl (by rw [hb]; exact (xb_d D_Machine_sizeMemory 29 rfl))) (ok_World_grow l hfl D A σ b4 b7 (xb_l h b8 (Int32.toNatClampNeg ((xb_i h x0 10) - 1))) h c14 sc14 _ hw) (hml.trans hl.1.symm) (by rw [hb]; exact (xb_d D_Machine_sizeMemory 29 rfl)) (Nat.le_of_ble_eq_true rfl) (Nat.le_of_ble_eq_true rfl) (Nat.le_of_ble_eq_true rfl) (show k + c14 ≤ MC by omega) (show n + sc14 ≤ MS by omega) (xt_w1 hB.1 m_89170230) (xt_cdOf hB.1 m_89170230) (hts _ m_4534b440) hB hR hS hA (fun vv h12 H locs hq hEh12 hR hS => ?_) (fun XX ax h12 H locs hq hEh12 hex hR hS => ?_)
    · obtain ⟨r13, rfl, hw⟩ := hq
      have hw := hw hEh12
      have hE := hE.tr hEh12
      refine W.eq (g2 := F0 m 59 ls [.int r13, .int ((xb_i h x0 10) - 1), .ref b3]) rfl ?_
      refine lv_i2l hx hb (xb_d D_Machine_sizeMemory 30 rfl) rfl ?_
      refine lv_ldc2 (v := 4294967295) hx hb hown (hts _ m_2b0551dd) (xb_d D_Machine_sizeMemory 31 rfl) ?_
      refine lv_land hx hb (xb_d D_Machine_sizeMemory 32 rfl) ?_
      obtain ⟨hk15, hw⟩ := hw
      obtain ⟨hi16, hw⟩ := hw
      refine xb_last hx hb hR hS hk15 hi16 (xb_d D_Machine_sizeMemory 33 rfl) (fun H locs hR hS => ?_)
      obtain ⟨h17, eh17⟩ : ∃ x : xb_H, x = xb_L h12 b3 (Int32.toNatClampNeg ((xb_i h x0 10) - 1)) ((Int32.toInt64 r13) &&& 4294967295) := ⟨_, rfl⟩
      rw [← eh17] at hR
      have hw := hw h17 eh17
      have hE : xb_ext h0 h17 := by rw [eh17]; exact hE
      exact am_Machine_sizeMemory_L65 l hfl D A σ MC MS h0 Qr x0 h17 (bc - c14) (bs - sc14) hw p e s m args below meth c hC H locs ls (k + c14) (n + sc14) hE (lv_sub hl [0] rfl) hR hS (by omega) (by omega)
    · exact False.elim hq
  · have hw := hw.2 hc1
    refine lv_aload_n hx hb (xb_d D_Machine_sizeMemory 3 rfl) rfl (lv_at hl 0 rfl) ?_
    refine lv_aload_n hx hb (xb_d D_Machine_sizeMemory 4 rfl) rfl (lv_at hl 0 rfl) ?_
    obtain ⟨hk18, hw⟩ := hw
    refine xb_getP (C := R_Machine) (T := F_Machine) (N := 18) hx hb 7 12 hts fin_Machine hown hR hk18 (by decide) rfl (by decide) rfl (hts _ m_a347cb26) (fun _ h9 => h9) (xb_d D_Machine_sizeMemory 5 rfl) ?_
    obtain ⟨b19, eb19, hw⟩ := hw
    refine xb_some eb19 ?_
    obtain ⟨hk20, hw⟩ := hw
    refine xb_getP (C := R_Instance) (T := F_Instance) (N := 8) hx hb 10 7 hts fin_Instance hown hR hk20 (by decide) rfl (by decide) rfl (hts _ m_e2094cf0) (fun _ h9 => h9) (xb_d D_Machine_sizeMemory 6 rfl) ?_
    obtain ⟨b21, eb21, hw⟩ := hw
    refine xb_some eb21 ?_
    obtain ⟨hk22, hw⟩ := hw
    refine xb_getI (C := R_Memory) (T := F_Memory) (N := 4) hx hb 12 3 hts fin_Memory hown hR hk22 (by decide) rfl (by decide) rfl (hts _ m_af1596dc) (fun _ h9 => h9) (xb_d D_Machine_sizeMemory 7 rfl) ?_
    refine lv_i2l hx hb (xb_d D_Machine_sizeMemory 8 rfl) rfl ?_
    refine xb_call (D := D) (A := A) (σ := σ) (h := h) (d := 2) (mc := 0) (ms := 0) (maxL := 3) (rest := []) (av := [.ref x0, .long (Int32.toInt64 (xb_i h b21 3))]) (fun T hT X => by obtain ⟨cb, r1, r2, r3⟩ := xb_recv (ci := 7) hR rfl hk18 (by decide); exact xt_invV X hx hown (hts _ m_b93b25cc) (hts _ m_5256b489) (hts _ m_b846adde) (xt_sigOf (hts _ m_ea231fcd)) nm_Machine_putValue (by rw [hT]; exact r1) r2 r3 (g := F0 m 18 ls [.long (Int32.toInt64 (xb_i h b21 3)), .ref x0]) rfl (argsL := [.long (Int32.toInt64 (xb_i h b21 3))]) (rest := []) rfl rfl (by rw [hb]; exact (xb_d D_Machine_sizeMemory 9 rfl))) (ok_Machine_putValue l hfl D A σ x0 (Int32.toInt64 (xb_i h b21 3)) h _ hw) (hml.trans hl.1.symm) (by rw [hb]; exact (xb_d D_Machine_sizeMemory 9 rfl)) (Nat.le_of_ble_eq_true rfl) (Nat.le_of_ble_eq_true rfl) (Nat.le_of_ble_eq_true rfl) (show k + 0 ≤ MC by omega) (show n + 0 ≤ MS by omega) (xt_w1 hB.1 m_ea231fcd) (xt_cdOf hB.1 m_ea231fcd) (hts _ m_73451f9b) hB hR hS hA (fun vv h23 H locs hq hEh23 hR hS => ?_) (fun XX ax h23 H locs hq hEh23 hex hR hS => ?_)
    · obtain ⟨rfl, hw⟩ := hq
      have hw := hw hEh23
      have hE := hE.tr hEh23
      refine W.eq (g2 := F0 m 21 ls []) rfl ?_
      refine lv_goto (tgt := 65) hx hb (xb_d D_Machine_sizeMemory 10 rfl) rfl ?_
      exact am_Machine_sizeMemory_L65 l hfl D A σ MC MS h0 Qr x0 h23 bc bs hw p e s m args below meth c hC H locs ls k n hE (lv_sub hl [0] rfl) hR hS (by omega) (by omega)
    · exact False.elim hq

