theorem m_b2be0bfe : (.methodLink "StackHostModel" 654 y_M_noteTrap : Cond) ∈ xt_tbl := xt_in (xt_t12 (List.mem_of_getElem? (i := 174) (by decide +kernel))) (by decide +kernel)
theorem m_6a8933b7 : (.instanceMethod y_M_noteTrap : Cond) ∈ xt_tbl := xt_in (xt_t12 (List.mem_of_getElem? (i := 176) (by decide +kernel))) (by decide +kernel)
theorem m_80932e6d : (.selects "StackHostModel" y_M_noteTrap y_M_noteTrap : Cond) ∈ xt_tbl := xt_in (xt_v14 (q := (⟨"StackHostModel", "noteTrap", "(I)V"⟩, 97)) (List.mem_of_getElem? (i := 13) (by decide +kernel))) (by decide +kernel)
theorem m_cffcb64f : (.code y_M_noteTrap b_M_noteTrap 4 none : Cond) ∈ xt_tbl := xt_in (xt_t12 (List.mem_of_getElem? (i := 177) (by decide +kernel))) (by decide +kernel)
theorem m_f54dca07 : (.methodLink "StackHostModel" 660 y_M_perform : Cond) ∈ xt_tbl := xt_in (xt_t12 (List.mem_of_getElem? (i := 181) (by decide +kernel))) (by decide +kernel)
theorem m_95242c6f : (.instanceMethod y_M_perform : Cond) ∈ xt_tbl := xt_in (xt_t12 (List.mem_of_getElem? (i := 183) (by decide +kernel))) (by decide +kernel)
theorem m_b32954d3 : (.selects "StackHostModel" y_M_perform y_M_perform : Cond) ∈ xt_tbl := xt_in (xt_v14 (q := (⟨"StackHostModel", "perform", "(III)V"⟩, 97)) (List.mem_of_getElem? (i := 14) (by decide +kernel))) (by decide +kernel)
theorem m_8c4389a7 : (.code y_M_perform b_M_perform 4 none : Cond) ∈ xt_tbl := xt_in (xt_t12 (List.mem_of_getElem? (i := 184) (by decide +kernel))) (by decide +kernel)
theorem m_3693198e : (.methodLink "StackHostModel" 657 y_M_isStep : Cond) ∈ xt_tbl := xt_in (xt_t12 (List.mem_of_getElem? (i := 178) (by decide +kernel))) (by decide +kernel)
theorem m_903f0b9e : (.static y_M_isStep : Cond) ∈ xt_tbl := xt_in (xt_t12 (List.mem_of_getElem? (i := 179) (by decide +kernel))) (by decide +kernel)
theorem m_b8fa3db2 : (.code y_M_isStep b_M_isStep 1 (some .boolean) : Cond) ∈ xt_tbl := xt_in (xt_t12 (List.mem_of_getElem? (i := 180) (by decide +kernel))) (by decide +kernel)
theorem m_66e4112d : (.fieldLink "StackHostModel" 648 "StackHostModel" "left" "I" : Cond) ∈ xt_tbl := xt_in (xt_t9 (List.mem_of_getElem? (i := 233) (by decide +kernel))) (by decide +kernel)
theorem m_7dd00ccc : (.constant "StackHostModel" 647 1000000 : Cond) ∈ xt_tbl := xt_in (xt_t12 (List.mem_of_getElem? (i := 157) (by decide +kernel))) (by decide +kernel)
theorem nm_M_noteTrap : xt_nm y_M_noteTrap 1 := ⟨by decide +kernel, by decide +kernel⟩
theorem nm_M_perform : xt_nm y_M_perform 3 := ⟨by decide +kernel, by decide +kernel⟩
theorem nm_M_isStep : xt_nm y_M_isStep 1 := ⟨by decide +kernel, by decide +kernel⟩
set_option maxRecDepth 100000 in
def T_M_run : List (Nat × Instr × Nat) := [(0, .aload_n 0, 1), (1, .iload_n 1, 1), (2, .ifCond .lt 10, 3), (5, .iload_n 1, 1), (6, .ldc_w 647, 3), (9, .if_icmp .le 7, 3), (12, .iconst 1, 1), (13, .goto 15, 3), (16, .aload_n 0, 1), (17, .getfield 539, 3), (20, .ifCond .ne 7, 3), (23, .iconst 2, 1), (24, .goto 4, 3), (27, .iconst 0, 1), (28, .putfield 189, 3), (31, .aload_n 0, 1), (32, .getfield 189, 3), (35, .ifCond .le 5, 3), (38, .iconst 0, 1), (39, .ireturn, 1), (40, .aload_n 0, 1), (41, .iload_n 1, 1), (42, .putfield 648, 3), (45, .aload_n 0, 1), (46, .getfield 586, 3), (49, .ifCond .ne 76, 3), (52, .aload_n 0, 1), (53, .iconst 1, 1), (54, .putfield 586, 3), (57, .aload_n 0, 1), (58, .iconst 0, 1), (59, .putfield 625, 3), (62, .aload_n 0, 1), (63, .iconst 0, 1), (64, .putfield 607, 3), (67, .aload_n 0, 1), (68, .iconst 0, 1), (69, .putfield 610, 3), (72, .aload_n 0, 1), (73, .iconst 0, 1), (74, .putfield 616, 3), (77, .iconst 0, 1), (78, .istore_n 2, 1), (79, .iload_n 2, 1), (80, .aload_n 0, 1), (81, .getfield 589, 3), (84, .if_icmp .ge 28, 3), (87, .aload_n 0, 1), (88, .aload_n 0, 1), (89, .getfield 136, 3), (92, .iload_n 2, 1), (93, .laload, 1), (94, .aload_n 0, 1), (95, .aload_n 0, 1), (96, .getfield 583, 3), (99, .iload_n 2, 1), (100, .invokevirtual 619, 3), (103, .invokevirtual 628, 3), (106, .iinc 2 1, 3), (109, .goto (-30), 3), (112, .aload_n 0, 1), (113, .aload_n 0, 1), (114, .getfield 583, 3), (117, .invokevirtual 651, 3), (120, .aload_n 0, 1), (121, .iconst (-1), 1), (122, .invokevirtual 654, 3), (125, .aload_n 0, 1), (126, .getfield 616, 3), (129, .ifCond .le 147, 3), (132, .aload_n 0, 1), (133, .getfield 625, 3), (136, .ifCond .ne 140, 3), (139, .aload_n 0, 1), (140, .getfield 616, 3), (143, .iconst 1, 1), (144, .isub, 1), (145, .istore_n 2, 1), (146, .aload_n 0, 1), (147, .getfield 139, 3), (150, .iload_n 2, 1), (151, .iaload, 1), (152, .istore_n 3, 1), (153, .aload_n 0, 1), (154, .getfield 142, 3), (157, .iload_n 2, 1), (158, .iaload, 1), (159, .istore 4, 2), (161, .aload_n 0, 1), (162, .getfield 14, 3), (165, .iload 4, 2), (167, .baload, 1), (168, .sipush 255, 3), (171, .iand, 1), (172, .istore 5, 2), (174, .iload 5, 2), (176, .invokestatic 657, 3), (179, .ifCond .eq 22, 3), (182, .aload_n 0, 1), (183, .getfield 648, 3), (186, .ifCond .ne 5, 3), (189, .iconst 2, 1), (190, .ireturn, 1), (191, .aload_n 0, 1), (192, .dup, 1), (193, .getfield 648, 3), (196, .iconst 1, 1), (197, .isub, 1), (198, .putfield 648, 3), (201, .aload_n 0, 1), (202, .iconst 0, 1), (203, .putfield 613, 3), (206, .aload_n 0, 1), (207, .aload_n 0, 1), (208, .getfield 62, 3), (211, .aload_n 0, 1), (212, .getfield 92, 3), (215, .iload_n 3, 1), (216, .iaload, 1), (217, .iaload, 1), (218, .iload 4, 2), (220, .iconst 1, 1), (221, .iadd, 1), (222, .invokevirtual 324, 3), (225, .aload_n 0, 1), (226, .iload_n 2, 1), (227, .aload_n 0, 1), (228, .getfield 92, 3), (231, .iload_n 3, 1), (232, .iaload, 1), (233, .iload 5, 2), (235, .invokevirtual 660, 3), (238, .aload_n 0, 1), (239, .aload_n 0, 1), (240, .getfield 613, 3), (243, .ifCond .eq 12, 3), (246, .aload_n 0, 1), (247, .getfield 663, 3), (250, .iconst 1, 1), (251, .iadd, 1), (252, .goto 7, 3), (255, .aload_n 0, 1), (256, .getfield 663, 3), (259, .putfield 663, 3), (262, .aload_n 0, 1), (263, .iconst 0, 1), (264, .putfield 613, 3), (267, .aload_n 0, 1), (268, .iload 4, 2), (270, .invokevirtual 654, 3), (273, .goto (-148), 3), (276, .aload_n 0, 1), (277, .iconst 0, 1), (278, .putfield 539, 3), (281, .aload_n 0, 1), (282, .getfield 625, 3), (285, .ifCond .le 10, 3), (288, .aload_n 0, 1), (289, .iconst 0, 1), (290, .putfield 616, 3), (293, .iconst 1, 1), (294, .ireturn, 1), (295, .aload_n 0, 1), (296, .aload_n 0, 1), (297, .getfield 607, 3), (300, .ifCond .le 12, 3), (303, .aload_n 0, 1), (304, .getfield 154, 3), (307, .iconst 0, 1), (308, .laload, 1), (309, .goto 4, 3), (312, .lconst 0, 1), (313, .putfield 666, 3), (316, .iconst 0, 1), (317, .ireturn, 1)]
theorem D_M_run : ∀ q ∈ T_M_run, decode b_M_run q.1 = .ok (q.2.1, q.2.2) := by decide +kernel
def w_M_run_L313 (Qr : Int32 → xb_H → Prop) (y0 : Int64) (y1 : Nat) (h : xb_H) : Prop :=
    xb_k h y1 = 9 ∧ ∀ h2 : xb_H, h2 = xb_L h y1 85 y0 → Qr 0 h2

def w_M_run_L276 (Qr : Int32 → xb_H → Prop) (x0 : Nat) (h : xb_H) : Prop :=
    xb_k h x0 = 9 ∧ ∀ h2 : xb_H, h2 = xb_I h x0 62 0 → (((xb_i h2 x0 82) ≤ (0 : Int32) → (((xb_i h2 x0 76) ≤ (0 : Int32) → w_M_run_L313 Qr 0 x0 h2) ∧ (¬ (xb_i h2 x0 76) ≤ (0 : Int32) → ∃ b5 : Nat, (xb_r h2 x0 74) = some b5 ∧ xb_k h2 b5 = 103 ∧ vp_in 0 (xb_n h2 b5) ∧ w_M_run_L313 Qr (xb_l h2 b5 0) x0 h2))) ∧ (¬ (xb_i h2 x0 82) ≤ (0 : Int32) → ∀ h8 : xb_H, h8 = xb_I h2 x0 68 0 → Qr 1 h8))

def w_M_run_L259 (K125 : Nat → xb_H → Prop) (Qr : Int32 → xb_H → Prop) (x0 : Nat) (x4 : Int32) (y0 : Int32) (y1 : Nat) (h : xb_H) : Prop :=
    xb_k h y1 = 9 ∧ ∀ h2 : xb_H, h2 = xb_I h y1 84 y0 → xb_k h2 x0 = 9 ∧ ∀ h4 : xb_H, h4 = xb_I h2 x0 94 0 → w_M_noteTrap x0 x4 h4 (fun (h5 : xb_H) => xb_ext h4 h5 → K125 x0 h5)

def w_M_run_L201 (K125 : Nat → xb_H → Prop) (Qr : Int32 → xb_H → Prop) (x0 : Nat) (x2 : Int32) (x3 : Int32) (x4 : Int32) (x5 : Int32) (h : xb_H) : Prop :=
    xb_k h x0 = 9 ∧ ∀ h2 : xb_H, h2 = xb_I h x0 94 0 → ∃ b3 : Nat, (xb_r h2 x0 31) = some b3 ∧ ∃ b4 : Nat, (xb_r h2 x0 44) = some b4 ∧ xb_k h2 b4 = 102 ∧ vp_in x3 (xb_n h2 b4) ∧ xb_k h2 b3 = 102 ∧ vp_in (xb_i h2 b4 (Int32.toNatClampNeg x3)) (xb_n h2 b3) ∧ w_M_go x0 (xb_i h2 b3 (Int32.toNatClampNeg (xb_i h2 b4 (Int32.toNatClampNeg x3)))) (x4 + 1) h2 (fun (h9 : xb_H) => xb_ext h2 h9 → ∃ b11 : Nat, (xb_r h9 x0 44) = some b11 ∧ xb_k h9 b11 = 102 ∧ vp_in x3 (xb_n h9 b11) ∧ w_M_perform x0 x2 (xb_i h9 b11 (Int32.toNatClampNeg x3)) x5 h9 (fun (h14 : xb_H) => xb_ext h9 h14 → (((xb_i h14 x0 94) = (0 : Int32) → w_M_run_L259 K125 Qr x0 x4 (xb_i h14 x0 84) x0 h14) ∧ (¬ (xb_i h14 x0 94) = (0 : Int32) → w_M_run_L259 K125 Qr x0 x4 ((xb_i h14 x0 84) + 1) x0 h14))))

def w_M_run_L125 (Qr : Int32 → xb_H → Prop) : Nat → Nat → xb_H → Prop
  | 0, _, _ => False
  | n9 + 1, x0, h =>
    xb_k h x0 = 9 ∧ (((xb_i h x0 68) ≤ (0 : Int32) → w_M_run_L276 Qr x0 h) ∧ (¬ (xb_i h x0 68) ≤ (0 : Int32) → ((¬ (xb_i h x0 82) = (0 : Int32) → w_M_run_L276 Qr x0 h) ∧ ((xb_i h x0 82) = (0 : Int32) → ∀ v4 : Int32, v4 = ((xb_i h x0 68) - 1) → ∃ b5 : Nat, (xb_r h x0 69) = some b5 ∧ xb_k h b5 = 102 ∧ vp_in v4 (xb_n h b5) ∧ ∀ v8 : Int32, v8 = (xb_i h b5 (Int32.toNatClampNeg v4)) → ∃ b9 : Nat, (xb_r h x0 70) = some b9 ∧ xb_k h b9 = 102 ∧ vp_in v4 (xb_n h b9) ∧ ∀ v12 : Int32, v12 = (xb_i h b9 (Int32.toNatClampNeg v4)) → ∃ b13 : Nat, (xb_r h x0 3) = some b13 ∧ xb_k h b13 = 100 ∧ vp_in v12 (xb_n h b13) ∧ ∀ v16 : Int32, v16 = ((xb_i h b13 (Int32.toNatClampNeg v12)) &&& 255) → w_M_isStep v16 h (fun (r18 : Int32) (h17 : xb_H) => xb_ext h h17 → ((r18 = (0 : Int32) → w_M_run_L201 (w_M_run_L125 Qr n9) Qr x0 v4 v8 v12 v16 h17) ∧ (¬ r18 = (0 : Int32) → ((¬ (xb_i h17 x0 95) = (0 : Int32) → ∀ h21 : xb_H, h21 = xb_I h17 x0 95 ((xb_i h17 x0 95) - 1) → w_M_run_L201 (w_M_run_L125 Qr n9) Qr x0 v4 v8 v12 v16 h21) ∧ ((xb_i h17 x0 95) = (0 : Int32) → Qr 2 h17)))))))))

def w_M_run_L79 (Qr : Int32 → xb_H → Prop) : Nat → Nat → Int32 → xb_H → Prop
  | 0, _, _, _ => False
  | n9 + 1, x0, x2, h =>
    xb_k h x0 = 9 ∧ (((xb_i h x0 93) ≤ x2 → w_M_call x0 (xb_i h x0 64) h (fun (h3 : xb_H) => xb_ext h h3 → w_M_noteTrap x0 (-1) h3 (fun (h5 : xb_H) => xb_ext h3 h5 → (∃ n8 : Nat, w_M_run_L125 Qr n8 x0 h5)))) ∧ (¬ (xb_i h x0 93) ≤ x2 → ∃ b7 : Nat, (xb_r h x0 67) = some b7 ∧ xb_k h b7 = 103 ∧ vp_in x2 (xb_n h b7) ∧ w_M_parameterOf x0 (xb_i h x0 64) x2 h (fun (r11 : Int32) (h10 : xb_H) => xb_ext h h10 → w_M_add x0 (xb_l h b7 (Int32.toNatClampNeg x2)) r11 h10 (fun (h12 : xb_H) => xb_ext h10 h12 → w_M_run_L79 Qr n9 x0 (x2 + 1) h12))))

def w_M_run_L28 (Qr : Int32 → xb_H → Prop) (x0 : Nat) (x1 : Int32) (y0 : Int32) (y1 : Nat) (h : xb_H) : Prop :=
    xb_k h y1 = 9 ∧ ∀ h2 : xb_H, h2 = xb_I h y1 0 y0 → xb_k h2 x0 = 9 ∧ (((xb_i h2 x0 0) ≤ (0 : Int32) → ∀ h5 : xb_H, h5 = xb_I h2 x0 95 x1 → ((¬ (xb_i h5 x0 63) = (0 : Int32) → (∃ n8 : Nat, w_M_run_L125 Qr n8 x0 h5)) ∧ ((xb_i h5 x0 63) = (0 : Int32) → ∀ h7 : xb_H, h7 = xb_I h5 x0 63 1 → ∀ h8 : xb_H, h8 = xb_I h7 x0 82 0 → ∀ h9 : xb_H, h9 = xb_I h8 x0 76 0 → ∀ h10 : xb_H, h10 = xb_I h9 x0 81 0 → ∀ h11 : xb_H, h11 = xb_I h10 x0 68 0 → (∃ n8 : Nat, w_M_run_L79 Qr n8 x0 0 h11)))) ∧ (¬ (xb_i h2 x0 0) ≤ (0 : Int32) → Qr 0 h2))

def w_M_run_L12 (Qr : Int32 → xb_H → Prop) (x0 : Nat) (x1 : Int32) (y0 : Nat) (h : xb_H) : Prop :=
    w_M_run_L28 Qr x0 x1 1 y0 h

def w_M_run (x0 : Nat) (x1 : Int32) (h : xb_H) (Qr : Int32 → xb_H → Prop) : Prop :=
    ((x1 < (0 : Int32) → w_M_run_L12 Qr x0 x1 x0 h) ∧ (¬ x1 < (0 : Int32) → ((x1 ≤ (1000000 : Int32) → xb_k h x0 = 9 ∧ ((¬ (xb_i h x0 62) = (0 : Int32) → w_M_run_L28 Qr x0 x1 0 x0 h) ∧ ((xb_i h x0 62) = (0 : Int32) → w_M_run_L28 Qr x0 x1 2 x0 h))) ∧ (¬ x1 ≤ (1000000 : Int32) → w_M_run_L12 Qr x0 x1 x0 h))))

set_option maxHeartbeats 4000000 in
set_option maxRecDepth 100000 in
theorem am_M_run_L313 (l : Launch) (hfl : l.flags = pinnedFlags ++ [noTraceFlag]) (D : va_G) (A : Nat → Prop) (σ MC MS : Nat) (h0 : xb_H) (Qr : Int32 → xb_H → Prop) (y0 : Int64) (y1 : Nat) (h : xb_H) (hw : w_M_run_L313 Qr y0 y1 h) : xb_am l D A σ 13 MC MS h0 (fun v h => ∃ r, v = some (.int r) ∧ Qr r h) (fun _ _ => False) y_M_run.cls y_M_run.name b_M_run 6 ([] : List ExceptionTableEntry) (some .int) 313 [] [.long y0, .ref y1] h 0 0 := by
  unfold w_M_run_L313 at hw
  intro p e s m args below meth c hC H locs ls k n hE hl hR hS hk hn
  obtain ⟨hx, hb, hown, hlocks, htab, hml, hr, hB, hA, hnm⟩ := id hC
  have hts := hB.1.1.at args
  obtain ⟨hk1, hw⟩ := hw
  refine xb_putL (C := R_M) (T := F_M) (N := 97) (ty := .long) (x := y0) hx hb 8 85 hts fin_M t_M t_M_ok n_M hown hR hS hk1 (by decide) rfl (by decide) rfl (hts _ m_4386cc76) (fun _ h9 => h9) rfl (by decide +kernel) rfl rfl (xb_d D_M_run 172 rfl) (fun H locs hR hS => ?_)
  obtain ⟨h2, eh2⟩ : ∃ x : xb_H, x = xb_L h y1 85 y0 := ⟨_, rfl⟩
  rw [← eh2] at hR
  have hw := hw h2 eh2
  have hE : xb_ext h0 h2 := by rw [eh2]; exact hE
  refine lv_iconst (v := 0) hx hb (xb_d D_M_run 173 rfl) (by decide) ?_
  exact xb_iret hx hb hr hlocks (show k ≤ MC by omega) (show n ≤ MS by omega) hE hR hS (xb_d D_M_run 174 rfl) hw

set_option maxHeartbeats 4000000 in
set_option maxRecDepth 100000 in
theorem am_M_run_L276 (l : Launch) (hfl : l.flags = pinnedFlags ++ [noTraceFlag]) (D : va_G) (A : Nat → Prop) (σ MC MS : Nat) (h0 : xb_H) (Qr : Int32 → xb_H → Prop) (x0 : Nat) (h : xb_H) (hw : w_M_run_L276 Qr x0 h) : xb_am l D A σ 13 MC MS h0 (fun v h => ∃ r, v = some (.int r) ∧ Qr r h) (fun _ _ => False) y_M_run.cls y_M_run.name b_M_run 6 ([] : List ExceptionTableEntry) (some .int) 276 [(0, .ref x0)] [] h 0 0 := by
  unfold w_M_run_L276 at hw
  intro p e s m args below meth c hC H locs ls k n hE hl hR hS hk hn
  obtain ⟨hx, hb, hown, hlocks, htab, hml, hr, hB, hA, hnm⟩ := id hC
  have hts := hB.1.1.at args
  refine lv_aload_n hx hb (xb_d D_M_run 151 rfl) rfl (lv_at hl 0 rfl) ?_
  refine lv_iconst (v := 0) hx hb (xb_d D_M_run 152 rfl) (by decide) ?_
  obtain ⟨hk1, hw⟩ := hw
  refine xb_putI (C := R_M) (T := F_M) (N := 97) (ty := .boolean) (x := 0) hx hb 8 62 hts fin_M t_M t_M_ok n_M hown hR hS hk1 (by decide) rfl (by decide) rfl (hts _ m_71a5ca12) (fun _ h9 => h9) rfl (by decide +kernel) (by decide) (by decide) (xb_d D_M_run 153 rfl) (fun H locs hR hS => ?_)
  obtain ⟨h2, eh2⟩ : ∃ x : xb_H, x = xb_I h x0 62 0 := ⟨_, rfl⟩
  rw [← eh2] at hR
  have hw := hw h2 eh2
  have hE : xb_ext h0 h2 := by rw [eh2]; exact hE
  refine lv_aload_n hx hb (xb_d D_M_run 154 rfl) rfl (lv_at hl 0 rfl) ?_
  have hk1 : xb_k h2 x0 = 9 := by rw [eh2]; exact hk1
  refine xb_getI (C := R_M) (T := F_M) (N := 97) hx hb 8 82 hts fin_M hown hR hk1 (by decide) rfl (by decide) rfl (hts _ m_ad343437) (fun _ h9 => h9) (xb_d D_M_run 155 rfl) ?_
  refine lv_if_le (tgt := 295) hx hb (xb_d D_M_run 156 rfl) rfl (fun hc3 => ?_) (fun hc3 => ?_)
  · have hw := hw.1 hc3
    refine lv_aload_n hx hb (xb_d D_M_run 162 rfl) rfl (lv_at hl 0 rfl) ?_
    refine lv_aload_n hx hb (xb_d D_M_run 163 rfl) rfl (lv_at hl 0 rfl) ?_
    refine xb_getI (C := R_M) (T := F_M) (N := 97) hx hb 8 76 hts fin_M hown hR hk1 (by decide) rfl (by decide) rfl (hts _ m_d6ddfcd8) (fun _ h9 => h9) (xb_d D_M_run 164 rfl) ?_
    refine lv_if_le (tgt := 312) hx hb (xb_d D_M_run 165 rfl) rfl (fun hc4 => ?_) (fun hc4 => ?_)
    · have hw := hw.1 hc4
      refine lv_lconst (v := 0) hx hb (xb_d D_M_run 171 rfl) (by decide) ?_
      exact am_M_run_L313 l hfl D A σ MC MS h0 Qr 0 x0 h2 hw p e s m args below meth c hC H locs ls k n hE (lv_sub hl [] rfl) hR hS (by omega) (by omega)
    · have hw := hw.2 hc4
      refine lv_aload_n hx hb (xb_d D_M_run 166 rfl) rfl (lv_at hl 0 rfl) ?_
      refine xb_getP (C := R_M) (T := F_M) (N := 97) hx hb 8 74 hts fin_M hown hR hk1 (by decide) rfl (by decide) rfl (hts _ m_f82105f7) (fun _ h9 => h9) (xb_d D_M_run 167 rfl) ?_
      obtain ⟨b5, eb5, hw⟩ := hw
      refine xb_some eb5 ?_
      refine lv_iconst (v := 0) hx hb (xb_d D_M_run 168 rfl) (by decide) ?_
      obtain ⟨hk7, hw⟩ := hw
      obtain ⟨hi6, hw⟩ := hw
      refine xb_lald hx hb hR hk7 hi6 (xb_d D_M_run 169 rfl) ?_
      refine xt_numl (y := (xb_l h2 b5 0)) (congrArg (xb_l h2 b5) (by decide : (0 : Int32).toNatClampNeg = 0)) ?_
      refine lv_goto (tgt := 313) hx hb (xb_d D_M_run 170 rfl) rfl ?_
      exact am_M_run_L313 l hfl D A σ MC MS h0 Qr (xb_l h2 b5 0) x0 h2 hw p e s m args below meth c hC H locs ls k n hE (lv_sub hl [] rfl) hR hS (by omega) (by omega)
  · have hw := hw.2 hc3
    refine lv_aload_n hx hb (xb_d D_M_run 157 rfl) rfl (lv_at hl 0 rfl) ?_
    refine lv_iconst (v := 0) hx hb (xb_d D_M_run 158 rfl) (by decide) ?_
    refine xb_putI (C := R_M) (T := F_M) (N := 97) (ty := .int) (x := 0) hx hb 8 68 hts fin_M t_M t_M_ok n_M hown hR hS hk1 (by decide) rfl (by decide) rfl (hts _ m_11712ae1) (fun _ h9 => h9) rfl (by decide +kernel) rfl rfl (xb_d D_M_run 159 rfl) (fun H locs hR hS => ?_)
    obtain ⟨h8, eh8⟩ : ∃ x : xb_H, x = xb_I h2 x0 68 0 := ⟨_, rfl⟩
    rw [← eh8] at hR
    have hw := hw h8 eh8
    have hE : xb_ext h0 h8 := by rw [eh8]; exact hE
    refine lv_iconst (v := 1) hx hb (xb_d D_M_run 160 rfl) (by decide) ?_
    exact xb_iret hx hb hr hlocks (show k ≤ MC by omega) (show n ≤ MS by omega) hE hR hS (xb_d D_M_run 161 rfl) hw

set_option maxHeartbeats 4000000 in
set_option maxRecDepth 100000 in
theorem am_M_run_L259 (l : Launch) (hfl : l.flags = pinnedFlags ++ [noTraceFlag]) (D : va_G) (A : Nat → Prop) (σ MC MS : Nat) (h0 : xb_H) (Qr : Int32 → xb_H → Prop) (K125 : Nat → xb_H → Prop) (hK125 : ∀ (x0 : Nat) (h : xb_H), K125 x0 h → xb_am l D A σ 13 MC MS h0 (fun v h => ∃ r, v = some (.int r) ∧ Qr r h) (fun _ _ => False) y_M_run.cls y_M_run.name b_M_run 6 ([] : List ExceptionTableEntry) (some .int) 125 [(0, .ref x0)] [] h 0 0) (x0 : Nat) (x4 : Int32) (y0 : Int32) (y1 : Nat) (h : xb_H) (hw : w_M_run_L259 K125 Qr x0 x4 y0 y1 h) : xb_am l D A σ 13 MC MS h0 (fun v h => ∃ r, v = some (.int r) ∧ Qr r h) (fun _ _ => False) y_M_run.cls y_M_run.name b_M_run 6 ([] : List ExceptionTableEntry) (some .int) 259 [(0, .ref x0), (4, .int x4)] [.int y0, .ref y1] h 0 0 := by
  unfold w_M_run_L259 at hw
  intro p e s m args below meth c hC H locs ls k n hE hl hR hS hk hn
  obtain ⟨hx, hb, hown, hlocks, htab, hml, hr, hB, hA, hnm⟩ := id hC
  have hts := hB.1.1.at args
  obtain ⟨hk1, hw⟩ := hw
  refine xb_putI (C := R_M) (T := F_M) (N := 97) (ty := .int) (x := y0) hx hb 8 84 hts fin_M t_M t_M_ok n_M hown hR hS hk1 (by decide) rfl (by decide) rfl (hts _ m_c9799996) (fun _ h9 => h9) rfl (by decide +kernel) rfl rfl (xb_d D_M_run 143 rfl) (fun H locs hR hS => ?_)
  obtain ⟨h2, eh2⟩ : ∃ x : xb_H, x = xb_I h y1 84 y0 := ⟨_, rfl⟩
  rw [← eh2] at hR
  have hw := hw h2 eh2
  have hE : xb_ext h0 h2 := by rw [eh2]; exact hE
  refine lv_aload_n hx hb (xb_d D_M_run 144 rfl) rfl (lv_at hl 0 rfl) ?_
  refine lv_iconst (v := 0) hx hb (xb_d D_M_run 145 rfl) (by decide) ?_
  obtain ⟨hk3, hw⟩ := hw
  refine xb_putI (C := R_M) (T := F_M) (N := 97) (ty := .boolean) (x := 0) hx hb 8 94 hts fin_M t_M t_M_ok n_M hown hR hS hk3 (by decide) rfl (by decide) rfl (hts _ m_8158dce5) (fun _ h9 => h9) rfl (by decide +kernel) (by decide) (by decide) (xb_d D_M_run 146 rfl) (fun H locs hR hS => ?_)
  obtain ⟨h4, eh4⟩ : ∃ x : xb_H, x = xb_I h2 x0 94 0 := ⟨_, rfl⟩
  rw [← eh4] at hR
  have hw := hw h4 eh4
  have hE : xb_ext h0 h4 := by rw [eh4]; exact hE
  refine lv_aload_n hx hb (xb_d D_M_run 147 rfl) rfl (lv_at hl 0 rfl) ?_
  refine lv_iload hx hb (xb_d D_M_run 148 rfl) (lv_at hl 1 rfl) ?_
  have hk3 : xb_k h4 x0 = 9 := by rw [eh4]; exact hk3
  refine xb_call (D := D) (A := A) (σ := σ) (h := h4) (d := 2) (mc := 0) (ms := 0) (maxL := 4) (rest := []) (av := [.ref x0, .int x4]) (fun T hT X => by obtain ⟨cb, r1, r2, r3⟩ := xb_recv (ci := 8) hR rfl hk3 (by decide); exact xt_invV X hx hown (hts _ m_b2be0bfe) (hts _ m_6a8933b7) (hts _ m_80932e6d) (xt_sigOf (hts _ m_cffcb64f)) nm_M_noteTrap (by rw [hT]; exact r1) r2 r3 (g := F0 m 270 ls [.int x4, .ref x0]) rfl (argsL := [.int x4]) (rest := []) rfl rfl (by rw [hb]; exact (xb_d D_M_run 149 rfl))) (ok_M_noteTrap l hfl D A σ x0 x4 h4 _ hw) (hml.trans hl.1.symm) (by rw [hb]; exact (xb_d D_M_run 149 rfl)) (Nat.le_of_ble_eq_true rfl) (Nat.le_of_ble_eq_true rfl) (Nat.le_of_ble_eq_true rfl) (show k + 0 ≤ MC by omega) (show n + 0 ≤ MS by omega) (xt_w1 hB.1 m_cffcb64f) (xt_cdOf hB.1 m_cffcb64f) (hts _ m_d5ed7bed) hB hR hS hA (fun vv h5 H locs hq hEh5 hR hS => ?_) (fun XX ax h5 H locs hq hEh5 hex hR hS => ?_)
  · obtain ⟨rfl, hw⟩ := hq
    have hw := hw hEh5
    have hE := hE.tr hEh5
    refine W.eq (g2 := F0 m 273 ls []) rfl ?_
    refine lv_goto (tgt := 125) hx hb (xb_d D_M_run 150 rfl) rfl ?_
    exact hK125 x0 h5 hw p e s m args below meth c hC H locs ls k n hE (lv_sub hl [0] rfl) hR hS (by omega) (by omega)
  · exact False.elim hq

set_option maxHeartbeats 4000000 in
set_option maxRecDepth 100000 in
theorem am_M_run_L201 (l : Launch) (hfl : l.flags = pinnedFlags ++ [noTraceFlag]) (D : va_G) (A : Nat → Prop) (σ MC MS : Nat) (h0 : xb_H) (Qr : Int32 → xb_H → Prop) (K125 : Nat → xb_H → Prop) (hK125 : ∀ (x0 : Nat) (h : xb_H), K125 x0 h → xb_am l D A σ 13 MC MS h0 (fun v h => ∃ r, v = some (.int r) ∧ Qr r h) (fun _ _ => False) y_M_run.cls y_M_run.name b_M_run 6 ([] : List ExceptionTableEntry) (some .int) 125 [(0, .ref x0)] [] h 0 0) (x0 : Nat) (x2 : Int32) (x3 : Int32) (x4 : Int32) (x5 : Int32) (h : xb_H) (hw : w_M_run_L201 K125 Qr x0 x2 x3 x4 x5 h) : xb_am l D A σ 13 MC MS h0 (fun v h => ∃ r, v = some (.int r) ∧ Qr r h) (fun _ _ => False) y_M_run.cls y_M_run.name b_M_run 6 ([] : List ExceptionTableEntry) (some .int) 201 [(0, .ref x0), (2, .int x2), (3, .int x3), (4, .int x4), (5, .int x5)] [] h 0 0 := by
  unfold w_M_run_L201 at hw
  intro p e s m args below meth c hC H locs ls k n hE hl hR hS hk hn
  obtain ⟨hx, hb, hown, hlocks, htab, hml, hr, hB, hA, hnm⟩ := id hC
  have hts := hB.1.1.at args
  refine lv_aload_n hx hb (xb_d D_M_run 109 rfl) rfl (lv_at hl 0 rfl) ?_
  refine lv_iconst (v := 0) hx hb (xb_d D_M_run 110 rfl) (by decide) ?_
  obtain ⟨hk1, hw⟩ := hw
  refine xb_putI (C := R_M) (T := F_M) (N := 97) (ty := .boolean) (x := 0) hx hb 8 94 hts fin_M t_M t_M_ok n_M hown hR hS hk1 (by decide) rfl (by decide) rfl (hts _ m_8158dce5) (fun _ h9 => h9) rfl (by decide +kernel) (by decide) (by decide) (xb_d D_M_run 111 rfl) (fun H locs hR hS => ?_)
  obtain ⟨h2, eh2⟩ : ∃ x : xb_H, x = xb_I h x0 94 0 := ⟨_, rfl⟩
  rw [← eh2] at hR
  have hw := hw h2 eh2
  have hE : xb_ext h0 h2 := by rw [eh2]; exact hE
  refine lv_aload_n hx hb (xb_d D_M_run 112 rfl) rfl (lv_at hl 0 rfl) ?_
  refine lv_aload_n hx hb (xb_d D_M_run 113 rfl) rfl (lv_at hl 0 rfl) ?_
  have hk1 : xb_k h2 x0 = 9 := by rw [eh2]; exact hk1
  refine xb_getP (C := R_M) (T := F_M) (N := 97) hx hb 8 31 hts fin_M hown hR hk1 (by decide) rfl (by decide) rfl (hts _ m_691d5f47) (fun _ h9 => h9) (xb_d D_M_run 114 rfl) ?_
  obtain ⟨b3, eb3, hw⟩ := hw
  refine xb_some eb3 ?_
  refine lv_aload_n hx hb (xb_d D_M_run 115 rfl) rfl (lv_at hl 0 rfl) ?_
  refine xb_getP (C := R_M) (T := F_M) (N := 97) hx hb 8 44 hts fin_M hown hR hk1 (by decide) rfl (by decide) rfl (hts _ m_ad0cc5a3) (fun _ h9 => h9) (xb_d D_M_run 116 rfl) ?_
  obtain ⟨b4, eb4, hw⟩ := hw
  refine xb_some eb4 ?_
  refine lv_iload_n hx hb (xb_d D_M_run 117 rfl) rfl (lv_at hl 2 rfl) ?_
  obtain ⟨hk6, hw⟩ := hw
  obtain ⟨hi5, hw⟩ := hw
  refine xb_iald hx hb hR hk6 hi5 (xb_d D_M_run 118 rfl) ?_
  obtain ⟨hk8, hw⟩ := hw
  obtain ⟨hi7, hw⟩ := hw
  refine xb_iald hx hb hR hk8 hi7 (xb_d D_M_run 119 rfl) ?_
  refine lv_iload hx hb (xb_d D_M_run 120 rfl) (lv_at hl 3 rfl) ?_
  refine lv_iconst (v := 1) hx hb (xb_d D_M_run 121 rfl) (by decide) ?_
  refine lv_iadd hx hb (xb_d D_M_run 122 rfl) ?_
  refine xb_call (D := D) (A := A) (σ := σ) (h := h2) (d := 2) (mc := 0) (ms := 0) (maxL := 3) (rest := []) (av := [.ref x0, .int (xb_i h2 b3 (Int32.toNatClampNeg (xb_i h2 b4 (Int32.toNatClampNeg x3)))), .int (x4 + 1)]) (fun T hT X => by obtain ⟨cb, r1, r2, r3⟩ := xb_recv (ci := 8) hR rfl hk1 (by decide); exact xt_invV X hx hown (hts _ m_bb531879) (hts _ m_4a6cd4a0) (hts _ m_d1c31e3c) (xt_sigOf (hts _ m_48217fba)) nm_M_go (by rw [hT]; exact r1) r2 r3 (g := F0 m 222 ls [.int (x4 + 1), .int (xb_i h2 b3 (Int32.toNatClampNeg (xb_i h2 b4 (Int32.toNatClampNeg x3)))), .ref x0]) rfl (argsL := [.int (xb_i h2 b3 (Int32.toNatClampNeg (xb_i h2 b4 (Int32.toNatClampNeg x3)))), .int (x4 + 1)]) (rest := []) rfl rfl (by rw [hb]; exact (xb_d D_M_run 123 rfl))) (ok_M_go l hfl D A σ x0 (xb_i h2 b3 (Int32.toNatClampNeg (xb_i h2 b4 (Int32.toNatClampNeg x3)))) (x4 + 1) h2 _ hw) (hml.trans hl.1.symm) (by rw [hb]; exact (xb_d D_M_run 123 rfl)) (Nat.le_of_ble_eq_true rfl) (Nat.le_of_ble_eq_true rfl) (Nat.le_of_ble_eq_true rfl) (show k + 0 ≤ MC by omega) (show n + 0 ≤ MS by omega) (xt_w1 hB.1 m_48217fba) (xt_cdOf hB.1 m_48217fba) (hts _ m_d5ed7bed) hB hR hS hA (fun vv h9 H locs hq hEh9 hR hS => ?_) (fun XX ax h9 H locs hq hEh9 hex hR hS => ?_)
  · obtain ⟨rfl, hw⟩ := hq
    have hw := hw hEh9
    have hE := hE.tr hEh9
    refine W.eq (g2 := F0 m 225 ls []) rfl ?_
    refine lv_aload_n hx hb (xb_d D_M_run 124 rfl) rfl (lv_at hl 0 rfl) ?_
    refine lv_iload_n hx hb (xb_d D_M_run 125 rfl) rfl (lv_at hl 1 rfl) ?_
    refine lv_aload_n hx hb (xb_d D_M_run 126 rfl) rfl (lv_at hl 0 rfl) ?_
    have hk1 : xb_k h9 x0 = 9 := hEh9.k hk1
    refine xb_getP (C := R_M) (T := F_M) (N := 97) hx hb 8 44 hts fin_M hown hR hk1 (by decide) rfl (by decide) rfl (hts _ m_ad0cc5a3) (fun _ h9 => h9) (xb_d D_M_run 127 rfl) ?_
    obtain ⟨b11, eb11, hw⟩ := hw
    refine xb_some eb11 ?_
    refine lv_iload_n hx hb (xb_d D_M_run 128 rfl) rfl (lv_at hl 2 rfl) ?_
    obtain ⟨hk13, hw⟩ := hw
    obtain ⟨hi12, hw⟩ := hw
    refine xb_iald hx hb hR hk13 hi12 (xb_d D_M_run 129 rfl) ?_
    refine lv_iload hx hb (xb_d D_M_run 130 rfl) (lv_at hl 4 rfl) ?_
    refine xb_call (D := D) (A := A) (σ := σ) (h := h9) (d := 12) (mc := 0) (ms := 0) (maxL := 4) (rest := []) (av := [.ref x0, .int x2, .int (xb_i h9 b11 (Int32.toNatClampNeg x3)), .int x5]) (fun T hT X => by obtain ⟨cb, r1, r2, r3⟩ := xb_recv (ci := 8) hR rfl hk1 (by decide); exact xt_invV X hx hown (hts _ m_f54dca07) (hts _ m_95242c6f) (hts _ m_b32954d3) (xt_sigOf (hts _ m_8c4389a7)) nm_M_perform (by rw [hT]; exact r1) r2 r3 (g := F0 m 235 ls [.int x5, .int (xb_i h9 b11 (Int32.toNatClampNeg x3)), .int x2, .ref x0]) rfl (argsL := [.int x2, .int (xb_i h9 b11 (Int32.toNatClampNeg x3)), .int x5]) (rest := []) rfl rfl (by rw [hb]; exact (xb_d D_M_run 131 rfl))) (ok_M_perform l hfl D A σ x0 x2 (xb_i h9 b11 (Int32.toNatClampNeg x3)) x5 h9 _ hw) (hml.trans hl.1.symm) (by rw [hb]; exact (xb_d D_M_run 131 rfl)) (Nat.le_of_ble_eq_true rfl) (Nat.le_of_ble_eq_true rfl) (Nat.le_of_ble_eq_true rfl) (show k + 0 ≤ MC by omega) (show n + 0 ≤ MS by omega) (xt_w1 hB.1 m_8c4389a7) (xt_cdOf hB.1 m_8c4389a7) (hts _ m_d5ed7bed) hB hR hS hA (fun vv h14 H locs hq hEh14 hR hS => ?_) (fun XX ax h14 H locs hq hEh14 hex hR hS => ?_)
    · obtain ⟨rfl, hw⟩ := hq
      have hw := hw hEh14
      have hE := hE.tr hEh14
      refine W.eq (g2 := F0 m 238 ls []) rfl ?_
      refine lv_aload_n hx hb (xb_d D_M_run 132 rfl) rfl (lv_at hl 0 rfl) ?_
      refine lv_aload_n hx hb (xb_d D_M_run 133 rfl) rfl (lv_at hl 0 rfl) ?_
      have hk1 : xb_k h14 x0 = 9 := hEh14.k hk1
      refine xb_getI (C := R_M) (T := F_M) (N := 97) hx hb 8 94 hts fin_M hown hR hk1 (by decide) rfl (by decide) rfl (hts _ m_8158dce5) (fun _ h9 => h9) (xb_d D_M_run 134 rfl) ?_
      refine lv_if_eq (tgt := 255) hx hb (xb_d D_M_run 135 rfl) rfl (fun hc16 => ?_) (fun hc16 => ?_)
      · have hw := hw.1 hc16
        refine lv_aload_n hx hb (xb_d D_M_run 141 rfl) rfl (lv_at hl 0 rfl) ?_
        refine xb_getI (C := R_M) (T := F_M) (N := 97) hx hb 8 84 hts fin_M hown hR hk1 (by decide) rfl (by decide) rfl (hts _ m_c9799996) (fun _ h9 => h9) (xb_d D_M_run 142 rfl) ?_
        exact am_M_run_L259 l hfl D A σ MC MS h0 Qr K125 hK125 x0 x4 (xb_i h14 x0 84) x0 h14 hw p e s m args below meth c hC H locs ls k n hE (lv_sub hl [0, 3] rfl) hR hS (by omega) (by omega)
      · have hw := hw.2 hc16
        refine lv_aload_n hx hb (xb_d D_M_run 136 rfl) rfl (lv_at hl 0 rfl) ?_
        refine xb_getI (C := R_M) (T := F_M) (N := 97) hx hb 8 84 hts fin_M hown hR hk1 (by decide) rfl (by decide) rfl (hts _ m_c9799996) (fun _ h9 => h9) (xb_d D_M_run 137 rfl) ?_
        refine lv_iconst (v := 1) hx hb (xb_d D_M_run 138 rfl) (by decide) ?_
        refine lv_iadd hx hb (xb_d D_M_run 139 rfl) ?_
        refine lv_goto (tgt := 259) hx hb (xb_d D_M_run 140 rfl) rfl ?_
        exact am_M_run_L259 l hfl D A σ MC MS h0 Qr K125 hK125 x0 x4 ((xb_i h14 x0 84) + 1) x0 h14 hw p e s m args below meth c hC H locs ls k n hE (lv_sub hl [0, 3] rfl) hR hS (by omega) (by omega)
    · exact False.elim hq
  · exact False.elim hq

set_option maxHeartbeats 4000000 in
set_option maxRecDepth 100000 in
theorem am_M_run_L125 (l : Launch) (hfl : l.flags = pinnedFlags ++ [noTraceFlag]) (D : va_G) (A : Nat → Prop) (σ MC MS : Nat) (h0 : xb_H) (Qr : Int32 → xb_H → Prop) (n9 : Nat) : ∀ (x0 : Nat) (h : xb_H), w_M_run_L125 Qr n9 x0 h → xb_am l D A σ 13 MC MS h0 (fun v h => ∃ r, v = some (.int r) ∧ Qr r h) (fun _ _ => False) y_M_run.cls y_M_run.name b_M_run 6 ([] : List ExceptionTableEntry) (some .int) 125 [(0, .ref x0)] [] h 0 0 := by
  induction n9 with
  | zero => intro x0 h hw; exact False.elim hw
  | succ n9 ih =>
    intro x0 h hw
    unfold w_M_run_L125 at hw
    intro p e s m args below meth c hC H locs ls k n hE hl hR hS hk hn
    obtain ⟨hx, hb, hown, hlocks, htab, hml, hr, hB, hA, hnm⟩ := id hC
    have hts := hB.1.1.at args
    refine lv_aload_n hx hb (xb_d D_M_run 67 rfl) rfl (lv_at hl 0 rfl) ?_
    obtain ⟨hk1, hw⟩ := hw
    refine xb_getI (C := R_M) (T := F_M) (N := 97) hx hb 8 68 hts fin_M hown hR hk1 (by decide) rfl (by decide) rfl (hts _ m_11712ae1) (fun _ h9 => h9) (xb_d D_M_run 68 rfl) ?_
    refine lv_if_le (tgt := 276) hx hb (xb_d D_M_run 69 rfl) rfl (fun hc2 => ?_) (fun hc2 => ?_)
    · have hw := hw.1 hc2
      exact am_M_run_L276 l hfl D A σ MC MS h0 Qr x0 h hw p e s m args below meth c hC H locs ls k n hE (lv_sub hl [0] rfl) hR hS (by omega) (by omega)
    · have hw := hw.2 hc2
      refine lv_aload_n hx hb (xb_d D_M_run 70 rfl) rfl (lv_at hl 0 rfl) ?_
      refine xb_getI (C := R_M) (T := F_M) (N := 97) hx hb 8 82 hts fin_M hown hR hk1 (by decide) rfl (by decide) rfl (hts _ m_ad343437) (fun _ h9 => h9) (xb_d D_M_run 71 rfl) ?_
      refine lv_if_ne (tgt := 276) hx hb (xb_d D_M_run 72 rfl) rfl (fun hc3 => ?_) (fun hc3 => ?_)
      · have hw := hw.1 hc3
        exact am_M_run_L276 l hfl D A σ MC MS h0 Qr x0 h hw p e s m args below meth c hC H locs ls k n hE (lv_sub hl [0] rfl) hR hS (by omega) (by omega)
      · have hw := hw.2 hc3
        refine lv_aload_n hx hb (xb_d D_M_run 73 rfl) rfl (lv_at hl 0 rfl) ?_
        refine xb_getI (C := R_M) (T := F_M) (N := 97) hx hb 8 68 hts fin_M hown hR hk1 (by decide) rfl (by decide) rfl (hts _ m_11712ae1) (fun _ h9 => h9) (xb_d D_M_run 74 rfl) ?_
        refine lv_iconst (v := 1) hx hb (xb_d D_M_run 75 rfl) (by decide) ?_
        refine lv_isub hx hb (xb_d D_M_run 76 rfl) ?_
        obtain ⟨v4, ev4⟩ : ∃ x : Int32, x = ((xb_i h x0 68) - 1) := ⟨_, rfl⟩
        have hw := hw v4 ev4
        refine xt_numi (y := v4) ev4.symm ?_
        refine lv_istore_n hx hb (xb_d D_M_run 77 rfl) rfl hl (by decide) rfl (fun ls hl => ?_)
        have hl : lv_has ls 6 [(2, .int v4), (0, .ref x0)] := hl
        refine lv_aload_n hx hb (xb_d D_M_run 78 rfl) rfl (lv_at hl 1 rfl) ?_
        refine xb_getP (C := R_M) (T := F_M) (N := 97) hx hb 8 69 hts fin_M hown hR hk1 (by decide) rfl (by decide) rfl (hts _ m_70e943ac) (fun _ h9 => h9) (xb_d D_M_run 79 rfl) ?_
        obtain ⟨b5, eb5, hw⟩ := hw
        refine xb_some eb5 ?_
        refine lv_iload_n hx hb (xb_d D_M_run 80 rfl) rfl (lv_at hl 0 rfl) ?_
        obtain ⟨hk7, hw⟩ := hw
        obtain ⟨hi6, hw⟩ := hw
        refine xb_iald hx hb hR hk7 hi6 (xb_d D_M_run 81 rfl) ?_
        obtain ⟨v8, ev8⟩ : ∃ x : Int32, x = (xb_i h b5 (Int32.toNatClampNeg v4)) := ⟨_, rfl⟩
        have hw := hw v8 ev8
        refine xt_numi (y := v8) ev8.symm ?_
        refine lv_istore_n hx hb (xb_d D_M_run 82 rfl) rfl hl (by decide) rfl (fun ls hl => ?_)
        have hl : lv_has ls 6 [(3, .int v8), (2, .int v4), (0, .ref x0)] := hl
        refine lv_aload_n hx hb (xb_d D_M_run 83 rfl) rfl (lv_at hl 2 rfl) ?_
        refine xb_getP (C := R_M) (T := F_M) (N := 97) hx hb 8 70 hts fin_M hown hR hk1 (by decide) rfl (by decide) rfl (hts _ m_ab98e9c9) (fun _ h9 => h9) (xb_d D_M_run 84 rfl) ?_
        obtain ⟨b9, eb9, hw⟩ := hw
        refine xb_some eb9 ?_
        refine lv_iload_n hx hb (xb_d D_M_run 85 rfl) rfl (lv_at hl 1 rfl) ?_
        obtain ⟨hk11, hw⟩ := hw
        obtain ⟨hi10, hw⟩ := hw
        refine xb_iald hx hb hR hk11 hi10 (xb_d D_M_run 86 rfl) ?_
        obtain ⟨v12, ev12⟩ : ∃ x : Int32, x = (xb_i h b9 (Int32.toNatClampNeg v4)) := ⟨_, rfl⟩
        have hw := hw v12 ev12
        refine xt_numi (y := v12) ev12.symm ?_
        refine lv_istore hx hb (xb_d D_M_run 87 rfl) hl (by decide) rfl (fun ls hl => ?_)
        have hl : lv_has ls 6 [(4, .int v12), (3, .int v8), (2, .int v4), (0, .ref x0)] := hl
        refine lv_aload_n hx hb (xb_d D_M_run 88 rfl) rfl (lv_at hl 3 rfl) ?_
        refine xb_getP (C := R_M) (T := F_M) (N := 97) hx hb 8 3 hts fin_M hown hR hk1 (by decide) rfl (by decide) rfl (hts _ m_4f0568af) (fun _ h9 => h9) (xb_d D_M_run 89 rfl) ?_
        obtain ⟨b13, eb13, hw⟩ := hw
        refine xb_some eb13 ?_
        refine lv_iload hx hb (xb_d D_M_run 90 rfl) (lv_at hl 0 rfl) ?_
        obtain ⟨hk15, hw⟩ := hw
        obtain ⟨hi14, hw⟩ := hw
        refine xb_bald hx hb hR hk15 hi14 (xb_d D_M_run 91 rfl) ?_
        refine lv_sipush (v := 255) hx hb (xb_d D_M_run 92 rfl) (by decide) ?_
        refine lv_iand hx hb (xb_d D_M_run 93 rfl) ?_
        obtain ⟨v16, ev16⟩ : ∃ x : Int32, x = ((xb_i h b13 (Int32.toNatClampNeg v12)) &&& 255) := ⟨_, rfl⟩
        have hw := hw v16 ev16
        refine xt_numi (y := v16) ev16.symm ?_
        refine lv_istore hx hb (xb_d D_M_run 94 rfl) hl (by decide) rfl (fun ls hl => ?_)
        have hl : lv_has ls 6 [(5, .int v16), (4, .int v12), (3, .int v8), (2, .int v4), (0, .ref x0)] := hl
        refine lv_iload hx hb (xb_d D_M_run 95 rfl) (lv_at hl 0 rfl) ?_
        refine xb_call (D := D) (A := A) (σ := σ) (h := h) (d := 2) (mc := 0) (ms := 0) (maxL := 1) (rest := []) (av := [.int v16]) (fun T hT X => xt_invS X hx hown (hts _ m_3693198e) (hts _ m_903f0b9e) (hts _ m_d5ed7bed) (xt_sgS (hts _ m_b8fa3db2)).1 (xt_sgS (hts _ m_b8fa3db2)).2 nm_M_isStep (g := F0 m 176 ls [.int v16]) rfl (argsL := [.int v16]) (rest := []) rfl rfl (by rw [hb]; exact (xb_d D_M_run 96 rfl))) (ok_M_isStep l hfl D A σ v16 h _ hw) (hml.trans hl.1.symm) (by rw [hb]; exact (xb_d D_M_run 96 rfl)) (Nat.le_of_ble_eq_true rfl) (Nat.le_of_ble_eq_true rfl) (Nat.le_of_ble_eq_true rfl) (show k + 0 ≤ MC by omega) (show n + 0 ≤ MS by omega) (xt_w1 hB.1 m_b8fa3db2) (xt_cdOf hB.1 m_b8fa3db2) (hts _ m_d5ed7bed) hB hR hS hA (fun vv h17 H locs hq hEh17 hR hS => ?_) (fun XX ax h17 H locs hq hEh17 hex hR hS => ?_)
        · obtain ⟨r18, rfl, hw⟩ := hq
          have hw := hw hEh17
          have hE := hE.tr hEh17
          refine W.eq (g2 := F0 m 179 ls [.int r18]) rfl ?_
          refine lv_if_eq (tgt := 201) hx hb (xb_d D_M_run 97 rfl) rfl (fun hc19 => ?_) (fun hc19 => ?_)
          · have hw := hw.1 hc19
            exact am_M_run_L201 l hfl D A σ MC MS h0 Qr (w_M_run_L125 Qr n9) ih x0 v4 v8 v12 v16 h17 hw p e s m args below meth c hC H locs ls k n hE (lv_sub hl [4, 3, 2, 1, 0] rfl) hR hS (by omega) (by omega)
          · have hw := hw.2 hc19
            refine lv_aload_n hx hb (xb_d D_M_run 98 rfl) rfl (lv_at hl 4 rfl) ?_
            have hk1 : xb_k h17 x0 = 9 := hEh17.k hk1
            refine xb_getI (C := R_M) (T := F_M) (N := 97) hx hb 8 95 hts fin_M hown hR hk1 (by decide) rfl (by decide) rfl (hts _ m_66e4112d) (fun _ h9 => h9) (xb_d D_M_run 99 rfl) ?_
            refine lv_if_ne (tgt := 191) hx hb (xb_d D_M_run 100 rfl) rfl (fun hc20 => ?_) (fun hc20 => ?_)
            · have hw := hw.1 hc20
              refine lv_aload_n hx hb (xb_d D_M_run 103 rfl) rfl (lv_at hl 4 rfl) ?_
              refine lv_dup hx hb (xb_d D_M_run 104 rfl) rfl ?_
              refine xb_getI (C := R_M) (T := F_M) (N := 97) hx hb 8 95 hts fin_M hown hR hk1 (by decide) rfl (by decide) rfl (hts _ m_66e4112d) (fun _ h9 => h9) (xb_d D_M_run 105 rfl) ?_
              refine lv_iconst (v := 1) hx hb (xb_d D_M_run 106 rfl) (by decide) ?_
              refine lv_isub hx hb (xb_d D_M_run 107 rfl) ?_
              refine xb_putI (C := R_M) (T := F_M) (N := 97) (ty := .int) (x := ((xb_i h17 x0 95) - 1)) hx hb 8 95 hts fin_M t_M t_M_ok n_M hown hR hS hk1 (by decide) rfl (by decide) rfl (hts _ m_66e4112d) (fun _ h9 => h9) rfl (by decide +kernel) rfl rfl (xb_d D_M_run 108 rfl) (fun H locs hR hS => ?_)
              obtain ⟨h21, eh21⟩ : ∃ x : xb_H, x = xb_I h17 x0 95 ((xb_i h17 x0 95) - 1) := ⟨_, rfl⟩
              rw [← eh21] at hR
              have hw := hw h21 eh21
              have hE : xb_ext h0 h21 := by rw [eh21]; exact hE
              exact am_M_run_L201 l hfl D A σ MC MS h0 Qr (w_M_run_L125 Qr n9) ih x0 v4 v8 v12 v16 h21 hw p e s m args below meth c hC H locs ls k n hE (lv_sub hl [4, 3, 2, 1, 0] rfl) hR hS (by omega) (by omega)
            · have hw := hw.2 hc20
              refine lv_iconst (v := 2) hx hb (xb_d D_M_run 101 rfl) (by decide) ?_
              exact xb_iret hx hb hr hlocks (show k ≤ MC by omega) (show n ≤ MS by omega) hE hR hS (xb_d D_M_run 102 rfl) hw
        · exact False.elim hq

set_option maxHeartbeats 4000000 in
set_option maxRecDepth 100000 in
theorem am_M_run_L79 (l : Launch) (hfl : l.flags = pinnedFlags ++ [noTraceFlag]) (D : va_G) (A : Nat → Prop) (σ MC MS : Nat) (h0 : xb_H) (Qr : Int32 → xb_H → Prop) (n9 : Nat) : ∀ (x0 : Nat) (x2 : Int32) (h : xb_H), w_M_run_L79 Qr n9 x0 x2 h → xb_am l D A σ 13 MC MS h0 (fun v h => ∃ r, v = some (.int r) ∧ Qr r h) (fun _ _ => False) y_M_run.cls y_M_run.name b_M_run 6 ([] : List ExceptionTableEntry) (some .int) 79 [(0, .ref x0), (2, .int x2)] [] h 0 0 := by
  induction n9 with
  | zero => intro x0 x2 h hw; exact False.elim hw
  | succ n9 ih =>
    intro x0 x2 h hw
    unfold w_M_run_L79 at hw
    intro p e s m args below meth c hC H locs ls k n hE hl hR hS hk hn
    obtain ⟨hx, hb, hown, hlocks, htab, hml, hr, hB, hA, hnm⟩ := id hC
    have hts := hB.1.1.at args
    refine lv_iload_n hx hb (xb_d D_M_run 43 rfl) rfl (lv_at hl 1 rfl) ?_
    refine lv_aload_n hx hb (xb_d D_M_run 44 rfl) rfl (lv_at hl 0 rfl) ?_
    obtain ⟨hk1, hw⟩ := hw
    refine xb_getI (C := R_M) (T := F_M) (N := 97) hx hb 8 93 hts fin_M hown hR hk1 (by decide) rfl (by decide) rfl (hts _ m_2f4a9320) (fun _ h9 => h9) (xb_d D_M_run 45 rfl) ?_
    refine lv_icmp_ge (tgt := 112) hx hb (xb_d D_M_run 46 rfl) rfl (fun hc2 => ?_) (fun hc2 => ?_)
    · have hw := hw.1 hc2
      refine lv_aload_n hx hb (xb_d D_M_run 60 rfl) rfl (lv_at hl 0 rfl) ?_
      refine lv_aload_n hx hb (xb_d D_M_run 61 rfl) rfl (lv_at hl 0 rfl) ?_
      refine xb_getI (C := R_M) (T := F_M) (N := 97) hx hb 8 64 hts fin_M hown hR hk1 (by decide) rfl (by decide) rfl (hts _ m_df1b4df4) (fun _ h9 => h9) (xb_d D_M_run 62 rfl) ?_
      refine xb_call (D := D) (A := A) (σ := σ) (h := h) (d := 10) (mc := 0) (ms := 0) (maxL := 10) (rest := []) (av := [.ref x0, .int (xb_i h x0 64)]) (fun T hT X => by obtain ⟨cb, r1, r2, r3⟩ := xb_recv (ci := 8) hR rfl hk1 (by decide); exact xt_invV X hx hown (hts _ m_126cb4c9) (hts _ m_811b7936) (hts _ m_879535a0) (xt_sigOf (hts _ m_650a8028)) nm_M_call (by rw [hT]; exact r1) r2 r3 (g := F0 m 117 ls [.int (xb_i h x0 64), .ref x0]) rfl (argsL := [.int (xb_i h x0 64)]) (rest := []) rfl rfl (by rw [hb]; exact (xb_d D_M_run 63 rfl))) (ok_M_call l hfl D A σ x0 (xb_i h x0 64) h _ hw) (hml.trans hl.1.symm) (by rw [hb]; exact (xb_d D_M_run 63 rfl)) (Nat.le_of_ble_eq_true rfl) (Nat.le_of_ble_eq_true rfl) (Nat.le_of_ble_eq_true rfl) (show k + 0 ≤ MC by omega) (show n + 0 ≤ MS by omega) (xt_w1 hB.1 m_650a8028) (xt_cdOf hB.1 m_650a8028) (hts _ m_d5ed7bed) hB hR hS hA (fun vv h3 H locs hq hEh3 hR hS => ?_) (fun XX ax h3 H locs hq hEh3 hex hR hS => ?_)
      · obtain ⟨rfl, hw⟩ := hq
        have hw := hw hEh3
        have hE := hE.tr hEh3
        refine W.eq (g2 := F0 m 120 ls []) rfl ?_
        refine lv_aload_n hx hb (xb_d D_M_run 64 rfl) rfl (lv_at hl 0 rfl) ?_
        refine lv_iconst (v := (-1)) hx hb (xb_d D_M_run 65 rfl) (by decide) ?_
        have hk1 : xb_k h3 x0 = 9 := hEh3.k hk1
        refine xb_call (D := D) (A := A) (σ := σ) (h := h3) (d := 2) (mc := 0) (ms := 0) (maxL := 4) (rest := []) (av := [.ref x0, .int (-1)]) (fun T hT X => by obtain ⟨cb, r1, r2, r3⟩ := xb_recv (ci := 8) hR rfl hk1 (by decide); exact xt_invV X hx hown (hts _ m_b2be0bfe) (hts _ m_6a8933b7) (hts _ m_80932e6d) (xt_sigOf (hts _ m_cffcb64f)) nm_M_noteTrap (by rw [hT]; exact r1) r2 r3 (g := F0 m 122 ls [.int (-1), .ref x0]) rfl (argsL := [.int (-1)]) (rest := []) rfl rfl (by rw [hb]; exact (xb_d D_M_run 66 rfl))) (ok_M_noteTrap l hfl D A σ x0 (-1) h3 _ hw) (hml.trans hl.1.symm) (by rw [hb]; exact (xb_d D_M_run 66 rfl)) (Nat.le_of_ble_eq_true rfl) (Nat.le_of_ble_eq_true rfl) (Nat.le_of_ble_eq_true rfl) (show k + 0 ≤ MC by omega) (show n + 0 ≤ MS by omega) (xt_w1 hB.1 m_cffcb64f) (xt_cdOf hB.1 m_cffcb64f) (hts _ m_d5ed7bed) hB hR hS hA (fun vv h5 H locs hq hEh5 hR hS => ?_) (fun XX ax h5 H locs hq hEh5 hex hR hS => ?_)
        · obtain ⟨rfl, hw⟩ := hq
          have hw := hw hEh5
          have hE := hE.tr hEh5
          refine W.eq (g2 := F0 m 125 ls []) rfl ?_
          obtain ⟨n8, hw⟩ := hw
          exact am_M_run_L125 l hfl D A σ MC MS h0 Qr n8 x0 h5 hw p e s m args below meth c hC H locs ls k n hE (lv_sub hl [0] rfl) hR hS (by omega) (by omega)
        · exact False.elim hq
      · exact False.elim hq
    · have hw := hw.2 hc2
      refine lv_aload_n hx hb (xb_d D_M_run 47 rfl) rfl (lv_at hl 0 rfl) ?_
      refine lv_aload_n hx hb (xb_d D_M_run 48 rfl) rfl (lv_at hl 0 rfl) ?_
      refine xb_getP (C := R_M) (T := F_M) (N := 97) hx hb 8 67 hts fin_M hown hR hk1 (by decide) rfl (by decide) rfl (hts _ m_8147510a) (fun _ h9 => h9) (xb_d D_M_run 49 rfl) ?_
      obtain ⟨b7, eb7, hw⟩ := hw
      refine xb_some eb7 ?_
      refine lv_iload_n hx hb (xb_d D_M_run 50 rfl) rfl (lv_at hl 1 rfl) ?_
      obtain ⟨hk9, hw⟩ := hw
      obtain ⟨hi8, hw⟩ := hw
      refine xb_lald hx hb hR hk9 hi8 (xb_d D_M_run 51 rfl) ?_
      refine lv_aload_n hx hb (xb_d D_M_run 52 rfl) rfl (lv_at hl 0 rfl) ?_
      refine lv_aload_n hx hb (xb_d D_M_run 53 rfl) rfl (lv_at hl 0 rfl) ?_
      refine xb_getI (C := R_M) (T := F_M) (N := 97) hx hb 8 64 hts fin_M hown hR hk1 (by decide) rfl (by decide) rfl (hts _ m_df1b4df4) (fun _ h9 => h9) (xb_d D_M_run 54 rfl) ?_
      refine lv_iload_n hx hb (xb_d D_M_run 55 rfl) rfl (lv_at hl 1 rfl) ?_
      refine xb_call (D := D) (A := A) (σ := σ) (h := h) (d := 9) (mc := 0) (ms := 0) (maxL := 4) (rest := [.long (xb_l h b7 (Int32.toNatClampNeg x2)), .ref x0]) (av := [.ref x0, .int (xb_i h x0 64), .int x2]) (fun T hT X => by obtain ⟨cb, r1, r2, r3⟩ := xb_recv (ci := 8) hR rfl hk1 (by decide); exact xt_invV X hx hown (hts _ m_78f2aca1) (hts _ m_b10bc8fa) (hts _ m_7dc37ff6) (xt_sigOf (hts _ m_3a048bd5)) nm_M_parameterOf (by rw [hT]; exact r1) r2 r3 (g := F0 m 100 ls [.int x2, .int (xb_i h x0 64), .ref x0, .long (xb_l h b7 (Int32.toNatClampNeg x2)), .ref x0]) rfl (argsL := [.int (xb_i h x0 64), .int x2]) (rest := [.long (xb_l h b7 (Int32.toNatClampNeg x2)), .ref x0]) rfl rfl (by rw [hb]; exact (xb_d D_M_run 56 rfl))) (ok_M_parameterOf l hfl D A σ x0 (xb_i h x0 64) x2 h _ hw) (hml.trans hl.1.symm) (by rw [hb]; exact (xb_d D_M_run 56 rfl)) (Nat.le_of_ble_eq_true rfl) (Nat.le_of_ble_eq_true rfl) (Nat.le_of_ble_eq_true rfl) (show k + 0 ≤ MC by omega) (show n + 0 ≤ MS by omega) (xt_w1 hB.1 m_3a048bd5) (xt_cdOf hB.1 m_3a048bd5) (hts _ m_d5ed7bed) hB hR hS hA (fun vv h10 H locs hq hEh10 hR hS => ?_) (fun XX ax h10 H locs hq hEh10 hex hR hS => ?_)
      · obtain ⟨r11, rfl, hw⟩ := hq
        have hw := hw hEh10
        have hE := hE.tr hEh10
        refine W.eq (g2 := F0 m 103 ls [.int r11, .long (xb_l h b7 (Int32.toNatClampNeg x2)), .ref x0]) rfl ?_
        have hk1 : xb_k h10 x0 = 9 := hEh10.k hk1
        refine xb_call (D := D) (A := A) (σ := σ) (h := h10) (d := 2) (mc := 0) (ms := 0) (maxL := 4) (rest := []) (av := [.ref x0, .long (xb_l h b7 (Int32.toNatClampNeg x2)), .int r11]) (fun T hT X => by obtain ⟨cb, r1, r2, r3⟩ := xb_recv (ci := 8) hR rfl hk1 (by decide); exact xt_invV X hx hown (hts _ m_1dd22d11) (hts _ m_e8ae1713) (hts _ m_973b740a) (xt_sigOf (hts _ m_a0d5a63e)) nm_M_add (by rw [hT]; exact r1) r2 r3 (g := F0 m 103 ls [.int r11, .long (xb_l h b7 (Int32.toNatClampNeg x2)), .ref x0]) rfl (argsL := [.long (xb_l h b7 (Int32.toNatClampNeg x2)), .int r11]) (rest := []) rfl rfl (by rw [hb]; exact (xb_d D_M_run 57 rfl))) (ok_M_add l hfl D A σ x0 (xb_l h b7 (Int32.toNatClampNeg x2)) r11 h10 _ hw) (hml.trans hl.1.symm) (by rw [hb]; exact (xb_d D_M_run 57 rfl)) (Nat.le_of_ble_eq_true rfl) (Nat.le_of_ble_eq_true rfl) (Nat.le_of_ble_eq_true rfl) (show k + 0 ≤ MC by omega) (show n + 0 ≤ MS by omega) (xt_w1 hB.1 m_a0d5a63e) (xt_cdOf hB.1 m_a0d5a63e) (hts _ m_d5ed7bed) hB hR hS hA (fun vv h12 H locs hq hEh12 hR hS => ?_) (fun XX ax h12 H locs hq hEh12 hex hR hS => ?_)
        · obtain ⟨rfl, hw⟩ := hq
          have hw := hw hEh12
          have hE := hE.tr hEh12
          refine W.eq (g2 := F0 m 106 ls []) rfl ?_
          refine lv_iinc (v := (x2 + 1)) (k := 1) hx hb (xb_d D_M_run 58 rfl) hl rfl (by first | rfl | decide) (by decide) rfl (fun ls hl => ?_)
          have hl : lv_has ls 6 [(2, .int (x2 + 1)), (0, .ref x0)] := hl
          refine lv_goto (tgt := 79) hx hb (xb_d D_M_run 59 rfl) rfl ?_
          exact ih x0 (x2 + 1) h12 hw p e s m args below meth c hC H locs ls k n hE (lv_sub hl [1, 0] rfl) hR hS (by omega) (by omega)
        · exact False.elim hq
      · exact False.elim hq

set_option maxHeartbeats 4000000 in
set_option maxRecDepth 100000 in
theorem am_M_run_L28 (l : Launch) (hfl : l.flags = pinnedFlags ++ [noTraceFlag]) (D : va_G) (A : Nat → Prop) (σ MC MS : Nat) (h0 : xb_H) (Qr : Int32 → xb_H → Prop) (x0 : Nat) (x1 : Int32) (y0 : Int32) (y1 : Nat) (h : xb_H) (hw : w_M_run_L28 Qr x0 x1 y0 y1 h) : xb_am l D A σ 13 MC MS h0 (fun v h => ∃ r, v = some (.int r) ∧ Qr r h) (fun _ _ => False) y_M_run.cls y_M_run.name b_M_run 6 ([] : List ExceptionTableEntry) (some .int) 28 [(0, .ref x0), (1, .int x1)] [.int y0, .ref y1] h 0 0 := by
  unfold w_M_run_L28 at hw
  intro p e s m args below meth c hC H locs ls k n hE hl hR hS hk hn
  obtain ⟨hx, hb, hown, hlocks, htab, hml, hr, hB, hA, hnm⟩ := id hC
  have hts := hB.1.1.at args
  obtain ⟨hk1, hw⟩ := hw
  refine xb_putI (C := R_M) (T := F_M) (N := 97) (ty := .int) (x := y0) hx hb 8 0 hts fin_M t_M t_M_ok n_M hown hR hS hk1 (by decide) rfl (by decide) rfl (hts _ m_afabd6a0) (fun _ h9 => h9) rfl (by decide +kernel) rfl rfl (xb_d D_M_run 14 rfl) (fun H locs hR hS => ?_)
  obtain ⟨h2, eh2⟩ : ∃ x : xb_H, x = xb_I h y1 0 y0 := ⟨_, rfl⟩
  rw [← eh2] at hR
  have hw := hw h2 eh2
  have hE : xb_ext h0 h2 := by rw [eh2]; exact hE
  refine lv_aload_n hx hb (xb_d D_M_run 15 rfl) rfl (lv_at hl 0 rfl) ?_
  obtain ⟨hk3, hw⟩ := hw
  refine xb_getI (C := R_M) (T := F_M) (N := 97) hx hb 8 0 hts fin_M hown hR hk3 (by decide) rfl (by decide) rfl (hts _ m_afabd6a0) (fun _ h9 => h9) (xb_d D_M_run 16 rfl) ?_
  refine lv_if_le (tgt := 40) hx hb (xb_d D_M_run 17 rfl) rfl (fun hc4 => ?_) (fun hc4 => ?_)
  · have hw := hw.1 hc4
    refine lv_aload_n hx hb (xb_d D_M_run 20 rfl) rfl (lv_at hl 0 rfl) ?_
    refine lv_iload_n hx hb (xb_d D_M_run 21 rfl) rfl (lv_at hl 1 rfl) ?_
    refine xb_putI (C := R_M) (T := F_M) (N := 97) (ty := .int) (x := x1) hx hb 8 95 hts fin_M t_M t_M_ok n_M hown hR hS hk3 (by decide) rfl (by decide) rfl (hts _ m_66e4112d) (fun _ h9 => h9) rfl (by decide +kernel) rfl rfl (xb_d D_M_run 22 rfl) (fun H locs hR hS => ?_)
    obtain ⟨h5, eh5⟩ : ∃ x : xb_H, x = xb_I h2 x0 95 x1 := ⟨_, rfl⟩
    rw [← eh5] at hR
    have hw := hw h5 eh5
    have hE : xb_ext h0 h5 := by rw [eh5]; exact hE
    refine lv_aload_n hx hb (xb_d D_M_run 23 rfl) rfl (lv_at hl 0 rfl) ?_
    have hk3 : xb_k h5 x0 = 9 := by rw [eh5]; exact hk3
    refine xb_getI (C := R_M) (T := F_M) (N := 97) hx hb 8 63 hts fin_M hown hR hk3 (by decide) rfl (by decide) rfl (hts _ m_f4296656) (fun _ h9 => h9) (xb_d D_M_run 24 rfl) ?_
    refine lv_if_ne (tgt := 125) hx hb (xb_d D_M_run 25 rfl) rfl (fun hc6 => ?_) (fun hc6 => ?_)
    · have hw := hw.1 hc6
      obtain ⟨n8, hw⟩ := hw
      exact am_M_run_L125 l hfl D A σ MC MS h0 Qr n8 x0 h5 hw p e s m args below meth c hC H locs ls k n hE (lv_sub hl [0] rfl) hR hS (by omega) (by omega)
    · have hw := hw.2 hc6
      refine lv_aload_n hx hb (xb_d D_M_run 26 rfl) rfl (lv_at hl 0 rfl) ?_
      refine lv_iconst (v := 1) hx hb (xb_d D_M_run 27 rfl) (by decide) ?_
      refine xb_putI (C := R_M) (T := F_M) (N := 97) (ty := .boolean) (x := 1) hx hb 8 63 hts fin_M t_M t_M_ok n_M hown hR hS hk3 (by decide) rfl (by decide) rfl (hts _ m_f4296656) (fun _ h9 => h9) rfl (by decide +kernel) (by decide) (by decide) (xb_d D_M_run 28 rfl) (fun H locs hR hS => ?_)
      obtain ⟨h7, eh7⟩ : ∃ x : xb_H, x = xb_I h5 x0 63 1 := ⟨_, rfl⟩
      rw [← eh7] at hR
      have hw := hw h7 eh7
      have hE : xb_ext h0 h7 := by rw [eh7]; exact hE
      refine lv_aload_n hx hb (xb_d D_M_run 29 rfl) rfl (lv_at hl 0 rfl) ?_
      refine lv_iconst (v := 0) hx hb (xb_d D_M_run 30 rfl) (by decide) ?_
      have hk3 : xb_k h7 x0 = 9 := by rw [eh7]; exact hk3
      refine xb_putI (C := R_M) (T := F_M) (N := 97) (ty := .int) (x := 0) hx hb 8 82 hts fin_M t_M t_M_ok n_M hown hR hS hk3 (by decide) rfl (by decide) rfl (hts _ m_ad343437) (fun _ h9 => h9) rfl (by decide +kernel) rfl rfl (xb_d D_M_run 31 rfl) (fun H locs hR hS => ?_)
      obtain ⟨h8, eh8⟩ : ∃ x : xb_H, x = xb_I h7 x0 82 0 := ⟨_, rfl⟩
      rw [← eh8] at hR
      have hw := hw h8 eh8
      have hE : xb_ext h0 h8 := by rw [eh8]; exact hE
      refine lv_aload_n hx hb (xb_d D_M_run 32 rfl) rfl (lv_at hl 0 rfl) ?_
      refine lv_iconst (v := 0) hx hb (xb_d D_M_run 33 rfl) (by decide) ?_
      have hk3 : xb_k h8 x0 = 9 := by rw [eh8]; exact hk3
      refine xb_putI (C := R_M) (T := F_M) (N := 97) (ty := .int) (x := 0) hx hb 8 76 hts fin_M t_M t_M_ok n_M hown hR hS hk3 (by decide) rfl (by decide) rfl (hts _ m_d6ddfcd8) (fun _ h9 => h9) rfl (by decide +kernel) rfl rfl (xb_d D_M_run 34 rfl) (fun H locs hR hS => ?_)
      obtain ⟨h9, eh9⟩ : ∃ x : xb_H, x = xb_I h8 x0 76 0 := ⟨_, rfl⟩
      rw [← eh9] at hR
      have hw := hw h9 eh9
      have hE : xb_ext h0 h9 := by rw [eh9]; exact hE
      refine lv_aload_n hx hb (xb_d D_M_run 35 rfl) rfl (lv_at hl 0 rfl) ?_
      refine lv_iconst (v := 0) hx hb (xb_d D_M_run 36 rfl) (by decide) ?_
      have hk3 : xb_k h9 x0 = 9 := by rw [eh9]; exact hk3
      refine xb_putI (C := R_M) (T := F_M) (N := 97) (ty := .int) (x := 0) hx hb 8 81 hts fin_M t_M t_M_ok n_M hown hR hS hk3 (by decide) rfl (by decide) rfl (hts _ m_65743087) (fun _ h9 => h9) rfl (by decide +kernel) rfl rfl (xb_d D_M_run 37 rfl) (fun H locs hR hS => ?_)
      obtain ⟨h10, eh10⟩ : ∃ x : xb_H, x = xb_I h9 x0 81 0 := ⟨_, rfl⟩
      rw [← eh10] at hR
      have hw := hw h10 eh10
      have hE : xb_ext h0 h10 := by rw [eh10]; exact hE
      refine lv_aload_n hx hb (xb_d D_M_run 38 rfl) rfl (lv_at hl 0 rfl) ?_
      refine lv_iconst (v := 0) hx hb (xb_d D_M_run 39 rfl) (by decide) ?_
      have hk3 : xb_k h10 x0 = 9 := by rw [eh10]; exact hk3
      refine xb_putI (C := R_M) (T := F_M) (N := 97) (ty := .int) (x := 0) hx hb 8 68 hts fin_M t_M t_M_ok n_M hown hR hS hk3 (by decide) rfl (by decide) rfl (hts _ m_11712ae1) (fun _ h9 => h9) rfl (by decide +kernel) rfl rfl (xb_d D_M_run 40 rfl) (fun H locs hR hS => ?_)
      obtain ⟨h11, eh11⟩ : ∃ x : xb_H, x = xb_I h10 x0 68 0 := ⟨_, rfl⟩
      rw [← eh11] at hR
      have hw := hw h11 eh11
      have hE : xb_ext h0 h11 := by rw [eh11]; exact hE
      refine lv_iconst (v := 0) hx hb (xb_d D_M_run 41 rfl) (by decide) ?_
      refine lv_istore_n hx hb (xb_d D_M_run 42 rfl) rfl hl (by decide) rfl (fun ls hl => ?_)
      have hl : lv_has ls 6 [(2, .int 0), (0, .ref x0), (1, .int x1)] := hl
      obtain ⟨n8, hw⟩ := hw
      exact am_M_run_L79 l hfl D A σ MC MS h0 Qr n8 x0 0 h11 hw p e s m args below meth c hC H locs ls k n hE (lv_sub hl [1, 0] rfl) hR hS (by omega) (by omega)
  · have hw := hw.2 hc4
    refine lv_iconst (v := 0) hx hb (xb_d D_M_run 18 rfl) (by decide) ?_
    exact xb_iret hx hb hr hlocks (show k ≤ MC by omega) (show n ≤ MS by omega) hE hR hS (xb_d D_M_run 19 rfl) hw

set_option maxHeartbeats 4000000 in
set_option maxRecDepth 100000 in
theorem am_M_run_L12 (l : Launch) (hfl : l.flags = pinnedFlags ++ [noTraceFlag]) (D : va_G) (A : Nat → Prop) (σ MC MS : Nat) (h0 : xb_H) (Qr : Int32 → xb_H → Prop) (x0 : Nat) (x1 : Int32) (y0 : Nat) (h : xb_H) (hw : w_M_run_L12 Qr x0 x1 y0 h) : xb_am l D A σ 13 MC MS h0 (fun v h => ∃ r, v = some (.int r) ∧ Qr r h) (fun _ _ => False) y_M_run.cls y_M_run.name b_M_run 6 ([] : List ExceptionTableEntry) (some .int) 12 [(0, .ref x0), (1, .int x1)] [.ref y0] h 0 0 := by
  unfold w_M_run_L12 at hw
  intro p e s m args below meth c hC H locs ls k n hE hl hR hS hk hn
  obtain ⟨hx, hb, hown, hlocks, htab, hml, hr, hB, hA, hnm⟩ := id hC
  have hts := hB.1.1.at args
  refine lv_iconst (v := 1) hx hb (xb_d D_M_run 6 rfl) (by decide) ?_
  refine lv_goto (tgt := 28) hx hb (xb_d D_M_run 7 rfl) rfl ?_
  exact am_M_run_L28 l hfl D A σ MC MS h0 Qr x0 x1 1 y0 h hw p e s m args below meth c hC H locs ls k n hE (lv_sub hl [0, 1] rfl) hR hS (by omega) (by omega)

set_option maxHeartbeats 4000000 in
set_option maxRecDepth 100000 in
theorem ok_M_run (l : Launch) (hfl : l.flags = pinnedFlags ++ [noTraceFlag]) (D : va_G) (A : Nat → Prop) (σ : Nat) (x0 : Nat) (x1 : Int32) (h : xb_H) (Qr : Int32 → xb_H → Prop) (hw : w_M_run x0 x1 h Qr) : xt_Met l y_M_run [.code y_M_run b_M_run 6 (some .int)] (xb_rm 13 0 0) (xb_Pc D A σ h [.ref x0, .int x1]) (xb_Qc D A h (fun v h => ∃ r, v = some (.int r) ∧ Qr r h) (fun _ _ => False)) 0 0 A := by
  refine xb_ofAm (cc := b_M_run) (by decide) (Nat.le_of_ble_eq_true rfl) ?_
  unfold w_M_run at hw
  show xb_am l D A σ 13 0 0 h (fun v h => ∃ r, v = some (.int r) ∧ Qr r h) (fun _ _ => False) y_M_run.cls y_M_run.name b_M_run 6 ([] : List ExceptionTableEntry) (some .int) 0 [(0, .ref x0), (1, .int x1)] [] h 0 0
  obtain ⟨MC, hMC⟩ : ∃ x, x = 0 := ⟨_, rfl⟩
  obtain ⟨MS, hMS⟩ : ∃ x, x = 0 := ⟨_, rfl⟩
  rw [show xb_am l D A σ 13 0 0 = xb_am l D A σ 13 MC MS by rw [hMC, hMS]]
  obtain ⟨h0, hh0⟩ : ∃ x, x = h := ⟨_, rfl⟩
  rw [show xb_am l D A σ 13 MC MS h = xb_am l D A σ 13 MC MS h0 by rw [hh0]]
  intro p e s m args below meth c hC H locs ls k n hE hl hR hS hk hn
  obtain ⟨hx, hb, hown, hlocks, htab, hml, hr, hB, hA, hnm⟩ := id hC
  have hts := hB.1.1.at args
  refine lv_aload_n hx hb (xb_d D_M_run 0 rfl) rfl (lv_at hl 0 rfl) ?_
  refine lv_iload_n hx hb (xb_d D_M_run 1 rfl) rfl (lv_at hl 1 rfl) ?_
  refine lv_if_lt (tgt := 12) hx hb (xb_d D_M_run 2 rfl) rfl (fun hc1 => ?_) (fun hc1 => ?_)
  · have hw := hw.1 hc1
    exact am_M_run_L12 l hfl D A σ MC MS h0 Qr x0 x1 x0 h hw p e s m args below meth c hC H locs ls k n hE (lv_sub hl [0, 1] rfl) hR hS (by omega) (by omega)
  · have hw := hw.2 hc1
    refine lv_iload_n hx hb (xb_d D_M_run 3 rfl) rfl (lv_at hl 1 rfl) ?_
    refine lv_ldcw (v := 1000000) hx hb hown (hts _ m_7dd00ccc) (xb_d D_M_run 4 rfl) ?_
    refine lv_icmp_le (tgt := 16) hx hb (xb_d D_M_run 5 rfl) rfl (fun hc2 => ?_) (fun hc2 => ?_)
    · have hw := hw.1 hc2
      refine lv_aload_n hx hb (xb_d D_M_run 8 rfl) rfl (lv_at hl 0 rfl) ?_
      obtain ⟨hk3, hw⟩ := hw
      refine xb_getI (C := R_M) (T := F_M) (N := 97) hx hb 8 62 hts fin_M hown hR hk3 (by decide) rfl (by decide) rfl (hts _ m_71a5ca12) (fun _ h9 => h9) (xb_d D_M_run 9 rfl) ?_
      refine lv_if_ne (tgt := 27) hx hb (xb_d D_M_run 10 rfl) rfl (fun hc4 => ?_) (fun hc4 => ?_)
      · have hw := hw.1 hc4
        refine lv_iconst (v := 0) hx hb (xb_d D_M_run 13 rfl) (by decide) ?_
        exact am_M_run_L28 l hfl D A σ MC MS h0 Qr x0 x1 0 x0 h hw p e s m args below meth c hC H locs ls k n hE (lv_sub hl [0, 1] rfl) hR hS (by omega) (by omega)
      · have hw := hw.2 hc4
        refine lv_iconst (v := 2) hx hb (xb_d D_M_run 11 rfl) (by decide) ?_
        refine lv_goto (tgt := 28) hx hb (xb_d D_M_run 12 rfl) rfl ?_
        exact am_M_run_L28 l hfl D A σ MC MS h0 Qr x0 x1 2 x0 h hw p e s m args below meth c hC H locs ls k n hE (lv_sub hl [0, 1] rfl) hR hS (by omega) (by omega)
    · have hw := hw.2 hc2
      exact am_M_run_L12 l hfl D A σ MC MS h0 Qr x0 x1 x0 h hw p e s m args below meth c hC H locs ls k n hE (lv_sub hl [0, 1] rfl) hR hS (by omega) (by omega)

theorem m_5cfef54b : (.methodLink "StackHostModel" 310 y_M_readModule : Cond) ∈ xt_tbl := xt_in (xt_t10 (List.mem_of_getElem? (i := 206) (by decide +kernel))) (by decide +kernel)
theorem m_1eec85ba : (.instanceMethod y_M_readModule : Cond) ∈ xt_tbl := xt_in (xt_t10 (List.mem_of_getElem? (i := 208) (by decide +kernel))) (by decide +kernel)
theorem m_394a64e5 : (.selects "StackHostModel" y_M_readModule y_M_readModule : Cond) ∈ xt_tbl := xt_in (xt_v9 (q := (⟨"StackHostModel", "readModule", "(I)V"⟩, 97)) (List.mem_of_getElem? (i := 2) (by decide +kernel))) (by decide +kernel)
theorem m_bf4bdbba : (.code y_M_readModule b_M_readModule 8 none : Cond) ∈ xt_tbl := xt_in (xt_t10 (List.mem_of_getElem? (i := 209) (by decide +kernel))) (by decide +kernel)
theorem m_94b4bcfa : (.methodLink "StackHostModel" 313 y_M_checkModule : Cond) ∈ xt_tbl := xt_in (xt_t11 (List.mem_of_getElem? (i := 60) (by decide +kernel))) (by decide +kernel)
theorem m_577cfd59 : (.instanceMethod y_M_checkModule : Cond) ∈ xt_tbl := xt_in (xt_t11 (List.mem_of_getElem? (i := 62) (by decide +kernel))) (by decide +kernel)
theorem m_4b4efe79 : (.selects "StackHostModel" y_M_checkModule y_M_checkModule : Cond) ∈ xt_tbl := xt_in (xt_v10 (q := (⟨"StackHostModel", "checkModule", "(I)V"⟩, 97)) (List.mem_of_getElem? (i := 7) (by decide +kernel))) (by decide +kernel)
theorem m_618d355d : (.code y_M_checkModule b_M_checkModule 4 none : Cond) ∈ xt_tbl := xt_in (xt_t11 (List.mem_of_getElem? (i := 63) (by decide +kernel))) (by decide +kernel)
theorem nm_M_readModule : xt_nm y_M_readModule 1 := ⟨by decide +kernel, by decide +kernel⟩
theorem nm_M_checkModule : xt_nm y_M_checkModule 1 := ⟨by decide +kernel, by decide +kernel⟩
set_option maxRecDepth 100000 in
def T_M_load : List (Nat × Instr × Nat) := [(0, .aload_n 0, 1), (1, .aload_n 0, 1), (2, .getfield 275, 3), (5, .bipush 64, 2), (7, .if_icmp .ne 7, 3), (10, .iconst 1, 1), (11, .goto 4, 3), (14, .iconst 0, 1), (15, .putfield 189, 3), (18, .aload_n 0, 1), (19, .getfield 189, 3), (22, .ifCond .le 5, 3), (25, .iconst 0, 1), (26, .ireturn, 1), (27, .aload_n 0, 1), (28, .getfield 262, 3), (31, .istore_n 1, 1), (32, .aload_n 0, 1), (33, .getfield 272, 3), (36, .istore_n 2, 1), (37, .aload_n 0, 1), (38, .getfield 265, 3), (41, .istore_n 3, 1), (42, .aload_n 0, 1), (43, .aload_n 0, 1), (44, .invokevirtual 307, 3), (47, .putfield 196, 3), (50, .aload_n 0, 1), (51, .getfield 17, 3), (54, .aload_n 0, 1), (55, .getfield 275, 3), (58, .aload_n 0, 1), (59, .getfield 196, 3), (62, .iastore, 1), (63, .aload_n 0, 1), (64, .getfield 21, 3), (67, .aload_n 0, 1), (68, .getfield 275, 3), (71, .iload_n 3, 1), (72, .iastore, 1), (73, .iconst 0, 1), (74, .istore 4, 2), (76, .iload 4, 2), (78, .bipush 12, 2), (80, .if_icmp .ge 41, 3), (83, .aload_n 0, 1), (84, .getfield 27, 3), (87, .bipush 12, 2), (89, .aload_n 0, 1), (90, .getfield 275, 3), (93, .imul, 1), (94, .iload 4, 2), (96, .iadd, 1), (97, .iconst 0, 1), (98, .iastore, 1), (99, .aload_n 0, 1), (100, .getfield 24, 3), (103, .bipush 12, 2), (105, .aload_n 0, 1), (106, .getfield 275, 3), (109, .imul, 1), (110, .iload 4, 2), (112, .iadd, 1), (113, .iconst 0, 1), (114, .iastore, 1), (115, .iinc 4 1, 3), (118, .goto (-42), 3), (121, .iconst 0, 1), (122, .istore 4, 2), (124, .iload 4, 2), (126, .iconst 4, 1), (127, .if_icmp .ge 24, 3), (130, .aload_n 0, 1), (131, .getfield 30, 3), (134, .iconst 4, 1), (135, .aload_n 0, 1), (136, .getfield 275, 3), (139, .imul, 1), (140, .iload 4, 2), (142, .iadd, 1), (143, .iconst 0, 1), (144, .iastore, 1), (145, .iinc 4 1, 3), (148, .goto (-24), 3), (151, .aload_n 0, 1), (152, .iconst 0, 1), (153, .putfield 193, 3), (156, .aload_n 0, 1), (157, .iconst 0, 1), (158, .putfield 199, 3), (161, .aload_n 0, 1), (162, .aload_n 0, 1), (163, .getfield 196, 3), (166, .iload_n 3, 1), (167, .iadd, 1), (168, .invokevirtual 310, 3), (171, .aload_n 0, 1), (172, .getfield 193, 3), (175, .ifCond .ne 21, 3), (178, .aload_n 0, 1), (179, .aload_n 0, 1), (180, .getfield 196, 3), (183, .iload_n 3, 1), (184, .iadd, 1), (185, .putfield 205, 3), (188, .aload_n 0, 1), (189, .aload_n 0, 1), (190, .getfield 275, 3), (193, .invokevirtual 313, 3), (196, .aload_n 0, 1), (197, .getfield 179, 3), (200, .iconst 0, 1), (201, .aload_n 0, 1), (202, .getfield 193, 3), (205, .iastore, 1), (206, .aload_n 0, 1), (207, .getfield 179, 3), (210, .iconst 1, 1), (211, .aload_n 0, 1), (212, .getfield 193, 3), (215, .ifCond .ne 7, 3), (218, .iconst 0, 1), (219, .goto 7, 3), (222, .aload_n 0, 1), (223, .getfield 199, 3), (226, .iastore, 1), (227, .aload_n 0, 1), (228, .getfield 193, 3), (231, .ifCond .ne 7, 3), (234, .iconst 1, 1), (235, .goto 4, 3), (238, .iconst 0, 1), (239, .istore 4, 2), (241, .aload_n 0, 1), (242, .iconst 0, 1), (243, .putfield 193, 3), (246, .iload 4, 2), (248, .ifCond .ne 15, 3), (251, .aload_n 0, 1), (252, .iload_n 1, 1), (253, .putfield 262, 3), (256, .aload_n 0, 1), (257, .iload_n 2, 1), (258, .putfield 272, 3), (261, .iconst (-1), 1), (262, .ireturn, 1), (263, .aload_n 0, 1), (264, .dup, 1), (265, .getfield 275, 3), (268, .iconst 1, 1), (269, .iadd, 1), (270, .putfield 275, 3), (273, .aload_n 0, 1), (274, .getfield 275, 3), (277, .iconst 1, 1), (278, .isub, 1), (279, .ireturn, 1)]
theorem D_M_load : ∀ q ∈ T_M_load, decode b_M_load q.1 = .ok (q.2.1, q.2.2) := by decide +kernel
def w_M_load_L239 (Qr : Int32 → xb_H → Prop) (x0 : Nat) (x1 : Int32) (x2 : Int32) (y0 : Int32) (h : xb_H) (bc : Nat) (bs : Nat) : Prop :=
    xb_k h x0 = 9 ∧ ∀ h2 : xb_H, h2 = xb_I h x0 17 0 → ((¬ y0 = (0 : Int32) → ∀ h4 : xb_H, h4 = xb_I h2 x0 5 ((xb_i h2 x0 5) + 1) → Qr ((xb_i h4 x0 5) - 1) h4) ∧ (y0 = (0 : Int32) → ∀ h5 : xb_H, h5 = xb_I h2 x0 4 x1 → ∀ h6 : xb_H, h6 = xb_I h5 x0 13 x2 → Qr (-1) h6))

def w_M_load_L226 (Qr : Int32 → xb_H → Prop) (x0 : Nat) (x1 : Int32) (x2 : Int32) (y0 : Int32) (y1 : Int32) (y2 : Nat) (h : xb_H) (bc : Nat) (bs : Nat) : Prop :=
    xb_k h y2 = 102 ∧ vp_in y1 (xb_n h y2) ∧ ∀ h3 : xb_H, h3 = xb_I h y2 (Int32.toNatClampNeg y1) y0 → xb_k h3 x0 = 9 ∧ ((¬ (xb_i h3 x0 17) = (0 : Int32) → w_M_load_L239 Qr x0 x1 x2 0 h3 bc bs) ∧ ((xb_i h3 x0 17) = (0 : Int32) → w_M_load_L239 Qr x0 x1 x2 1 h3 bc bs))

def w_M_load_L196 (Qr : Int32 → xb_H → Prop) (x0 : Nat) (x1 : Int32) (x2 : Int32) (h : xb_H) (bc : Nat) (bs : Nat) : Prop :=
    xb_k h x0 = 9 ∧ ∃ b2 : Nat, (xb_r h x0 89) = some b2 ∧ xb_k h b2 = 102 ∧ vp_in 0 (xb_n h b2) ∧ ∀ h5 : xb_H, h5 = xb_I h b2 (Int32.toNatClampNeg 0) (xb_i h x0 17) → ∃ b6 : Nat, (xb_r h5 x0 89) = some b6 ∧ ((¬ (xb_i h5 x0 17) = (0 : Int32) → w_M_load_L226 Qr x0 x1 x2 (xb_i h5 x0 18) 1 b6 h5 bc bs) ∧ ((xb_i h5 x0 17) = (0 : Int32) → w_M_load_L226 Qr x0 x1 x2 0 1 b6 h5 bc bs))

def w_M_load_L124 (Qr : Int32 → xb_H → Prop) : Nat → Nat → Int32 → Int32 → Int32 → Int32 → xb_H → Nat → Nat → Prop
  | 0, _, _, _, _, _, _, _, _ => False
  | n9 + 1, x0, x1, x2, x3, x4, h, bc, bs =>
    (((4 : Int32) ≤ x4 → xb_k h x0 = 9 ∧ ∀ h3 : xb_H, h3 = xb_I h x0 17 0 → ∀ h4 : xb_H, h4 = xb_I h3 x0 18 0 → ∃ c7 sc7 : Nat, c7 ≤ bc ∧ sc7 ≤ bs ∧ w_M_readModule x0 ((xb_i h4 x0 14) + x3) h4 c7 sc7 (fun (h5 : xb_H) => xb_ext h4 h5 → ((¬ (xb_i h5 x0 17) = (0 : Int32) → w_M_load_L196 Qr x0 x1 x2 h5 (bc - c7) (bs - sc7)) ∧ ((xb_i h5 x0 17) = (0 : Int32) → ∀ h9 : xb_H, h9 = xb_I h5 x0 16 ((xb_i h5 x0 14) + x3) → w_M_checkModule x0 (xb_i h9 x0 5) h9 (fun (h10 : xb_H) => xb_ext h9 h10 → w_M_load_L196 Qr x0 x1 x2 h10 (bc - c7) (bs - sc7)))))) ∧ (¬ (4 : Int32) ≤ x4 → xb_k h x0 = 9 ∧ ∃ b13 : Nat, (xb_r h x0 10) = some b13 ∧ xb_k h b13 = 102 ∧ vp_in ((4 * (xb_i h x0 5)) + x4) (xb_n h b13) ∧ ∀ h16 : xb_H, h16 = xb_I h b13 (Int32.toNatClampNeg ((4 * (xb_i h x0 5)) + x4)) 0 → w_M_load_L124 Qr n9 x0 x1 x2 x3 (x4 + 1) h16 bc bs))

def w_M_load_L76 (Qr : Int32 → xb_H → Prop) : Nat → Nat → Int32 → Int32 → Int32 → Int32 → xb_H → Nat → Nat → Prop
  | 0, _, _, _, _, _, _, _, _ => False
  | n9 + 1, x0, x1, x2, x3, x4, h, bc, bs =>
    (((12 : Int32) ≤ x4 → (∃ n8 : Nat, w_M_load_L124 Qr n8 x0 x1 x2 x3 0 h bc bs)) ∧ (¬ (12 : Int32) ≤ x4 → xb_k h x0 = 9 ∧ ∃ b3 : Nat, (xb_r h x0 9) = some b3 ∧ xb_k h b3 = 102 ∧ vp_in ((12 * (xb_i h x0 5)) + x4) (xb_n h b3) ∧ ∀ h6 : xb_H, h6 = xb_I h b3 (Int32.toNatClampNeg ((12 * (xb_i h x0 5)) + x4)) 0 → ∃ b7 : Nat, (xb_r h6 x0 8) = some b7 ∧ xb_k h6 b7 = 102 ∧ vp_in ((12 * (xb_i h6 x0 5)) + x4) (xb_n h6 b7) ∧ ∀ h10 : xb_H, h10 = xb_I h6 b7 (Int32.toNatClampNeg ((12 * (xb_i h6 x0 5)) + x4)) 0 → w_M_load_L76 Qr n9 x0 x1 x2 x3 (x4 + 1) h10 bc bs))

def w_M_load_L15 (Qr : Int32 → xb_H → Prop) (x0 : Nat) (y0 : Int32) (y1 : Nat) (h : xb_H) (bc : Nat) (bs : Nat) : Prop :=
    xb_k h y1 = 9 ∧ ∀ h2 : xb_H, h2 = xb_I h y1 0 y0 → xb_k h2 x0 = 9 ∧ (((xb_i h2 x0 0) ≤ (0 : Int32) → ∀ v5 : Int32, v5 = (xb_i h2 x0 4) → ∀ v6 : Int32, v6 = (xb_i h2 x0 13) → ∀ v7 : Int32, v7 = (xb_i h2 x0 2) → ∃ c10 sc10 : Nat, c10 ≤ bc ∧ sc10 ≤ bs ∧ w_M_keepTape x0 h2 c10 sc10 (fun (r9 : Int32) (h8 : xb_H) => xb_ext h2 h8 → ∀ h11 : xb_H, h11 = xb_I h8 x0 14 r9 → ∃ b12 : Nat, (xb_r h11 x0 6) = some b12 ∧ xb_k h11 b12 = 102 ∧ vp_in (xb_i h11 x0 5) (xb_n h11 b12) ∧ ∀ h15 : xb_H, h15 = xb_I h11 b12 (Int32.toNatClampNeg (xb_i h11 x0 5)) (xb_i h11 x0 14) → ∃ b16 : Nat, (xb_r h15 x0 7) = some b16 ∧ xb_k h15 b16 = 102 ∧ vp_in (xb_i h15 x0 5) (xb_n h15 b16) ∧ ∀ h19 : xb_H, h19 = xb_I h15 b16 (Int32.toNatClampNeg (xb_i h15 x0 5)) v7 → (∃ n8 : Nat, w_M_load_L76 Qr n8 x0 v5 v6 v7 0 h19 (bc - c10) (bs - sc10)))) ∧ (¬ (xb_i h2 x0 0) ≤ (0 : Int32) → Qr 0 h2))

def w_M_load (x0 : Nat) (h : xb_H) (bc : Nat) (bs : Nat) (Qr : Int32 → xb_H → Prop) : Prop :=
    xb_k h x0 = 9 ∧ ((¬ (xb_i h x0 5) = (64 : Int32) → w_M_load_L15 Qr x0 0 x0 h bc bs) ∧ ((xb_i h x0 5) = (64 : Int32) → w_M_load_L15 Qr x0 1 x0 h bc bs))

set_option maxHeartbeats 4000000 in
set_option maxRecDepth 100000 in
theorem am_M_load_L239 (l : Launch) (hfl : l.flags = pinnedFlags ++ [noTraceFlag]) (D : va_G) (A : Nat → Prop) (σ MC MS : Nat) (h0 : xb_H) (Qr : Int32 → xb_H → Prop) (x0 : Nat) (x1 : Int32) (x2 : Int32) (y0 : Int32) (h : xb_H) (bc : Nat) (bs : Nat) (hw : w_M_load_L239 Qr x0 x1 x2 y0 h bc bs) : xb_am l D A σ 14 MC MS h0 (fun v h => ∃ r, v = some (.int r) ∧ Qr r h) (fun _ _ => False) y_M_load.cls y_M_load.name b_M_load 5 ([] : List ExceptionTableEntry) (some .int) 239 [(0, .ref x0), (1, .int x1), (2, .int x2)] [.int y0] h bc bs := by
  unfold w_M_load_L239 at hw
  intro p e s m args below meth c hC H locs ls k n hE hl hR hS hk hn
  obtain ⟨hx, hb, hown, hlocks, htab, hml, hr, hB, hA, hnm⟩ := id hC
  have hts := hB.1.1.at args
  refine lv_istore hx hb (xb_d D_M_load 132 rfl) hl (by decide) rfl (fun ls hl => ?_)
  have hl : lv_has ls 5 [(4, .int y0), (0, .ref x0), (1, .int x1), (2, .int x2)] := hl
  refine lv_aload_n hx hb (xb_d D_M_load 133 rfl) rfl (lv_at hl 1 rfl) ?_
  refine lv_iconst (v := 0) hx hb (xb_d D_M_load 134 rfl) (by decide) ?_
  obtain ⟨hk1, hw⟩ := hw
  refine xb_putI (C := R_M) (T := F_M) (N := 97) (ty := .int) (x := 0) hx hb 8 17 hts fin_M t_M t_M_ok n_M hown hR hS hk1 (by decide) rfl (by decide) rfl (hts _ m_ff69da61) (fun _ h9 => h9) rfl (by decide +kernel) rfl rfl (xb_d D_M_load 135 rfl) (fun H locs hR hS => ?_)
  obtain ⟨h2, eh2⟩ : ∃ x : xb_H, x = xb_I h x0 17 0 := ⟨_, rfl⟩
  rw [← eh2] at hR
  have hw := hw h2 eh2
  have hE : xb_ext h0 h2 := by rw [eh2]; exact hE
  refine lv_iload hx hb (xb_d D_M_load 136 rfl) (lv_at hl 0 rfl) ?_
  refine lv_if_ne (tgt := 263) hx hb (xb_d D_M_load 137 rfl) rfl (fun hc3 => ?_) (fun hc3 => ?_)
  · have hw := hw.1 hc3
    refine lv_aload_n hx hb (xb_d D_M_load 146 rfl) rfl (lv_at hl 1 rfl) ?_
    refine lv_dup hx hb (xb_d D_M_load 147 rfl) rfl ?_
    have hk1 : xb_k h2 x0 = 9 := by rw [eh2]; exact hk1
    refine xb_getI (C := R_M) (T := F_M) (N := 97) hx hb 8 5 hts fin_M hown hR hk1 (by decide) rfl (by decide) rfl (hts _ m_b0f42f6b) (fun _ h9 => h9) (xb_d D_M_load 148 rfl) ?_
    refine lv_iconst (v := 1) hx hb (xb_d D_M_load 149 rfl) (by decide) ?_
    refine lv_iadd hx hb (xb_d D_M_load 150 rfl) ?_
    refine xb_putI (C := R_M) (T := F_M) (N := 97) (ty := .int) (x := ((xb_i h2 x0 5) + 1)) hx hb 8 5 hts fin_M t_M t_M_ok n_M hown hR hS hk1 (by decide) rfl (by decide) rfl (hts _ m_b0f42f6b) (fun _ h9 => h9) rfl (by decide +kernel) rfl rfl (xb_d D_M_load 151 rfl) (fun H locs hR hS => ?_)
    obtain ⟨h4, eh4⟩ : ∃ x : xb_H, x = xb_I h2 x0 5 ((xb_i h2 x0 5) + 1) := ⟨_, rfl⟩
    rw [← eh4] at hR
    have hw := hw h4 eh4
    have hE : xb_ext h0 h4 := by rw [eh4]; exact hE
    refine lv_aload_n hx hb (xb_d D_M_load 152 rfl) rfl (lv_at hl 1 rfl) ?_
    have hk1 : xb_k h4 x0 = 9 := by rw [eh4]; exact hk1
    refine xb_getI (C := R_M) (T := F_M) (N := 97) hx hb 8 5 hts fin_M hown hR hk1 (by decide) rfl (by decide) rfl (hts _ m_b0f42f6b) (fun _ h9 => h9) (xb_d D_M_load 153 rfl) ?_
    refine lv_iconst (v := 1) hx hb (xb_d D_M_load 154 rfl) (by decide) ?_
    refine lv_isub hx hb (xb_d D_M_load 155 rfl) ?_
    exact xb_iret hx hb hr hlocks (show k ≤ MC by omega) (show n ≤ MS by omega) hE hR hS (xb_d D_M_load 156 rfl) hw
  · have hw := hw.2 hc3
    refine lv_aload_n hx hb (xb_d D_M_load 138 rfl) rfl (lv_at hl 1 rfl) ?_
    refine lv_iload_n hx hb (xb_d D_M_load 139 rfl) rfl (lv_at hl 2 rfl) ?_
    have hk1 : xb_k h2 x0 = 9 := by rw [eh2]; exact hk1
    refine xb_putI (C := R_M) (T := F_M) (N := 97) (ty := .int) (x := x1) hx hb 8 4 hts fin_M t_M t_M_ok n_M hown hR hS hk1 (by decide) rfl (by decide) rfl (hts _ m_a4223f90) (fun _ h9 => h9) rfl (by decide +kernel) rfl rfl (xb_d D_M_load 140 rfl) (fun H locs hR hS => ?_)
    obtain ⟨h5, eh5⟩ : ∃ x : xb_H, x = xb_I h2 x0 4 x1 := ⟨_, rfl⟩
    rw [← eh5] at hR
    have hw := hw h5 eh5
    have hE : xb_ext h0 h5 := by rw [eh5]; exact hE
    refine lv_aload_n hx hb (xb_d D_M_load 141 rfl) rfl (lv_at hl 1 rfl) ?_
    refine lv_iload_n hx hb (xb_d D_M_load 142 rfl) rfl (lv_at hl 3 rfl) ?_
    have hk1 : xb_k h5 x0 = 9 := by rw [eh5]; exact hk1
    refine xb_putI (C := R_M) (T := F_M) (N := 97) (ty := .int) (x := x2) hx hb 8 13 hts fin_M t_M t_M_ok n_M hown hR hS hk1 (by decide) rfl (by decide) rfl (hts _ m_d9ebb8df) (fun _ h9 => h9) rfl (by decide +kernel) rfl rfl (xb_d D_M_load 143 rfl) (fun H locs hR hS => ?_)
    obtain ⟨h6, eh6⟩ : ∃ x : xb_H, x = xb_I h5 x0 13 x2 := ⟨_, rfl⟩
    rw [← eh6] at hR
    have hw := hw h6 eh6
    have hE : xb_ext h0 h6 := by rw [eh6]; exact hE
    refine lv_iconst (v := (-1)) hx hb (xb_d D_M_load 144 rfl) (by decide) ?_
    exact xb_iret hx hb hr hlocks (show k ≤ MC by omega) (show n ≤ MS by omega) hE hR hS (xb_d D_M_load 145 rfl) hw

set_option maxHeartbeats 4000000 in
set_option maxRecDepth 100000 in
theorem am_M_load_L226 (l : Launch) (hfl : l.flags = pinnedFlags ++ [noTraceFlag]) (D : va_G) (A : Nat → Prop) (σ MC MS : Nat) (h0 : xb_H) (Qr : Int32 → xb_H → Prop) (x0 : Nat) (x1 : Int32) (x2 : Int32) (y0 : Int32) (y1 : Int32) (y2 : Nat) (h : xb_H) (bc : Nat) (bs : Nat) (hw : w_M_load_L226 Qr x0 x1 x2 y0 y1 y2 h bc bs) : xb_am l D A σ 14 MC MS h0 (fun v h => ∃ r, v = some (.int r) ∧ Qr r h) (fun _ _ => False) y_M_load.cls y_M_load.name b_M_load 5 ([] : List ExceptionTableEntry) (some .int) 226 [(0, .ref x0), (1, .int x1), (2, .int x2)] [.int y0, .int y1, .ref y2] h bc bs := by
  unfold w_M_load_L226 at hw
  intro p e s m args below meth c hC H locs ls k n hE hl hR hS hk hn
  obtain ⟨hx, hb, hown, hlocks, htab, hml, hr, hB, hA, hnm⟩ := id hC
  have hts := hB.1.1.at args
  obtain ⟨hk1, hw⟩ := hw
  obtain ⟨hi2, hw⟩ := hw
  refine xb_iast hx hb hR hS hk1 hi2 (xb_d D_M_load 125 rfl) (fun H locs hR hS => ?_)
  obtain ⟨h3, eh3⟩ : ∃ x : xb_H, x = xb_I h y2 (Int32.toNatClampNeg y1) y0 := ⟨_, rfl⟩
  rw [← eh3] at hR
  have hw := hw h3 eh3
  have hE : xb_ext h0 h3 := by rw [eh3]; exact hE
  refine lv_aload_n hx hb (xb_d D_M_load 126 rfl) rfl (lv_at hl 0 rfl) ?_
  obtain ⟨hk4, hw⟩ := hw
  refine xb_getI (C := R_M) (T := F_M) (N := 97) hx hb 8 17 hts fin_M hown hR hk4 (by decide) rfl (by decide) rfl (hts _ m_ff69da61) (fun _ h9 => h9) (xb_d D_M_load 127 rfl) ?_
  refine lv_if_ne (tgt := 238) hx hb (xb_d D_M_load 128 rfl) rfl (fun hc5 => ?_) (fun hc5 => ?_)
  · have hw := hw.1 hc5
    refine lv_iconst (v := 0) hx hb (xb_d D_M_load 131 rfl) (by decide) ?_
    exact am_M_load_L239 l hfl D A σ MC MS h0 Qr x0 x1 x2 0 h3 bc bs hw p e s m args below meth c hC H locs ls k n hE (lv_sub hl [0, 1, 2] rfl) hR hS (by omega) (by omega)
  · have hw := hw.2 hc5
    refine lv_iconst (v := 1) hx hb (xb_d D_M_load 129 rfl) (by decide) ?_
    refine lv_goto (tgt := 239) hx hb (xb_d D_M_load 130 rfl) rfl ?_
    exact am_M_load_L239 l hfl D A σ MC MS h0 Qr x0 x1 x2 1 h3 bc bs hw p e s m args below meth c hC H locs ls k n hE (lv_sub hl [0, 1, 2] rfl) hR hS (by omega) (by omega)

set_option maxHeartbeats 4000000 in
set_option maxRecDepth 100000 in
theorem am_M_load_L196 (l : Launch) (hfl : l.flags = pinnedFlags ++ [noTraceFlag]) (D : va_G) (A : Nat → Prop) (σ MC MS : Nat) (h0 : xb_H) (Qr : Int32 → xb_H → Prop) (x0 : Nat) (x1 : Int32) (x2 : Int32) (h : xb_H) (bc : Nat) (bs : Nat) (hw : w_M_load_L196 Qr x0 x1 x2 h bc bs) : xb_am l D A σ 14 MC MS h0 (fun v h => ∃ r, v = some (.int r) ∧ Qr r h) (fun _ _ => False) y_M_load.cls y_M_load.name b_M_load 5 ([] : List ExceptionTableEntry) (some .int) 196 [(0, .ref x0), (1, .int x1), (2, .int x2)] [] h bc bs := by
  unfold w_M_load_L196 at hw
  intro p e s m args below meth c hC H locs ls k n hE hl hR hS hk hn
  obtain ⟨hx, hb, hown, hlocks, htab, hml, hr, hB, hA, hnm⟩ := id hC
  have hts := hB.1.1.at args
  refine lv_aload_n hx hb (xb_d D_M_load 109 rfl) rfl (lv_at hl 0 rfl) ?_
  obtain ⟨hk1, hw⟩ := hw
  refine xb_getP (C := R_M) (T := F_M) (N := 97) hx hb 8 89 hts fin_M hown hR hk1 (by decide) rfl (by decide) rfl (hts _ m_8367c681) (fun _ h9 => h9) (xb_d D_M_load 110 rfl) ?_
  obtain ⟨b2, eb2, hw⟩ := hw
  refine xb_some eb2 ?_
  refine lv_iconst (v := 0) hx hb (xb_d D_M_load 111 rfl) (by decide) ?_
  refine lv_aload_n hx hb (xb_d D_M_load 112 rfl) rfl (lv_at hl 0 rfl) ?_
  refine xb_getI (C := R_M) (T := F_M) (N := 97) hx hb 8 17 hts fin_M hown hR hk1 (by decide) rfl (by decide) rfl (hts _ m_ff69da61) (fun _ h9 => h9) (xb_d D_M_load 113 rfl) ?_
  obtain ⟨hk3, hw⟩ := hw
  obtain ⟨hi4, hw⟩ := hw
  refine xb_iast hx hb hR hS hk3 hi4 (xb_d D_M_load 114 rfl) (fun H locs hR hS => ?_)
  obtain ⟨h5, eh5⟩ : ∃ x : xb_H, x = xb_I h b2 (Int32.toNatClampNeg 0) (xb_i h x0 17) := ⟨_, rfl⟩
  rw [← eh5] at hR
  have hw := hw h5 eh5
  have hE : xb_ext h0 h5 := by rw [eh5]; exact hE
  refine lv_aload_n hx hb (xb_d D_M_load 115 rfl) rfl (lv_at hl 0 rfl) ?_
  have hk1 : xb_k h5 x0 = 9 := by rw [eh5]; exact hk1
  refine xb_getP (C := R_M) (T := F_M) (N := 97) hx hb 8 89 hts fin_M hown hR hk1 (by decide) rfl (by decide) rfl (hts _ m_8367c681) (fun _ h9 => h9) (xb_d D_M_load 116 rfl) ?_
  obtain ⟨b6, eb6, hw⟩ := hw
  refine xb_some eb6 ?_
  refine lv_iconst (v := 1) hx hb (xb_d D_M_load 117 rfl) (by decide) ?_
  refine lv_aload_n hx hb (xb_d D_M_load 118 rfl) rfl (lv_at hl 0 rfl) ?_
  refine xb_getI (C := R_M) (T := F_M) (N := 97) hx hb 8 17 hts fin_M hown hR hk1 (by decide) rfl (by decide) rfl (hts _ m_ff69da61) (fun _ h9 => h9) (xb_d D_M_load 119 rfl) ?_
  refine lv_if_ne (tgt := 222) hx hb (xb_d D_M_load 120 rfl) rfl (fun hc7 => ?_) (fun hc7 => ?_)
  · have hw := hw.1 hc7
    refine lv_aload_n hx hb (xb_d D_M_load 123 rfl) rfl (lv_at hl 0 rfl) ?_
    refine xb_getI (C := R_M) (T := F_M) (N := 97) hx hb 8 18 hts fin_M hown hR hk1 (by decide) rfl (by decide) rfl (hts _ m_3fd8f0e3) (fun _ h9 => h9) (xb_d D_M_load 124 rfl) ?_
    exact am_M_load_L226 l hfl D A σ MC MS h0 Qr x0 x1 x2 (xb_i h5 x0 18) 1 b6 h5 bc bs hw p e s m args below meth c hC H locs ls k n hE (lv_sub hl [0, 1, 2] rfl) hR hS (by omega) (by omega)
  · have hw := hw.2 hc7
    refine lv_iconst (v := 0) hx hb (xb_d D_M_load 121 rfl) (by decide) ?_
    refine lv_goto (tgt := 226) hx hb (xb_d D_M_load 122 rfl) rfl ?_
    exact am_M_load_L226 l hfl D A σ MC MS h0 Qr x0 x1 x2 0 1 b6 h5 bc bs hw p e s m args below meth c hC H locs ls k n hE (lv_sub hl [0, 1, 2] rfl) hR hS (by omega) (by omega)

set_option maxHeartbeats 4000000 in
set_option maxRecDepth 100000 in
theorem am_M_load_L124 (l : Launch) (hfl : l.flags = pinnedFlags ++ [noTraceFlag]) (D : va_G) (A : Nat → Prop) (σ MC MS : Nat) (h0 : xb_H) (Qr : Int32 → xb_H → Prop) (n9 : Nat) : ∀ (x0 : Nat) (x1 : Int32) (x2 : Int32) (x3 : Int32) (x4 : Int32) (h : xb_H) (bc : Nat) (bs : Nat), w_M_load_L124 Qr n9 x0 x1 x2 x3 x4 h bc bs → xb_am l D A σ 14 MC MS h0 (fun v h => ∃ r, v = some (.int r) ∧ Qr r h) (fun _ _ => False) y_M_load.cls y_M_load.name b_M_load 5 ([] : List ExceptionTableEntry) (some .int) 124 [(0, .ref x0), (1, .int x1), (2, .int x2), (3, .int x3), (4, .int x4)] [] h bc bs := by
  induction n9 with
  | zero => intro x0 x1 x2 x3 x4 h bc bs hw; exact False.elim hw
  | succ n9 ih =>
    intro x0 x1 x2 x3 x4 h bc bs hw
    unfold w_M_load_L124 at hw
    intro p e s m args below meth c hC H locs ls k n hE hl hR hS hk hn
    obtain ⟨hx, hb, hown, hlocks, htab, hml, hr, hB, hA, hnm⟩ := id hC
    have hts := hB.1.1.at args
    refine lv_iload hx hb (xb_d D_M_load 69 rfl) (lv_at hl 4 rfl) ?_
    refine lv_iconst (v := 4) hx hb (xb_d D_M_load 70 rfl) (by decide) ?_
    refine lv_icmp_ge (tgt := 151) hx hb (xb_d D_M_load 71 rfl) rfl (fun hc1 => ?_) (fun hc1 => ?_)
    · have hw := hw.1 hc1
      refine lv_aload_n hx hb (xb_d D_M_load 84 rfl) rfl (lv_at hl 0 rfl) ?_
      refine lv_iconst (v := 0) hx hb (xb_d D_M_load 85 rfl) (by decide) ?_
      obtain ⟨hk2, hw⟩ := hw
      refine xb_putI (C := R_M) (T := F_M) (N := 97) (ty := .int) (x := 0) hx hb 8 17 hts fin_M t_M t_M_ok n_M hown hR hS hk2 (by decide) rfl (by decide) rfl (hts _ m_ff69da61) (fun _ h9 => h9) rfl (by decide +kernel) rfl rfl (xb_d D_M_load 86 rfl) (fun H locs hR hS => ?_)
      obtain ⟨h3, eh3⟩ : ∃ x : xb_H, x = xb_I h x0 17 0 := ⟨_, rfl⟩
      rw [← eh3] at hR
      have hw := hw h3 eh3
      have hE : xb_ext h0 h3 := by rw [eh3]; exact hE
      refine lv_aload_n hx hb (xb_d D_M_load 87 rfl) rfl (lv_at hl 0 rfl) ?_
      refine lv_iconst (v := 0) hx hb (xb_d D_M_load 88 rfl) (by decide) ?_
      have hk2 : xb_k h3 x0 = 9 := by rw [eh3]; exact hk2
      refine xb_putI (C := R_M) (T := F_M) (N := 97) (ty := .int) (x := 0) hx hb 8 18 hts fin_M t_M t_M_ok n_M hown hR hS hk2 (by decide) rfl (by decide) rfl (hts _ m_3fd8f0e3) (fun _ h9 => h9) rfl (by decide +kernel) rfl rfl (xb_d D_M_load 89 rfl) (fun H locs hR hS => ?_)
      obtain ⟨h4, eh4⟩ : ∃ x : xb_H, x = xb_I h3 x0 18 0 := ⟨_, rfl⟩
      rw [← eh4] at hR
      have hw := hw h4 eh4
      have hE : xb_ext h0 h4 := by rw [eh4]; exact hE
      refine lv_aload_n hx hb (xb_d D_M_load 90 rfl) rfl (lv_at hl 0 rfl) ?_
      refine lv_aload_n hx hb (xb_d D_M_load 91 rfl) rfl (lv_at hl 0 rfl) ?_
      have hk2 : xb_k h4 x0 = 9 := by rw [eh4]; exact hk2
      refine xb_getI (C := R_M) (T := F_M) (N := 97) hx hb 8 14 hts fin_M hown hR hk2 (by decide) rfl (by decide) rfl (hts _ m_a8fce005) (fun _ h9 => h9) (xb_d D_M_load 92 rfl) ?_
      refine lv_iload_n hx hb (xb_d D_M_load 93 rfl) rfl (lv_at hl 3 rfl) ?_
      refine lv_iadd hx hb (xb_d D_M_load 94 rfl) ?_
      obtain ⟨c7, sc7, hlc7, hlsc7, hw⟩ := hw
      refine xb_call (D := D) (A := A) (σ := σ) (h := h4) (d := 11) (mc := c7) (ms := sc7) (maxL := 8) (rest := []) (av := [.ref x0, .int ((xb_i h4 x0 14) + x3)]) (fun T hT X => by obtain ⟨cb, r1, r2, r3⟩ := xb_recv (ci := 8) hR rfl hk2 (by decide); exact xt_invV X hx hown (hts _ m_5cfef54b) (hts _ m_1eec85ba) (hts _ m_394a64e5) (xt_sigOf (hts _ m_bf4bdbba)) nm_M_readModule (by rw [hT]; exact r1) r2 r3 (g := F0 m 168 ls [.int ((xb_i h4 x0 14) + x3), .ref x0]) rfl (argsL := [.int ((xb_i h4 x0 14) + x3)]) (rest := []) rfl rfl (by rw [hb]; exact (xb_d D_M_load 95 rfl))) (ok_M_readModule l hfl D A σ x0 ((xb_i h4 x0 14) + x3) h4 c7 sc7 _ hw) (hml.trans hl.1.symm) (by rw [hb]; exact (xb_d D_M_load 95 rfl)) (Nat.le_of_ble_eq_true rfl) (Nat.le_of_ble_eq_true rfl) (Nat.le_of_ble_eq_true rfl) (show k + c7 ≤ MC by omega) (show n + sc7 ≤ MS by omega) (xt_w1 hB.1 m_bf4bdbba) (xt_cdOf hB.1 m_bf4bdbba) (hts _ m_d5ed7bed) hB hR hS hA (fun vv h5 H locs hq hEh5 hR hS => ?_) (fun XX ax h5 H locs hq hEh5 hex hR hS => ?_)
      · obtain ⟨rfl, hw⟩ := hq
        have hw := hw hEh5
        have hE := hE.tr hEh5
        refine W.eq (g2 := F0 m 171 ls []) rfl ?_
        refine lv_aload_n hx hb (xb_d D_M_load 96 rfl) rfl (lv_at hl 0 rfl) ?_
        have hk2 : xb_k h5 x0 = 9 := hEh5.k hk2
        refine xb_getI (C := R_M) (T := F_M) (N := 97) hx hb 8 17 hts fin_M hown hR hk2 (by decide) rfl (by decide) rfl (hts _ m_ff69da61) (fun _ h9 => h9) (xb_d D_M_load 97 rfl) ?_
        refine lv_if_ne (tgt := 196) hx hb (xb_d D_M_load 98 rfl) rfl (fun hc8 => ?_) (fun hc8 => ?_)
        · have hw := hw.1 hc8
          exact am_M_load_L196 l hfl D A σ MC MS h0 Qr x0 x1 x2 h5 (bc - c7) (bs - sc7) hw p e s m args below meth c hC H locs ls (k + c7) (n + sc7) hE (lv_sub hl [0, 1, 2] rfl) hR hS (by omega) (by omega)
        · have hw := hw.2 hc8
          refine lv_aload_n hx hb (xb_d D_M_load 99 rfl) rfl (lv_at hl 0 rfl) ?_
          refine lv_aload_n hx hb (xb_d D_M_load 100 rfl) rfl (lv_at hl 0 rfl) ?_
          refine xb_getI (C := R_M) (T := F_M) (N := 97) hx hb 8 14 hts fin_M hown hR hk2 (by decide) rfl (by decide) rfl (hts _ m_a8fce005) (fun _ h9 => h9) (xb_d D_M_load 101 rfl) ?_
          refine lv_iload_n hx hb (xb_d D_M_load 102 rfl) rfl (lv_at hl 3 rfl) ?_
          refine lv_iadd hx hb (xb_d D_M_load 103 rfl) ?_
          refine xb_putI (C := R_M) (T := F_M) (N := 97) (ty := .int) (x := ((xb_i h5 x0 14) + x3)) hx hb 8 16 hts fin_M t_M t_M_ok n_M hown hR hS hk2 (by decide) rfl (by decide) rfl (hts _ m_48124c81) (fun _ h9 => h9) rfl (by decide +kernel) rfl rfl (xb_d D_M_load 104 rfl) (fun H locs hR hS => ?_)
          obtain ⟨h9, eh9⟩ : ∃ x : xb_H, x = xb_I h5 x0 16 ((xb_i h5 x0 14) + x3) := ⟨_, rfl⟩
          rw [← eh9] at hR
          have hw := hw h9 eh9
          have hE : xb_ext h0 h9 := by rw [eh9]; exact hE
          refine lv_aload_n hx hb (xb_d D_M_load 105 rfl) rfl (lv_at hl 0 rfl) ?_
          refine lv_aload_n hx hb (xb_d D_M_load 106 rfl) rfl (lv_at hl 0 rfl) ?_
          have hk2 : xb_k h9 x0 = 9 := by rw [eh9]; exact hk2
          refine xb_getI (C := R_M) (T := F_M) (N := 97) hx hb 8 5 hts fin_M hown hR hk2 (by decide) rfl (by decide) rfl (hts _ m_b0f42f6b) (fun _ h9 => h9) (xb_d D_M_load 107 rfl) ?_
          refine xb_call (D := D) (A := A) (σ := σ) (h := h9) (d := 13) (mc := 0) (ms := 0) (maxL := 4) (rest := []) (av := [.ref x0, .int (xb_i h9 x0 5)]) (fun T hT X => by obtain ⟨cb, r1, r2, r3⟩ := xb_recv (ci := 8) hR rfl hk2 (by decide); exact xt_invV X hx hown (hts _ m_94b4bcfa) (hts _ m_577cfd59) (hts _ m_4b4efe79) (xt_sigOf (hts _ m_618d355d)) nm_M_checkModule (by rw [hT]; exact r1) r2 r3 (g := F0 m 193 ls [.int (xb_i h9 x0 5), .ref x0]) rfl (argsL := [.int (xb_i h9 x0 5)]) (rest := []) rfl rfl (by rw [hb]; exact (xb_d D_M_load 108 rfl))) (ok_M_checkModule l hfl D A σ x0 (xb_i h9 x0 5) h9 _ hw) (hml.trans hl.1.symm) (by rw [hb]; exact (xb_d D_M_load 108 rfl)) (Nat.le_of_ble_eq_true rfl) (Nat.le_of_ble_eq_true rfl) (Nat.le_of_ble_eq_true rfl) (show (k + c7) + 0 ≤ MC by omega) (show (n + sc7) + 0 ≤ MS by omega) (xt_w1 hB.1 m_618d355d) (xt_cdOf hB.1 m_618d355d) (hts _ m_d5ed7bed) hB hR hS hA (fun vv h10 H locs hq hEh10 hR hS => ?_) (fun XX ax h10 H locs hq hEh10 hex hR hS => ?_)
          · obtain ⟨rfl, hw⟩ := hq
            have hw := hw hEh10
            have hE := hE.tr hEh10
            refine W.eq (g2 := F0 m 196 ls []) rfl ?_
            exact am_M_load_L196 l hfl D A σ MC MS h0 Qr x0 x1 x2 h10 (bc - c7) (bs - sc7) hw p e s m args below meth c hC H locs ls (k + c7) (n + sc7) hE (lv_sub hl [0, 1, 2] rfl) hR hS (by omega) (by omega)
          · exact False.elim hq
      · exact False.elim hq
    · have hw := hw.2 hc1
      refine lv_aload_n hx hb (xb_d D_M_load 72 rfl) rfl (lv_at hl 0 rfl) ?_
      obtain ⟨hk12, hw⟩ := hw
      refine xb_getP (C := R_M) (T := F_M) (N := 97) hx hb 8 10 hts fin_M hown hR hk12 (by decide) rfl (by decide) rfl (hts _ m_01d0d957) (fun _ h9 => h9) (xb_d D_M_load 73 rfl) ?_
      obtain ⟨b13, eb13, hw⟩ := hw
      refine xb_some eb13 ?_
      refine lv_iconst (v := 4) hx hb (xb_d D_M_load 74 rfl) (by decide) ?_
      refine lv_aload_n hx hb (xb_d D_M_load 75 rfl) rfl (lv_at hl 0 rfl) ?_
      refine xb_getI (C := R_M) (T := F_M) (N := 97) hx hb 8 5 hts fin_M hown hR hk12 (by decide) rfl (by decide) rfl (hts _ m_b0f42f6b) (fun _ h9 => h9) (xb_d D_M_load 76 rfl) ?_
      refine lv_imul hx hb (xb_d D_M_load 77 rfl) ?_
      refine lv_iload hx hb (xb_d D_M_load 78 rfl) (lv_at hl 4 rfl) ?_
      refine lv_iadd hx hb (xb_d D_M_load 79 rfl) ?_
      refine lv_iconst (v := 0) hx hb (xb_d D_M_load 80 rfl) (by decide) ?_
      obtain ⟨hk14, hw⟩ := hw
      obtain ⟨hi15, hw⟩ := hw
      refine xb_iast hx hb hR hS hk14 hi15 (xb_d D_M_load 81 rfl) (fun H locs hR hS => ?_)
      obtain ⟨h16, eh16⟩ : ∃ x : xb_H, x = xb_I h b13 (Int32.toNatClampNeg ((4 * (xb_i h x0 5)) + x4)) 0 := ⟨_, rfl⟩
      rw [← eh16] at hR
      have hw := hw h16 eh16
      have hE : xb_ext h0 h16 := by rw [eh16]; exact hE
      refine lv_iinc (v := (x4 + 1)) (k := 4) hx hb (xb_d D_M_load 82 rfl) hl rfl (by first | rfl | decide) (by decide) rfl (fun ls hl => ?_)
      have hl : lv_has ls 5 [(4, .int (x4 + 1)), (0, .ref x0), (1, .int x1), (2, .int x2), (3, .int x3)] := hl
      refine lv_goto (tgt := 124) hx hb (xb_d D_M_load 83 rfl) rfl ?_
      exact ih x0 x1 x2 x3 (x4 + 1) h16 bc bs hw p e s m args below meth c hC H locs ls k n hE (lv_sub hl [1, 2, 3, 4, 0] rfl) hR hS (by omega) (by omega)

set_option maxHeartbeats 4000000 in
set_option maxRecDepth 100000 in
theorem am_M_load_L76 (l : Launch) (hfl : l.flags = pinnedFlags ++ [noTraceFlag]) (D : va_G) (A : Nat → Prop) (σ MC MS : Nat) (h0 : xb_H) (Qr : Int32 → xb_H → Prop) (n9 : Nat) : ∀ (x0 : Nat) (x1 : Int32) (x2 : Int32) (x3 : Int32) (x4 : Int32) (h : xb_H) (bc : Nat) (bs : Nat), w_M_load_L76 Qr n9 x0 x1 x2 x3 x4 h bc bs → xb_am l D A σ 14 MC MS h0 (fun v h => ∃ r, v = some (.int r) ∧ Qr r h) (fun _ _ => False) y_M_load.cls y_M_load.name b_M_load 5 ([] : List ExceptionTableEntry) (some .int) 76 [(0, .ref x0), (1, .int x1), (2, .int x2), (3, .int x3), (4, .int x4)] [] h bc bs := by
  induction n9 with
  | zero => intro x0 x1 x2 x3 x4 h bc bs hw; exact False.elim hw
  | succ n9 ih =>
    intro x0 x1 x2 x3 x4 h bc bs hw
    unfold w_M_load_L76 at hw
    intro p e s m args below meth c hC H locs ls k n hE hl hR hS hk hn
    obtain ⟨hx, hb, hown, hlocks, htab, hml, hr, hB, hA, hnm⟩ := id hC
    have hts := hB.1.1.at args
    refine lv_iload hx hb (xb_d D_M_load 42 rfl) (lv_at hl 4 rfl) ?_
    refine lv_bipush (v := 12) hx hb (xb_d D_M_load 43 rfl) (by decide) ?_
    refine lv_icmp_ge (tgt := 121) hx hb (xb_d D_M_load 44 rfl) rfl (fun hc1 => ?_) (fun hc1 => ?_)
    · have hw := hw.1 hc1
      refine lv_iconst (v := 0) hx hb (xb_d D_M_load 67 rfl) (by decide) ?_
      refine lv_istore hx hb (xb_d D_M_load 68 rfl) hl (by decide) rfl (fun ls hl => ?_)
      have hl : lv_has ls 5 [(4, .int 0), (0, .ref x0), (1, .int x1), (2, .int x2), (3, .int x3)] := hl
      obtain ⟨n8, hw⟩ := hw
      exact am_M_load_L124 l hfl D A σ MC MS h0 Qr n8 x0 x1 x2 x3 0 h bc bs hw p e s m args below meth c hC H locs ls k n hE (lv_sub hl [1, 2, 3, 4, 0] rfl) hR hS (by omega) (by omega)
    · have hw := hw.2 hc1
      refine lv_aload_n hx hb (xb_d D_M_load 45 rfl) rfl (lv_at hl 0 rfl) ?_
      obtain ⟨hk2, hw⟩ := hw
      refine xb_getP (C := R_M) (T := F_M) (N := 97) hx hb 8 9 hts fin_M hown hR hk2 (by decide) rfl (by decide) rfl (hts _ m_fea26463) (fun _ h9 => h9) (xb_d D_M_load 46 rfl) ?_
      obtain ⟨b3, eb3, hw⟩ := hw
      refine xb_some eb3 ?_
      refine lv_bipush (v := 12) hx hb (xb_d D_M_load 47 rfl) (by decide) ?_
      refine lv_aload_n hx hb (xb_d D_M_load 48 rfl) rfl (lv_at hl 0 rfl) ?_
      refine xb_getI (C := R_M) (T := F_M) (N := 97) hx hb 8 5 hts fin_M hown hR hk2 (by decide) rfl (by decide) rfl (hts _ m_b0f42f6b) (fun _ h9 => h9) (xb_d D_M_load 49 rfl) ?_
      refine lv_imul hx hb (xb_d D_M_load 50 rfl) ?_
      refine lv_iload hx hb (xb_d D_M_load 51 rfl) (lv_at hl 4 rfl) ?_
      refine lv_iadd hx hb (xb_d D_M_load 52 rfl) ?_
      refine lv_iconst (v := 0) hx hb (xb_d D_M_load 53 rfl) (by decide) ?_
      obtain ⟨hk4, hw⟩ := hw
      obtain ⟨hi5, hw⟩ := hw
      refine xb_iast hx hb hR hS hk4 hi5 (xb_d D_M_load 54 rfl) (fun H locs hR hS => ?_)
      obtain ⟨h6, eh6⟩ : ∃ x : xb_H, x = xb_I h b3 (Int32.toNatClampNeg ((12 * (xb_i h x0 5)) + x4)) 0 := ⟨_, rfl⟩
      rw [← eh6] at hR
      have hw := hw h6 eh6
      have hE : xb_ext h0 h6 := by rw [eh6]; exact hE
      refine lv_aload_n hx hb (xb_d D_M_load 55 rfl) rfl (lv_at hl 0 rfl) ?_
      have hk2 : xb_k h6 x0 = 9 := by rw [eh6]; exact hk2
      refine xb_getP (C := R_M) (T := F_M) (N := 97) hx hb 8 8 hts fin_M hown hR hk2 (by decide) rfl (by decide) rfl (hts _ m_7cc4ea11) (fun _ h9 => h9) (xb_d D_M_load 56 rfl) ?_
      obtain ⟨b7, eb7, hw⟩ := hw
      refine xb_some eb7 ?_
      refine lv_bipush (v := 12) hx hb (xb_d D_M_load 57 rfl) (by decide) ?_
      refine lv_aload_n hx hb (xb_d D_M_load 58 rfl) rfl (lv_at hl 0 rfl) ?_
      refine xb_getI (C := R_M) (T := F_M) (N := 97) hx hb 8 5 hts fin_M hown hR hk2 (by decide) rfl (by decide) rfl (hts _ m_b0f42f6b) (fun _ h9 => h9) (xb_d D_M_load 59 rfl) ?_
      refine lv_imul hx hb (xb_d D_M_load 60 rfl) ?_
      refine lv_iload hx hb (xb_d D_M_load 61 rfl) (lv_at hl 4 rfl) ?_
      refine lv_iadd hx hb (xb_d D_M_load 62 rfl) ?_
      refine lv_iconst (v := 0) hx hb (xb_d D_M_load 63 rfl) (by decide) ?_
      obtain ⟨hk8, hw⟩ := hw
      obtain ⟨hi9, hw⟩ := hw
      refine xb_iast hx hb hR hS hk8 hi9 (xb_d D_M_load 64 rfl) (fun H locs hR hS => ?_)
      obtain ⟨h10, eh10⟩ : ∃ x : xb_H, x = xb_I h6 b7 (Int32.toNatClampNeg ((12 * (xb_i h6 x0 5)) + x4)) 0 := ⟨_, rfl⟩
      rw [← eh10] at hR
      have hw := hw h10 eh10
      have hE : xb_ext h0 h10 := by rw [eh10]; exact hE
      refine lv_iinc (v := (x4 + 1)) (k := 4) hx hb (xb_d D_M_load 65 rfl) hl rfl (by first | rfl | decide) (by decide) rfl (fun ls hl => ?_)
      have hl : lv_has ls 5 [(4, .int (x4 + 1)), (0, .ref x0), (1, .int x1), (2, .int x2), (3, .int x3)] := hl
      refine lv_goto (tgt := 76) hx hb (xb_d D_M_load 66 rfl) rfl ?_
      exact ih x0 x1 x2 x3 (x4 + 1) h10 bc bs hw p e s m args below meth c hC H locs ls k n hE (lv_sub hl [1, 2, 3, 4, 0] rfl) hR hS (by omega) (by omega)

set_option maxHeartbeats 4000000 in
set_option maxRecDepth 100000 in
theorem am_M_load_L15 (l : Launch) (hfl : l.flags = pinnedFlags ++ [noTraceFlag]) (D : va_G) (A : Nat → Prop) (σ MC MS : Nat) (h0 : xb_H) (Qr : Int32 → xb_H → Prop) (x0 : Nat) (y0 : Int32) (y1 : Nat) (h : xb_H) (bc : Nat) (bs : Nat) (hw : w_M_load_L15 Qr x0 y0 y1 h bc bs) : xb_am l D A σ 14 MC MS h0 (fun v h => ∃ r, v = some (.int r) ∧ Qr r h) (fun _ _ => False) y_M_load.cls y_M_load.name b_M_load 5 ([] : List ExceptionTableEntry) (some .int) 15 [(0, .ref x0)] [.int y0, .ref y1] h bc bs := by
  unfold w_M_load_L15 at hw
  intro p e s m args below meth c hC H locs ls k n hE hl hR hS hk hn
  obtain ⟨hx, hb, hown, hlocks, htab, hml, hr, hB, hA, hnm⟩ := id hC
  have hts := hB.1.1.at args
  obtain ⟨hk1, hw⟩ := hw
  refine xb_putI (C := R_M) (T := F_M) (N := 97) (ty := .int) (x := y0) hx hb 8 0 hts fin_M t_M t_M_ok n_M hown hR hS hk1 (by decide) rfl (by decide) rfl (hts _ m_afabd6a0) (fun _ h9 => h9) rfl (by decide +kernel) rfl rfl (xb_d D_M_load 8 rfl) (fun H locs hR hS => ?_)
  obtain ⟨h2, eh2⟩ : ∃ x : xb_H, x = xb_I h y1 0 y0 := ⟨_, rfl⟩
  rw [← eh2] at hR
  have hw := hw h2 eh2
  have hE : xb_ext h0 h2 := by rw [eh2]; exact hE
  refine lv_aload_n hx hb (xb_d D_M_load 9 rfl) rfl (lv_at hl 0 rfl) ?_
  obtain ⟨hk3, hw⟩ := hw
  refine xb_getI (C := R_M) (T := F_M) (N := 97) hx hb 8 0 hts fin_M hown hR hk3 (by decide) rfl (by decide) rfl (hts _ m_afabd6a0) (fun _ h9 => h9) (xb_d D_M_load 10 rfl) ?_
  refine lv_if_le (tgt := 27) hx hb (xb_d D_M_load 11 rfl) rfl (fun hc4 => ?_) (fun hc4 => ?_)
  · have hw := hw.1 hc4
    refine lv_aload_n hx hb (xb_d D_M_load 14 rfl) rfl (lv_at hl 0 rfl) ?_
    refine xb_getI (C := R_M) (T := F_M) (N := 97) hx hb 8 4 hts fin_M hown hR hk3 (by decide) rfl (by decide) rfl (hts _ m_a4223f90) (fun _ h9 => h9) (xb_d D_M_load 15 rfl) ?_
    obtain ⟨v5, ev5⟩ : ∃ x : Int32, x = (xb_i h2 x0 4) := ⟨_, rfl⟩
    have hw := hw v5 ev5
    refine xt_numi (y := v5) ev5.symm ?_
    refine lv_istore_n hx hb (xb_d D_M_load 16 rfl) rfl hl (by decide) rfl (fun ls hl => ?_)
    have hl : lv_has ls 5 [(1, .int v5), (0, .ref x0)] := hl
    refine lv_aload_n hx hb (xb_d D_M_load 17 rfl) rfl (lv_at hl 1 rfl) ?_
    refine xb_getI (C := R_M) (T := F_M) (N := 97) hx hb 8 13 hts fin_M hown hR hk3 (by decide) rfl (by decide) rfl (hts _ m_d9ebb8df) (fun _ h9 => h9) (xb_d D_M_load 18 rfl) ?_
    obtain ⟨v6, ev6⟩ : ∃ x : Int32, x = (xb_i h2 x0 13) := ⟨_, rfl⟩
    have hw := hw v6 ev6
    refine xt_numi (y := v6) ev6.symm ?_
    refine lv_istore_n hx hb (xb_d D_M_load 19 rfl) rfl hl (by decide) rfl (fun ls hl => ?_)
    have hl : lv_has ls 5 [(2, .int v6), (1, .int v5), (0, .ref x0)] := hl
    refine lv_aload_n hx hb (xb_d D_M_load 20 rfl) rfl (lv_at hl 2 rfl) ?_
    refine xb_getI (C := R_M) (T := F_M) (N := 97) hx hb 8 2 hts fin_M hown hR hk3 (by decide) rfl (by decide) rfl (hts _ m_7895fa0a) (fun _ h9 => h9) (xb_d D_M_load 21 rfl) ?_
    obtain ⟨v7, ev7⟩ : ∃ x : Int32, x = (xb_i h2 x0 2) := ⟨_, rfl⟩
    have hw := hw v7 ev7
    refine xt_numi (y := v7) ev7.symm ?_
    refine lv_istore_n hx hb (xb_d D_M_load 22 rfl) rfl hl (by decide) rfl (fun ls hl => ?_)
    have hl : lv_has ls 5 [(3, .int v7), (2, .int v6), (1, .int v5), (0, .ref x0)] := hl
    refine lv_aload_n hx hb (xb_d D_M_load 23 rfl) rfl (lv_at hl 3 rfl) ?_
    refine lv_aload_n hx hb (xb_d D_M_load 24 rfl) rfl (lv_at hl 3 rfl) ?_
    obtain ⟨c10, sc10, hlc10, hlsc10, hw⟩ := hw
    refine xb_call (D := D) (A := A) (σ := σ) (h := h2) (d := 3) (mc := c10) (ms := sc10) (maxL := 2) (rest := [.ref x0]) (av := [.ref x0]) (fun T hT X => by obtain ⟨cb, r1, r2, r3⟩ := xb_recv (ci := 8) hR rfl hk3 (by decide); exact xt_invV X hx hown (hts _ m_75691c4a) (hts _ m_ab8b88b5) (hts _ m_465bbb27) (xt_sigOf (hts _ m_0e3942d4)) nm_M_keepTape (by rw [hT]; exact r1) r2 r3 (g := F0 m 44 ls [.ref x0, .ref x0]) rfl (argsL := []) (rest := [.ref x0]) rfl rfl (by rw [hb]; exact (xb_d D_M_load 25 rfl))) (ok_M_keepTape l hfl D A σ x0 h2 c10 sc10 _ hw) (hml.trans hl.1.symm) (by rw [hb]; exact (xb_d D_M_load 25 rfl)) (Nat.le_of_ble_eq_true rfl) (Nat.le_of_ble_eq_true rfl) (Nat.le_of_ble_eq_true rfl) (show k + c10 ≤ MC by omega) (show n + sc10 ≤ MS by omega) (xt_w1 hB.1 m_0e3942d4) (xt_cdOf hB.1 m_0e3942d4) (hts _ m_d5ed7bed) hB hR hS hA (fun vv h8 H locs hq hEh8 hR hS => ?_) (fun XX ax h8 H locs hq hEh8 hex hR hS => ?_)
    · obtain ⟨r9, rfl, hw⟩ := hq
      have hw := hw hEh8
      have hE := hE.tr hEh8
      refine W.eq (g2 := F0 m 47 ls [.int r9, .ref x0]) rfl ?_
      have hk3 : xb_k h8 x0 = 9 := hEh8.k hk3
      refine xb_putI (C := R_M) (T := F_M) (N := 97) (ty := .int) (x := r9) hx hb 8 14 hts fin_M t_M t_M_ok n_M hown hR hS hk3 (by decide) rfl (by decide) rfl (hts _ m_a8fce005) (fun _ h9 => h9) rfl (by decide +kernel) rfl rfl (xb_d D_M_load 26 rfl) (fun H locs hR hS => ?_)
      obtain ⟨h11, eh11⟩ : ∃ x : xb_H, x = xb_I h8 x0 14 r9 := ⟨_, rfl⟩
      rw [← eh11] at hR
      have hw := hw h11 eh11
      have hE : xb_ext h0 h11 := by rw [eh11]; exact hE
      refine lv_aload_n hx hb (xb_d D_M_load 27 rfl) rfl (lv_at hl 3 rfl) ?_
      have hk3 : xb_k h11 x0 = 9 := by rw [eh11]; exact hk3
      refine xb_getP (C := R_M) (T := F_M) (N := 97) hx hb 8 6 hts fin_M hown hR hk3 (by decide) rfl (by decide) rfl (hts _ m_2efec494) (fun _ h9 => h9) (xb_d D_M_load 28 rfl) ?_
      obtain ⟨b12, eb12, hw⟩ := hw
      refine xb_some eb12 ?_
      refine lv_aload_n hx hb (xb_d D_M_load 29 rfl) rfl (lv_at hl 3 rfl) ?_
      refine xb_getI (C := R_M) (T := F_M) (N := 97) hx hb 8 5 hts fin_M hown hR hk3 (by decide) rfl (by decide) rfl (hts _ m_b0f42f6b) (fun _ h9 => h9) (xb_d D_M_load 30 rfl) ?_
      refine lv_aload_n hx hb (xb_d D_M_load 31 rfl) rfl (lv_at hl 3 rfl) ?_
      refine xb_getI (C := R_M) (T := F_M) (N := 97) hx hb 8 14 hts fin_M hown hR hk3 (by decide) rfl (by decide) rfl (hts _ m_a8fce005) (fun _ h9 => h9) (xb_d D_M_load 32 rfl) ?_
      obtain ⟨hk13, hw⟩ := hw
      obtain ⟨hi14, hw⟩ := hw
      refine xb_iast hx hb hR hS hk13 hi14 (xb_d D_M_load 33 rfl) (fun H locs hR hS => ?_)
      obtain ⟨h15, eh15⟩ : ∃ x : xb_H, x = xb_I h11 b12 (Int32.toNatClampNeg (xb_i h11 x0 5)) (xb_i h11 x0 14) := ⟨_, rfl⟩
      rw [← eh15] at hR
      have hw := hw h15 eh15
      have hE : xb_ext h0 h15 := by rw [eh15]; exact hE
      refine lv_aload_n hx hb (xb_d D_M_load 34 rfl) rfl (lv_at hl 3 rfl) ?_
      have hk3 : xb_k h15 x0 = 9 := by rw [eh15]; exact hk3
      refine xb_getP (C := R_M) (T := F_M) (N := 97) hx hb 8 7 hts fin_M hown hR hk3 (by decide) rfl (by decide) rfl (hts _ m_36d14bfe) (fun _ h9 => h9) (xb_d D_M_load 35 rfl) ?_
      obtain ⟨b16, eb16, hw⟩ := hw
      refine xb_some eb16 ?_
      refine lv_aload_n hx hb (xb_d D_M_load 36 rfl) rfl (lv_at hl 3 rfl) ?_
      refine xb_getI (C := R_M) (T := F_M) (N := 97) hx hb 8 5 hts fin_M hown hR hk3 (by decide) rfl (by decide) rfl (hts _ m_b0f42f6b) (fun _ h9 => h9) (xb_d D_M_load 37 rfl) ?_
      refine lv_iload_n hx hb (xb_d D_M_load 38 rfl) rfl (lv_at hl 0 rfl) ?_
      obtain ⟨hk17, hw⟩ := hw
      obtain ⟨hi18, hw⟩ := hw
      refine xb_iast hx hb hR hS hk17 hi18 (xb_d D_M_load 39 rfl) (fun H locs hR hS => ?_)
      obtain ⟨h19, eh19⟩ : ∃ x : xb_H, x = xb_I h15 b16 (Int32.toNatClampNeg (xb_i h15 x0 5)) v7 := ⟨_, rfl⟩
      rw [← eh19] at hR
      have hw := hw h19 eh19
      have hE : xb_ext h0 h19 := by rw [eh19]; exact hE
      refine lv_iconst (v := 0) hx hb (xb_d D_M_load 40 rfl) (by decide) ?_
      refine lv_istore hx hb (xb_d D_M_load 41 rfl) hl (by decide) rfl (fun ls hl => ?_)
      have hl : lv_has ls 5 [(4, .int 0), (3, .int v7), (2, .int v6), (1, .int v5), (0, .ref x0)] := hl
      obtain ⟨n8, hw⟩ := hw
      exact am_M_load_L76 l hfl D A σ MC MS h0 Qr n8 x0 v5 v6 v7 0 h19 (bc - c10) (bs - sc10) hw p e s m args below meth c hC H locs ls (k + c10) (n + sc10) hE (lv_sub hl [4, 3, 2, 1, 0] rfl) hR hS (by omega) (by omega)
    · exact False.elim hq
  · have hw := hw.2 hc4
    refine lv_iconst (v := 0) hx hb (xb_d D_M_load 12 rfl) (by decide) ?_
    exact xb_iret hx hb hr hlocks (show k ≤ MC by omega) (show n ≤ MS by omega) hE hR hS (xb_d D_M_load 13 rfl) hw

set_option maxHeartbeats 4000000 in
set_option maxRecDepth 100000 in
theorem ok_M_load (l : Launch) (hfl : l.flags = pinnedFlags ++ [noTraceFlag]) (D : va_G) (A : Nat → Prop) (σ : Nat) (x0 : Nat) (h : xb_H) (bc : Nat) (bs : Nat) (Qr : Int32 → xb_H → Prop) (hw : w_M_load x0 h bc bs Qr) : xt_Met l y_M_load [.code y_M_load b_M_load 5 (some .int)] (xb_rm 14 bc bs) (xb_Pc D A σ h [.ref x0]) (xb_Qc D A h (fun v h => ∃ r, v = some (.int r) ∧ Qr r h) (fun _ _ => False)) bc bs A := by
  refine xb_ofAm (cc := b_M_load) (by decide) (Nat.le_of_ble_eq_true rfl) ?_
  unfold w_M_load at hw
  show xb_am l D A σ 14 bc bs h (fun v h => ∃ r, v = some (.int r) ∧ Qr r h) (fun _ _ => False) y_M_load.cls y_M_load.name b_M_load 5 ([] : List ExceptionTableEntry) (some .int) 0 [(0, .ref x0)] [] h bc bs
  obtain ⟨MC, hMC⟩ : ∃ x, x = bc := ⟨_, rfl⟩
  obtain ⟨MS, hMS⟩ : ∃ x, x = bs := ⟨_, rfl⟩
  rw [show xb_am l D A σ 14 bc bs = xb_am l D A σ 14 MC MS by rw [hMC, hMS]]
  obtain ⟨h0, hh0⟩ : ∃ x, x = h := ⟨_, rfl⟩
  rw [show xb_am l D A σ 14 MC MS h = xb_am l D A σ 14 MC MS h0 by rw [hh0]]
  intro p e s m args below meth c hC H locs ls k n hE hl hR hS hk hn
  obtain ⟨hx, hb, hown, hlocks, htab, hml, hr, hB, hA, hnm⟩ := id hC
  have hts := hB.1.1.at args
  refine lv_aload_n hx hb (xb_d D_M_load 0 rfl) rfl (lv_at hl 0 rfl) ?_
  refine lv_aload_n hx hb (xb_d D_M_load 1 rfl) rfl (lv_at hl 0 rfl) ?_
  obtain ⟨hk1, hw⟩ := hw
  refine xb_getI (C := R_M) (T := F_M) (N := 97) hx hb 8 5 hts fin_M hown hR hk1 (by decide) rfl (by decide) rfl (hts _ m_b0f42f6b) (fun _ h9 => h9) (xb_d D_M_load 2 rfl) ?_
  refine lv_bipush (v := 64) hx hb (xb_d D_M_load 3 rfl) (by decide) ?_
  refine lv_icmp_ne (tgt := 14) hx hb (xb_d D_M_load 4 rfl) rfl (fun hc2 => ?_) (fun hc2 => ?_)
  · have hw := hw.1 hc2
    refine lv_iconst (v := 0) hx hb (xb_d D_M_load 7 rfl) (by decide) ?_
    exact am_M_load_L15 l hfl D A σ MC MS h0 Qr x0 0 x0 h bc bs hw p e s m args below meth c hC H locs ls k n hE (lv_sub hl [0] rfl) hR hS (by omega) (by omega)
  · have hw := hw.2 hc2
    refine lv_iconst (v := 1) hx hb (xb_d D_M_load 5 rfl) (by decide) ?_
    refine lv_goto (tgt := 15) hx hb (xb_d D_M_load 6 rfl) rfl ?_
    exact am_M_load_L15 l hfl D A σ MC MS h0 Qr x0 1 x0 h bc bs hw p e s m args below meth c hC H locs ls k n hE (lv_sub hl [0] rfl) hR hS (by omega) (by omega)

