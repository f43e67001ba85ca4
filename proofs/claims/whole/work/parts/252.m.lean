theorem m_5cfef54b : (.methodLink "StackHostModel" 310 y_M_readModule : Cond) ∈ xt_tbl := xt_in (xt_t10 (List.mem_of_getElem? (i := 206) (by decide +kernel))) (by decide +kernel)
theorem m_1eec85ba : (.instanceMethod y_M_readModule : Cond) ∈ xt_tbl := xt_in (xt_t10 (List.mem_of_getElem? (i := 208) (by decide +kernel))) (by decide +kernel)
theorem m_394a64e5 : (.selects "StackHostModel" y_M_readModule y_M_readModule : Cond) ∈ xt_tbl := xt_in (xt_v9 (q := (⟨"StackHostModel", "readModule", "(I)V"⟩, 97)) (List.mem_of_getElem? (i := 2) (by decide +kernel))) (by decide +kernel)
theorem m_bf4bdbba : (.code y_M_readModule b_M_readModule 8 none : Cond) ∈ xt_tbl := xt_in (xt_t10 (List.mem_of_getElem? (i := 209) (by decide +kernel))) (by decide +kernel)
theorem m_94b4bcfa : (.methodLink "StackHostModel" 313 y_M_checkModule : Cond) ∈ xt_tbl := xt_in (xt_t11 (List.mem_of_getElem? (i := 60) (by decide +kernel))) (by decide +kernel)
theorem m_577cfd59 : (.instanceMethod y_M_checkModule : Cond) ∈ xt_tbl := xt_in (xt_t11 (List.mem_of_getElem? (i := 62) (by decide +kernel))) (by decide +kernel)
theorem m_4b4efe79 : (.selects "StackHostModel" y_M_checkModule y_M_checkModule : Cond) ∈ xt_tbl := xt_in (xt_v10 (q := (⟨"StackHostModel", "checkModule", "(I)V"⟩, 97)) (List.mem_of_getElem? (i := 7) (by decide +kernel))) (by decide +kernel)
theorem m_618d355d : (.code y_M_checkModule b_M_checkModule 4 none : Cond) ∈ xt_tbl := xt_in (xt_t11 (List.mem_of_getElem? (i := 63) (by decide +kernel))) (by decide +kernel)
theorem nm_M_readModule : xt_nm y_M_readModule 1 := ⟨by decide +kernel, by decide +kernel⟩
theorem nm_M_checkModule : xt_nm y_M_checkModule 1 := ⟨by decide +kernel, by decide +kernel⟩
set_option maxRecDepth 100000 in
def T_M_load : List (Nat × Instr × Nat) := [(0, .aload_n 0, 1), (1, .aload_n 0, 1), (2, .getfield 275, 3), (5, .bipush 64, 2), (7, .if_icmp .ne 7, 3), (10, .iconst 1, 1), (11, .goto 4, 3), (14, .iconst 0, 1), (15, .putfield 189, 3), (18, .aload_n 0, 1), (19, .getfield 189, 3), (22, .ifCond .le 5, 3), (25, .iconst 0, 1), (26, .ireturn, 1), (27, .aload_n 0, 1), (28, .getfield 262, 3), (31, .istore_n 1, 1), (32, .aload_n 0, 1), (33, .getfield 272, 3), (36, .istore_n 2, 1), (37, .aload_n 0, 1), (38, .getfield 265, 3), (41, .istore_n 3, 1), (42, .aload_n 0, 1), (43, .aload_n 0, 1), (44, .invokevirtual 307, 3), (47, .putfield 196, 3), (50, .aload_n 0, 1), (51, .getfield 17, 3), (54, .aload_n 0, 1), (55, .getfield 275, 3), (58, .aload_n 0, 1), (59, .getfield 196, 3), (62, .iastore, 1), (63, .aload_n 0, 1), (64, .getfield 21, 3), (67, .aload_n 0, 1), (68, .getfield 275, 3), (71, .iload_n 3, 1), (72, .iastore, 1), (73, .iconst 0, 1), (74, .istore 4, 2), (76, .iload 4, 2), (78, .bipush 12, 2), (80, .if_icmp .ge 41, 3), (83, .aload_n 0, 1), (84, .getfield 27, 3), (87, .bipush 12, 2), (89, .aload_n 0, 1), (90, .getfield 275, 3), (93, .imul, 1), (94, .iload 4, 2), (96, .iadd, 1), (97, .iconst 0, 1), (98, .iastore, 1), (99, .aload_n 0, 1), (100, .getfield 24, 3), (103, .bipush 12, 2), (105, .aload_n 0, 1), (106, .getfield 275, 3), (109, .imul, 1), (110, .iload 4, 2), (112, .iadd, 1), (113, .iconst 0, 1), (114, .iastore, 1), (115, .iinc 4 1, 3), (118, .goto (-42), 3), (121, .iconst 0, 1), (122, .istore 4, 2), (124, .iload 4, 2), (126, .iconst 4, 1), (127, .if_icmp .ge 24, 3), (130, .aload_n 0, 1), (131, .getfield 30, 3), (134, .iconst 4, 1), (135, .aload_n 0, 1), (136, .getfield 275, 3), (139, .imul, 1), (140, .iload 4, 2), (142, .iadd, 1), (143, .iconst 0, 1), (144, .iastore, 1), (145, .iinc 4 1, 3), (148, .goto (-24), 3), (151, .aload_n 0, 1), (152, .iconst 0, 1), (153, .putfield 193, 3), (156, .aload_n 0, 1), (157, .iconst 0, 1), (158, .putfield 199, 3), (161, .aload_n 0, 1), (162, .aload_n 0, 1), (163, .getfield 196, 3), (166, .iload_n 3, 1), (167, .iadd, 1), (168, .invokevirtual 310, 3), (171, .aload_n 0, 1), (172, .getfield 193, 3), (175, .ifCond .ne 21, 3), (178, .aload_n 0, 1), (179, .aload_n 0, 1), (180, .getfield 196, 3), (183, .iload_n 3, 1), (184, .iadd, 1), (185, .putfield 205, 3), (188, .aload_n 0, 1), (189, .aload_n 0, 1), (190, .getfield 275, 3), (193, .invokevirtual 313, 3), (196, .aload_n 0, 1), (197, .getfield 179, 3), (200, .iconst 0, 1), (201, .aload_n 0, 1), (202, .getfield 193, 3), (205, .iastore, 1), (206, .aload_n 0, 1), (207, .getfield 179, 3), (210, .iconst 1, 1), (211, .aload_n 0, 1), (212, .getfield 193, 3), (215, .ifCond .ne 7, 3), (218, .iconst 0, 1), (219, .goto 7, 3), (222, .aload_n 0, 1), (223, .getfield 199, 3), (226, .iastore, 1), (227, .aload_n 0, 1), (228, .getfield 193, 3), (231, .ifCond .ne 7, 3), (234, .iconst 1, 1), (235, .goto 4, 3), (238, .iconst 0, 1), (239, .istore 4, 2), (241, .aload_n 0, 1), (242, .iconst 0, 1), (243, .putfield 193, 3), (246, .iload 4, 2), (248, .ifCond .ne 15, 3), (251, .aload_n 0, 1), (252, .iload_n 1, 1), (253, .putfield 262, 3), (256, .aload_n 0, 1), (257, .iload_n 2, 1), (258, .putfield 272, 3), (261, .iconst (-1), 1), (262, .ireturn, 1), (263, .aload_n 0, 1), (264, .dup, 1), (265, .getfield 275, 3), (268, .iconst 1, 1), (269, .iadd, 1), (270, .putfield 275, 3), (273, .aload_n 0, 1), (274, .getfield 275, 3), (277, .iconst 1, 1), (278, .isub, 1), (279, .ireturn, 1)]
theorem D_M_load : ∀ q ∈ T_M_load, decode b_M_load q.1 = .ok (q.2.1, q.2.2) := by decide +kernel

set_option maxHeartbeats 4000000 in
set_option maxRecDepth 100000 in
theorem am_M_load_L239 (l : Launch) (hfl : l.flags = pinnedFlags ++ [noTraceFlag]) (D : va_G) (A : Nat → Prop) (σ MC MS : Nat) (h0 : xb_H) (Qr : Int32 → xb_H → Nat → Nat → Prop) (x0 : Nat) (x1 : Int32) (x2 : Int32) (y0 : Int32) (h : xb_H) (bc : Nat) (bs : Nat) (hw : w_M_load_L239 Qr x0 x1 x2 y0 h bc bs) : xb_am l D A σ 14 MC MS h0 (fun v h bc bs => ∃ r, v = some (.int r) ∧ Qr r h bc bs) (fun _ _ _ _ => False) y_M_load.cls y_M_load.name b_M_load 5 ([] : List ExceptionTableEntry) (some .int) 239 [(0, .ref x0), (1, .int x1), (2, .int x2)] [.int y0] h bc bs := by
  unfold w_M_load_L239 at hw
  intro p e s m args below meth c hC H locs ls k n hE hl hR hS hk hn
  obtain ⟨hx, hb, hown, hlocks, htab, hml, hr, hB, hA, hnm⟩ := id hC
  have hts := hB.1.1.at args
  refine lv_istore hx hb (xb_d D_M_load 132 rfl) hl (by decide) rfl (fun ls hl => ?_)
  have hl : lv_has ls 5 [(4, .int y0), (0, .ref x0), (1, .int x1), (2, .int x2)] := hl
  refine lv_aload_n hx hb (xb_d D_M_load 133 rfl) rfl (lv_at hl 1 rfl) ?_
  refine lv_iconst (v := 0) hx hb (xb_d D_M_load 134 rfl) (by decide) ?_
  obtain ⟨hk1, hw⟩ := hw
  refine xb_putI (C := R_M) (T := F_M) (N := 97) (ty := .int) (x := 0) hx hb 8 17 hts fin_M t_M t_M_ok n_M hown hR hS hk1 (by decide) rfl (by decide) rfl (hts _ m_ff69da61) (fun _ h9 => h9) rfl (by decide +kernel) rfl rfl (xb_d D_M_load 135 rfl) (fun H locs hR hS => ?_)
  obtain ⟨h2, eh2⟩ : ∃ x : xb_H, x = xb_I h x0 17 0 := ⟨_, rfl⟩
  rw [← eh2] at hR
  have hw := hw h2 eh2
  have hE : xb_ext h0 h2 := by rw [eh2]; exact hE
  refine lv_iload hx hb (xb_d D_M_load 136 rfl) (lv_at hl 0 rfl) ?_
  refine lv_if_ne (tgt := 263) hx hb (xb_d D_M_load 137 rfl) rfl (fun hc3 => ?_) (fun hc3 => ?_)
  · have hw := hw.1 hc3
    refine lv_aload_n hx hb (xb_d D_M_load 146 rfl) rfl (lv_at hl 1 rfl) ?_
    refine lv_dup hx hb (xb_d D_M_load 147 rfl) rfl ?_
    have hk1 : xb_k h2 x0 = 9 := by rw [eh2]; exact hk1
    refine xb_getI (C := R_M) (T := F_M) (N := 97) hx hb 8 5 hts fin_M hown hR hk1 (by decide) rfl (by decide) rfl (hts _ m_b0f42f6b) (fun _ h9 => h9) (xb_d D_M_load 148 rfl) ?_
    refine lv_iconst (v := 1) hx hb (xb_d D_M_load 149 rfl) (by decide) ?_
    refine lv_iadd hx hb (xb_d D_M_load 150 rfl) ?_
    refine xb_putI (C := R_M) (T := F_M) (N := 97) (ty := .int) (x := ((xb_i h2 x0 5) + 1)) hx hb 8 5 hts fin_M t_M t_M_ok n_M hown hR hS hk1 (by decide) rfl (by decide) rfl (hts _ m_b0f42f6b) (fun _ h9 => h9) rfl (by decide +kernel) rfl rfl (xb_d D_M_load 151 rfl) (fun H locs hR hS => ?_)
    obtain ⟨h4, eh4⟩ : ∃ x : xb_H, x = xb_I h2 x0 5 ((xb_i h2 x0 5) + 1) := ⟨_, rfl⟩
    rw [← eh4] at hR
    have hw := hw h4 eh4
    have hE : xb_ext h0 h4 := by rw [eh4]; exact hE
    refine lv_aload_n hx hb (xb_d D_M_load 152 rfl) rfl (lv_at hl 1 rfl) ?_
    have hk1 : xb_k h4 x0 = 9 := by rw [eh4]; exact hk1
    refine xb_getI (C := R_M) (T := F_M) (N := 97) hx hb 8 5 hts fin_M hown hR hk1 (by decide) rfl (by decide) rfl (hts _ m_b0f42f6b) (fun _ h9 => h9) (xb_d D_M_load 153 rfl) ?_
    refine lv_iconst (v := 1) hx hb (xb_d D_M_load 154 rfl) (by decide) ?_
    refine lv_isub hx hb (xb_d D_M_load 155 rfl) ?_
    exact xb_iret bc bs hx hb hr hlocks (show k + bc ≤ MC by omega) (show n + bs ≤ MS by omega) hE hR hS (xb_d D_M_load 156 rfl) hw
  · have hw := hw.2 hc3
    refine lv_aload_n hx hb (xb_d D_M_load 138 rfl) rfl (lv_at hl 1 rfl) ?_
    refine lv_iload_n hx hb (xb_d D_M_load 139 rfl) rfl (lv_at hl 2 rfl) ?_
    have hk1 : xb_k h2 x0 = 9 := by rw [eh2]; exact hk1
    refine xb_putI (C := R_M) (T := F_M) (N := 97) (ty := .int) (x := x1) hx hb 8 4 hts fin_M t_M t_M_ok n_M hown hR hS hk1 (by decide) rfl (by decide) rfl (hts _ m_a4223f90) (fun _ h9 => h9) rfl (by decide +kernel) rfl rfl (xb_d D_M_load 140 rfl) (fun H locs hR hS => ?_)
    obtain ⟨h5, eh5⟩ : ∃ x : xb_H, x = xb_I h2 x0 4 x1 := ⟨_, rfl⟩
    rw [← eh5] at hR
    have hw := hw h5 eh5
    have hE : xb_ext h0 h5 := by rw [eh5]; exact hE
    refine lv_aload_n hx hb (xb_d D_M_load 141 rfl) rfl (lv_at hl 1 rfl) ?_
    refine lv_iload_n hx hb (xb_d D_M_load 142 rfl) rfl (lv_at hl 3 rfl) ?_
    have hk1 : xb_k h5 x0 = 9 := by rw [eh5]; exact hk1
    refine xb_putI (C := R_M) (T := F_M) (N := 97) (ty := .int) (x := x2) hx hb 8 13 hts fin_M t_M t_M_ok n_M hown hR hS hk1 (by decide) rfl (by decide) rfl (hts _ m_d9ebb8df) (fun _ h9 => h9) rfl (by decide +kernel) rfl rfl (xb_d D_M_load 143 rfl) (fun H locs hR hS => ?_)
    obtain ⟨h6, eh6⟩ : ∃ x : xb_H, x = xb_I h5 x0 13 x2 := ⟨_, rfl⟩
    rw [← eh6] at hR
    have hw := hw h6 eh6
    have hE : xb_ext h0 h6 := by rw [eh6]; exact hE
    refine lv_iconst (v := (-1)) hx hb (xb_d D_M_load 144 rfl) (by decide) ?_
    exact xb_iret bc bs hx hb hr hlocks (show k + bc ≤ MC by omega) (show n + bs ≤ MS by omega) hE hR hS (xb_d D_M_load 145 rfl) hw

set_option maxHeartbeats 4000000 in
set_option maxRecDepth 100000 in
theorem am_M_load_L226 (l : Launch) (hfl : l.flags = pinnedFlags ++ [noTraceFlag]) (D : va_G) (A : Nat → Prop) (σ MC MS : Nat) (h0 : xb_H) (Qr : Int32 → xb_H → Nat → Nat → Prop) (x0 : Nat) (x1 : Int32) (x2 : Int32) (y0 : Int32) (y1 : Int32) (y2 : Nat) (h : xb_H) (bc : Nat) (bs : Nat) (hw : w_M_load_L226 Qr x0 x1 x2 y0 y1 y2 h bc bs) : xb_am l D A σ 14 MC MS h0 (fun v h bc bs => ∃ r, v = some (.int r) ∧ Qr r h bc bs) (fun _ _ _ _ => False) y_M_load.cls y_M_load.name b_M_load 5 ([] : List ExceptionTableEntry) (some .int) 226 [(0, .ref x0), (1, .int x1), (2, .int x2)] [.int y0, .int y1, .ref y2] h bc bs := by
  unfold w_M_load_L226 at hw
  intro p e s m args below meth c hC H locs ls k n hE hl hR hS hk hn
  obtain ⟨hx, hb, hown, hlocks, htab, hml, hr, hB, hA, hnm⟩ := id hC
  have hts := hB.1.1.at args
  obtain ⟨hk1, hw⟩ := hw
  obtain ⟨hi2, hw⟩ := hw
  refine xb_iast hx hb hR hS hk1 hi2 (xb_d D_M_load 125 rfl) (fun H locs hR hS => ?_)
  obtain ⟨h3, eh3⟩ : ∃ x : xb_H, x = xb_I h y2 (Int32.toNatClampNeg y1) y0 := ⟨_, rfl⟩
  rw [← eh3] at hR
  have hw := hw h3 eh3
  have hE : xb_ext h0 h3 := by rw [eh3]; exact hE
  refine lv_aload_n hx hb (xb_d D_M_load 126 rfl) rfl (lv_at hl 0 rfl) ?_
  obtain ⟨hk4, hw⟩ := hw
  refine xb_getI (C := R_M) (T := F_M) (N := 97) hx hb 8 17 hts fin_M hown hR hk4 (by decide) rfl (by decide) rfl (hts _ m_ff69da61) (fun _ h9 => h9) (xb_d D_M_load 127 rfl) ?_
  refine lv_if_ne (tgt := 238) hx hb (xb_d D_M_load 128 rfl) rfl (fun hc5 => ?_) (fun hc5 => ?_)
  · have hw := hw.1 hc5
    refine lv_iconst (v := 0) hx hb (xb_d D_M_load 131 rfl) (by decide) ?_
    exact am_M_load_L239 l hfl D A σ MC MS h0 Qr x0 x1 x2 0 h3 bc bs hw p e s m args below meth c hC H locs ls k n hE (lv_sub hl [0, 1, 2] rfl) hR hS (by omega) (by omega)
  · have hw := hw.2 hc5
    refine lv_iconst (v := 1) hx hb (xb_d D_M_load 129 rfl) (by decide) ?_
    refine lv_goto (tgt := 239) hx hb (xb_d D_M_load 130 rfl) rfl ?_
    exact am_M_load_L239 l hfl D A σ MC MS h0 Qr x0 x1 x2 1 h3 bc bs hw p e s m args below meth c hC H locs ls k n hE (lv_sub hl [0, 1, 2] rfl) hR hS (by omega) (by omega)

set_option maxHeartbeats 4000000 in
set_option maxRecDepth 100000 in
theorem am_M_load_L196 (l : Launch) (hfl : l.flags = pinnedFlags ++ [noTraceFlag]) (D : va_G) (A : Nat → Prop) (σ MC MS : Nat) (h0 : xb_H) (Qr : Int32 → xb_H → Nat → Nat → Prop) (x0 : Nat) (x1 : Int32) (x2 : Int32) (h : xb_H) (bc : Nat) (bs : Nat) (hw : w_M_load_L196 Qr x0 x1 x2 h bc bs) : xb_am l D A σ 14 MC MS h0 (fun v h bc bs => ∃ r, v = some (.int r) ∧ Qr r h bc bs) (fun _ _ _ _ => False) y_M_load.cls y_M_load.name b_M_load 5 ([] : List ExceptionTableEntry) (some .int) 196 [(0, .ref x0), (1, .int x1), (2, .int x2)] [] h bc bs := by
  unfold w_M_load_L196 at hw
  intro p e s m args below meth c hC H locs ls k n hE hl hR hS hk hn
  obtain ⟨hx, hb, hown, hlocks, htab, hml, hr, hB, hA, hnm⟩ := id hC
  have hts := hB.1.1.at args
  refine lv_aload_n hx hb (xb_d D_M_load 109 rfl) rfl (lv_at hl 0 rfl) ?_
  obtain ⟨hk1, hw⟩ := hw
  refine xb_getP (C := R_M) (T := F_M) (N := 97) hx hb 8 89 hts fin_M hown hR hk1 (by decide) rfl (by decide) rfl (hts _ m_8367c681) (fun _ h9 => h9) (xb_d D_M_load 110 rfl) ?_
  obtain ⟨b2, eb2, hw⟩ := hw
  refine xb_some eb2 ?_
  refine lv_iconst (v := 0) hx hb (xb_d D_M_load 111 rfl) (by decide) ?_
  refine lv_aload_n hx hb (xb_d D_M_load 112 rfl) rfl (lv_at hl 0 rfl) ?_
  refine xb_getI (C := R_M) (T := F_M) (N := 97) hx hb 8 17 hts fin_M hown hR hk1 (by decide) rfl (by decide) rfl (hts _ m_ff69da61) (fun _ h9 => h9) (xb_d D_M_load 113 rfl) ?_
  obtain ⟨hk3, hw⟩ := hw
  obtain ⟨hi4, hw⟩ := hw
  refine xb_iast hx hb hR hS hk3 hi4 (xb_d D_M_load 114 rfl) (fun H locs hR hS => ?_)
  obtain ⟨h5, eh5⟩ : ∃ x : xb_H, x = xb_I h b2 (Int32.toNatClampNeg 0) (xb_i h x0 17) := ⟨_, rfl⟩
  rw [← eh5] at hR
  have hw := hw h5 eh5
  have hE : xb_ext h0 h5 := by rw [eh5]; exact hE
  refine lv_aload_n hx hb (xb_d D_M_load 115 rfl) rfl (lv_at hl 0 rfl) ?_
  have hk1 : xb_k h5 x0 = 9 := by rw [eh5]; exact hk1
  refine xb_getP (C := R_M) (T := F_M) (N := 97) hx hb 8 89 hts fin_M hown hR hk1 (by decide) rfl (by decide) rfl (hts _ m_8367c681) (fun _ h9 => h9) (xb_d D_M_load 116 rfl) ?_
  obtain ⟨b6, eb6, hw⟩ := hw
  refine xb_some eb6 ?_
  refine lv_iconst (v := 1) hx hb (xb_d D_M_load 117 rfl) (by decide) ?_
  refine lv_aload_n hx hb (xb_d D_M_load 118 rfl) rfl (lv_at hl 0 rfl) ?_
  refine xb_getI (C := R_M) (T := F_M) (N := 97) hx hb 8 17 hts fin_M hown hR hk1 (by decide) rfl (by decide) rfl (hts _ m_ff69da61) (fun _ h9 => h9) (xb_d D_M_load 119 rfl) ?_
  refine lv_if_ne (tgt := 222) hx hb (xb_d D_M_load 120 rfl) rfl (fun hc7 => ?_) (fun hc7 => ?_)
  · have hw := hw.1 hc7
    refine lv_aload_n hx hb (xb_d D_M_load 123 rfl) rfl (lv_at hl 0 rfl) ?_
    refine xb_getI (C := R_M) (T := F_M) (N := 97) hx hb 8 18 hts fin_M hown hR hk1 (by decide) rfl (by decide) rfl (hts _ m_3fd8f0e3) (fun _ h9 => h9) (xb_d D_M_load 124 rfl) ?_
    exact am_M_load_L226 l hfl D A σ MC MS h0 Qr x0 x1 x2 (xb_i h5 x0 18) 1 b6 h5 bc bs hw p e s m args below meth c hC H locs ls k n hE (lv_sub hl [0, 1, 2] rfl) hR hS (by omega) (by omega)
  · have hw := hw.2 hc7
    refine lv_iconst (v := 0) hx hb (xb_d D_M_load 121 rfl) (by decide) ?_
    refine lv_goto (tgt := 226) hx hb (xb_d D_M_load 122 rfl) rfl ?_
    exact am_M_load_L226 l hfl D A σ MC MS h0 Qr x0 x1 x2 0 1 b6 h5 bc bs hw p e s m args below meth c hC H locs ls k n hE (lv_sub hl [0, 1, 2] rfl) hR hS (by omega) (by omega)

set_option maxHeartbeats 4000000 in
set_option maxRecDepth 100000 in
theorem am_M_load_L124 (l : Launch) (hfl : l.flags = pinnedFlags ++ [noTraceFlag]) (D : va_G) (A : Nat → Prop) (σ MC MS : Nat) (h0 : xb_H) (Qr : Int32 → xb_H → Nat → Nat → Prop) (n9 : Nat) : ∀ (x0 : Nat) (x1 : Int32) (x2 : Int32) (x3 : Int32) (x4 : Int32) (h : xb_H) (bc : Nat) (bs : Nat), w_M_load_L124 Qr n9 x0 x1 x2 x3 x4 h bc bs → xb_am l D A σ 14 MC MS h0 (fun v h bc bs => ∃ r, v = some (.int r) ∧ Qr r h bc bs) (fun _ _ _ _ => False) y_M_load.cls y_M_load.name b_M_load 5 ([] : List ExceptionTableEntry) (some .int) 124 [(0, .ref x0), (1, .int x1), (2, .int x2), (3, .int x3), (4, .int x4)] [] h bc bs := by
  induction n9 with
  | zero => intro x0 x1 x2 x3 x4 h bc bs hw; exact False.elim hw
  | succ n9 ih =>
    intro x0 x1 x2 x3 x4 h bc bs hw
    unfold w_M_load_L124 at hw
    intro p e s m args below meth c hC H locs ls k n hE hl hR hS hk hn
    obtain ⟨hx, hb, hown, hlocks, htab, hml, hr, hB, hA, hnm⟩ := id hC
    have hts := hB.1.1.at args
    refine lv_iload hx hb (xb_d D_M_load 69 rfl) (lv_at hl 4 rfl) ?_
    refine lv_iconst (v := 4) hx hb (xb_d D_M_load 70 rfl) (by decide) ?_
    refine lv_icmp_ge (tgt := 151) hx hb (xb_d D_M_load 71 rfl) rfl (fun hc1 => ?_) (fun hc1 => ?_)
    · have hw := hw.1 hc1
      refine lv_aload_n hx hb (xb_d D_M_load 84 rfl) rfl (lv_at hl 0 rfl) ?_
      refine lv_iconst (v := 0) hx hb (xb_d D_M_load 85 rfl) (by decide) ?_
      obtain ⟨hk2, hw⟩ := hw
      refine xb_putI (C := R_M) (T := F_M) (N := 97) (ty := .int) (x := 0) hx hb 8 17 hts fin_M t_M t_M_ok n_M hown hR hS hk2 (by decide) rfl (by decide) rfl (hts _ m_ff69da61) (fun _ h9 => h9) rfl (by decide +kernel) rfl rfl (xb_d D_M_load 86 rfl) (fun H locs hR hS => ?_)
      obtain ⟨h3, eh3⟩ : ∃ x : xb_H, x = xb_I h x0 17 0 := ⟨_, rfl⟩
      rw [← eh3] at hR
      have hw := hw h3 eh3
      have hE : xb_ext h0 h3 := by rw [eh3]; exact hE
      refine lv_aload_n hx hb (xb_d D_M_load 87 rfl) rfl (lv_at hl 0 rfl) ?_
      refine lv_iconst (v := 0) hx hb (xb_d D_M_load 88 rfl) (by decide) ?_
      have hk2 : xb_k h3 x0 = 9 := by rw [eh3]; exact hk2
      refine xb_putI (C := R_M) (T := F_M) (N := 97) (ty := .int) (x := 0) hx hb 8 18 hts fin_M t_M t_M_ok n_M hown hR hS hk2 (by decide) rfl (by decide) rfl (hts _ m_3fd8f0e3) (fun _ h9 => h9) rfl (by decide +kernel) rfl rfl (xb_d D_M_load 89 rfl) (fun H locs hR hS => ?_)
      obtain ⟨h4, eh4⟩ : ∃ x : xb_H, x = xb_I h3 x0 18 0 := ⟨_, rfl⟩
      rw [← eh4] at hR
      have hw := hw h4 eh4
      have hE : xb_ext h0 h4 := by rw [eh4]; exact hE
      refine lv_aload_n hx hb (xb_d D_M_load 90 rfl) rfl (lv_at hl 0 rfl) ?_
      refine lv_aload_n hx hb (xb_d D_M_load 91 rfl) rfl (lv_at hl 0 rfl) ?_
      have hk2 : xb_k h4 x0 = 9 := by rw [eh4]; exact hk2
      refine xb_getI (C := R_M) (T := F_M) (N := 97) hx hb 8 14 hts fin_M hown hR hk2 (by decide) rfl (by decide) rfl (hts _ m_a8fce005) (fun _ h9 => h9) (xb_d D_M_load 92 rfl) ?_
      refine lv_iload_n hx hb (xb_d D_M_load 93 rfl) rfl (lv_at hl 3 rfl) ?_
      refine lv_iadd hx hb (xb_d D_M_load 94 rfl) ?_
      refine xb_call (D := D) (A := A) (σ := σ) (h := h4) (d := 11) (mc := bc) (ms := bs) (maxL := 8) (rest := []) (av := [.ref x0, .int ((xb_i h4 x0 14) + x3)]) (fun T hT X => by obtain ⟨cb9, ra9, rb9, rc9⟩ := xb_recv (ci := 8) hR rfl hk2 (by decide); exact xt_invV X hx hown (hts _ m_5cfef54b) (hts _ m_1eec85ba) (hts _ m_394a64e5) (xt_sigOf (hts _ m_bf4bdbba)) nm_M_readModule (by rw [hT]; exact ra9) rb9 rc9 (g := F0 m 168 ls [.int ((xb_i h4 x0 14) + x3), .ref x0]) rfl (argsL := [.int ((xb_i h4 x0 14) + x3)]) (rest := []) rfl rfl (by rw [hb]; exact (xb_d D_M_load 95 rfl))) (ok_M_readModule l hfl D A σ x0 ((xb_i h4 x0 14) + x3) h4 bc bs _ hw) (hml.trans hl.1.symm) (by rw [hb]; exact (xb_d D_M_load 95 rfl)) (Nat.le_of_ble_eq_true rfl) (Nat.le_of_ble_eq_true rfl) (Nat.le_of_ble_eq_true rfl) (show k + bc ≤ MC by omega) (show n + bs ≤ MS by omega) (xt_w1 hB.1 m_bf4bdbba) (xt_cdOf hB.1 m_bf4bdbba) (hts _ m_d5ed7bed) hB hR hS hA (fun vv h5 bc6 bs6 kk6 nn6 H locs hk6 hn6 hq hEh5 hR hS => ?_) (fun XX ax h5 bc6 bs6 kk6 nn6 H locs hk6 hn6 hq hEh5 hex hR hS => ?_)
      · obtain ⟨rfl, hw⟩ := hq
        have hw := hw hEh5
        have hE := hE.tr hEh5
        refine W.eq (g2 := F0 m 171 ls []) rfl ?_
        refine lv_aload_n hx hb (xb_d D_M_load 96 rfl) rfl (lv_at hl 0 rfl) ?_
        have hk2 : xb_k h5 x0 = 9 := hEh5.k hk2
        refine xb_getI (C := R_M) (T := F_M) (N := 97) hx hb 8 17 hts fin_M hown hR hk2 (by decide) rfl (by decide) rfl (hts _ m_ff69da61) (fun _ h9 => h9) (xb_d D_M_load 97 rfl) ?_
        refine lv_if_ne (tgt := 196) hx hb (xb_d D_M_load 98 rfl) rfl (fun hc7 => ?_) (fun hc7 => ?_)
        · have hw := hw.1 hc7
          exact am_M_load_L196 l hfl D A σ MC MS h0 Qr x0 x1 x2 h5 bc6 bs6 hw p e s m args below meth c hC H locs ls (k + kk6) (n + nn6) hE (lv_sub hl [0, 1, 2] rfl) hR hS (by omega) (by omega)
        · have hw := hw.2 hc7
          refine lv_aload_n hx hb (xb_d D_M_load 99 rfl) rfl (lv_at hl 0 rfl) ?_
          refine lv_aload_n hx hb (xb_d D_M_load 100 rfl) rfl (lv_at hl 0 rfl) ?_
          refine xb_getI (C := R_M) (T := F_M) (N := 97) hx hb 8 14 hts fin_M hown hR hk2 (by decide) rfl (by decide) rfl (hts _ m_a8fce005) (fun _ h9 => h9) (xb_d D_M_load 101 rfl) ?_
          refine lv_iload_n hx hb (xb_d D_M_load 102 rfl) rfl (lv_at hl 3 rfl) ?_
          refine lv_iadd hx hb (xb_d D_M_load 103 rfl) ?_
          refine xb_putI (C := R_M) (T := F_M) (N := 97) (ty := .int) (x := ((xb_i h5 x0 14) + x3)) hx hb 8 16 hts fin_M t_M t_M_ok n_M hown hR hS hk2 (by decide) rfl (by decide) rfl (hts _ m_48124c81) (fun _ h9 => h9) rfl (by decide +kernel) rfl rfl (xb_d D_M_load 104 rfl) (fun H locs hR hS => ?_)
          obtain ⟨h8, eh8⟩ : ∃ x : xb_H, x = xb_I h5 x0 16 ((xb_i h5 x0 14) + x3) := ⟨_, rfl⟩
          rw [← eh8] at hR
          have hw := hw h8 eh8
          have hE : xb_ext h0 h8 := by rw [eh8]; exact hE
          refine lv_aload_n hx hb (xb_d D_M_load 105 rfl) rfl (lv_at hl 0 rfl) ?_
          refine lv_aload_n hx hb (xb_d D_M_load 106 rfl) rfl (lv_at hl 0 rfl) ?_
          have hk2 : xb_k h8 x0 = 9 := by rw [eh8]; exact hk2
          refine xb_getI (C := R_M) (T := F_M) (N := 97) hx hb 8 5 hts fin_M hown hR hk2 (by decide) rfl (by decide) rfl (hts _ m_b0f42f6b) (fun _ h9 => h9) (xb_d D_M_load 107 rfl) ?_
          refine xb_call0 (D := D) (A := A) (σ := σ) (h := h8) (d := 13) (maxL := 4) (rest := []) (av := [.ref x0, .int (xb_i h8 x0 5)]) (fun T hT X => by obtain ⟨cb9, ra9, rb9, rc9⟩ := xb_recv (ci := 8) hR rfl hk2 (by decide); exact xt_invV X hx hown (hts _ m_94b4bcfa) (hts _ m_577cfd59) (hts _ m_4b4efe79) (xt_sigOf (hts _ m_618d355d)) nm_M_checkModule (by rw [hT]; exact ra9) rb9 rc9 (g := F0 m 193 ls [.int (xb_i h8 x0 5), .ref x0]) rfl (argsL := [.int (xb_i h8 x0 5)]) (rest := []) rfl rfl (by rw [hb]; exact (xb_d D_M_load 108 rfl))) (ok_M_checkModule l hfl D A σ x0 (xb_i h8 x0 5) h8 _ hw) (hml.trans hl.1.symm) (by rw [hb]; exact (xb_d D_M_load 108 rfl)) (Nat.le_of_ble_eq_true rfl) (Nat.le_of_ble_eq_true rfl) (Nat.le_of_ble_eq_true rfl) (show (k + kk6) ≤ MC by omega) (show (n + nn6) ≤ MS by omega) (xt_w1 hB.1 m_618d355d) (xt_cdOf hB.1 m_618d355d) (hts _ m_d5ed7bed) hB hR hS hA (fun vv h9 H locs hq hEh9 hR hS => ?_)
          obtain ⟨rfl, hw⟩ := hq
          have hw := hw hEh9
          have hE := hE.tr hEh9
          refine W.eq (g2 := F0 m 196 ls []) rfl ?_
          exact am_M_load_L196 l hfl D A σ MC MS h0 Qr x0 x1 x2 h9 bc6 bs6 hw p e s m args below meth c hC H locs ls (k + kk6) (n + nn6) hE (lv_sub hl [0, 1, 2] rfl) hR hS (by omega) (by omega)
      · exact False.elim hq
    · have hw := hw.2 hc1
      refine lv_aload_n hx hb (xb_d D_M_load 72 rfl) rfl (lv_at hl 0 rfl) ?_
      obtain ⟨hk11, hw⟩ := hw
      refine xb_getP (C := R_M) (T := F_M) (N := 97) hx hb 8 10 hts fin_M hown hR hk11 (by decide) rfl (by decide) rfl (hts _ m_01d0d957) (fun _ h9 => h9) (xb_d D_M_load 73 rfl) ?_
      obtain ⟨b12, eb12, hw⟩ := hw
      refine xb_some eb12 ?_
      refine lv_iconst (v := 4) hx hb (xb_d D_M_load 74 rfl) (by decide) ?_
      refine lv_aload_n hx hb (xb_d D_M_load 75 rfl) rfl (lv_at hl 0 rfl) ?_
      refine xb_getI (C := R_M) (T := F_M) (N := 97) hx hb 8 5 hts fin_M hown hR hk11 (by decide) rfl (by decide) rfl (hts _ m_b0f42f6b) (fun _ h9 => h9) (xb_d D_M_load 76 rfl) ?_
      refine lv_imul hx hb (xb_d D_M_load 77 rfl) ?_
      refine lv_iload hx hb (xb_d D_M_load 78 rfl) (lv_at hl 4 rfl) ?_
      refine lv_iadd hx hb (xb_d D_M_load 79 rfl) ?_
      refine lv_iconst (v := 0) hx hb (xb_d D_M_load 80 rfl) (by decide) ?_
      obtain ⟨hk13, hw⟩ := hw
      obtain ⟨hi14, hw⟩ := hw
      refine xb_iast hx hb hR hS hk13 hi14 (xb_d D_M_load 81 rfl) (fun H locs hR hS => ?_)
      obtain ⟨h15, eh15⟩ : ∃ x : xb_H, x = xb_I h b12 (Int32.toNatClampNeg ((4 * (xb_i h x0 5)) + x4)) 0 := ⟨_, rfl⟩
      rw [← eh15] at hR
      have hw := hw h15 eh15
      have hE : xb_ext h0 h15 := by rw [eh15]; exact hE
      refine lv_iinc (v := (x4 + 1)) (k := 4) hx hb (xb_d D_M_load 82 rfl) hl rfl (by first | rfl | decide) (by decide) rfl (fun ls hl => ?_)
      have hl : lv_has ls 5 [(4, .int (x4 + 1)), (0, .ref x0), (1, .int x1), (2, .int x2), (3, .int x3)] := hl
      refine lv_goto (tgt := 124) hx hb (xb_d D_M_load 83 rfl) rfl ?_
      exact ih x0 x1 x2 x3 (x4 + 1) h15 bc bs hw p e s m args below meth c hC H locs ls k n hE (lv_sub hl [1, 2, 3, 4, 0] rfl) hR hS (by omega) (by omega)

set_option maxHeartbeats 4000000 in
set_option maxRecDepth 100000 in
theorem am_M_load_L76 (l : Launch) (hfl : l.flags = pinnedFlags ++ [noTraceFlag]) (D : va_G) (A : Nat → Prop) (σ MC MS : Nat) (h0 : xb_H) (Qr : Int32 → xb_H → Nat → Nat → Prop) (n9 : Nat) : ∀ (x0 : Nat) (x1 : Int32) (x2 : Int32) (x3 : Int32) (x4 : Int32) (h : xb_H) (bc : Nat) (bs : Nat), w_M_load_L76 Qr n9 x0 x1 x2 x3 x4 h bc bs → xb_am l D A σ 14 MC MS h0 (fun v h bc bs => ∃ r, v = some (.int r) ∧ Qr r h bc bs) (fun _ _ _ _ => False) y_M_load.cls y_M_load.name b_M_load 5 ([] : List ExceptionTableEntry) (some .int) 76 [(0, .ref x0), (1, .int x1), (2, .int x2), (3, .int x3), (4, .int x4)] [] h bc bs := by
  induction n9 with
  | zero => intro x0 x1 x2 x3 x4 h bc bs hw; exact False.elim hw
  | succ n9 ih =>
    intro x0 x1 x2 x3 x4 h bc bs hw
    unfold w_M_load_L76 at hw
    intro p e s m args below meth c hC H locs ls k n hE hl hR hS hk hn
    obtain ⟨hx, hb, hown, hlocks, htab, hml, hr, hB, hA, hnm⟩ := id hC
    have hts := hB.1.1.at args
    refine lv_iload hx hb (xb_d D_M_load 42 rfl) (lv_at hl 4 rfl) ?_
    refine lv_bipush (v := 12) hx hb (xb_d D_M_load 43 rfl) (by decide) ?_
    refine lv_icmp_ge (tgt := 121) hx hb (xb_d D_M_load 44 rfl) rfl (fun hc1 => ?_) (fun hc1 => ?_)
    · have hw := hw.1 hc1
      refine lv_iconst (v := 0) hx hb (xb_d D_M_load 67 rfl) (by decide) ?_
      refine lv_istore hx hb (xb_d D_M_load 68 rfl) hl (by decide) rfl (fun ls hl => ?_)
      have hl : lv_has ls 5 [(4, .int 0), (0, .ref x0), (1, .int x1), (2, .int x2), (3, .int x3)] := hl
      obtain ⟨n8, hw⟩ := hw
      exact am_M_load_L124 l hfl D A σ MC MS h0 Qr n8 x0 x1 x2 x3 0 h bc bs hw p e s m args below meth c hC H locs ls k n hE (lv_sub hl [1, 2, 3, 4, 0] rfl) hR hS (by omega) (by omega)
    · have hw := hw.2 hc1
      refine lv_aload_n hx hb (xb_d D_M_load 45 rfl) rfl (lv_at hl 0 rfl) ?_
      obtain ⟨hk2, hw⟩ := hw
      refine xb_getP (C := R_M) (T := F_M) (N := 97) hx hb 8 9 hts fin_M hown hR hk2 (by decide) rfl (by decide) rfl (hts _ m_fea26463) (fun _ h9 => h9) (xb_d D_M_load 46 rfl) ?_
      obtain ⟨b3, eb3, hw⟩ := hw
      refine xb_some eb3 ?_
      refine lv_bipush (v := 12) hx hb (xb_d D_M_load 47 rfl) (by decide) ?_
      refine lv_aload_n hx hb (xb_d D_M_load 48 rfl) rfl (lv_at hl 0 rfl) ?_
      refine xb_getI (C := R_M) (T := F_M) (N := 97) hx hb 8 5 hts fin_M hown hR hk2 (by decide) rfl (by decide) rfl (hts _ m_b0f42f6b) (fun _ h9 => h9) (xb_d D_M_load 49 rfl) ?_
      refine lv_imul hx hb (xb_d D_M_load 50 rfl) ?_
      refine lv_iload hx hb (xb_d D_M_load 51 rfl) (lv_at hl 4 rfl) ?_
      refine lv_iadd hx hb (xb_d D_M_load 52 rfl) ?_
      refine lv_iconst (v := 0) hx hb (xb_d D_M_load 53 rfl) (by decide) ?_
      obtain ⟨hk4, hw⟩ := hw
      obtain ⟨hi5, hw⟩ := hw
      refine xb_iast hx hb hR hS hk4 hi5 (xb_d D_M_load 54 rfl) (fun H locs hR hS => ?_)
      obtain ⟨h6, eh6⟩ : ∃ x : xb_H, x = xb_I h b3 (Int32.toNatClampNeg ((12 * (xb_i h x0 5)) + x4)) 0 := ⟨_, rfl⟩
      rw [← eh6] at hR
      have hw := hw h6 eh6
      have hE : xb_ext h0 h6 := by rw [eh6]; exact hE
      refine lv_aload_n hx hb (xb_d D_M_load 55 rfl) rfl (lv_at hl 0 rfl) ?_
      have hk2 : xb_k h6 x0 = 9 := by rw [eh6]; exact hk2
      refine xb_getP (C := R_M) (T := F_M) (N := 97) hx hb 8 8 hts fin_M hown hR hk2 (by decide) rfl (by decide) rfl (hts _ m_7cc4ea11) (fun _ h9 => h9) (xb_d D_M_load 56 rfl) ?_
      obtain ⟨b7, eb7, hw⟩ := hw
      refine xb_some eb7 ?_
      refine lv_bipush (v := 12) hx hb (xb_d D_M_load 57 rfl) (by decide) ?_
      refine lv_aload_n hx hb (xb_d D_M_load 58 rfl) rfl (lv_at hl 0 rfl) ?_
      refine xb_getI (C := R_M) (T := F_M) (N := 97) hx hb 8 5 hts fin_M hown hR hk2 (by decide) rfl (by decide) rfl (hts _ m_b0f42f6b) (fun _ h9 => h9) (xb_d D_M_load 59 rfl) ?_
      refine lv_imul hx hb (xb_d D_M_load 60 rfl) ?_
      refine lv_iload hx hb (xb_d D_M_load 61 rfl) (lv_at hl 4 rfl) ?_
      refine lv_iadd hx hb (xb_d D_M_load 62 rfl) ?_
      refine lv_iconst (v := 0) hx hb (xb_d D_M_load 63 rfl) (by decide) ?_
      obtain ⟨hk8, hw⟩ := hw
      obtain ⟨hi9, hw⟩ := hw
      refine xb_iast hx hb hR hS hk8 hi9 (xb_d D_M_load 64 rfl) (fun H locs hR hS => ?_)
      obtain ⟨h10, eh10⟩ : ∃ x : xb_H, x = xb_I h6 b7 (Int32.toNatClampNeg ((12 * (xb_i h6 x0 5)) + x4)) 0 := ⟨_, rfl⟩
      rw [← eh10] at hR
      have hw := hw h10 eh10
      have hE : xb_ext h0 h10 := by rw [eh10]; exact hE
      refine lv_iinc (v := (x4 + 1)) (k := 4) hx hb (xb_d D_M_load 65 rfl) hl rfl (by first | rfl | decide) (by decide) rfl (fun ls hl => ?_)
      have hl : lv_has ls 5 [(4, .int (x4 + 1)), (0, .ref x0), (1, .int x1), (2, .int x2), (3, .int x3)] := hl
      refine lv_goto (tgt := 76) hx hb (xb_d D_M_load 66 rfl) rfl ?_
      exact ih x0 x1 x2 x3 (x4 + 1) h10 bc bs hw p e s m args below meth c hC H locs ls k n hE (lv_sub hl [1, 2, 3, 4, 0] rfl) hR hS (by omega) (by omega)

set_option maxHeartbeats 4000000 in
set_option maxRecDepth 100000 in
theorem am_M_load_L15 (l : Launch) (hfl : l.flags = pinnedFlags ++ [noTraceFlag]) (D : va_G) (A : Nat → Prop) (σ MC MS : Nat) (h0 : xb_H) (Qr : Int32 → xb_H → Nat → Nat → Prop) (x0 : Nat) (y0 : Int32) (y1 : Nat) (h : xb_H) (bc : Nat) (bs : Nat) (hw : w_M_load_L15 Qr x0 y0 y1 h bc bs) : xb_am l D A σ 14 MC MS h0 (fun v h bc bs => ∃ r, v = some (.int r) ∧ Qr r h bc bs) (fun _ _ _ _ => False) y_M_load.cls y_M_load.name b_M_load 5 ([] : List ExceptionTableEntry) (some .int) 15 [(0, .ref x0)] [.int y0, .ref y1] h bc bs := by
  unfold w_M_load_L15 at hw
  intro p e s m args below meth c hC H locs ls k n hE hl hR hS hk hn
  obtain ⟨hx, hb, hown, hlocks, htab, hml, hr, hB, hA, hnm⟩ := id hC
  have hts := hB.1.1.at args
  obtain ⟨hk1, hw⟩ := hw
  refine xb_putI (C := R_M) (T := F_M) (N := 97) (ty := .int) (x := y0) hx hb 8 0 hts fin_M t_M t_M_ok n_M hown hR hS hk1 (by decide) rfl (by decide) rfl (hts _ m_afabd6a0) (fun _ h9 => h9) rfl (by decide +kernel) rfl rfl (xb_d D_M_load 8 rfl) (fun H locs hR hS => ?_)
  obtain ⟨h2, eh2⟩ : ∃ x : xb_H, x = xb_I h y1 0 y0 := ⟨_, rfl⟩
  rw [← eh2] at hR
  have hw := hw h2 eh2
  have hE : xb_ext h0 h2 := by rw [eh2]; exact hE
  refine lv_aload_n hx hb (xb_d D_M_load 9 rfl) rfl (lv_at hl 0 rfl) ?_
  obtain ⟨hk3, hw⟩ := hw
  refine xb_getI (C := R_M) (T := F_M) (N := 97) hx hb 8 0 hts fin_M hown hR hk3 (by decide) rfl (by decide) rfl (hts _ m_afabd6a0) (fun _ h9 => h9) (xb_d D_M_load 10 rfl) ?_
  refine lv_if_le (tgt := 27) hx hb (xb_d D_M_load 11 rfl) rfl (fun hc4 => ?_) (fun hc4 => ?_)
  · have hw := hw.1 hc4
    refine lv_aload_n hx hb (xb_d D_M_load 14 rfl) rfl (lv_at hl 0 rfl) ?_
    refine xb_getI (C := R_M) (T := F_M) (N := 97) hx hb 8 4 hts fin_M hown hR hk3 (by decide) rfl (by decide) rfl (hts _ m_a4223f90) (fun _ h9 => h9) (xb_d D_M_load 15 rfl) ?_
    obtain ⟨v5, ev5⟩ : ∃ x : Int32, x = (xb_i h2 x0 4) := ⟨_, rfl⟩
    have hw := hw v5 ev5
    refine xt_numi (y := v5) ev5.symm ?_
    refine lv_istore_n hx hb (xb_d D_M_load 16 rfl) rfl hl (by decide) rfl (fun ls hl => ?_)
    have hl : lv_has ls 5 [(1, .int v5), (0, .ref x0)] := hl
    refine lv_aload_n hx hb (xb_d D_M_load 17 rfl) rfl (lv_at hl 1 rfl) ?_
    refine xb_getI (C := R_M) (T := F_M) (N := 97) hx hb 8 13 hts fin_M hown hR hk3 (by decide) rfl (by decide) rfl (hts _ m_d9ebb8df) (fun _ h9 => h9) (xb_d D_M_load 18 rfl) ?_
    obtain ⟨v6, ev6⟩ : ∃ x : Int32, x = (xb_i h2 x0 13) := ⟨_, rfl⟩
    have hw := hw v6 ev6
    refine xt_numi (y := v6) ev6.symm ?_
    refine lv_istore_n hx hb (xb_d D_M_load 19 rfl) rfl hl (by decide) rfl (fun ls hl => ?_)
    have hl : lv_has ls 5 [(2, .int v6), (1, .int v5), (0, .ref x0)] := hl
    refine lv_aload_n hx hb (xb_d D_M_load 20 rfl) rfl (lv_at hl 2 rfl) ?_
    refine xb_getI (C := R_M) (T := F_M) (N := 97) hx hb 8 2 hts fin_M hown hR hk3 (by decide) rfl (by decide) rfl (hts _ m_7895fa0a) (fun _ h9 => h9) (xb_d D_M_load 21 rfl) ?_
    obtain ⟨v7, ev7⟩ : ∃ x : Int32, x = (xb_i h2 x0 2) := ⟨_, rfl⟩
    have hw := hw v7 ev7
    refine xt_numi (y := v7) ev7.symm ?_
    refine lv_istore_n hx hb (xb_d D_M_load 22 rfl) rfl hl (by decide) rfl (fun ls hl => ?_)
    have hl : lv_has ls 5 [(3, .int v7), (2, .int v6), (1, .int v5), (0, .ref x0)] := hl
    refine lv_aload_n hx hb (xb_d D_M_load 23 rfl) rfl (lv_at hl 3 rfl) ?_
    refine lv_aload_n hx hb (xb_d D_M_load 24 rfl) rfl (lv_at hl 3 rfl) ?_
    refine xb_call (D := D) (A := A) (σ := σ) (h := h2) (d := 3) (mc := bc) (ms := bs) (maxL := 2) (rest := [.ref x0]) (av := [.ref x0]) (fun T hT X => by obtain ⟨cb9, ra9, rb9, rc9⟩ := xb_recv (ci := 8) hR rfl hk3 (by decide); exact xt_invV X hx hown (hts _ m_75691c4a) (hts _ m_ab8b88b5) (hts _ m_465bbb27) (xt_sigOf (hts _ m_0e3942d4)) nm_M_keepTape (by rw [hT]; exact ra9) rb9 rc9 (g := F0 m 44 ls [.ref x0, .ref x0]) rfl (argsL := []) (rest := [.ref x0]) rfl rfl (by rw [hb]; exact (xb_d D_M_load 25 rfl))) (ok_M_keepTape l hfl D A σ x0 h2 bc bs _ hw) (hml.trans hl.1.symm) (by rw [hb]; exact (xb_d D_M_load 25 rfl)) (Nat.le_of_ble_eq_true rfl) (Nat.le_of_ble_eq_true rfl) (Nat.le_of_ble_eq_true rfl) (show k + bc ≤ MC by omega) (show n + bs ≤ MS by omega) (xt_w1 hB.1 m_0e3942d4) (xt_cdOf hB.1 m_0e3942d4) (hts _ m_d5ed7bed) hB hR hS hA (fun vv h8 bc9 bs9 kk9 nn9 H locs hk9 hn9 hq hEh8 hR hS => ?_) (fun XX ax h8 bc9 bs9 kk9 nn9 H locs hk9 hn9 hq hEh8 hex hR hS => ?_)
    · obtain ⟨r9, rfl, hw⟩ := hq
      have hw := hw hEh8
      have hE := hE.tr hEh8
      refine W.eq (g2 := F0 m 47 ls [.int r9, .ref x0]) rfl ?_
      have hk3 : xb_k h8 x0 = 9 := hEh8.k hk3
      refine xb_putI (C := R_M) (T := F_M) (N := 97) (ty := .int) (x := r9) hx hb 8 14 hts fin_M t_M t_M_ok n_M hown hR hS hk3 (by decide) rfl (by decide) rfl (hts _ m_a8fce005) (fun _ h9 => h9) rfl (by decide +kernel) rfl rfl (xb_d D_M_load 26 rfl) (fun H locs hR hS => ?_)
      obtain ⟨h10, eh10⟩ : ∃ x : xb_H, x = xb_I h8 x0 14 r9 := ⟨_, rfl⟩
      rw [← eh10] at hR
      have hw := hw h10 eh10
      have hE : xb_ext h0 h10 := by rw [eh10]; exact hE
      refine lv_aload_n hx hb (xb_d D_M_load 27 rfl) rfl (lv_at hl 3 rfl) ?_
      have hk3 : xb_k h10 x0 = 9 := by rw [eh10]; exact hk3
      refine xb_getP (C := R_M) (T := F_M) (N := 97) hx hb 8 6 hts fin_M hown hR hk3 (by decide) rfl (by decide) rfl (hts _ m_2efec494) (fun _ h9 => h9) (xb_d D_M_load 28 rfl) ?_
      obtain ⟨b11, eb11, hw⟩ := hw
      refine xb_some eb11 ?_
      refine lv_aload_n hx hb (xb_d D_M_load 29 rfl) rfl (lv_at hl 3 rfl) ?_
      refine xb_getI (C := R_M) (T := F_M) (N := 97) hx hb 8 5 hts fin_M hown hR hk3 (by decide) rfl (by decide) rfl (hts _ m_b0f42f6b) (fun _ h9 => h9) (xb_d D_M_load 30 rfl) ?_
      refine lv_aload_n hx hb (xb_d D_M_load 31 rfl) rfl (lv_at hl 3 rfl) ?_
      refine xb_getI (C := R_M) (T := F_M) (N := 97) hx hb 8 14 hts fin_M hown hR hk3 (by decide) rfl (by decide) rfl (hts _ m_a8fce005) (fun _ h9 => h9) (xb_d D_M_load 32 rfl) ?_
      obtain ⟨hk12, hw⟩ := hw
      obtain ⟨hi13, hw⟩ := hw
      refine xb_iast hx hb hR hS hk12 hi13 (xb_d D_M_load 33 rfl) (fun H locs hR hS => ?_)
      obtain ⟨h14, eh14⟩ : ∃ x : xb_H, x = xb_I h10 b11 (Int32.toNatClampNeg (xb_i h10 x0 5)) (xb_i h10 x0 14) := ⟨_, rfl⟩
      rw [← eh14] at hR
      have hw := hw h14 eh14
      have hE : xb_ext h0 h14 := by rw [eh14]; exact hE
      refine lv_aload_n hx hb (xb_d D_M_load 34 rfl) rfl (lv_at hl 3 rfl) ?_
      have hk3 : xb_k h14 x0 = 9 := by rw [eh14]; exact hk3
      refine xb_getP (C := R_M) (T := F_M) (N := 97) hx hb 8 7 hts fin_M hown hR hk3 (by decide) rfl (by decide) rfl (hts _ m_36d14bfe) (fun _ h9 => h9) (xb_d D_M_load 35 rfl) ?_
      obtain ⟨b15, eb15, hw⟩ := hw
      refine xb_some eb15 ?_
      refine lv_aload_n hx hb (xb_d D_M_load 36 rfl) rfl (lv_at hl 3 rfl) ?_
      refine xb_getI (C := R_M) (T := F_M) (N := 97) hx hb 8 5 hts fin_M hown hR hk3 (by decide) rfl (by decide) rfl (hts _ m_b0f42f6b) (fun _ h9 => h9) (xb_d D_M_load 37 rfl) ?_
      refine lv_iload_n hx hb (xb_d D_M_load 38 rfl) rfl (lv_at hl 0 rfl) ?_
      obtain ⟨hk16, hw⟩ := hw
      obtain ⟨hi17, hw⟩ := hw
      refine xb_iast hx hb hR hS hk16 hi17 (xb_d D_M_load 39 rfl) (fun H locs hR hS => ?_)
      obtain ⟨h18, eh18⟩ : ∃ x : xb_H, x = xb_I h14 b15 (Int32.toNatClampNeg (xb_i h14 x0 5)) v7 := ⟨_, rfl⟩
      rw [← eh18] at hR
      have hw := hw h18 eh18
      have hE : xb_ext h0 h18 := by rw [eh18]; exact hE
      refine lv_iconst (v := 0) hx hb (xb_d D_M_load 40 rfl) (by decide) ?_
      refine lv_istore hx hb (xb_d D_M_load 41 rfl) hl (by decide) rfl (fun ls hl => ?_)
      have hl : lv_has ls 5 [(4, .int 0), (3, .int v7), (2, .int v6), (1, .int v5), (0, .ref x0)] := hl
      obtain ⟨n8, hw⟩ := hw
      exact am_M_load_L76 l hfl D A σ MC MS h0 Qr n8 x0 v5 v6 v7 0 h18 bc9 bs9 hw p e s m args below meth c hC H locs ls (k + kk9) (n + nn9) hE (lv_sub hl [4, 3, 2, 1, 0] rfl) hR hS (by omega) (by omega)
    · exact False.elim hq
  · have hw := hw.2 hc4
    refine lv_iconst (v := 0) hx hb (xb_d D_M_load 12 rfl) (by decide) ?_
    exact xb_iret bc bs hx hb hr hlocks (show k + bc ≤ MC by omega) (show n + bs ≤ MS by omega) hE hR hS (xb_d D_M_load 13 rfl) hw

set_option maxHeartbeats 4000000 in
set_option maxRecDepth 100000 in
theorem ok_M_load (l : Launch) (hfl : l.flags = pinnedFlags ++ [noTraceFlag]) (D : va_G) (A : Nat → Prop) (σ : Nat) (x0 : Nat) (h : xb_H) (bc : Nat) (bs : Nat) (Qr : Int32 → xb_H → Nat → Nat → Prop) (hw : w_M_load x0 h bc bs Qr) : xb_Met l y_M_load [.code y_M_load b_M_load 5 (some .int)] (xb_rm 14 bc bs) (xb_Pc D A σ h [.ref x0]) (xb_Qc D A h bc bs (fun v h bc bs => ∃ r, v = some (.int r) ∧ Qr r h bc bs) (fun _ _ _ _ => False)) A := by
  refine xb_ofAm (cc := b_M_load) (by decide) (Nat.le_of_ble_eq_true rfl) ?_
  unfold w_M_load at hw
  show xb_am l D A σ 14 bc bs h (fun v h bc bs => ∃ r, v = some (.int r) ∧ Qr r h bc bs) (fun _ _ _ _ => False) y_M_load.cls y_M_load.name b_M_load 5 ([] : List ExceptionTableEntry) (some .int) 0 [(0, .ref x0)] [] h bc bs
  obtain ⟨MC, hMC⟩ : ∃ x, x = bc := ⟨_, rfl⟩
  obtain ⟨MS, hMS⟩ : ∃ x, x = bs := ⟨_, rfl⟩
  rw [show xb_am l D A σ 14 bc bs = xb_am l D A σ 14 MC MS by rw [hMC, hMS]]
  obtain ⟨h0, hh0⟩ : ∃ x, x = h := ⟨_, rfl⟩
  rw [show xb_am l D A σ 14 MC MS h = xb_am l D A σ 14 MC MS h0 by rw [hh0]]
  intro p e s m args below meth c hC H locs ls k n hE hl hR hS hk hn
  obtain ⟨hx, hb, hown, hlocks, htab, hml, hr, hB, hA, hnm⟩ := id hC
  have hts := hB.1.1.at args
  refine lv_aload_n hx hb (xb_d D_M_load 0 rfl) rfl (lv_at hl 0 rfl) ?_
  refine lv_aload_n hx hb (xb_d D_M_load 1 rfl) rfl (lv_at hl 0 rfl) ?_
  obtain ⟨hk1, hw⟩ := hw
  refine xb_getI (C := R_M) (T := F_M) (N := 97) hx hb 8 5 hts fin_M hown hR hk1 (by decide) rfl (by decide) rfl (hts _ m_b0f42f6b) (fun _ h9 => h9) (xb_d D_M_load 2 rfl) ?_
  refine lv_bipush (v := 64) hx hb (xb_d D_M_load 3 rfl) (by decide) ?_
  refine lv_icmp_ne (tgt := 14) hx hb (xb_d D_M_load 4 rfl) rfl (fun hc2 => ?_) (fun hc2 => ?_)
  · have hw := hw.1 hc2
    refine lv_iconst (v := 0) hx hb (xb_d D_M_load 7 rfl) (by decide) ?_
    exact am_M_load_L15 l hfl D A σ MC MS h0 Qr x0 0 x0 h bc bs hw p e s m args below meth c hC H locs ls k n hE (lv_sub hl [0] rfl) hR hS (by omega) (by omega)
  · have hw := hw.2 hc2
    refine lv_iconst (v := 1) hx hb (xb_d D_M_load 5 rfl) (by decide) ?_
    refine lv_goto (tgt := 15) hx hb (xb_d D_M_load 6 rfl) rfl ?_
    exact am_M_load_L15 l hfl D A σ MC MS h0 Qr x0 1 x0 h bc bs hw p e s m args below meth c hC H locs ls k n hE (lv_sub hl [0] rfl) hR hS (by omega) (by omega)

