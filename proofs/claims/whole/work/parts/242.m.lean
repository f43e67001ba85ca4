theorem m_9c9c8605 : (.methodLink "StackHostModel" 643 y_M_readOn : Cond) ∈ xt_tbl := xt_in (xt_t13 (List.mem_of_getElem? (i := 146) (by decide +kernel))) (by decide +kernel)
theorem m_05af8ccc : (.instanceMethod y_M_readOn : Cond) ∈ xt_tbl := xt_in (xt_t13 (List.mem_of_getElem? (i := 148) (by decide +kernel))) (by decide +kernel)
theorem m_1b43488f : (.selects "StackHostModel" y_M_readOn y_M_readOn : Cond) ∈ xt_tbl := xt_in (xt_v17 (q := (⟨"StackHostModel", "readOn", "(IZ)Z"⟩, 97)) (List.mem_of_getElem? (i := 9) (by decide +kernel))) (by decide +kernel)
theorem m_e000fc68 : (.code y_M_readOn b_M_readOn 5 (some .boolean) : Cond) ∈ xt_tbl := xt_in (xt_t13 (List.mem_of_getElem? (i := 149) (by decide +kernel))) (by decide +kernel)
theorem m_b8a8e88c : (.methodLink "StackHostModel" 640 y_M_leave : Cond) ∈ xt_tbl := xt_in (xt_t13 (List.mem_of_getElem? (i := 150) (by decide +kernel))) (by decide +kernel)
theorem m_4d204536 : (.instanceMethod y_M_leave : Cond) ∈ xt_tbl := xt_in (xt_t13 (List.mem_of_getElem? (i := 152) (by decide +kernel))) (by decide +kernel)
theorem m_5da39f92 : (.selects "StackHostModel" y_M_leave y_M_leave : Cond) ∈ xt_tbl := xt_in (xt_v17 (q := (⟨"StackHostModel", "leave", "()V"⟩, 97)) (List.mem_of_getElem? (i := 10) (by decide +kernel))) (by decide +kernel)
theorem m_5a54079a : (.code y_M_leave b_M_leave 5 none : Cond) ∈ xt_tbl := xt_in (xt_t13 (List.mem_of_getElem? (i := 153) (by decide +kernel))) (by decide +kernel)
theorem nm_M_readOn : xt_nm y_M_readOn 2 := ⟨by decide +kernel, by decide +kernel⟩
theorem nm_M_leave : xt_nm y_M_leave 0 := ⟨by decide +kernel, by decide +kernel⟩
set_option maxRecDepth 100000 in
def T_M_branch : List (Nat × Instr × Nat) := [(0, .aload_n 0, 1), (1, .getfield 616, 3), (4, .iconst 1, 1), (5, .isub, 1), (6, .istore_n 3, 1), (7, .lload_n 1, 1), (8, .aload_n 0, 1), (9, .getfield 610, 3), (12, .aload_n 0, 1), (13, .getfield 151, 3), (16, .iload_n 3, 1), (17, .iaload, 1), (18, .isub, 1), (19, .i2l, 1), (20, .lcmp, 1), (21, .ifCond .lt 12, 3), (24, .aload_n 0, 1), (25, .getfield 151, 3), (28, .iload_n 3, 1), (29, .iaload, 1), (30, .goto 12, 3), (33, .aload_n 0, 1), (34, .getfield 610, 3), (37, .iconst 1, 1), (38, .isub, 1), (39, .lload_n 1, 1), (40, .l2i, 1), (41, .isub, 1), (42, .istore 4, 2), (44, .aload_n 0, 1), (45, .aload_n 0, 1), (46, .getfield 613, 3), (49, .ifCond .ne 20, 3), (52, .lload_n 1, 1), (53, .aload_n 0, 1), (54, .getfield 610, 3), (57, .aload_n 0, 1), (58, .getfield 151, 3), (61, .iload_n 3, 1), (62, .iaload, 1), (63, .isub, 1), (64, .i2l, 1), (65, .lcmp, 1), (66, .ifCond .lt 7, 3), (69, .iconst 1, 1), (70, .goto 4, 3), (73, .iconst 0, 1), (74, .putfield 613, 3), (77, .iload 4, 2), (79, .aload_n 0, 1), (80, .getfield 151, 3), (83, .iload_n 3, 1), (84, .iaload, 1), (85, .if_icmp .ne 8, 3), (88, .aload_n 0, 1), (89, .invokevirtual 640, 3), (92, .return_, 1), (93, .aload_n 0, 1), (94, .getfield 167, 3), (97, .iload 4, 2), (99, .iaload, 1), (100, .istore 5, 2), (102, .iload 5, 2), (104, .bipush 64, 2), (106, .if_icmp .ne 7, 3), (109, .lconst 0, 1), (110, .goto 9, 3), (113, .aload_n 0, 1), (114, .iload 5, 2), (116, .invokevirtual 634, 3), (119, .lstore 6, 2), (121, .aload_n 0, 1), (122, .aload_n 0, 1), (123, .getfield 170, 3), (126, .iload 4, 2), (128, .iaload, 1), (129, .putfield 607, 3), (132, .aload_n 0, 1), (133, .getfield 161, 3), (136, .iload 4, 2), (138, .iaload, 1), (139, .iconst 3, 1), (140, .if_icmp .ne 25, 3), (143, .aload_n 0, 1), (144, .iload 4, 2), (146, .iconst 1, 1), (147, .iadd, 1), (148, .putfield 610, 3), (151, .aload_n 0, 1), (152, .aload_n 0, 1), (153, .getfield 164, 3), (156, .iload 4, 2), (158, .iaload, 1), (159, .putfield 202, 3), (162, .goto 37, 3), (165, .aload_n 0, 1), (166, .aload_n 0, 1), (167, .getfield 610, 3), (170, .iload 4, 2), (172, .isub, 1), (173, .iconst 0, 1), (174, .invokevirtual 643, 3), (177, .pop, 1), (178, .aload_n 0, 1), (179, .iload 4, 2), (181, .putfield 610, 3), (184, .iload 5, 2), (186, .bipush 64, 2), (188, .if_icmp .eq 11, 3), (191, .aload_n 0, 1), (192, .lload 6, 2), (194, .iload 5, 2), (196, .invokevirtual 628, 3), (199, .return_, 1)]
theorem D_M_branch : ∀ q ∈ T_M_branch, decode b_M_branch q.1 = .ok (q.2.1, q.2.2) := by decide +kernel

set_option maxHeartbeats 4000000 in
set_option maxRecDepth 100000 in
theorem am_M_branch_L199 (l : Launch) (hfl : l.flags = pinnedFlags ++ [noTraceFlag]) (D : va_G) (A : Nat → Prop) (σ MC MS : Nat) (h0 : xb_H) (Qr : xb_H → Prop) (h : xb_H) (hw : w_M_branch_L199 Qr h) : xb_am l D A σ 8 MC MS h0 (fun v h _ _ => v = none ∧ Qr h) (fun _ _ _ _ => False) y_M_branch.cls y_M_branch.name b_M_branch 8 ([] : List ExceptionTableEntry) none 199 [] [] h 0 0 := by
  unfold w_M_branch_L199 at hw
  intro p e s m args below meth c hC H locs ls k n hE hl hR hS hk hn
  obtain ⟨hx, hb, hown, hlocks, htab, hml, hr, hB, hA, hnm⟩ := id hC
  have hts := hB.1.1.at args
  exact xb_vret 0 0 hx hb hr hlocks (show k + 0 ≤ MC by omega) (show n + 0 ≤ MS by omega) hE hR hS (xb_d D_M_branch 113 rfl) hw

set_option maxHeartbeats 4000000 in
set_option maxRecDepth 100000 in
theorem am_M_branch_L119 (l : Launch) (hfl : l.flags = pinnedFlags ++ [noTraceFlag]) (D : va_G) (A : Nat → Prop) (σ MC MS : Nat) (h0 : xb_H) (Qr : xb_H → Prop) (x0 : Nat) (x4 : Int32) (x5 : Int32) (y0 : Int64) (h : xb_H) (hw : w_M_branch_L119 Qr x0 x4 x5 y0 h) : xb_am l D A σ 8 MC MS h0 (fun v h _ _ => v = none ∧ Qr h) (fun _ _ _ _ => False) y_M_branch.cls y_M_branch.name b_M_branch 8 ([] : List ExceptionTableEntry) none 119 [(0, .ref x0), (4, .int x4), (5, .int x5)] [.long y0] h 0 0 := by
  unfold w_M_branch_L119 at hw
  intro p e s m args below meth c hC H locs ls k n hE hl hR hS hk hn
  obtain ⟨hx, hb, hown, hlocks, htab, hml, hr, hB, hA, hnm⟩ := id hC
  have hts := hB.1.1.at args
  refine lv_lstore hx hb (xb_d D_M_branch 70 rfl) hl (by decide) rfl (fun ls hl => ?_)
  have hl : lv_has ls 8 [(6, .long y0), (0, .ref x0), (4, .int x4), (5, .int x5)] := hl
  refine lv_aload_n hx hb (xb_d D_M_branch 71 rfl) rfl (lv_at hl 1 rfl) ?_
  refine lv_aload_n hx hb (xb_d D_M_branch 72 rfl) rfl (lv_at hl 1 rfl) ?_
  obtain ⟨hk1, hw⟩ := hw
  refine xb_getP (C := R_M) (T := F_M) (N := 97) hx hb 8 80 hts fin_M hown hR hk1 (by decide) rfl (by decide) rfl (hts _ m_24ba043b) (fun _ h9 => h9) (xb_d D_M_branch 73 rfl) ?_
  obtain ⟨b2, eb2, hw⟩ := hw
  refine xb_some eb2 ?_
  refine lv_iload hx hb (xb_d D_M_branch 74 rfl) (lv_at hl 2 rfl) ?_
  obtain ⟨hk4, hw⟩ := hw
  obtain ⟨hi3, hw⟩ := hw
  refine xb_iald hx hb hR hk4 hi3 (xb_d D_M_branch 75 rfl) ?_
  refine xb_putI (C := R_M) (T := F_M) (N := 97) (ty := .int) (x := (xb_i h b2 (Int32.toNatClampNeg x4))) hx hb 8 76 hts fin_M t_M t_M_ok n_M hown hR hS hk1 (by decide) rfl (by decide) rfl (hts _ m_d6ddfcd8) (fun _ h9 => h9) rfl (by decide +kernel) rfl rfl (xb_d D_M_branch 76 rfl) (fun H locs hR hS => ?_)
  obtain ⟨h5, eh5⟩ : ∃ x : xb_H, x = xb_I h x0 76 (xb_i h b2 (Int32.toNatClampNeg x4)) := ⟨_, rfl⟩
  rw [← eh5] at hR
  have hw := hw h5 eh5
  have hE : xb_ext h0 h5 := by rw [eh5]; exact hE
  refine lv_aload_n hx hb (xb_d D_M_branch 77 rfl) rfl (lv_at hl 1 rfl) ?_
  have hk1 : xb_k h5 x0 = 9 := by rw [eh5]; exact hk1
  refine xb_getP (C := R_M) (T := F_M) (N := 97) hx hb 8 77 hts fin_M hown hR hk1 (by decide) rfl (by decide) rfl (hts _ m_3921a746) (fun _ h9 => h9) (xb_d D_M_branch 78 rfl) ?_
  obtain ⟨b6, eb6, hw⟩ := hw
  refine xb_some eb6 ?_
  refine lv_iload hx hb (xb_d D_M_branch 79 rfl) (lv_at hl 2 rfl) ?_
  obtain ⟨hk8, hw⟩ := hw
  obtain ⟨hi7, hw⟩ := hw
  refine xb_iald hx hb hR hk8 hi7 (xb_d D_M_branch 80 rfl) ?_
  refine lv_iconst (v := 3) hx hb (xb_d D_M_branch 81 rfl) (by decide) ?_
  refine lv_icmp_ne (tgt := 165) hx hb (xb_d D_M_branch 82 rfl) rfl (fun hc9 => ?_) (fun hc9 => ?_)
  · have hw := hw.1 hc9
    refine lv_aload_n hx hb (xb_d D_M_branch 95 rfl) rfl (lv_at hl 1 rfl) ?_
    refine lv_aload_n hx hb (xb_d D_M_branch 96 rfl) rfl (lv_at hl 1 rfl) ?_
    refine xb_getI (C := R_M) (T := F_M) (N := 97) hx hb 8 81 hts fin_M hown hR hk1 (by decide) rfl (by decide) rfl (hts _ m_65743087) (fun _ h9 => h9) (xb_d D_M_branch 97 rfl) ?_
    refine lv_iload hx hb (xb_d D_M_branch 98 rfl) (lv_at hl 2 rfl) ?_
    refine lv_isub hx hb (xb_d D_M_branch 99 rfl) ?_
    refine lv_iconst (v := 0) hx hb (xb_d D_M_branch 100 rfl) (by decide) ?_
    refine xb_call0 (D := D) (A := A) (σ := σ) (h := h5) (d := 7) (maxL := 5) (rest := []) (av := [.ref x0, .int ((xb_i h5 x0 81) - x4), .int 0]) (fun T hT X => by obtain ⟨cb9, ra9, rb9, rc9⟩ := xb_recv (ci := 8) hR rfl hk1 (by decide); exact xt_invV X hx hown (hts _ m_9c9c8605) (hts _ m_05af8ccc) (hts _ m_1b43488f) (xt_sigOf (hts _ m_e000fc68)) nm_M_readOn (by rw [hT]; exact ra9) rb9 rc9 (g := F0 m 174 ls [.int 0, .int ((xb_i h5 x0 81) - x4), .ref x0]) rfl (argsL := [.int ((xb_i h5 x0 81) - x4), .int 0]) (rest := []) rfl rfl (by rw [hb]; exact (xb_d D_M_branch 101 rfl))) (ok_M_readOn l hfl D A σ x0 ((xb_i h5 x0 81) - x4) 0 h5 _ hw) (hml.trans hl.1.symm) (by rw [hb]; exact (xb_d D_M_branch 101 rfl)) (Nat.le_of_ble_eq_true rfl) (Nat.le_of_ble_eq_true rfl) (Nat.le_of_ble_eq_true rfl) (show k ≤ MC by omega) (show n ≤ MS by omega) (xt_w1 hB.1 m_e000fc68) (xt_cdOf hB.1 m_e000fc68) (hts _ m_d5ed7bed) hB hR hS hA (fun vv h10 H locs hq hEh10 hR hS => ?_)
    obtain ⟨r11, rfl, hw⟩ := hq
    have hw := hw hEh10
    have hE := hE.tr hEh10
    refine W.eq (g2 := F0 m 177 ls [.int r11]) rfl ?_
    refine lv_pop hx hb (xb_d D_M_branch 102 rfl) rfl ?_
    refine lv_aload_n hx hb (xb_d D_M_branch 103 rfl) rfl (lv_at hl 1 rfl) ?_
    refine lv_iload hx hb (xb_d D_M_branch 104 rfl) (lv_at hl 2 rfl) ?_
    have hk1 : xb_k h10 x0 = 9 := hEh10.k hk1
    refine xb_putI (C := R_M) (T := F_M) (N := 97) (ty := .int) (x := x4) hx hb 8 81 hts fin_M t_M t_M_ok n_M hown hR hS hk1 (by decide) rfl (by decide) rfl (hts _ m_65743087) (fun _ h9 => h9) rfl (by decide +kernel) rfl rfl (xb_d D_M_branch 105 rfl) (fun H locs hR hS => ?_)
    obtain ⟨h12, eh12⟩ : ∃ x : xb_H, x = xb_I h10 x0 81 x4 := ⟨_, rfl⟩
    rw [← eh12] at hR
    have hw := hw h12 eh12
    have hE : xb_ext h0 h12 := by rw [eh12]; exact hE
    refine lv_iload hx hb (xb_d D_M_branch 106 rfl) (lv_at hl 3 rfl) ?_
    refine lv_bipush (v := 64) hx hb (xb_d D_M_branch 107 rfl) (by decide) ?_
    refine lv_icmp_eq (tgt := 199) hx hb (xb_d D_M_branch 108 rfl) rfl (fun hc13 => ?_) (fun hc13 => ?_)
    · have hw := hw.1 hc13
      exact am_M_branch_L199 l hfl D A σ MC MS h0 Qr h12 hw p e s m args below meth c hC H locs ls k n hE (lv_sub hl [] rfl) hR hS (by omega) (by omega)
    · have hw := hw.2 hc13
      refine lv_aload_n hx hb (xb_d D_M_branch 109 rfl) rfl (lv_at hl 1 rfl) ?_
      refine lv_lload hx hb (xb_d D_M_branch 110 rfl) (lv_at hl 0 rfl) ?_
      refine lv_iload hx hb (xb_d D_M_branch 111 rfl) (lv_at hl 3 rfl) ?_
      have hk1 : xb_k h12 x0 = 9 := by rw [eh12]; exact hk1
      refine xb_call0 (D := D) (A := A) (σ := σ) (h := h12) (d := 2) (maxL := 4) (rest := []) (av := [.ref x0, .long y0, .int x5]) (fun T hT X => by obtain ⟨cb9, ra9, rb9, rc9⟩ := xb_recv (ci := 8) hR rfl hk1 (by decide); exact xt_invV X hx hown (hts _ m_1dd22d11) (hts _ m_e8ae1713) (hts _ m_973b740a) (xt_sigOf (hts _ m_a0d5a63e)) nm_M_add (by rw [hT]; exact ra9) rb9 rc9 (g := F0 m 196 ls [.int x5, .long y0, .ref x0]) rfl (argsL := [.long y0, .int x5]) (rest := []) rfl rfl (by rw [hb]; exact (xb_d D_M_branch 112 rfl))) (ok_M_add l hfl D A σ x0 y0 x5 h12 _ hw) (hml.trans hl.1.symm) (by rw [hb]; exact (xb_d D_M_branch 112 rfl)) (Nat.le_of_ble_eq_true rfl) (Nat.le_of_ble_eq_true rfl) (Nat.le_of_ble_eq_true rfl) (show k ≤ MC by omega) (show n ≤ MS by omega) (xt_w1 hB.1 m_a0d5a63e) (xt_cdOf hB.1 m_a0d5a63e) (hts _ m_d5ed7bed) hB hR hS hA (fun vv h14 H locs hq hEh14 hR hS => ?_)
      obtain ⟨rfl, hw⟩ := hq
      have hw := hw hEh14
      have hE := hE.tr hEh14
      refine W.eq (g2 := F0 m 199 ls []) rfl ?_
      exact am_M_branch_L199 l hfl D A σ MC MS h0 Qr h14 hw p e s m args below meth c hC H locs ls k n hE (lv_sub hl [] rfl) hR hS (by omega) (by omega)
  · have hw := hw.2 hc9
    refine lv_aload_n hx hb (xb_d D_M_branch 83 rfl) rfl (lv_at hl 1 rfl) ?_
    refine lv_iload hx hb (xb_d D_M_branch 84 rfl) (lv_at hl 2 rfl) ?_
    refine lv_iconst (v := 1) hx hb (xb_d D_M_branch 85 rfl) (by decide) ?_
    refine lv_iadd hx hb (xb_d D_M_branch 86 rfl) ?_
    refine xb_putI (C := R_M) (T := F_M) (N := 97) (ty := .int) (x := (x4 + 1)) hx hb 8 81 hts fin_M t_M t_M_ok n_M hown hR hS hk1 (by decide) rfl (by decide) rfl (hts _ m_65743087) (fun _ h9 => h9) rfl (by decide +kernel) rfl rfl (xb_d D_M_branch 87 rfl) (fun H locs hR hS => ?_)
    obtain ⟨h16, eh16⟩ : ∃ x : xb_H, x = xb_I h5 x0 81 (x4 + 1) := ⟨_, rfl⟩
    rw [← eh16] at hR
    have hw := hw h16 eh16
    have hE : xb_ext h0 h16 := by rw [eh16]; exact hE
    refine lv_aload_n hx hb (xb_d D_M_branch 88 rfl) rfl (lv_at hl 1 rfl) ?_
    refine lv_aload_n hx hb (xb_d D_M_branch 89 rfl) rfl (lv_at hl 1 rfl) ?_
    have hk1 : xb_k h16 x0 = 9 := by rw [eh16]; exact hk1
    refine xb_getP (C := R_M) (T := F_M) (N := 97) hx hb 8 78 hts fin_M hown hR hk1 (by decide) rfl (by decide) rfl (hts _ m_6fbbe4c1) (fun _ h9 => h9) (xb_d D_M_branch 90 rfl) ?_
    obtain ⟨b17, eb17, hw⟩ := hw
    refine xb_some eb17 ?_
    refine lv_iload hx hb (xb_d D_M_branch 91 rfl) (lv_at hl 2 rfl) ?_
    obtain ⟨hk19, hw⟩ := hw
    obtain ⟨hi18, hw⟩ := hw
    refine xb_iald hx hb hR hk19 hi18 (xb_d D_M_branch 92 rfl) ?_
    refine xb_putI (C := R_M) (T := F_M) (N := 97) (ty := .int) (x := (xb_i h16 b17 (Int32.toNatClampNeg x4))) hx hb 8 15 hts fin_M t_M t_M_ok n_M hown hR hS hk1 (by decide) rfl (by decide) rfl (hts _ m_6c2d27ad) (fun _ h9 => h9) rfl (by decide +kernel) rfl rfl (xb_d D_M_branch 93 rfl) (fun H locs hR hS => ?_)
    obtain ⟨h20, eh20⟩ : ∃ x : xb_H, x = xb_I h16 x0 15 (xb_i h16 b17 (Int32.toNatClampNeg x4)) := ⟨_, rfl⟩
    rw [← eh20] at hR
    have hw := hw h20 eh20
    have hE : xb_ext h0 h20 := by rw [eh20]; exact hE
    refine lv_goto (tgt := 199) hx hb (xb_d D_M_branch 94 rfl) rfl ?_
    exact am_M_branch_L199 l hfl D A σ MC MS h0 Qr h20 hw p e s m args below meth c hC H locs ls k n hE (lv_sub hl [] rfl) hR hS (by omega) (by omega)

set_option maxHeartbeats 4000000 in
set_option maxRecDepth 100000 in
theorem am_M_branch_L74 (l : Launch) (hfl : l.flags = pinnedFlags ++ [noTraceFlag]) (D : va_G) (A : Nat → Prop) (σ MC MS : Nat) (h0 : xb_H) (Qr : xb_H → Prop) (x0 : Nat) (x3 : Int32) (x4 : Int32) (y0 : Int32) (y1 : Nat) (h : xb_H) (hw : w_M_branch_L74 Qr x0 x3 x4 y0 y1 h) : xb_am l D A σ 8 MC MS h0 (fun v h _ _ => v = none ∧ Qr h) (fun _ _ _ _ => False) y_M_branch.cls y_M_branch.name b_M_branch 8 ([] : List ExceptionTableEntry) none 74 [(0, .ref x0), (3, .int x3), (4, .int x4)] [.int y0, .ref y1] h 0 0 := by
  unfold w_M_branch_L74 at hw
  intro p e s m args below meth c hC H locs ls k n hE hl hR hS hk hn
  obtain ⟨hx, hb, hown, hlocks, htab, hml, hr, hB, hA, hnm⟩ := id hC
  have hts := hB.1.1.at args
  obtain ⟨hk1, hw⟩ := hw
  obtain ⟨hz2, hw⟩ := hw
  refine xb_putI (C := R_M) (T := F_M) (N := 97) (ty := .boolean) (x := y0) hx hb 8 94 hts fin_M t_M t_M_ok n_M hown hR hS hk1 (by decide) rfl (by decide) rfl (hts _ m_8158dce5) (fun _ h9 => h9) rfl (by decide +kernel) (xb_bn hz2).1 (xb_bn hz2).2 (xb_d D_M_branch 47 rfl) (fun H locs hR hS => ?_)
  obtain ⟨h3, eh3⟩ : ∃ x : xb_H, x = xb_I h y1 94 y0 := ⟨_, rfl⟩
  rw [← eh3] at hR
  have hw := hw h3 eh3
  have hE : xb_ext h0 h3 := by rw [eh3]; exact hE
  refine lv_iload hx hb (xb_d D_M_branch 48 rfl) (lv_at hl 2 rfl) ?_
  refine lv_aload_n hx hb (xb_d D_M_branch 49 rfl) rfl (lv_at hl 0 rfl) ?_
  obtain ⟨hk4, hw⟩ := hw
  refine xb_getP (C := R_M) (T := F_M) (N := 97) hx hb 8 73 hts fin_M hown hR hk4 (by decide) rfl (by decide) rfl (hts _ m_6c9efdee) (fun _ h9 => h9) (xb_d D_M_branch 50 rfl) ?_
  obtain ⟨b5, eb5, hw⟩ := hw
  refine xb_some eb5 ?_
  refine lv_iload_n hx hb (xb_d D_M_branch 51 rfl) rfl (lv_at hl 1 rfl) ?_
  obtain ⟨hk7, hw⟩ := hw
  obtain ⟨hi6, hw⟩ := hw
  refine xb_iald hx hb hR hk7 hi6 (xb_d D_M_branch 52 rfl) ?_
  refine lv_icmp_ne (tgt := 93) hx hb (xb_d D_M_branch 53 rfl) rfl (fun hc8 => ?_) (fun hc8 => ?_)
  · have hw := hw.1 hc8
    refine lv_aload_n hx hb (xb_d D_M_branch 57 rfl) rfl (lv_at hl 0 rfl) ?_
    refine xb_getP (C := R_M) (T := F_M) (N := 97) hx hb 8 79 hts fin_M hown hR hk4 (by decide) rfl (by decide) rfl (hts _ m_0f6cf014) (fun _ h9 => h9) (xb_d D_M_branch 58 rfl) ?_
    obtain ⟨b9, eb9, hw⟩ := hw
    refine xb_some eb9 ?_
    refine lv_iload hx hb (xb_d D_M_branch 59 rfl) (lv_at hl 2 rfl) ?_
    obtain ⟨hk11, hw⟩ := hw
    obtain ⟨hi10, hw⟩ := hw
    refine xb_iald hx hb hR hk11 hi10 (xb_d D_M_branch 60 rfl) ?_
    obtain ⟨v12, ev12⟩ : ∃ x : Int32, x = (xb_i h3 b9 (Int32.toNatClampNeg x4)) := ⟨_, rfl⟩
    have hw := hw v12 ev12
    refine xt_numi (y := v12) ev12.symm ?_
    refine lv_istore hx hb (xb_d D_M_branch 61 rfl) hl (by decide) rfl (fun ls hl => ?_)
    have hl : lv_has ls 8 [(5, .int v12), (0, .ref x0), (3, .int x3), (4, .int x4)] := hl
    refine lv_iload hx hb (xb_d D_M_branch 62 rfl) (lv_at hl 0 rfl) ?_
    refine lv_bipush (v := 64) hx hb (xb_d D_M_branch 63 rfl) (by decide) ?_
    refine lv_icmp_ne (tgt := 113) hx hb (xb_d D_M_branch 64 rfl) rfl (fun hc13 => ?_) (fun hc13 => ?_)
    · have hw := hw.1 hc13
      refine lv_aload_n hx hb (xb_d D_M_branch 67 rfl) rfl (lv_at hl 1 rfl) ?_
      refine lv_iload hx hb (xb_d D_M_branch 68 rfl) (lv_at hl 0 rfl) ?_
      refine xb_call0 (D := D) (A := A) (σ := σ) (h := h3) (d := 2) (maxL := 2) (rest := []) (av := [.ref x0, .int v12]) (fun T hT X => by obtain ⟨cb9, ra9, rb9, rc9⟩ := xb_recv (ci := 8) hR rfl hk4 (by decide); exact xt_invV X hx hown (hts _ m_ce40dc40) (hts _ m_c3a002b8) (hts _ m_395c99b5) (xt_sigOf (hts _ m_1ea89357)) nm_M_pop (by rw [hT]; exact ra9) rb9 rc9 (g := F0 m 116 ls [.int v12, .ref x0]) rfl (argsL := [.int v12]) (rest := []) rfl rfl (by rw [hb]; exact (xb_d D_M_branch 69 rfl))) (ok_M_pop l hfl D A σ x0 v12 h3 _ hw) (hml.trans hl.1.symm) (by rw [hb]; exact (xb_d D_M_branch 69 rfl)) (Nat.le_of_ble_eq_true rfl) (Nat.le_of_ble_eq_true rfl) (Nat.le_of_ble_eq_true rfl) (show k ≤ MC by omega) (show n ≤ MS by omega) (xt_w1 hB.1 m_1ea89357) (xt_cdOf hB.1 m_1ea89357) (hts _ m_d5ed7bed) hB hR hS hA (fun vv h14 H locs hq hEh14 hR hS => ?_)
      obtain ⟨r15, rfl, hw⟩ := hq
      have hw := hw hEh14
      have hE := hE.tr hEh14
      refine W.eq (g2 := F0 m 119 ls [.long r15]) rfl ?_
      exact am_M_branch_L119 l hfl D A σ MC MS h0 Qr x0 x4 v12 r15 h14 hw p e s m args below meth c hC H locs ls k n hE (lv_sub hl [1, 3, 0] rfl) hR hS (by omega) (by omega)
    · have hw := hw.2 hc13
      refine lv_lconst (v := 0) hx hb (xb_d D_M_branch 65 rfl) (by decide) ?_
      refine lv_goto (tgt := 119) hx hb (xb_d D_M_branch 66 rfl) rfl ?_
      exact am_M_branch_L119 l hfl D A σ MC MS h0 Qr x0 x4 v12 0 h3 hw p e s m args below meth c hC H locs ls k n hE (lv_sub hl [1, 3, 0] rfl) hR hS (by omega) (by omega)
  · have hw := hw.2 hc8
    refine lv_aload_n hx hb (xb_d D_M_branch 54 rfl) rfl (lv_at hl 0 rfl) ?_
    refine xb_call0 (D := D) (A := A) (σ := σ) (h := h3) (d := 3) (maxL := 5) (rest := []) (av := [.ref x0]) (fun T hT X => by obtain ⟨cb9, ra9, rb9, rc9⟩ := xb_recv (ci := 8) hR rfl hk4 (by decide); exact xt_invV X hx hown (hts _ m_b8a8e88c) (hts _ m_4d204536) (hts _ m_5da39f92) (xt_sigOf (hts _ m_5a54079a)) nm_M_leave (by rw [hT]; exact ra9) rb9 rc9 (g := F0 m 89 ls [.ref x0]) rfl (argsL := []) (rest := []) rfl rfl (by rw [hb]; exact (xb_d D_M_branch 55 rfl))) (ok_M_leave l hfl D A σ x0 h3 _ hw) (hml.trans hl.1.symm) (by rw [hb]; exact (xb_d D_M_branch 55 rfl)) (Nat.le_of_ble_eq_true rfl) (Nat.le_of_ble_eq_true rfl) (Nat.le_of_ble_eq_true rfl) (show k ≤ MC by omega) (show n ≤ MS by omega) (xt_w1 hB.1 m_5a54079a) (xt_cdOf hB.1 m_5a54079a) (hts _ m_d5ed7bed) hB hR hS hA (fun vv h16 H locs hq hEh16 hR hS => ?_)
    obtain ⟨rfl, hw⟩ := hq
    have hw := hw hEh16
    have hE := hE.tr hEh16
    refine W.eq (g2 := F0 m 92 ls []) rfl ?_
    exact xb_vret 0 0 hx hb hr hlocks (show k + 0 ≤ MC by omega) (show n + 0 ≤ MS by omega) hE hR hS (xb_d D_M_branch 56 rfl) hw

set_option maxHeartbeats 4000000 in
set_option maxRecDepth 100000 in
theorem am_M_branch_L69 (l : Launch) (hfl : l.flags = pinnedFlags ++ [noTraceFlag]) (D : va_G) (A : Nat → Prop) (σ MC MS : Nat) (h0 : xb_H) (Qr : xb_H → Prop) (x0 : Nat) (x3 : Int32) (x4 : Int32) (y0 : Nat) (h : xb_H) (hw : w_M_branch_L69 Qr x0 x3 x4 y0 h) : xb_am l D A σ 8 MC MS h0 (fun v h _ _ => v = none ∧ Qr h) (fun _ _ _ _ => False) y_M_branch.cls y_M_branch.name b_M_branch 8 ([] : List ExceptionTableEntry) none 69 [(0, .ref x0), (3, .int x3), (4, .int x4)] [.ref y0] h 0 0 := by
  unfold w_M_branch_L69 at hw
  intro p e s m args below meth c hC H locs ls k n hE hl hR hS hk hn
  obtain ⟨hx, hb, hown, hlocks, htab, hml, hr, hB, hA, hnm⟩ := id hC
  have hts := hB.1.1.at args
  refine lv_iconst (v := 1) hx hb (xb_d D_M_branch 44 rfl) (by decide) ?_
  refine lv_goto (tgt := 74) hx hb (xb_d D_M_branch 45 rfl) rfl ?_
  exact am_M_branch_L74 l hfl D A σ MC MS h0 Qr x0 x3 x4 1 y0 h hw p e s m args below meth c hC H locs ls k n hE (lv_sub hl [0, 1, 2] rfl) hR hS (by omega) (by omega)

set_option maxHeartbeats 4000000 in
set_option maxRecDepth 100000 in
theorem am_M_branch_L42 (l : Launch) (hfl : l.flags = pinnedFlags ++ [noTraceFlag]) (D : va_G) (A : Nat → Prop) (σ MC MS : Nat) (h0 : xb_H) (Qr : xb_H → Prop) (x0 : Nat) (x1 : Int64) (x3 : Int32) (y0 : Int32) (h : xb_H) (hw : w_M_branch_L42 Qr x0 x1 x3 y0 h) : xb_am l D A σ 8 MC MS h0 (fun v h _ _ => v = none ∧ Qr h) (fun _ _ _ _ => False) y_M_branch.cls y_M_branch.name b_M_branch 8 ([] : List ExceptionTableEntry) none 42 [(0, .ref x0), (1, .long x1), (3, .int x3)] [.int y0] h 0 0 := by
  unfold w_M_branch_L42 at hw
  intro p e s m args below meth c hC H locs ls k n hE hl hR hS hk hn
  obtain ⟨hx, hb, hown, hlocks, htab, hml, hr, hB, hA, hnm⟩ := id hC
  have hts := hB.1.1.at args
  refine lv_istore hx hb (xb_d D_M_branch 28 rfl) hl (by decide) rfl (fun ls hl => ?_)
  have hl : lv_has ls 8 [(4, .int y0), (0, .ref x0), (1, .long x1), (3, .int x3)] := hl
  refine lv_aload_n hx hb (xb_d D_M_branch 29 rfl) rfl (lv_at hl 1 rfl) ?_
  refine lv_aload_n hx hb (xb_d D_M_branch 30 rfl) rfl (lv_at hl 1 rfl) ?_
  obtain ⟨hk1, hw⟩ := hw
  refine xb_getI (C := R_M) (T := F_M) (N := 97) hx hb 8 94 hts fin_M hown hR hk1 (by decide) rfl (by decide) rfl (hts _ m_8158dce5) (fun _ h9 => h9) (xb_d D_M_branch 31 rfl) ?_
  refine lv_if_ne (tgt := 69) hx hb (xb_d D_M_branch 32 rfl) rfl (fun hc2 => ?_) (fun hc2 => ?_)
  · have hw := hw.1 hc2
    exact am_M_branch_L69 l hfl D A σ MC MS h0 Qr x0 x3 y0 x0 h hw p e s m args below meth c hC H locs ls k n hE (lv_sub hl [1, 3, 0] rfl) hR hS (by omega) (by omega)
  · have hw := hw.2 hc2
    refine lv_lload_n hx hb (xb_d D_M_branch 33 rfl) rfl (lv_at hl 2 rfl) ?_
    refine lv_aload_n hx hb (xb_d D_M_branch 34 rfl) rfl (lv_at hl 1 rfl) ?_
    refine xb_getI (C := R_M) (T := F_M) (N := 97) hx hb 8 81 hts fin_M hown hR hk1 (by decide) rfl (by decide) rfl (hts _ m_65743087) (fun _ h9 => h9) (xb_d D_M_branch 35 rfl) ?_
    refine lv_aload_n hx hb (xb_d D_M_branch 36 rfl) rfl (lv_at hl 1 rfl) ?_
    refine xb_getP (C := R_M) (T := F_M) (N := 97) hx hb 8 73 hts fin_M hown hR hk1 (by decide) rfl (by decide) rfl (hts _ m_6c9efdee) (fun _ h9 => h9) (xb_d D_M_branch 37 rfl) ?_
    obtain ⟨b3, eb3, hw⟩ := hw
    refine xb_some eb3 ?_
    refine lv_iload_n hx hb (xb_d D_M_branch 38 rfl) rfl (lv_at hl 3 rfl) ?_
    obtain ⟨hk5, hw⟩ := hw
    obtain ⟨hi4, hw⟩ := hw
    refine xb_iald hx hb hR hk5 hi4 (xb_d D_M_branch 39 rfl) ?_
    refine lv_isub hx hb (xb_d D_M_branch 40 rfl) ?_
    refine lv_i2l hx hb (xb_d D_M_branch 41 rfl) rfl ?_
    refine xb_lc_lt (tgt := 73) hx hb (xb_d D_M_branch 42 rfl) (xb_d D_M_branch 43 rfl) rfl (fun hc6 => ?_) (fun hc6 => ?_)
    · have hw := hw.1 hc6
      refine lv_iconst (v := 0) hx hb (xb_d D_M_branch 46 rfl) (by decide) ?_
      exact am_M_branch_L74 l hfl D A σ MC MS h0 Qr x0 x3 y0 0 x0 h hw p e s m args below meth c hC H locs ls k n hE (lv_sub hl [1, 3, 0] rfl) hR hS (by omega) (by omega)
    · have hw := hw.2 hc6
      exact am_M_branch_L69 l hfl D A σ MC MS h0 Qr x0 x3 y0 x0 h hw p e s m args below meth c hC H locs ls k n hE (lv_sub hl [1, 3, 0] rfl) hR hS (by omega) (by omega)

set_option maxHeartbeats 4000000 in
set_option maxRecDepth 100000 in
theorem ok_M_branch (l : Launch) (hfl : l.flags = pinnedFlags ++ [noTraceFlag]) (D : va_G) (A : Nat → Prop) (σ : Nat) (x0 : Nat) (x1 : Int64) (h : xb_H) (Qr : xb_H → Prop) (hw : w_M_branch x0 x1 h Qr) : xb_Met l y_M_branch [.code y_M_branch b_M_branch 8 none] (xb_rm 8 0 0) (xb_Pc D A σ h [.ref x0, .long x1]) (xb_Qc D A h 0 0 (fun v h _ _ => v = none ∧ Qr h) (fun _ _ _ _ => False)) A := by
  refine xb_ofAm (cc := b_M_branch) (by decide) (Nat.le_of_ble_eq_true rfl) ?_
  unfold w_M_branch at hw
  show xb_am l D A σ 8 0 0 h (fun v h _ _ => v = none ∧ Qr h) (fun _ _ _ _ => False) y_M_branch.cls y_M_branch.name b_M_branch 8 ([] : List ExceptionTableEntry) none 0 [(0, .ref x0), (1, .long x1)] [] h 0 0
  obtain ⟨MC, hMC⟩ : ∃ x, x = 0 := ⟨_, rfl⟩
  obtain ⟨MS, hMS⟩ : ∃ x, x = 0 := ⟨_, rfl⟩
  rw [show xb_am l D A σ 8 0 0 = xb_am l D A σ 8 MC MS by rw [hMC, hMS]]
  obtain ⟨h0, hh0⟩ : ∃ x, x = h := ⟨_, rfl⟩
  rw [show xb_am l D A σ 8 MC MS h = xb_am l D A σ 8 MC MS h0 by rw [hh0]]
  intro p e s m args below meth c hC H locs ls k n hE hl hR hS hk hn
  obtain ⟨hx, hb, hown, hlocks, htab, hml, hr, hB, hA, hnm⟩ := id hC
  have hts := hB.1.1.at args
  refine lv_aload_n hx hb (xb_d D_M_branch 0 rfl) rfl (lv_at hl 0 rfl) ?_
  obtain ⟨hk1, hw⟩ := hw
  refine xb_getI (C := R_M) (T := F_M) (N := 97) hx hb 8 68 hts fin_M hown hR hk1 (by decide) rfl (by decide) rfl (hts _ m_11712ae1) (fun _ h9 => h9) (xb_d D_M_branch 1 rfl) ?_
  refine lv_iconst (v := 1) hx hb (xb_d D_M_branch 2 rfl) (by decide) ?_
  refine lv_isub hx hb (xb_d D_M_branch 3 rfl) ?_
  obtain ⟨v2, ev2⟩ : ∃ x : Int32, x = ((xb_i h x0 68) - 1) := ⟨_, rfl⟩
  have hw := hw v2 ev2
  refine xt_numi (y := v2) ev2.symm ?_
  refine lv_istore_n hx hb (xb_d D_M_branch 4 rfl) rfl hl (by decide) rfl (fun ls hl => ?_)
  have hl : lv_has ls 8 [(3, .int v2), (0, .ref x0), (1, .long x1)] := hl
  refine lv_lload_n hx hb (xb_d D_M_branch 5 rfl) rfl (lv_at hl 2 rfl) ?_
  refine lv_aload_n hx hb (xb_d D_M_branch 6 rfl) rfl (lv_at hl 1 rfl) ?_
  refine xb_getI (C := R_M) (T := F_M) (N := 97) hx hb 8 81 hts fin_M hown hR hk1 (by decide) rfl (by decide) rfl (hts _ m_65743087) (fun _ h9 => h9) (xb_d D_M_branch 7 rfl) ?_
  refine lv_aload_n hx hb (xb_d D_M_branch 8 rfl) rfl (lv_at hl 1 rfl) ?_
  refine xb_getP (C := R_M) (T := F_M) (N := 97) hx hb 8 73 hts fin_M hown hR hk1 (by decide) rfl (by decide) rfl (hts _ m_6c9efdee) (fun _ h9 => h9) (xb_d D_M_branch 9 rfl) ?_
  obtain ⟨b3, eb3, hw⟩ := hw
  refine xb_some eb3 ?_
  refine lv_iload_n hx hb (xb_d D_M_branch 10 rfl) rfl (lv_at hl 0 rfl) ?_
  obtain ⟨hk5, hw⟩ := hw
  obtain ⟨hi4, hw⟩ := hw
  refine xb_iald hx hb hR hk5 hi4 (xb_d D_M_branch 11 rfl) ?_
  refine lv_isub hx hb (xb_d D_M_branch 12 rfl) ?_
  refine lv_i2l hx hb (xb_d D_M_branch 13 rfl) rfl ?_
  refine xb_lc_lt (tgt := 33) hx hb (xb_d D_M_branch 14 rfl) (xb_d D_M_branch 15 rfl) rfl (fun hc6 => ?_) (fun hc6 => ?_)
  · have hw := hw.1 hc6
    refine lv_aload_n hx hb (xb_d D_M_branch 21 rfl) rfl (lv_at hl 1 rfl) ?_
    refine xb_getI (C := R_M) (T := F_M) (N := 97) hx hb 8 81 hts fin_M hown hR hk1 (by decide) rfl (by decide) rfl (hts _ m_65743087) (fun _ h9 => h9) (xb_d D_M_branch 22 rfl) ?_
    refine lv_iconst (v := 1) hx hb (xb_d D_M_branch 23 rfl) (by decide) ?_
    refine lv_isub hx hb (xb_d D_M_branch 24 rfl) ?_
    refine lv_lload_n hx hb (xb_d D_M_branch 25 rfl) rfl (lv_at hl 2 rfl) ?_
    refine lv_l2i hx hb (xb_d D_M_branch 26 rfl) rfl ?_
    refine lv_isub hx hb (xb_d D_M_branch 27 rfl) ?_
    exact am_M_branch_L42 l hfl D A σ MC MS h0 Qr x0 x1 v2 (((xb_i h x0 81) - 1) - (Int64.toInt32 x1)) h hw p e s m args below meth c hC H locs ls k n hE (lv_sub hl [1, 2, 0] rfl) hR hS (by omega) (by omega)
  · have hw := hw.2 hc6
    refine lv_aload_n hx hb (xb_d D_M_branch 16 rfl) rfl (lv_at hl 1 rfl) ?_
    refine xb_getP (C := R_M) (T := F_M) (N := 97) hx hb 8 73 hts fin_M hown hR hk1 (by decide) rfl (by decide) rfl (hts _ m_6c9efdee) (fun _ h9 => h9) (xb_d D_M_branch 17 rfl) ?_
    obtain ⟨b7, eb7, hw⟩ := hw
    refine xb_some eb7 ?_
    refine lv_iload_n hx hb (xb_d D_M_branch 18 rfl) rfl (lv_at hl 0 rfl) ?_
    obtain ⟨hk9, hw⟩ := hw
    obtain ⟨hi8, hw⟩ := hw
    refine xb_iald hx hb hR hk9 hi8 (xb_d D_M_branch 19 rfl) ?_
    refine lv_goto (tgt := 42) hx hb (xb_d D_M_branch 20 rfl) rfl ?_
    exact am_M_branch_L42 l hfl D A σ MC MS h0 Qr x0 x1 v2 (xb_i h b7 (Int32.toNatClampNeg v2)) h hw p e s m args below meth c hC H locs ls k n hE (lv_sub hl [1, 2, 0] rfl) hR hS (by omega) (by omega)

theorem m_bcb3cb22 : (.methodLink "StackHostModel" 330 y_M_importOf : Cond) ∈ xt_tbl := xt_in (xt_t11 (List.mem_of_getElem? (i := 109) (by decide +kernel))) (by decide +kernel)
theorem m_38f5d5ae : (.instanceMethod y_M_importOf : Cond) ∈ xt_tbl := xt_in (xt_t11 (List.mem_of_getElem? (i := 111) (by decide +kernel))) (by decide +kernel)
theorem m_e7522fd3 : (.selects "StackHostModel" y_M_importOf y_M_importOf : Cond) ∈ xt_tbl := xt_in (xt_v11 (q := (⟨"StackHostModel", "importOf", "(III)I"⟩, 97)) (List.mem_of_getElem? (i := 3) (by decide +kernel))) (by decide +kernel)
theorem m_8f92e52e : (.code y_M_importOf b_M_importOf 6 (some .int) : Cond) ∈ xt_tbl := xt_in (xt_t11 (List.mem_of_getElem? (i := 112) (by decide +kernel))) (by decide +kernel)
theorem nm_M_importOf : xt_nm y_M_importOf 3 := ⟨by decide +kernel, by decide +kernel⟩
set_option maxRecDepth 100000 in
def T_M_meant : List (Nat × Instr × Nat) := [(0, .aload_n 0, 1), (1, .getfield 62, 3), (4, .iload_n 1, 1), (5, .iaload, 1), (6, .istore 4, 2), (8, .aload_n 0, 1), (9, .getfield 30, 3), (12, .iconst 4, 1), (13, .iload 4, 2), (15, .imul, 1), (16, .iload_n 2, 1), (17, .iadd, 1), (18, .iaload, 1), (19, .istore 5, 2), (21, .iload_n 3, 1), (22, .iload 5, 2), (24, .if_icmp .ge 24, 3), (27, .aload_n 0, 1), (28, .getfield 68, 3), (31, .aload_n 0, 1), (32, .getfield 65, 3), (35, .iload_n 1, 1), (36, .iaload, 1), (37, .aload_n 0, 1), (38, .iload 4, 2), (40, .iload_n 2, 1), (41, .iload_n 3, 1), (42, .invokevirtual 330, 3), (45, .iadd, 1), (46, .iaload, 1), (47, .ireturn, 1), (48, .iload_n 2, 1), (49, .ifCond .ne 17, 3), (52, .aload_n 0, 1), (53, .getfield 71, 3), (56, .iload_n 1, 1), (57, .iaload, 1), (58, .iload_n 3, 1), (59, .iadd, 1), (60, .iload 5, 2), (62, .isub, 1), (63, .goto 42, 3), (66, .iload_n 2, 1), (67, .iconst 1, 1), (68, .if_icmp .ne 12, 3), (71, .aload_n 0, 1), (72, .getfield 77, 3), (75, .iload_n 1, 1), (76, .iaload, 1), (77, .goto 28, 3), (80, .iload_n 2, 1), (81, .iconst 2, 1), (82, .if_icmp .ne 12, 3), (85, .aload_n 0, 1), (86, .getfield 80, 3), (89, .iload_n 1, 1), (90, .iaload, 1), (91, .goto 14, 3), (94, .aload_n 0, 1), (95, .getfield 74, 3), (98, .iload_n 1, 1), (99, .iaload, 1), (100, .iload_n 3, 1), (101, .iadd, 1), (102, .iload 5, 2), (104, .isub, 1), (105, .ireturn, 1)]
theorem D_M_meant : ∀ q ∈ T_M_meant, decode b_M_meant q.1 = .ok (q.2.1, q.2.2) := by decide +kernel

set_option maxHeartbeats 4000000 in
set_option maxRecDepth 100000 in
theorem am_M_meant_L105 (l : Launch) (hfl : l.flags = pinnedFlags ++ [noTraceFlag]) (D : va_G) (A : Nat → Prop) (σ MC MS : Nat) (h0 : xb_H) (Qr : Int32 → xb_H → Prop) (y0 : Int32) (h : xb_H) (hw : w_M_meant_L105 Qr y0 h) : xb_am l D A σ 8 MC MS h0 (fun v h _ _ => ∃ r, v = some (.int r) ∧ Qr r h) (fun _ _ _ _ => False) y_M_meant.cls y_M_meant.name b_M_meant 6 ([] : List ExceptionTableEntry) (some .int) 105 [] [.int y0] h 0 0 := by
  unfold w_M_meant_L105 at hw
  intro p e s m args below meth c hC H locs ls k n hE hl hR hS hk hn
  obtain ⟨hx, hb, hown, hlocks, htab, hml, hr, hB, hA, hnm⟩ := id hC
  have hts := hB.1.1.at args
  exact xb_iret 0 0 hx hb hr hlocks (show k + 0 ≤ MC by omega) (show n + 0 ≤ MS by omega) hE hR hS (xb_d D_M_meant 66 rfl) hw

set_option maxHeartbeats 4000000 in
set_option maxRecDepth 100000 in
theorem ok_M_meant (l : Launch) (hfl : l.flags = pinnedFlags ++ [noTraceFlag]) (D : va_G) (A : Nat → Prop) (σ : Nat) (x0 : Nat) (x1 : Int32) (x2 : Int32) (x3 : Int32) (h : xb_H) (Qr : Int32 → xb_H → Prop) (hw : w_M_meant x0 x1 x2 x3 h Qr) : xb_Met l y_M_meant [.code y_M_meant b_M_meant 6 (some .int)] (xb_rm 8 0 0) (xb_Pc D A σ h [.ref x0, .int x1, .int x2, .int x3]) (xb_Qc D A h 0 0 (fun v h _ _ => ∃ r, v = some (.int r) ∧ Qr r h) (fun _ _ _ _ => False)) A := by
  refine xb_ofAm (cc := b_M_meant) (by decide) (Nat.le_of_ble_eq_true rfl) ?_
  unfold w_M_meant at hw
  show xb_am l D A σ 8 0 0 h (fun v h _ _ => ∃ r, v = some (.int r) ∧ Qr r h) (fun _ _ _ _ => False) y_M_meant.cls y_M_meant.name b_M_meant 6 ([] : List ExceptionTableEntry) (some .int) 0 [(0, .ref x0), (1, .int x1), (2, .int x2), (3, .int x3)] [] h 0 0
  obtain ⟨MC, hMC⟩ : ∃ x, x = 0 := ⟨_, rfl⟩
  obtain ⟨MS, hMS⟩ : ∃ x, x = 0 := ⟨_, rfl⟩
  rw [show xb_am l D A σ 8 0 0 = xb_am l D A σ 8 MC MS by rw [hMC, hMS]]
  obtain ⟨h0, hh0⟩ : ∃ x, x = h := ⟨_, rfl⟩
  rw [show xb_am l D A σ 8 MC MS h = xb_am l D A σ 8 MC MS h0 by rw [hh0]]
  intro p e s m args below meth c hC H locs ls k n hE hl hR hS hk hn
  obtain ⟨hx, hb, hown, hlocks, htab, hml, hr, hB, hA, hnm⟩ := id hC
  have hts := hB.1.1.at args
  refine lv_aload_n hx hb (xb_d D_M_meant 0 rfl) rfl (lv_at hl 0 rfl) ?_
  obtain ⟨hk1, hw⟩ := hw
  refine xb_getP (C := R_M) (T := F_M) (N := 97) hx hb 8 31 hts fin_M hown hR hk1 (by decide) rfl (by decide) rfl (hts _ m_691d5f47) (fun _ h9 => h9) (xb_d D_M_meant 1 rfl) ?_
  obtain ⟨b2, eb2, hw⟩ := hw
  refine xb_some eb2 ?_
  refine lv_iload_n hx hb (xb_d D_M_meant 2 rfl) rfl (lv_at hl 1 rfl) ?_
  obtain ⟨hk4, hw⟩ := hw
  obtain ⟨hi3, hw⟩ := hw
  refine xb_iald hx hb hR hk4 hi3 (xb_d D_M_meant 3 rfl) ?_
  obtain ⟨v5, ev5⟩ : ∃ x : Int32, x = (xb_i h b2 (Int32.toNatClampNeg x1)) := ⟨_, rfl⟩
  have hw := hw v5 ev5
  refine xt_numi (y := v5) ev5.symm ?_
  refine lv_istore hx hb (xb_d D_M_meant 4 rfl) hl (by decide) rfl (fun ls hl => ?_)
  have hl : lv_has ls 6 [(4, .int v5), (0, .ref x0), (1, .int x1), (2, .int x2), (3, .int x3)] := hl
  refine lv_aload_n hx hb (xb_d D_M_meant 5 rfl) rfl (lv_at hl 1 rfl) ?_
  refine xb_getP (C := R_M) (T := F_M) (N := 97) hx hb 8 10 hts fin_M hown hR hk1 (by decide) rfl (by decide) rfl (hts _ m_01d0d957) (fun _ h9 => h9) (xb_d D_M_meant 6 rfl) ?_
  obtain ⟨b6, eb6, hw⟩ := hw
  refine xb_some eb6 ?_
  refine lv_iconst (v := 4) hx hb (xb_d D_M_meant 7 rfl) (by decide) ?_
  refine lv_iload hx hb (xb_d D_M_meant 8 rfl) (lv_at hl 0 rfl) ?_
  refine lv_imul hx hb (xb_d D_M_meant 9 rfl) ?_
  refine lv_iload_n hx hb (xb_d D_M_meant 10 rfl) rfl (lv_at hl 3 rfl) ?_
  refine lv_iadd hx hb (xb_d D_M_meant 11 rfl) ?_
  obtain ⟨hk8, hw⟩ := hw
  obtain ⟨hi7, hw⟩ := hw
  refine xb_iald hx hb hR hk8 hi7 (xb_d D_M_meant 12 rfl) ?_
  obtain ⟨v9, ev9⟩ : ∃ x : Int32, x = (xb_i h b6 (Int32.toNatClampNeg ((4 * v5) + x2))) := ⟨_, rfl⟩
  have hw := hw v9 ev9
  refine xt_numi (y := v9) ev9.symm ?_
  refine lv_istore hx hb (xb_d D_M_meant 13 rfl) hl (by decide) rfl (fun ls hl => ?_)
  have hl : lv_has ls 6 [(5, .int v9), (4, .int v5), (0, .ref x0), (1, .int x1), (2, .int x2), (3, .int x3)] := hl
  refine lv_iload_n hx hb (xb_d D_M_meant 14 rfl) rfl (lv_at hl 5 rfl) ?_
  refine lv_iload hx hb (xb_d D_M_meant 15 rfl) (lv_at hl 0 rfl) ?_
  refine lv_icmp_ge (tgt := 48) hx hb (xb_d D_M_meant 16 rfl) rfl (fun hc10 => ?_) (fun hc10 => ?_)
  · have hw := hw.1 hc10
    refine lv_iload_n hx hb (xb_d D_M_meant 31 rfl) rfl (lv_at hl 4 rfl) ?_
    refine lv_if_ne (tgt := 66) hx hb (xb_d D_M_meant 32 rfl) rfl (fun hc11 => ?_) (fun hc11 => ?_)
    · have hw := hw.1 hc11
      refine lv_iload_n hx hb (xb_d D_M_meant 42 rfl) rfl (lv_at hl 4 rfl) ?_
      refine lv_iconst (v := 1) hx hb (xb_d D_M_meant 43 rfl) (by decide) ?_
      refine lv_icmp_ne (tgt := 80) hx hb (xb_d D_M_meant 44 rfl) rfl (fun hc12 => ?_) (fun hc12 => ?_)
      · have hw := hw.1 hc12
        refine lv_iload_n hx hb (xb_d D_M_meant 50 rfl) rfl (lv_at hl 4 rfl) ?_
        refine lv_iconst (v := 2) hx hb (xb_d D_M_meant 51 rfl) (by decide) ?_
        refine lv_icmp_ne (tgt := 94) hx hb (xb_d D_M_meant 52 rfl) rfl (fun hc13 => ?_) (fun hc13 => ?_)
        · have hw := hw.1 hc13
          refine lv_aload_n hx hb (xb_d D_M_meant 58 rfl) rfl (lv_at hl 2 rfl) ?_
          refine xb_getP (C := R_M) (T := F_M) (N := 97) hx hb 8 36 hts fin_M hown hR hk1 (by decide) rfl (by decide) rfl (hts _ m_e7bc0caf) (fun _ h9 => h9) (xb_d D_M_meant 59 rfl) ?_
          obtain ⟨b14, eb14, hw⟩ := hw
          refine xb_some eb14 ?_
          refine lv_iload_n hx hb (xb_d D_M_meant 60 rfl) rfl (lv_at hl 3 rfl) ?_
          obtain ⟨hk16, hw⟩ := hw
          obtain ⟨hi15, hw⟩ := hw
          refine xb_iald hx hb hR hk16 hi15 (xb_d D_M_meant 61 rfl) ?_
          refine lv_iload_n hx hb (xb_d D_M_meant 62 rfl) rfl (lv_at hl 5 rfl) ?_
          refine lv_iadd hx hb (xb_d D_M_meant 63 rfl) ?_
          refine lv_iload hx hb (xb_d D_M_meant 64 rfl) (lv_at hl 0 rfl) ?_
          refine lv_isub hx hb (xb_d D_M_meant 65 rfl) ?_
          exact am_M_meant_L105 l hfl D A σ MC MS h0 Qr (((xb_i h b14 (Int32.toNatClampNeg x1)) + x3) - v9) h hw p e s m args below meth c hC H locs ls k n hE (lv_sub hl [] rfl) hR hS (by omega) (by omega)
        · have hw := hw.2 hc13
          refine lv_aload_n hx hb (xb_d D_M_meant 53 rfl) rfl (lv_at hl 2 rfl) ?_
          refine xb_getP (C := R_M) (T := F_M) (N := 97) hx hb 8 38 hts fin_M hown hR hk1 (by decide) rfl (by decide) rfl (hts _ m_2d81be8c) (fun _ h9 => h9) (xb_d D_M_meant 54 rfl) ?_
          obtain ⟨b17, eb17, hw⟩ := hw
          refine xb_some eb17 ?_
          refine lv_iload_n hx hb (xb_d D_M_meant 55 rfl) rfl (lv_at hl 3 rfl) ?_
          obtain ⟨hk19, hw⟩ := hw
          obtain ⟨hi18, hw⟩ := hw
          refine xb_iald hx hb hR hk19 hi18 (xb_d D_M_meant 56 rfl) ?_
          refine lv_goto (tgt := 105) hx hb (xb_d D_M_meant 57 rfl) rfl ?_
          exact am_M_meant_L105 l hfl D A σ MC MS h0 Qr (xb_i h b17 (Int32.toNatClampNeg x1)) h hw p e s m args below meth c hC H locs ls k n hE (lv_sub hl [] rfl) hR hS (by omega) (by omega)
      · have hw := hw.2 hc12
        refine lv_aload_n hx hb (xb_d D_M_meant 45 rfl) rfl (lv_at hl 2 rfl) ?_
        refine xb_getP (C := R_M) (T := F_M) (N := 97) hx hb 8 37 hts fin_M hown hR hk1 (by decide) rfl (by decide) rfl (hts _ m_1f5a2407) (fun _ h9 => h9) (xb_d D_M_meant 46 rfl) ?_
        obtain ⟨b20, eb20, hw⟩ := hw
        refine xb_some eb20 ?_
        refine lv_iload_n hx hb (xb_d D_M_meant 47 rfl) rfl (lv_at hl 3 rfl) ?_
        obtain ⟨hk22, hw⟩ := hw
        obtain ⟨hi21, hw⟩ := hw
        refine xb_iald hx hb hR hk22 hi21 (xb_d D_M_meant 48 rfl) ?_
        refine lv_goto (tgt := 105) hx hb (xb_d D_M_meant 49 rfl) rfl ?_
        exact am_M_meant_L105 l hfl D A σ MC MS h0 Qr (xb_i h b20 (Int32.toNatClampNeg x1)) h hw p e s m args below meth c hC H locs ls k n hE (lv_sub hl [] rfl) hR hS (by omega) (by omega)
    · have hw := hw.2 hc11
      refine lv_aload_n hx hb (xb_d D_M_meant 33 rfl) rfl (lv_at hl 2 rfl) ?_
      refine xb_getP (C := R_M) (T := F_M) (N := 97) hx hb 8 35 hts fin_M hown hR hk1 (by decide) rfl (by decide) rfl (hts _ m_6a74a2ce) (fun _ h9 => h9) (xb_d D_M_meant 34 rfl) ?_
      obtain ⟨b23, eb23, hw⟩ := hw
      refine xb_some eb23 ?_
      refine lv_iload_n hx hb (xb_d D_M_meant 35 rfl) rfl (lv_at hl 3 rfl) ?_
      obtain ⟨hk25, hw⟩ := hw
      obtain ⟨hi24, hw⟩ := hw
      refine xb_iald hx hb hR hk25 hi24 (xb_d D_M_meant 36 rfl) ?_
      refine lv_iload_n hx hb (xb_d D_M_meant 37 rfl) rfl (lv_at hl 5 rfl) ?_
      refine lv_iadd hx hb (xb_d D_M_meant 38 rfl) ?_
      refine lv_iload hx hb (xb_d D_M_meant 39 rfl) (lv_at hl 0 rfl) ?_
      refine lv_isub hx hb (xb_d D_M_meant 40 rfl) ?_
      refine lv_goto (tgt := 105) hx hb (xb_d D_M_meant 41 rfl) rfl ?_
      exact am_M_meant_L105 l hfl D A σ MC MS h0 Qr (((xb_i h b23 (Int32.toNatClampNeg x1)) + x3) - v9) h hw p e s m args below meth c hC H locs ls k n hE (lv_sub hl [] rfl) hR hS (by omega) (by omega)
  · have hw := hw.2 hc10
    refine lv_aload_n hx hb (xb_d D_M_meant 17 rfl) rfl (lv_at hl 2 rfl) ?_
    refine xb_getP (C := R_M) (T := F_M) (N := 97) hx hb 8 33 hts fin_M hown hR hk1 (by decide) rfl (by decide) rfl (hts _ m_e6997b7a) (fun _ h9 => h9) (xb_d D_M_meant 18 rfl) ?_
    obtain ⟨b26, eb26, hw⟩ := hw
    refine xb_some eb26 ?_
    refine lv_aload_n hx hb (xb_d D_M_meant 19 rfl) rfl (lv_at hl 2 rfl) ?_
    refine xb_getP (C := R_M) (T := F_M) (N := 97) hx hb 8 32 hts fin_M hown hR hk1 (by decide) rfl (by decide) rfl (hts _ m_3c93490e) (fun _ h9 => h9) (xb_d D_M_meant 20 rfl) ?_
    obtain ⟨b27, eb27, hw⟩ := hw
    refine xb_some eb27 ?_
    refine lv_iload_n hx hb (xb_d D_M_meant 21 rfl) rfl (lv_at hl 3 rfl) ?_
    obtain ⟨hk29, hw⟩ := hw
    obtain ⟨hi28, hw⟩ := hw
    refine xb_iald hx hb hR hk29 hi28 (xb_d D_M_meant 22 rfl) ?_
    refine lv_aload_n hx hb (xb_d D_M_meant 23 rfl) rfl (lv_at hl 2 rfl) ?_
    refine lv_iload hx hb (xb_d D_M_meant 24 rfl) (lv_at hl 1 rfl) ?_
    refine lv_iload_n hx hb (xb_d D_M_meant 25 rfl) rfl (lv_at hl 4 rfl) ?_
    refine lv_iload_n hx hb (xb_d D_M_meant 26 rfl) rfl (lv_at hl 5 rfl) ?_
    refine xb_call0 (D := D) (A := A) (σ := σ) (h := h) (d := 7) (maxL := 6) (rest := [.int (xb_i h b27 (Int32.toNatClampNeg x1)), .ref b26]) (av := [.ref x0, .int v5, .int x2, .int x3]) (fun T hT X => by obtain ⟨cb9, ra9, rb9, rc9⟩ := xb_recv (ci := 8) hR rfl hk1 (by decide); exact xt_invV X hx hown (hts _ m_bcb3cb22) (hts _ m_38f5d5ae) (hts _ m_e7522fd3) (xt_sigOf (hts _ m_8f92e52e)) nm_M_importOf (by rw [hT]; exact ra9) rb9 rc9 (g := F0 m 42 ls [.int x3, .int x2, .int v5, .ref x0, .int (xb_i h b27 (Int32.toNatClampNeg x1)), .ref b26]) rfl (argsL := [.int v5, .int x2, .int x3]) (rest := [.int (xb_i h b27 (Int32.toNatClampNeg x1)), .ref b26]) rfl rfl (by rw [hb]; exact (xb_d D_M_meant 27 rfl))) (ok_M_importOf l hfl D A σ x0 v5 x2 x3 h _ hw) (hml.trans hl.1.symm) (by rw [hb]; exact (xb_d D_M_meant 27 rfl)) (Nat.le_of_ble_eq_true rfl) (Nat.le_of_ble_eq_true rfl) (Nat.le_of_ble_eq_true rfl) (show k ≤ MC by omega) (show n ≤ MS by omega) (xt_w1 hB.1 m_8f92e52e) (xt_cdOf hB.1 m_8f92e52e) (hts _ m_d5ed7bed) hB hR hS hA (fun vv h30 H locs hq hEh30 hR hS => ?_)
    obtain ⟨r31, rfl, hw⟩ := hq
    have hw := hw hEh30
    have hE := hE.tr hEh30
    refine W.eq (g2 := F0 m 45 ls [.int r31, .int (xb_i h b27 (Int32.toNatClampNeg x1)), .ref b26]) rfl ?_
    refine lv_iadd hx hb (xb_d D_M_meant 28 rfl) ?_
    obtain ⟨hk33, hw⟩ := hw
    obtain ⟨hi32, hw⟩ := hw
    refine xb_iald hx hb hR hk33 hi32 (xb_d D_M_meant 29 rfl) ?_
    exact xb_iret 0 0 hx hb hr hlocks (show k + 0 ≤ MC by omega) (show n + 0 ≤ MS by omega) hE hR hS (xb_d D_M_meant 30 rfl) hw

set_option maxRecDepth 100000 in
def T_M_typeOf : List (Nat × Instr × Nat) := [(0, .aload_n 0, 1), (1, .getfield 30, 3), (4, .iconst 4, 1), (5, .iload_n 1, 1), (6, .imul, 1), (7, .iaload, 1), (8, .istore_n 3, 1), (9, .iload_n 2, 1), (10, .iload_n 3, 1), (11, .if_icmp .ge 19, 3), (14, .aload_n 0, 1), (15, .iload_n 1, 1), (16, .aload_n 0, 1), (17, .iload_n 1, 1), (18, .iconst 0, 1), (19, .iload_n 2, 1), (20, .invokevirtual 330, 3), (23, .invokevirtual 327, 3), (26, .pop, 1), (27, .goto 17, 3), (30, .aload_n 0, 1), (31, .iload_n 1, 1), (32, .aload_n 0, 1), (33, .iload_n 1, 1), (34, .iconst 3, 1), (35, .iload_n 2, 1), (36, .iload_n 3, 1), (37, .isub, 1), (38, .invokevirtual 320, 3), (41, .invokevirtual 324, 3), (44, .aload_n 0, 1), (45, .invokevirtual 218, 3), (48, .l2i, 1), (49, .ireturn, 1)]
theorem D_M_typeOf : ∀ q ∈ T_M_typeOf, decode b_M_typeOf q.1 = .ok (q.2.1, q.2.2) := by decide +kernel

set_option maxHeartbeats 4000000 in
set_option maxRecDepth 100000 in
theorem am_M_typeOf_L44 (l : Launch) (hfl : l.flags = pinnedFlags ++ [noTraceFlag]) (D : va_G) (A : Nat → Prop) (σ MC MS : Nat) (h0 : xb_H) (Qr : Int32 → xb_H → Prop) (x0 : Nat) (h : xb_H) (hw : w_M_typeOf_L44 Qr x0 h) : xb_am l D A σ 8 MC MS h0 (fun v h _ _ => ∃ r, v = some (.int r) ∧ Qr r h) (fun _ _ _ _ => False) y_M_typeOf.cls y_M_typeOf.name b_M_typeOf 4 ([] : List ExceptionTableEntry) (some .int) 44 [(0, .ref x0)] [] h 0 0 := by
  unfold w_M_typeOf_L44 at hw
  intro p e s m args below meth c hC H locs ls k n hE hl hR hS hk hn
  obtain ⟨hx, hb, hown, hlocks, htab, hml, hr, hB, hA, hnm⟩ := id hC
  have hts := hB.1.1.at args
  refine lv_aload_n hx hb (xb_d D_M_typeOf 30 rfl) rfl (lv_at hl 0 rfl) ?_
  obtain ⟨hk1, hw⟩ := hw
  refine xb_call0 (D := D) (A := A) (σ := σ) (h := h) (d := 4) (maxL := 5) (rest := []) (av := [.ref x0]) (fun T hT X => by obtain ⟨cb9, ra9, rb9, rc9⟩ := xb_recv (ci := 8) hR rfl hk1 (by decide); exact xt_invV X hx hown (hts _ m_e991293f) (hts _ m_385a74b3) (hts _ m_c9fbcd02) (xt_sigOf (hts _ m_1f53f210)) nm_M_count (by rw [hT]; exact ra9) rb9 rc9 (g := F0 m 45 ls [.ref x0]) rfl (argsL := []) (rest := []) rfl rfl (by rw [hb]; exact (xb_d D_M_typeOf 31 rfl))) (ok_M_count l hfl D A σ x0 h _ hw) (hml.trans hl.1.symm) (by rw [hb]; exact (xb_d D_M_typeOf 31 rfl)) (Nat.le_of_ble_eq_true rfl) (Nat.le_of_ble_eq_true rfl) (Nat.le_of_ble_eq_true rfl) (show k ≤ MC by omega) (show n ≤ MS by omega) (xt_w1 hB.1 m_1f53f210) (xt_cdOf hB.1 m_1f53f210) (hts _ m_d5ed7bed) hB hR hS hA (fun vv h2 H locs hq hEh2 hR hS => ?_)
  obtain ⟨r3, rfl, hw⟩ := hq
  have hw := hw hEh2
  have hE := hE.tr hEh2
  refine W.eq (g2 := F0 m 48 ls [.long r3]) rfl ?_
  refine lv_l2i hx hb (xb_d D_M_typeOf 32 rfl) rfl ?_
  exact xb_iret 0 0 hx hb hr hlocks (show k + 0 ≤ MC by omega) (show n + 0 ≤ MS by omega) hE hR hS (xb_d D_M_typeOf 33 rfl) hw

set_option maxHeartbeats 4000000 in
set_option maxRecDepth 100000 in
theorem ok_M_typeOf (l : Launch) (hfl : l.flags = pinnedFlags ++ [noTraceFlag]) (D : va_G) (A : Nat → Prop) (σ : Nat) (x0 : Nat) (x1 : Int32) (x2 : Int32) (h : xb_H) (Qr : Int32 → xb_H → Prop) (hw : w_M_typeOf x0 x1 x2 h Qr) : xb_Met l y_M_typeOf [.code y_M_typeOf b_M_typeOf 4 (some .int)] (xb_rm 8 0 0) (xb_Pc D A σ h [.ref x0, .int x1, .int x2]) (xb_Qc D A h 0 0 (fun v h _ _ => ∃ r, v = some (.int r) ∧ Qr r h) (fun _ _ _ _ => False)) A := by
  refine xb_ofAm (cc := b_M_typeOf) (by decide) (Nat.le_of_ble_eq_true rfl) ?_
  unfold w_M_typeOf at hw
  show xb_am l D A σ 8 0 0 h (fun v h _ _ => ∃ r, v = some (.int r) ∧ Qr r h) (fun _ _ _ _ => False) y_M_typeOf.cls y_M_typeOf.name b_M_typeOf 4 ([] : List ExceptionTableEntry) (some .int) 0 [(0, .ref x0), (1, .int x1), (2, .int x2)] [] h 0 0
  obtain ⟨MC, hMC⟩ : ∃ x, x = 0 := ⟨_, rfl⟩
  obtain ⟨MS, hMS⟩ : ∃ x, x = 0 := ⟨_, rfl⟩
  rw [show xb_am l D A σ 8 0 0 = xb_am l D A σ 8 MC MS by rw [hMC, hMS]]
  obtain ⟨h0, hh0⟩ : ∃ x, x = h := ⟨_, rfl⟩
  rw [show xb_am l D A σ 8 MC MS h = xb_am l D A σ 8 MC MS h0 by rw [hh0]]
  intro p e s m args below meth c hC H locs ls k n hE hl hR hS hk hn
  obtain ⟨hx, hb, hown, hlocks, htab, hml, hr, hB, hA, hnm⟩ := id hC
  have hts := hB.1.1.at args
  refine lv_aload_n hx hb (xb_d D_M_typeOf 0 rfl) rfl (lv_at hl 0 rfl) ?_
  obtain ⟨hk1, hw⟩ := hw
  refine xb_getP (C := R_M) (T := F_M) (N := 97) hx hb 8 10 hts fin_M hown hR hk1 (by decide) rfl (by decide) rfl (hts _ m_01d0d957) (fun _ h9 => h9) (xb_d D_M_typeOf 1 rfl) ?_
  obtain ⟨b2, eb2, hw⟩ := hw
  refine xb_some eb2 ?_
  refine lv_iconst (v := 4) hx hb (xb_d D_M_typeOf 2 rfl) (by decide) ?_
  refine lv_iload_n hx hb (xb_d D_M_typeOf 3 rfl) rfl (lv_at hl 1 rfl) ?_
  refine lv_imul hx hb (xb_d D_M_typeOf 4 rfl) ?_
  obtain ⟨hk4, hw⟩ := hw
  obtain ⟨hi3, hw⟩ := hw
  refine xb_iald hx hb hR hk4 hi3 (xb_d D_M_typeOf 5 rfl) ?_
  obtain ⟨v5, ev5⟩ : ∃ x : Int32, x = (xb_i h b2 (Int32.toNatClampNeg (4 * x1))) := ⟨_, rfl⟩
  have hw := hw v5 ev5
  refine xt_numi (y := v5) ev5.symm ?_
  refine lv_istore_n hx hb (xb_d D_M_typeOf 6 rfl) rfl hl (by decide) rfl (fun ls hl => ?_)
  have hl : lv_has ls 4 [(3, .int v5), (0, .ref x0), (1, .int x1), (2, .int x2)] := hl
  refine lv_iload_n hx hb (xb_d D_M_typeOf 7 rfl) rfl (lv_at hl 3 rfl) ?_
  refine lv_iload_n hx hb (xb_d D_M_typeOf 8 rfl) rfl (lv_at hl 0 rfl) ?_
  refine lv_icmp_ge (tgt := 30) hx hb (xb_d D_M_typeOf 9 rfl) rfl (fun hc6 => ?_) (fun hc6 => ?_)
  · have hw := hw.1 hc6
    refine lv_aload_n hx hb (xb_d D_M_typeOf 20 rfl) rfl (lv_at hl 1 rfl) ?_
    refine lv_iload_n hx hb (xb_d D_M_typeOf 21 rfl) rfl (lv_at hl 2 rfl) ?_
    refine lv_aload_n hx hb (xb_d D_M_typeOf 22 rfl) rfl (lv_at hl 1 rfl) ?_
    refine lv_iload_n hx hb (xb_d D_M_typeOf 23 rfl) rfl (lv_at hl 2 rfl) ?_
    refine lv_iconst (v := 3) hx hb (xb_d D_M_typeOf 24 rfl) (by decide) ?_
    refine lv_iload_n hx hb (xb_d D_M_typeOf 25 rfl) rfl (lv_at hl 3 rfl) ?_
    refine lv_iload_n hx hb (xb_d D_M_typeOf 26 rfl) rfl (lv_at hl 0 rfl) ?_
    refine lv_isub hx hb (xb_d D_M_typeOf 27 rfl) ?_
    refine xb_call0 (D := D) (A := A) (σ := σ) (h := h) (d := 2) (maxL := 4) (rest := [.int x1, .ref x0]) (av := [.ref x0, .int x1, .int 3, .int (x2 - v5)]) (fun T hT X => by obtain ⟨cb9, ra9, rb9, rc9⟩ := xb_recv (ci := 8) hR rfl hk1 (by decide); exact xt_invV X hx hown (hts _ m_7f41753e) (hts _ m_8cdd7108) (hts _ m_e228318f) (xt_sigOf (hts _ m_89667ad5)) nm_M_placeOf (by rw [hT]; exact ra9) rb9 rc9 (g := F0 m 38 ls [.int (x2 - v5), .int 3, .int x1, .ref x0, .int x1, .ref x0]) rfl (argsL := [.int x1, .int 3, .int (x2 - v5)]) (rest := [.int x1, .ref x0]) rfl rfl (by rw [hb]; exact (xb_d D_M_typeOf 28 rfl))) (ok_M_placeOf l hfl D A σ x0 x1 3 (x2 - v5) h _ hw) (hml.trans hl.1.symm) (by rw [hb]; exact (xb_d D_M_typeOf 28 rfl)) (Nat.le_of_ble_eq_true rfl) (Nat.le_of_ble_eq_true rfl) (Nat.le_of_ble_eq_true rfl) (show k ≤ MC by omega) (show n ≤ MS by omega) (xt_w1 hB.1 m_89667ad5) (xt_cdOf hB.1 m_89667ad5) (hts _ m_d5ed7bed) hB hR hS hA (fun vv h7 H locs hq hEh7 hR hS => ?_)
    obtain ⟨r8, rfl, hw⟩ := hq
    have hw := hw hEh7
    have hE := hE.tr hEh7
    refine W.eq (g2 := F0 m 41 ls [.int r8, .int x1, .ref x0]) rfl ?_
    have hk1 : xb_k h7 x0 = 9 := hEh7.k hk1
    refine xb_call0 (D := D) (A := A) (σ := σ) (h := h7) (d := 2) (maxL := 3) (rest := []) (av := [.ref x0, .int x1, .int r8]) (fun T hT X => by obtain ⟨cb9, ra9, rb9, rc9⟩ := xb_recv (ci := 8) hR rfl hk1 (by decide); exact xt_invV X hx hown (hts _ m_bb531879) (hts _ m_4a6cd4a0) (hts _ m_d1c31e3c) (xt_sigOf (hts _ m_48217fba)) nm_M_go (by rw [hT]; exact ra9) rb9 rc9 (g := F0 m 41 ls [.int r8, .int x1, .ref x0]) rfl (argsL := [.int x1, .int r8]) (rest := []) rfl rfl (by rw [hb]; exact (xb_d D_M_typeOf 29 rfl))) (ok_M_go l hfl D A σ x0 x1 r8 h7 _ hw) (hml.trans hl.1.symm) (by rw [hb]; exact (xb_d D_M_typeOf 29 rfl)) (Nat.le_of_ble_eq_true rfl) (Nat.le_of_ble_eq_true rfl) (Nat.le_of_ble_eq_true rfl) (show k ≤ MC by omega) (show n ≤ MS by omega) (xt_w1 hB.1 m_48217fba) (xt_cdOf hB.1 m_48217fba) (hts _ m_d5ed7bed) hB hR hS hA (fun vv h9 H locs hq hEh9 hR hS => ?_)
    obtain ⟨rfl, hw⟩ := hq
    have hw := hw hEh9
    have hE := hE.tr hEh9
    refine W.eq (g2 := F0 m 44 ls []) rfl ?_
    exact am_M_typeOf_L44 l hfl D A σ MC MS h0 Qr x0 h9 hw p e s m args below meth c hC H locs ls k n hE (lv_sub hl [1] rfl) hR hS (by omega) (by omega)
  · have hw := hw.2 hc6
    refine lv_aload_n hx hb (xb_d D_M_typeOf 10 rfl) rfl (lv_at hl 1 rfl) ?_
    refine lv_iload_n hx hb (xb_d D_M_typeOf 11 rfl) rfl (lv_at hl 2 rfl) ?_
    refine lv_aload_n hx hb (xb_d D_M_typeOf 12 rfl) rfl (lv_at hl 1 rfl) ?_
    refine lv_iload_n hx hb (xb_d D_M_typeOf 13 rfl) rfl (lv_at hl 2 rfl) ?_
    refine lv_iconst (v := 0) hx hb (xb_d D_M_typeOf 14 rfl) (by decide) ?_
    refine lv_iload_n hx hb (xb_d D_M_typeOf 15 rfl) rfl (lv_at hl 3 rfl) ?_
    refine xb_call0 (D := D) (A := A) (σ := σ) (h := h) (d := 7) (maxL := 6) (rest := [.int x1, .ref x0]) (av := [.ref x0, .int x1, .int 0, .int x2]) (fun T hT X => by obtain ⟨cb9, ra9, rb9, rc9⟩ := xb_recv (ci := 8) hR rfl hk1 (by decide); exact xt_invV X hx hown (hts _ m_bcb3cb22) (hts _ m_38f5d5ae) (hts _ m_e7522fd3) (xt_sigOf (hts _ m_8f92e52e)) nm_M_importOf (by rw [hT]; exact ra9) rb9 rc9 (g := F0 m 20 ls [.int x2, .int 0, .int x1, .ref x0, .int x1, .ref x0]) rfl (argsL := [.int x1, .int 0, .int x2]) (rest := [.int x1, .ref x0]) rfl rfl (by rw [hb]; exact (xb_d D_M_typeOf 16 rfl))) (ok_M_importOf l hfl D A σ x0 x1 0 x2 h _ hw) (hml.trans hl.1.symm) (by rw [hb]; exact (xb_d D_M_typeOf 16 rfl)) (Nat.le_of_ble_eq_true rfl) (Nat.le_of_ble_eq_true rfl) (Nat.le_of_ble_eq_true rfl) (show k ≤ MC by omega) (show n ≤ MS by omega) (xt_w1 hB.1 m_8f92e52e) (xt_cdOf hB.1 m_8f92e52e) (hts _ m_d5ed7bed) hB hR hS hA (fun vv h11 H locs hq hEh11 hR hS => ?_)
    obtain ⟨r12, rfl, hw⟩ := hq
    have hw := hw hEh11
    have hE := hE.tr hEh11
    refine W.eq (g2 := F0 m 23 ls [.int r12, .int x1, .ref x0]) rfl ?_
    have hk1 : xb_k h11 x0 = 9 := hEh11.k hk1
    refine xb_call0 (D := D) (A := A) (σ := σ) (h := h11) (d := 6) (maxL := 3) (rest := []) (av := [.ref x0, .int x1, .int r12]) (fun T hT X => by obtain ⟨cb9, ra9, rb9, rc9⟩ := xb_recv (ci := 8) hR rfl hk1 (by decide); exact xt_invV X hx hown (hts _ m_eabb9d5c) (hts _ m_79671d92) (hts _ m_0429489b) (xt_sigOf (hts _ m_2f1c0a34)) nm_M_importAt (by rw [hT]; exact ra9) rb9 rc9 (g := F0 m 23 ls [.int r12, .int x1, .ref x0]) rfl (argsL := [.int x1, .int r12]) (rest := []) rfl rfl (by rw [hb]; exact (xb_d D_M_typeOf 17 rfl))) (ok_M_importAt l hfl D A σ x0 x1 r12 h11 _ hw) (hml.trans hl.1.symm) (by rw [hb]; exact (xb_d D_M_typeOf 17 rfl)) (Nat.le_of_ble_eq_true rfl) (Nat.le_of_ble_eq_true rfl) (Nat.le_of_ble_eq_true rfl) (show k ≤ MC by omega) (show n ≤ MS by omega) (xt_w1 hB.1 m_2f1c0a34) (xt_cdOf hB.1 m_2f1c0a34) (hts _ m_d5ed7bed) hB hR hS hA (fun vv h13 H locs hq hEh13 hR hS => ?_)
    obtain ⟨r14, rfl, hw⟩ := hq
    have hw := hw hEh13
    have hE := hE.tr hEh13
    refine W.eq (g2 := F0 m 26 ls [.int r14]) rfl ?_
    refine lv_pop hx hb (xb_d D_M_typeOf 18 rfl) rfl ?_
    refine lv_goto (tgt := 44) hx hb (xb_d D_M_typeOf 19 rfl) rfl ?_
    exact am_M_typeOf_L44 l hfl D A σ MC MS h0 Qr x0 h13 hw p e s m args below meth c hC H locs ls k n hE (lv_sub hl [1] rfl) hR hS (by omega) (by omega)

set_option maxRecDepth 100000 in
def T_M_variableTypeOf : List (Nat × Instr × Nat) := [(0, .aload_n 0, 1), (1, .getfield 30, 3), (4, .iconst 4, 1), (5, .iload_n 1, 1), (6, .imul, 1), (7, .iconst 3, 1), (8, .iadd, 1), (9, .iaload, 1), (10, .istore_n 3, 1), (11, .iload_n 2, 1), (12, .iload_n 3, 1), (13, .if_icmp .ge 19, 3), (16, .aload_n 0, 1), (17, .iload_n 1, 1), (18, .aload_n 0, 1), (19, .iload_n 1, 1), (20, .iconst 3, 1), (21, .iload_n 2, 1), (22, .invokevirtual 330, 3), (25, .invokevirtual 327, 3), (28, .pop, 1), (29, .goto 18, 3), (32, .aload_n 0, 1), (33, .iload_n 1, 1), (34, .aload_n 0, 1), (35, .iload_n 1, 1), (36, .bipush 6, 2), (38, .iload_n 2, 1), (39, .iload_n 3, 1), (40, .isub, 1), (41, .invokevirtual 320, 3), (44, .invokevirtual 324, 3), (47, .aload_n 0, 1), (48, .invokevirtual 212, 3), (51, .ireturn, 1)]
theorem D_M_variableTypeOf : ∀ q ∈ T_M_variableTypeOf, decode b_M_variableTypeOf q.1 = .ok (q.2.1, q.2.2) := by decide +kernel

set_option maxHeartbeats 4000000 in
set_option maxRecDepth 100000 in
theorem am_M_variableTypeOf_L47 (l : Launch) (hfl : l.flags = pinnedFlags ++ [noTraceFlag]) (D : va_G) (A : Nat → Prop) (σ MC MS : Nat) (h0 : xb_H) (Qr : Int32 → xb_H → Prop) (x0 : Nat) (h : xb_H) (hw : w_M_variableTypeOf_L47 Qr x0 h) : xb_am l D A σ 8 MC MS h0 (fun v h _ _ => ∃ r, v = some (.int r) ∧ Qr r h) (fun _ _ _ _ => False) y_M_variableTypeOf.cls y_M_variableTypeOf.name b_M_variableTypeOf 4 ([] : List ExceptionTableEntry) (some .int) 47 [(0, .ref x0)] [] h 0 0 := by
  unfold w_M_variableTypeOf_L47 at hw
  intro p e s m args below meth c hC H locs ls k n hE hl hR hS hk hn
  obtain ⟨hx, hb, hown, hlocks, htab, hml, hr, hB, hA, hnm⟩ := id hC
  have hts := hB.1.1.at args
  refine lv_aload_n hx hb (xb_d D_M_variableTypeOf 32 rfl) rfl (lv_at hl 0 rfl) ?_
  obtain ⟨hk1, hw⟩ := hw
  refine xb_call0 (D := D) (A := A) (σ := σ) (h := h) (d := 3) (maxL := 2) (rest := []) (av := [.ref x0]) (fun T hT X => by obtain ⟨cb9, ra9, rb9, rc9⟩ := xb_recv (ci := 8) hR rfl hk1 (by decide); exact xt_invV X hx hown (hts _ m_0e978570) (hts _ m_40099f98) (hts _ m_a7dbfd07) (xt_sigOf (hts _ m_0af1ec6a)) nm_M_next (by rw [hT]; exact ra9) rb9 rc9 (g := F0 m 48 ls [.ref x0]) rfl (argsL := []) (rest := []) rfl rfl (by rw [hb]; exact (xb_d D_M_variableTypeOf 33 rfl))) (ok_M_next l hfl D A σ x0 h _ hw) (hml.trans hl.1.symm) (by rw [hb]; exact (xb_d D_M_variableTypeOf 33 rfl)) (Nat.le_of_ble_eq_true rfl) (Nat.le_of_ble_eq_true rfl) (Nat.le_of_ble_eq_true rfl) (show k ≤ MC by omega) (show n ≤ MS by omega) (xt_w1 hB.1 m_0af1ec6a) (xt_cdOf hB.1 m_0af1ec6a) (hts _ m_d5ed7bed) hB hR hS hA (fun vv h2 H locs hq hEh2 hR hS => ?_)
  obtain ⟨r3, rfl, hw⟩ := hq
  have hw := hw hEh2
  have hE := hE.tr hEh2
  refine W.eq (g2 := F0 m 51 ls [.int r3]) rfl ?_
  exact xb_iret 0 0 hx hb hr hlocks (show k + 0 ≤ MC by omega) (show n + 0 ≤ MS by omega) hE hR hS (xb_d D_M_variableTypeOf 34 rfl) hw

set_option maxHeartbeats 4000000 in
set_option maxRecDepth 100000 in
theorem ok_M_variableTypeOf (l : Launch) (hfl : l.flags = pinnedFlags ++ [noTraceFlag]) (D : va_G) (A : Nat → Prop) (σ : Nat) (x0 : Nat) (x1 : Int32) (x2 : Int32) (h : xb_H) (Qr : Int32 → xb_H → Prop) (hw : w_M_variableTypeOf x0 x1 x2 h Qr) : xb_Met l y_M_variableTypeOf [.code y_M_variableTypeOf b_M_variableTypeOf 4 (some .int)] (xb_rm 8 0 0) (xb_Pc D A σ h [.ref x0, .int x1, .int x2]) (xb_Qc D A h 0 0 (fun v h _ _ => ∃ r, v = some (.int r) ∧ Qr r h) (fun _ _ _ _ => False)) A := by
  refine xb_ofAm (cc := b_M_variableTypeOf) (by decide) (Nat.le_of_ble_eq_true rfl) ?_
  unfold w_M_variableTypeOf at hw
  show xb_am l D A σ 8 0 0 h (fun v h _ _ => ∃ r, v = some (.int r) ∧ Qr r h) (fun _ _ _ _ => False) y_M_variableTypeOf.cls y_M_variableTypeOf.name b_M_variableTypeOf 4 ([] : List ExceptionTableEntry) (some .int) 0 [(0, .ref x0), (1, .int x1), (2, .int x2)] [] h 0 0
  obtain ⟨MC, hMC⟩ : ∃ x, x = 0 := ⟨_, rfl⟩
  obtain ⟨MS, hMS⟩ : ∃ x, x = 0 := ⟨_, rfl⟩
  rw [show xb_am l D A σ 8 0 0 = xb_am l D A σ 8 MC MS by rw [hMC, hMS]]
  obtain ⟨h0, hh0⟩ : ∃ x, x = h := ⟨_, rfl⟩
  rw [show xb_am l D A σ 8 MC MS h = xb_am l D A σ 8 MC MS h0 by rw [hh0]]
  intro p e s m args below meth c hC H locs ls k n hE hl hR hS hk hn
  obtain ⟨hx, hb, hown, hlocks, htab, hml, hr, hB, hA, hnm⟩ := id hC
  have hts := hB.1.1.at args
  refine lv_aload_n hx hb (xb_d D_M_variableTypeOf 0 rfl) rfl (lv_at hl 0 rfl) ?_
  obtain ⟨hk1, hw⟩ := hw
  refine xb_getP (C := R_M) (T := F_M) (N := 97) hx hb 8 10 hts fin_M hown hR hk1 (by decide) rfl (by decide) rfl (hts _ m_01d0d957) (fun _ h9 => h9) (xb_d D_M_variableTypeOf 1 rfl) ?_
  obtain ⟨b2, eb2, hw⟩ := hw
  refine xb_some eb2 ?_
  refine lv_iconst (v := 4) hx hb (xb_d D_M_variableTypeOf 2 rfl) (by decide) ?_
  refine lv_iload_n hx hb (xb_d D_M_variableTypeOf 3 rfl) rfl (lv_at hl 1 rfl) ?_
  refine lv_imul hx hb (xb_d D_M_variableTypeOf 4 rfl) ?_
  refine lv_iconst (v := 3) hx hb (xb_d D_M_variableTypeOf 5 rfl) (by decide) ?_
  refine lv_iadd hx hb (xb_d D_M_variableTypeOf 6 rfl) ?_
  obtain ⟨hk4, hw⟩ := hw
  obtain ⟨hi3, hw⟩ := hw
  refine xb_iald hx hb hR hk4 hi3 (xb_d D_M_variableTypeOf 7 rfl) ?_
  obtain ⟨v5, ev5⟩ : ∃ x : Int32, x = (xb_i h b2 (Int32.toNatClampNeg ((4 * x1) + 3))) := ⟨_, rfl⟩
  have hw := hw v5 ev5
  refine xt_numi (y := v5) ev5.symm ?_
  refine lv_istore_n hx hb (xb_d D_M_variableTypeOf 8 rfl) rfl hl (by decide) rfl (fun ls hl => ?_)
  have hl : lv_has ls 4 [(3, .int v5), (0, .ref x0), (1, .int x1), (2, .int x2)] := hl
  refine lv_iload_n hx hb (xb_d D_M_variableTypeOf 9 rfl) rfl (lv_at hl 3 rfl) ?_
  refine lv_iload_n hx hb (xb_d D_M_variableTypeOf 10 rfl) rfl (lv_at hl 0 rfl) ?_
  refine lv_icmp_ge (tgt := 32) hx hb (xb_d D_M_variableTypeOf 11 rfl) rfl (fun hc6 => ?_) (fun hc6 => ?_)
  · have hw := hw.1 hc6
    refine lv_aload_n hx hb (xb_d D_M_variableTypeOf 22 rfl) rfl (lv_at hl 1 rfl) ?_
    refine lv_iload_n hx hb (xb_d D_M_variableTypeOf 23 rfl) rfl (lv_at hl 2 rfl) ?_
    refine lv_aload_n hx hb (xb_d D_M_variableTypeOf 24 rfl) rfl (lv_at hl 1 rfl) ?_
    refine lv_iload_n hx hb (xb_d D_M_variableTypeOf 25 rfl) rfl (lv_at hl 2 rfl) ?_
    refine lv_bipush (v := 6) hx hb (xb_d D_M_variableTypeOf 26 rfl) (by decide) ?_
    refine lv_iload_n hx hb (xb_d D_M_variableTypeOf 27 rfl) rfl (lv_at hl 3 rfl) ?_
    refine lv_iload_n hx hb (xb_d D_M_variableTypeOf 28 rfl) rfl (lv_at hl 0 rfl) ?_
    refine lv_isub hx hb (xb_d D_M_variableTypeOf 29 rfl) ?_
    refine xb_call0 (D := D) (A := A) (σ := σ) (h := h) (d := 2) (maxL := 4) (rest := [.int x1, .ref x0]) (av := [.ref x0, .int x1, .int 6, .int (x2 - v5)]) (fun T hT X => by obtain ⟨cb9, ra9, rb9, rc9⟩ := xb_recv (ci := 8) hR rfl hk1 (by decide); exact xt_invV X hx hown (hts _ m_7f41753e) (hts _ m_8cdd7108) (hts _ m_e228318f) (xt_sigOf (hts _ m_89667ad5)) nm_M_placeOf (by rw [hT]; exact ra9) rb9 rc9 (g := F0 m 41 ls [.int (x2 - v5), .int 6, .int x1, .ref x0, .int x1, .ref x0]) rfl (argsL := [.int x1, .int 6, .int (x2 - v5)]) (rest := [.int x1, .ref x0]) rfl rfl (by rw [hb]; exact (xb_d D_M_variableTypeOf 30 rfl))) (ok_M_placeOf l hfl D A σ x0 x1 6 (x2 - v5) h _ hw) (hml.trans hl.1.symm) (by rw [hb]; exact (xb_d D_M_variableTypeOf 30 rfl)) (Nat.le_of_ble_eq_true rfl) (Nat.le_of_ble_eq_true rfl) (Nat.le_of_ble_eq_true rfl) (show k ≤ MC by omega) (show n ≤ MS by omega) (xt_w1 hB.1 m_89667ad5) (xt_cdOf hB.1 m_89667ad5) (hts _ m_d5ed7bed) hB hR hS hA (fun vv h7 H locs hq hEh7 hR hS => ?_)
    obtain ⟨r8, rfl, hw⟩ := hq
    have hw := hw hEh7
    have hE := hE.tr hEh7
    refine W.eq (g2 := F0 m 44 ls [.int r8, .int x1, .ref x0]) rfl ?_
    have hk1 : xb_k h7 x0 = 9 := hEh7.k hk1
    refine xb_call0 (D := D) (A := A) (σ := σ) (h := h7) (d := 2) (maxL := 3) (rest := []) (av := [.ref x0, .int x1, .int r8]) (fun T hT X => by obtain ⟨cb9, ra9, rb9, rc9⟩ := xb_recv (ci := 8) hR rfl hk1 (by decide); exact xt_invV X hx hown (hts _ m_bb531879) (hts _ m_4a6cd4a0) (hts _ m_d1c31e3c) (xt_sigOf (hts _ m_48217fba)) nm_M_go (by rw [hT]; exact ra9) rb9 rc9 (g := F0 m 44 ls [.int r8, .int x1, .ref x0]) rfl (argsL := [.int x1, .int r8]) (rest := []) rfl rfl (by rw [hb]; exact (xb_d D_M_variableTypeOf 31 rfl))) (ok_M_go l hfl D A σ x0 x1 r8 h7 _ hw) (hml.trans hl.1.symm) (by rw [hb]; exact (xb_d D_M_variableTypeOf 31 rfl)) (Nat.le_of_ble_eq_true rfl) (Nat.le_of_ble_eq_true rfl) (Nat.le_of_ble_eq_true rfl) (show k ≤ MC by omega) (show n ≤ MS by omega) (xt_w1 hB.1 m_48217fba) (xt_cdOf hB.1 m_48217fba) (hts _ m_d5ed7bed) hB hR hS hA (fun vv h9 H locs hq hEh9 hR hS => ?_)
    obtain ⟨rfl, hw⟩ := hq
    have hw := hw hEh9
    have hE := hE.tr hEh9
    refine W.eq (g2 := F0 m 47 ls []) rfl ?_
    exact am_M_variableTypeOf_L47 l hfl D A σ MC MS h0 Qr x0 h9 hw p e s m args below meth c hC H locs ls k n hE (lv_sub hl [1] rfl) hR hS (by omega) (by omega)
  · have hw := hw.2 hc6
    refine lv_aload_n hx hb (xb_d D_M_variableTypeOf 12 rfl) rfl (lv_at hl 1 rfl) ?_
    refine lv_iload_n hx hb (xb_d D_M_variableTypeOf 13 rfl) rfl (lv_at hl 2 rfl) ?_
    refine lv_aload_n hx hb (xb_d D_M_variableTypeOf 14 rfl) rfl (lv_at hl 1 rfl) ?_
    refine lv_iload_n hx hb (xb_d D_M_variableTypeOf 15 rfl) rfl (lv_at hl 2 rfl) ?_
    refine lv_iconst (v := 3) hx hb (xb_d D_M_variableTypeOf 16 rfl) (by decide) ?_
    refine lv_iload_n hx hb (xb_d D_M_variableTypeOf 17 rfl) rfl (lv_at hl 3 rfl) ?_
    refine xb_call0 (D := D) (A := A) (σ := σ) (h := h) (d := 7) (maxL := 6) (rest := [.int x1, .ref x0]) (av := [.ref x0, .int x1, .int 3, .int x2]) (fun T hT X => by obtain ⟨cb9, ra9, rb9, rc9⟩ := xb_recv (ci := 8) hR rfl hk1 (by decide); exact xt_invV X hx hown (hts _ m_bcb3cb22) (hts _ m_38f5d5ae) (hts _ m_e7522fd3) (xt_sigOf (hts _ m_8f92e52e)) nm_M_importOf (by rw [hT]; exact ra9) rb9 rc9 (g := F0 m 22 ls [.int x2, .int 3, .int x1, .ref x0, .int x1, .ref x0]) rfl (argsL := [.int x1, .int 3, .int x2]) (rest := [.int x1, .ref x0]) rfl rfl (by rw [hb]; exact (xb_d D_M_variableTypeOf 18 rfl))) (ok_M_importOf l hfl D A σ x0 x1 3 x2 h _ hw) (hml.trans hl.1.symm) (by rw [hb]; exact (xb_d D_M_variableTypeOf 18 rfl)) (Nat.le_of_ble_eq_true rfl) (Nat.le_of_ble_eq_true rfl) (Nat.le_of_ble_eq_true rfl) (show k ≤ MC by omega) (show n ≤ MS by omega) (xt_w1 hB.1 m_8f92e52e) (xt_cdOf hB.1 m_8f92e52e) (hts _ m_d5ed7bed) hB hR hS hA (fun vv h11 H locs hq hEh11 hR hS => ?_)
    obtain ⟨r12, rfl, hw⟩ := hq
    have hw := hw hEh11
    have hE := hE.tr hEh11
    refine W.eq (g2 := F0 m 25 ls [.int r12, .int x1, .ref x0]) rfl ?_
    have hk1 : xb_k h11 x0 = 9 := hEh11.k hk1
    refine xb_call0 (D := D) (A := A) (σ := σ) (h := h11) (d := 6) (maxL := 3) (rest := []) (av := [.ref x0, .int x1, .int r12]) (fun T hT X => by obtain ⟨cb9, ra9, rb9, rc9⟩ := xb_recv (ci := 8) hR rfl hk1 (by decide); exact xt_invV X hx hown (hts _ m_eabb9d5c) (hts _ m_79671d92) (hts _ m_0429489b) (xt_sigOf (hts _ m_2f1c0a34)) nm_M_importAt (by rw [hT]; exact ra9) rb9 rc9 (g := F0 m 25 ls [.int r12, .int x1, .ref x0]) rfl (argsL := [.int x1, .int r12]) (rest := []) rfl rfl (by rw [hb]; exact (xb_d D_M_variableTypeOf 19 rfl))) (ok_M_importAt l hfl D A σ x0 x1 r12 h11 _ hw) (hml.trans hl.1.symm) (by rw [hb]; exact (xb_d D_M_variableTypeOf 19 rfl)) (Nat.le_of_ble_eq_true rfl) (Nat.le_of_ble_eq_true rfl) (Nat.le_of_ble_eq_true rfl) (show k ≤ MC by omega) (show n ≤ MS by omega) (xt_w1 hB.1 m_2f1c0a34) (xt_cdOf hB.1 m_2f1c0a34) (hts _ m_d5ed7bed) hB hR hS hA (fun vv h13 H locs hq hEh13 hR hS => ?_)
    obtain ⟨r14, rfl, hw⟩ := hq
    have hw := hw hEh13
    have hE := hE.tr hEh13
    refine W.eq (g2 := F0 m 28 ls [.int r14]) rfl ?_
    refine lv_pop hx hb (xb_d D_M_variableTypeOf 20 rfl) rfl ?_
    refine lv_goto (tgt := 47) hx hb (xb_d D_M_variableTypeOf 21 rfl) rfl ?_
    exact am_M_variableTypeOf_L47 l hfl D A σ MC MS h0 Qr x0 h13 hw p e s m args below meth c hC H locs ls k n hE (lv_sub hl [1] rfl) hR hS (by omega) (by omega)

theorem m_19d74785 : (.methodLink "StackHostModel$Exact" 218 y_Exact_answer : Cond) ∈ xt_tbl := xt_in (xt_t12 (List.mem_of_getElem? (i := 198) (by decide +kernel))) (by decide +kernel)
theorem m_602477d2 : (.instanceMethod y_Exact_answer : Cond) ∈ xt_tbl := xt_in (xt_t12 (List.mem_of_getElem? (i := 200) (by decide +kernel))) (by decide +kernel)
theorem m_1fcf7a44 : (.selects "StackHostModel$Exact" y_Exact_answer y_Exact_answer : Cond) ∈ xt_tbl := xt_in (xt_v15 (q := (⟨"StackHostModel$Exact", "answer", "(IJJ)J"⟩, 11)) (List.mem_of_getElem? (i := 1) (by decide +kernel))) (by decide +kernel)
theorem m_38fa0ac4 : (.code y_Exact_answer b_Exact_answer 6 (some .long) : Cond) ∈ xt_tbl := xt_in (xt_t12 (List.mem_of_getElem? (i := 201) (by decide +kernel))) (by decide +kernel)
theorem nm_Exact_answer : xt_nm y_Exact_answer 3 := ⟨by decide +kernel, by decide +kernel⟩
set_option maxRecDepth 100000 in
def T_Exact_run : List (Nat × Instr × Nat) := [(0, .aload_n 0, 1), (1, .iload_n 1, 1), (2, .bipush 69, 2), (4, .sipush 191, 3), (7, .invokestatic 26, 3), (10, .ifCond .eq 7, 3), (13, .iconst 0, 1), (14, .goto 4, 3), (17, .iconst 1, 1), (18, .putfield 157, 3), (21, .aload_n 0, 1), (22, .getfield 157, 3), (25, .ifCond .le 5, 3), (28, .lconst 0, 1), (29, .lreturn, 1), (30, .iload_n 1, 1), (31, .invokestatic 30, 3), (34, .iconst 2, 1), (35, .irem, 1), (36, .ifCond .ne 11, 3), (39, .lload_n 2, 1), (40, .ldc2_w 168, 3), (43, .land, 1), (44, .goto 4, 3), (47, .lload_n 2, 1), (48, .lstore 6, 2), (50, .iload_n 1, 1), (51, .invokestatic 30, 3), (54, .iconst 2, 1), (55, .irem, 1), (56, .ifCond .ne 12, 3), (59, .lload 4, 2), (61, .ldc2_w 168, 3), (64, .land, 1), (65, .goto 5, 3), (68, .lload 4, 2), (70, .lstore 8, 2), (72, .aload_n 0, 1), (73, .iload_n 1, 1), (74, .lload 6, 2), (76, .lload 8, 2), (78, .invokevirtual 218, 3), (81, .lstore 10, 2), (83, .aload_n 0, 1), (84, .getfield 157, 3), (87, .ifCond .le 5, 3), (90, .lconst 0, 1), (91, .lreturn, 1), (92, .iload_n 1, 1), (93, .invokestatic 22, 3), (96, .iconst 2, 1), (97, .irem, 1), (98, .ifCond .ne 12, 3), (101, .lload 10, 2), (103, .ldc2_w 168, 3), (106, .land, 1), (107, .goto 5, 3), (110, .lload 10, 2), (112, .lreturn, 1)]
theorem D_Exact_run : ∀ q ∈ T_Exact_run, decode b_Exact_run q.1 = .ok (q.2.1, q.2.2) := by decide +kernel

set_option maxHeartbeats 4000000 in
set_option maxRecDepth 100000 in
theorem am_Exact_run_L112 (l : Launch) (hfl : l.flags = pinnedFlags ++ [noTraceFlag]) (D : va_G) (A : Nat → Prop) (σ MC MS : Nat) (h0 : xb_H) (Qr : Int64 → xb_H → Prop) (y0 : Int64) (h : xb_H) (hw : w_Exact_run_L112 Qr y0 h) : xb_am l D A σ 8 MC MS h0 (fun v h _ _ => ∃ r, v = some (.long r) ∧ Qr r h) (fun _ _ _ _ => False) y_Exact_run.cls y_Exact_run.name b_Exact_run 12 ([] : List ExceptionTableEntry) (some .long) 112 [] [.long y0] h 0 0 := by
  unfold w_Exact_run_L112 at hw
  intro p e s m args below meth c hC H locs ls k n hE hl hR hS hk hn
  obtain ⟨hx, hb, hown, hlocks, htab, hml, hr, hB, hA, hnm⟩ := id hC
  have hts := hB.1.1.at args
  exact xb_lret 0 0 hx hb hr hlocks (show k + 0 ≤ MC by omega) (show n + 0 ≤ MS by omega) hE hR hS (xb_d D_Exact_run 58 rfl) hw

set_option maxHeartbeats 4000000 in
set_option maxRecDepth 100000 in
theorem am_Exact_run_L70 (l : Launch) (hfl : l.flags = pinnedFlags ++ [noTraceFlag]) (D : va_G) (A : Nat → Prop) (σ MC MS : Nat) (h0 : xb_H) (Qr : Int64 → xb_H → Prop) (x0 : Nat) (x1 : Int32) (x6 : Int64) (y0 : Int64) (h : xb_H) (hw : w_Exact_run_L70 Qr x0 x1 x6 y0 h) : xb_am l D A σ 8 MC MS h0 (fun v h _ _ => ∃ r, v = some (.long r) ∧ Qr r h) (fun _ _ _ _ => False) y_Exact_run.cls y_Exact_run.name b_Exact_run 12 ([] : List ExceptionTableEntry) (some .long) 70 [(0, .ref x0), (1, .int x1), (6, .long x6)] [.long y0] h 0 0 := by
  unfold w_Exact_run_L70 at hw
  intro p e s m args below meth c hC H locs ls k n hE hl hR hS hk hn
  obtain ⟨hx, hb, hown, hlocks, htab, hml, hr, hB, hA, hnm⟩ := id hC
  have hts := hB.1.1.at args
  refine lv_lstore hx hb (xb_d D_Exact_run 36 rfl) hl (by decide) rfl (fun ls hl => ?_)
  have hl : lv_has ls 12 [(8, .long y0), (0, .ref x0), (1, .int x1), (6, .long x6)] := hl
  refine lv_aload_n hx hb (xb_d D_Exact_run 37 rfl) rfl (lv_at hl 1 rfl) ?_
  refine lv_iload_n hx hb (xb_d D_Exact_run 38 rfl) rfl (lv_at hl 2 rfl) ?_
  refine lv_lload hx hb (xb_d D_Exact_run 39 rfl) (lv_at hl 3 rfl) ?_
  refine lv_lload hx hb (xb_d D_Exact_run 40 rfl) (lv_at hl 0 rfl) ?_
  obtain ⟨hk1, hw⟩ := hw
  refine xb_call0 (D := D) (A := A) (σ := σ) (h := h) (d := 7) (maxL := 6) (rest := []) (av := [.ref x0, .int x1, .long x6, .long y0]) (fun T hT X => by obtain ⟨cb9, ra9, rb9, rc9⟩ := xb_recv (ci := 9) hR rfl hk1 (by decide); exact xt_invV X hx hown (hts _ m_19d74785) (hts _ m_602477d2) (hts _ m_1fcf7a44) (xt_sigOf (hts _ m_38fa0ac4)) nm_Exact_answer (by rw [hT]; exact ra9) rb9 rc9 (g := F0 m 78 ls [.long y0, .long x6, .int x1, .ref x0]) rfl (argsL := [.int x1, .long x6, .long y0]) (rest := []) rfl rfl (by rw [hb]; exact (xb_d D_Exact_run 41 rfl))) (ok_Exact_answer l hfl D A σ x0 x1 x6 y0 h _ hw) (hml.trans hl.1.symm) (by rw [hb]; exact (xb_d D_Exact_run 41 rfl)) (Nat.le_of_ble_eq_true rfl) (Nat.le_of_ble_eq_true rfl) (Nat.le_of_ble_eq_true rfl) (show k ≤ MC by omega) (show n ≤ MS by omega) (xt_w1 hB.1 m_38fa0ac4) (xt_cdOf hB.1 m_38fa0ac4) (hts _ m_b807310b) hB hR hS hA (fun vv h2 H locs hq hEh2 hR hS => ?_)
  obtain ⟨r3, rfl, hw⟩ := hq
  have hw := hw hEh2
  have hE := hE.tr hEh2
  refine W.eq (g2 := F0 m 81 ls [.long r3]) rfl ?_
  refine lv_lstore hx hb (xb_d D_Exact_run 42 rfl) hl (by decide) rfl (fun ls hl => ?_)
  have hl : lv_has ls 12 [(10, .long r3), (8, .long y0), (0, .ref x0), (1, .int x1), (6, .long x6)] := hl
  refine lv_aload_n hx hb (xb_d D_Exact_run 43 rfl) rfl (lv_at hl 2 rfl) ?_
  have hk1 : xb_k h2 x0 = 10 := hEh2.k hk1
  refine xb_getI (C := R_Exact) (T := F_Exact) (N := 11) hx hb 9 0 hts fin_Exact hown hR hk1 (by decide) rfl (by decide) rfl (hts _ m_3957194a) (fun _ h9 => h9) (xb_d D_Exact_run 44 rfl) ?_
  refine lv_if_le (tgt := 92) hx hb (xb_d D_Exact_run 45 rfl) rfl (fun hc4 => ?_) (fun hc4 => ?_)
  · have hw := hw.1 hc4
    refine lv_iload_n hx hb (xb_d D_Exact_run 48 rfl) rfl (lv_at hl 3 rfl) ?_
    refine xb_call0 (D := D) (A := A) (σ := σ) (h := h2) (d := 2) (maxL := 1) (rest := []) (av := [.int x1]) (fun T hT X => xt_invS X hx hown (hts _ m_ee60ea80) (hts _ m_2a32d197) (hts _ m_b807310b) (xt_sgS (hts _ m_ce6b0c6d)).1 (xt_sgS (hts _ m_ce6b0c6d)).2 nm_Exact_result (g := F0 m 93 ls [.int x1]) rfl (argsL := [.int x1]) (rest := []) rfl rfl (by rw [hb]; exact (xb_d D_Exact_run 49 rfl))) (ok_Exact_result l hfl D A σ x1 h2 _ hw) (hml.trans hl.1.symm) (by rw [hb]; exact (xb_d D_Exact_run 49 rfl)) (Nat.le_of_ble_eq_true rfl) (Nat.le_of_ble_eq_true rfl) (Nat.le_of_ble_eq_true rfl) (show k ≤ MC by omega) (show n ≤ MS by omega) (xt_w1 hB.1 m_ce6b0c6d) (xt_cdOf hB.1 m_ce6b0c6d) (hts _ m_b807310b) hB hR hS hA (fun vv h5 H locs hq hEh5 hR hS => ?_)
    obtain ⟨r6, rfl, hw⟩ := hq
    have hw := hw hEh5
    have hE := hE.tr hEh5
    refine W.eq (g2 := F0 m 96 ls [.int r6]) rfl ?_
    refine lv_iconst (v := 2) hx hb (xb_d D_Exact_run 50 rfl) (by decide) ?_
    refine lv_irem hx hb (xb_d D_Exact_run 51 rfl) (by decide) ?_
    refine lv_if_ne (tgt := 110) hx hb (xb_d D_Exact_run 52 rfl) rfl (fun hc7 => ?_) (fun hc7 => ?_)
    · have hw := hw.1 hc7
      refine lv_lload hx hb (xb_d D_Exact_run 57 rfl) (lv_at hl 0 rfl) ?_
      exact am_Exact_run_L112 l hfl D A σ MC MS h0 Qr r3 h5 hw p e s m args below meth c hC H locs ls k n hE (lv_sub hl [] rfl) hR hS (by omega) (by omega)
    · have hw := hw.2 hc7
      refine lv_lload hx hb (xb_d D_Exact_run 53 rfl) (lv_at hl 0 rfl) ?_
      refine lv_ldc2 (v := 4294967295) hx hb hown (hts _ m_0a075798) (xb_d D_Exact_run 54 rfl) ?_
      refine lv_land hx hb (xb_d D_Exact_run 55 rfl) ?_
      refine lv_goto (tgt := 112) hx hb (xb_d D_Exact_run 56 rfl) rfl ?_
      exact am_Exact_run_L112 l hfl D A σ MC MS h0 Qr (r3 &&& 4294967295) h5 hw p e s m args below meth c hC H locs ls k n hE (lv_sub hl [] rfl) hR hS (by omega) (by omega)
  · have hw := hw.2 hc4
    refine lv_lconst (v := 0) hx hb (xb_d D_Exact_run 46 rfl) (by decide) ?_
    exact xb_lret 0 0 hx hb hr hlocks (show k + 0 ≤ MC by omega) (show n + 0 ≤ MS by omega) hE hR hS (xb_d D_Exact_run 47 rfl) hw

set_option maxHeartbeats 4000000 in
set_option maxRecDepth 100000 in
theorem am_Exact_run_L48 (l : Launch) (hfl : l.flags = pinnedFlags ++ [noTraceFlag]) (D : va_G) (A : Nat → Prop) (σ MC MS : Nat) (h0 : xb_H) (Qr : Int64 → xb_H → Prop) (x0 : Nat) (x1 : Int32) (x4 : Int64) (y0 : Int64) (h : xb_H) (hw : w_Exact_run_L48 Qr x0 x1 x4 y0 h) : xb_am l D A σ 8 MC MS h0 (fun v h _ _ => ∃ r, v = some (.long r) ∧ Qr r h) (fun _ _ _ _ => False) y_Exact_run.cls y_Exact_run.name b_Exact_run 12 ([] : List ExceptionTableEntry) (some .long) 48 [(0, .ref x0), (1, .int x1), (4, .long x4)] [.long y0] h 0 0 := by
  unfold w_Exact_run_L48 at hw
  intro p e s m args below meth c hC H locs ls k n hE hl hR hS hk hn
  obtain ⟨hx, hb, hown, hlocks, htab, hml, hr, hB, hA, hnm⟩ := id hC
  have hts := hB.1.1.at args
  refine lv_lstore hx hb (xb_d D_Exact_run 25 rfl) hl (by decide) rfl (fun ls hl => ?_)
  have hl : lv_has ls 12 [(6, .long y0), (0, .ref x0), (1, .int x1), (4, .long x4)] := hl
  refine lv_iload_n hx hb (xb_d D_Exact_run 26 rfl) rfl (lv_at hl 2 rfl) ?_
  refine xb_call0 (D := D) (A := A) (σ := σ) (h := h) (d := 3) (maxL := 1) (rest := []) (av := [.int x1]) (fun T hT X => xt_invS X hx hown (hts _ m_03c53ef9) (hts _ m_69a81f16) (hts _ m_b807310b) (xt_sgS (hts _ m_4328253a)).1 (xt_sgS (hts _ m_4328253a)).2 nm_Exact_first (g := F0 m 51 ls [.int x1]) rfl (argsL := [.int x1]) (rest := []) rfl rfl (by rw [hb]; exact (xb_d D_Exact_run 27 rfl))) (ok_Exact_first l hfl D A σ x1 h _ hw) (hml.trans hl.1.symm) (by rw [hb]; exact (xb_d D_Exact_run 27 rfl)) (Nat.le_of_ble_eq_true rfl) (Nat.le_of_ble_eq_true rfl) (Nat.le_of_ble_eq_true rfl) (show k ≤ MC by omega) (show n ≤ MS by omega) (xt_w1 hB.1 m_4328253a) (xt_cdOf hB.1 m_4328253a) (hts _ m_b807310b) hB hR hS hA (fun vv h1 H locs hq hEh1 hR hS => ?_)
  obtain ⟨r2, rfl, hw⟩ := hq
  have hw := hw hEh1
  have hE := hE.tr hEh1
  refine W.eq (g2 := F0 m 54 ls [.int r2]) rfl ?_
  refine lv_iconst (v := 2) hx hb (xb_d D_Exact_run 28 rfl) (by decide) ?_
  refine lv_irem hx hb (xb_d D_Exact_run 29 rfl) (by decide) ?_
  refine lv_if_ne (tgt := 68) hx hb (xb_d D_Exact_run 30 rfl) rfl (fun hc3 => ?_) (fun hc3 => ?_)
  · have hw := hw.1 hc3
    refine lv_lload hx hb (xb_d D_Exact_run 35 rfl) (lv_at hl 3 rfl) ?_
    exact am_Exact_run_L70 l hfl D A σ MC MS h0 Qr x0 x1 y0 x4 h1 hw p e s m args below meth c hC H locs ls k n hE (lv_sub hl [1, 2, 0] rfl) hR hS (by omega) (by omega)
  · have hw := hw.2 hc3
    refine lv_lload hx hb (xb_d D_Exact_run 31 rfl) (lv_at hl 3 rfl) ?_
    refine lv_ldc2 (v := 4294967295) hx hb hown (hts _ m_0a075798) (xb_d D_Exact_run 32 rfl) ?_
    refine lv_land hx hb (xb_d D_Exact_run 33 rfl) ?_
    refine lv_goto (tgt := 70) hx hb (xb_d D_Exact_run 34 rfl) rfl ?_
    exact am_Exact_run_L70 l hfl D A σ MC MS h0 Qr x0 x1 y0 (x4 &&& 4294967295) h1 hw p e s m args below meth c hC H locs ls k n hE (lv_sub hl [1, 2, 0] rfl) hR hS (by omega) (by omega)

set_option maxHeartbeats 4000000 in
set_option maxRecDepth 100000 in
theorem am_Exact_run_L18 (l : Launch) (hfl : l.flags = pinnedFlags ++ [noTraceFlag]) (D : va_G) (A : Nat → Prop) (σ MC MS : Nat) (h0 : xb_H) (Qr : Int64 → xb_H → Prop) (x0 : Nat) (x1 : Int32) (x2 : Int64) (x4 : Int64) (y0 : Int32) (y1 : Nat) (h : xb_H) (hw : w_Exact_run_L18 Qr x0 x1 x2 x4 y0 y1 h) : xb_am l D A σ 8 MC MS h0 (fun v h _ _ => ∃ r, v = some (.long r) ∧ Qr r h) (fun _ _ _ _ => False) y_Exact_run.cls y_Exact_run.name b_Exact_run 12 ([] : List ExceptionTableEntry) (some .long) 18 [(0, .ref x0), (1, .int x1), (2, .long x2), (4, .long x4)] [.int y0, .ref y1] h 0 0 := by
  unfold w_Exact_run_L18 at hw
  intro p e s m args below meth c hC H locs ls k n hE hl hR hS hk hn
  obtain ⟨hx, hb, hown, hlocks, htab, hml, hr, hB, hA, hnm⟩ := id hC
  have hts := hB.1.1.at args
  obtain ⟨hk1, hw⟩ := hw
  refine xb_putI (C := R_Exact) (T := F_Exact) (N := 11) (ty := .int) (x := y0) hx hb 9 0 hts fin_Exact t_Exact t_Exact_ok n_Exact hown hR hS hk1 (by decide) rfl (by decide) rfl (hts _ m_3957194a) (fun _ h9 => h9) rfl (by decide +kernel) rfl rfl (xb_d D_Exact_run 9 rfl) (fun H locs hR hS => ?_)
  obtain ⟨h2, eh2⟩ : ∃ x : xb_H, x = xb_I h y1 0 y0 := ⟨_, rfl⟩
  rw [← eh2] at hR
  have hw := hw h2 eh2
  have hE : xb_ext h0 h2 := by rw [eh2]; exact hE
  refine lv_aload_n hx hb (xb_d D_Exact_run 10 rfl) rfl (lv_at hl 0 rfl) ?_
  obtain ⟨hk3, hw⟩ := hw
  refine xb_getI (C := R_Exact) (T := F_Exact) (N := 11) hx hb 9 0 hts fin_Exact hown hR hk3 (by decide) rfl (by decide) rfl (hts _ m_3957194a) (fun _ h9 => h9) (xb_d D_Exact_run 11 rfl) ?_
  refine lv_if_le (tgt := 30) hx hb (xb_d D_Exact_run 12 rfl) rfl (fun hc4 => ?_) (fun hc4 => ?_)
  · have hw := hw.1 hc4
    refine lv_iload_n hx hb (xb_d D_Exact_run 15 rfl) rfl (lv_at hl 1 rfl) ?_
    refine xb_call0 (D := D) (A := A) (σ := σ) (h := h2) (d := 3) (maxL := 1) (rest := []) (av := [.int x1]) (fun T hT X => xt_invS X hx hown (hts _ m_03c53ef9) (hts _ m_69a81f16) (hts _ m_b807310b) (xt_sgS (hts _ m_4328253a)).1 (xt_sgS (hts _ m_4328253a)).2 nm_Exact_first (g := F0 m 31 ls [.int x1]) rfl (argsL := [.int x1]) (rest := []) rfl rfl (by rw [hb]; exact (xb_d D_Exact_run 16 rfl))) (ok_Exact_first l hfl D A σ x1 h2 _ hw) (hml.trans hl.1.symm) (by rw [hb]; exact (xb_d D_Exact_run 16 rfl)) (Nat.le_of_ble_eq_true rfl) (Nat.le_of_ble_eq_true rfl) (Nat.le_of_ble_eq_true rfl) (show k ≤ MC by omega) (show n ≤ MS by omega) (xt_w1 hB.1 m_4328253a) (xt_cdOf hB.1 m_4328253a) (hts _ m_b807310b) hB hR hS hA (fun vv h5 H locs hq hEh5 hR hS => ?_)
    obtain ⟨r6, rfl, hw⟩ := hq
    have hw := hw hEh5
    have hE := hE.tr hEh5
    refine W.eq (g2 := F0 m 34 ls [.int r6]) rfl ?_
    refine lv_iconst (v := 2) hx hb (xb_d D_Exact_run 17 rfl) (by decide) ?_
    refine lv_irem hx hb (xb_d D_Exact_run 18 rfl) (by decide) ?_
    refine lv_if_ne (tgt := 47) hx hb (xb_d D_Exact_run 19 rfl) rfl (fun hc7 => ?_) (fun hc7 => ?_)
    · have hw := hw.1 hc7
      refine lv_lload_n hx hb (xb_d D_Exact_run 24 rfl) rfl (lv_at hl 2 rfl) ?_
      exact am_Exact_run_L48 l hfl D A σ MC MS h0 Qr x0 x1 x4 x2 h5 hw p e s m args below meth c hC H locs ls k n hE (lv_sub hl [0, 1, 3] rfl) hR hS (by omega) (by omega)
    · have hw := hw.2 hc7
      refine lv_lload_n hx hb (xb_d D_Exact_run 20 rfl) rfl (lv_at hl 2 rfl) ?_
      refine lv_ldc2 (v := 4294967295) hx hb hown (hts _ m_0a075798) (xb_d D_Exact_run 21 rfl) ?_
      refine lv_land hx hb (xb_d D_Exact_run 22 rfl) ?_
      refine lv_goto (tgt := 48) hx hb (xb_d D_Exact_run 23 rfl) rfl ?_
      exact am_Exact_run_L48 l hfl D A σ MC MS h0 Qr x0 x1 x4 (x2 &&& 4294967295) h5 hw p e s m args below meth c hC H locs ls k n hE (lv_sub hl [0, 1, 3] rfl) hR hS (by omega) (by omega)
  · have hw := hw.2 hc4
    refine lv_lconst (v := 0) hx hb (xb_d D_Exact_run 13 rfl) (by decide) ?_
    exact xb_lret 0 0 hx hb hr hlocks (show k + 0 ≤ MC by omega) (show n + 0 ≤ MS by omega) hE hR hS (xb_d D_Exact_run 14 rfl) hw

set_option maxHeartbeats 4000000 in
set_option maxRecDepth 100000 in
theorem ok_Exact_run (l : Launch) (hfl : l.flags = pinnedFlags ++ [noTraceFlag]) (D : va_G) (A : Nat → Prop) (σ : Nat) (x0 : Nat) (x1 : Int32) (x2 : Int64) (x4 : Int64) (h : xb_H) (Qr : Int64 → xb_H → Prop) (hw : w_Exact_run x0 x1 x2 x4 h Qr) : xb_Met l y_Exact_run [.code y_Exact_run b_Exact_run 12 (some .long)] (xb_rm 8 0 0) (xb_Pc D A σ h [.ref x0, .int x1, .long x2, .long x4]) (xb_Qc D A h 0 0 (fun v h _ _ => ∃ r, v = some (.long r) ∧ Qr r h) (fun _ _ _ _ => False)) A := by
  refine xb_ofAm (cc := b_Exact_run) (by decide) (Nat.le_of_ble_eq_true rfl) ?_
  unfold w_Exact_run at hw
  show xb_am l D A σ 8 0 0 h (fun v h _ _ => ∃ r, v = some (.long r) ∧ Qr r h) (fun _ _ _ _ => False) y_Exact_run.cls y_Exact_run.name b_Exact_run 12 ([] : List ExceptionTableEntry) (some .long) 0 [(0, .ref x0), (1, .int x1), (2, .long x2), (4, .long x4)] [] h 0 0
  obtain ⟨MC, hMC⟩ : ∃ x, x = 0 := ⟨_, rfl⟩
  obtain ⟨MS, hMS⟩ : ∃ x, x = 0 := ⟨_, rfl⟩
  rw [show xb_am l D A σ 8 0 0 = xb_am l D A σ 8 MC MS by rw [hMC, hMS]]
  obtain ⟨h0, hh0⟩ : ∃ x, x = h := ⟨_, rfl⟩
  rw [show xb_am l D A σ 8 MC MS h = xb_am l D A σ 8 MC MS h0 by rw [hh0]]
  intro p e s m args below meth c hC H locs ls k n hE hl hR hS hk hn
  obtain ⟨hx, hb, hown, hlocks, htab, hml, hr, hB, hA, hnm⟩ := id hC
  have hts := hB.1.1.at args
  refine lv_aload_n hx hb (xb_d D_Exact_run 0 rfl) rfl (lv_at hl 0 rfl) ?_
  refine lv_iload_n hx hb (xb_d D_Exact_run 1 rfl) rfl (lv_at hl 1 rfl) ?_
  refine lv_bipush (v := 69) hx hb (xb_d D_Exact_run 2 rfl) (by decide) ?_
  refine lv_sipush (v := 191) hx hb (xb_d D_Exact_run 3 rfl) (by decide) ?_
  refine xb_call0 (D := D) (A := A) (σ := σ) (h := h) (d := 2) (maxL := 3) (rest := [.ref x0]) (av := [.int x1, .int 69, .int 191]) (fun T hT X => xt_invS X hx hown (hts _ m_7525be9c) (hts _ m_6150176a) (hts _ m_b807310b) (xt_sgS (hts _ m_03fde057)).1 (xt_sgS (hts _ m_03fde057)).2 nm_Exact_isIn (g := F0 m 7 ls [.int 191, .int 69, .int x1, .ref x0]) rfl (argsL := [.int x1, .int 69, .int 191]) (rest := [.ref x0]) rfl rfl (by rw [hb]; exact (xb_d D_Exact_run 4 rfl))) (ok_Exact_isIn l hfl D A σ x1 69 191 h _ hw) (hml.trans hl.1.symm) (by rw [hb]; exact (xb_d D_Exact_run 4 rfl)) (Nat.le_of_ble_eq_true rfl) (Nat.le_of_ble_eq_true rfl) (Nat.le_of_ble_eq_true rfl) (show k ≤ MC by omega) (show n ≤ MS by omega) (xt_w1 hB.1 m_03fde057) (xt_cdOf hB.1 m_03fde057) (hts _ m_b807310b) hB hR hS hA (fun vv h1 H locs hq hEh1 hR hS => ?_)
  obtain ⟨r2, rfl, hw⟩ := hq
  have hw := hw hEh1
  have hE := hE.tr hEh1
  refine W.eq (g2 := F0 m 10 ls [.int r2, .ref x0]) rfl ?_
  refine lv_if_eq (tgt := 17) hx hb (xb_d D_Exact_run 5 rfl) rfl (fun hc3 => ?_) (fun hc3 => ?_)
  · have hw := hw.1 hc3
    refine lv_iconst (v := 1) hx hb (xb_d D_Exact_run 8 rfl) (by decide) ?_
    exact am_Exact_run_L18 l hfl D A σ MC MS h0 Qr x0 x1 x2 x4 1 x0 h1 hw p e s m args below meth c hC H locs ls k n hE (lv_sub hl [0, 1, 2, 3] rfl) hR hS (by omega) (by omega)
  · have hw := hw.2 hc3
    refine lv_iconst (v := 0) hx hb (xb_d D_Exact_run 6 rfl) (by decide) ?_
    refine lv_goto (tgt := 18) hx hb (xb_d D_Exact_run 7 rfl) rfl ?_
    exact am_Exact_run_L18 l hfl D A σ MC MS h0 Qr x0 x1 x2 x4 0 x0 h1 hw p e s m args below meth c hC H locs ls k n hE (lv_sub hl [0, 1, 2, 3] rfl) hR hS (by omega) (by omega)

theorem m_c484329e : (.fieldLink "StackHost" 110 "StackHost$StackModule" "faultCode" "I" : Cond) ∈ xt_tbl := xt_in (xt_t3 (List.mem_of_getElem? (i := 125) (by decide +kernel))) (by decide +kernel)
theorem m_bf14d6e8 : (.fieldLink "StackHost" 111 "StackHost$StackModule" "faultPlace" "I" : Cond) ∈ xt_tbl := xt_in (xt_t3 (List.mem_of_getElem? (i := 127) (by decide +kernel))) (by decide +kernel)
theorem m_ca4c1e21 : (.methodLink "StackHost" 91 y_H_refuseModuleBeyondLimit : Cond) ∈ xt_tbl := xt_in (xt_t3 (List.mem_of_getElem? (i := 34) (by decide +kernel))) (by decide +kernel)
theorem m_84507e46 : (.instanceMethod y_H_refuseModuleBeyondLimit : Cond) ∈ xt_tbl := xt_in (xt_t3 (List.mem_of_getElem? (i := 36) (by decide +kernel))) (by decide +kernel)
theorem m_a7d2c7dd : (.selects "StackHost" y_H_refuseModuleBeyondLimit y_H_refuseModuleBeyondLimit : Cond) ∈ xt_tbl := xt_in (xt_v1 (q := (⟨"StackHost", "refuseModuleBeyondLimit", "()V"⟩, 11)) (List.mem_of_getElem? (i := 2) (by decide +kernel))) (by decide +kernel)
theorem m_0953c753 : (.code y_H_refuseModuleBeyondLimit b_H_refuseModuleBeyondLimit 1 none : Cond) ∈ xt_tbl := xt_in (xt_t3 (List.mem_of_getElem? (i := 37) (by decide +kernel))) (by decide +kernel)
theorem m_d718b775 : (.instantiable "StackHost$StackModule" 19 : Cond) ∈ xt_tbl := xt_in (xt_t3 (List.mem_of_getElem? (i := 39) (by decide +kernel))) (by decide +kernel)
theorem m_caec7b8d : (.methodLink "StackHost" 94 y_StackModule_init : Cond) ∈ xt_tbl := xt_in (xt_t3 (List.mem_of_getElem? (i := 40) (by decide +kernel))) (by decide +kernel)
theorem m_cb45c562 : (.instanceMethod y_StackModule_init : Cond) ∈ xt_tbl := xt_in (xt_t3 (List.mem_of_getElem? (i := 41) (by decide +kernel))) (by decide +kernel)
theorem m_81c3fd8b : (.code y_StackModule_init b_StackModule_init 2 none : Cond) ∈ xt_tbl := xt_in (xt_t3 (List.mem_of_getElem? (i := 42) (by decide +kernel))) (by decide +kernel)
theorem m_ee2a0f1b : (.methodLink "StackHost" 103 y_Reader_readAll : Cond) ∈ xt_tbl := xt_in (xt_t3 (List.mem_of_getElem? (i := 167) (by decide +kernel))) (by decide +kernel)
theorem m_14fb1c3a : (.instanceMethod y_Reader_readAll : Cond) ∈ xt_tbl := xt_in (xt_t3 (List.mem_of_getElem? (i := 168) (by decide +kernel))) (by decide +kernel)
theorem m_c788098c : (.selects "StackHost$Reader" y_Reader_readAll y_Reader_readAll : Cond) ∈ xt_tbl := xt_in (xt_t3 (List.mem_of_getElem? (i := 169) (by decide +kernel))) (by decide +kernel)
theorem m_3c818aa7 : (.code y_Reader_readAll b_Reader_readAll 5 none : Cond) ∈ xt_tbl := xt_in (xt_t3 (List.mem_of_getElem? (i := 170) (by decide +kernel))) (by decide +kernel)
theorem m_7bda48a2 : (.methodLink "StackHost" 107 y_Checker_checkAll : Cond) ∈ xt_tbl := xt_in (xt_t4 (List.mem_of_getElem? (i := 91) (by decide +kernel))) (by decide +kernel)
theorem m_02ff25d0 : (.instanceMethod y_Checker_checkAll : Cond) ∈ xt_tbl := xt_in (xt_t4 (List.mem_of_getElem? (i := 92) (by decide +kernel))) (by decide +kernel)
theorem m_7c3a08b1 : (.selects "StackHost$Checker" y_Checker_checkAll y_Checker_checkAll : Cond) ∈ xt_tbl := xt_in (xt_t4 (List.mem_of_getElem? (i := 93) (by decide +kernel))) (by decide +kernel)
theorem m_3ee6b5e3 : (.code y_Checker_checkAll b_Checker_checkAll 3 none : Cond) ∈ xt_tbl := xt_in (xt_t4 (List.mem_of_getElem? (i := 94) (by decide +kernel))) (by decide +kernel)
theorem m_234fc2b1 : (.classLink "StackHost" 86 "java/lang/IllegalArgumentException" : Cond) ∈ xt_tbl := xt_in (xt_t3 (List.mem_of_getElem? (i := 11) (by decide +kernel))) (by decide +kernel)
theorem nm_H_refuseModuleBeyondLimit : xt_nm y_H_refuseModuleBeyondLimit 0 := ⟨by decide +kernel, by decide +kernel⟩
theorem nm_StackModule_init : xt_nm y_StackModule_init 1 := ⟨by decide +kernel, by decide +kernel⟩
theorem nm_Reader_readAll : xt_nm y_Reader_readAll 1 := ⟨by decide +kernel, by decide +kernel⟩
theorem nm_Checker_checkAll : xt_nm y_Checker_checkAll 1 := ⟨by decide +kernel, by decide +kernel⟩
set_option maxRecDepth 100000 in
def T_H_load : List (Nat × Instr × Nat) := [(0, .aload_n 0, 1), (1, .invokevirtual 91, 3), (4, .new 13, 3), (7, .dup, 1), (8, .aload_n 0, 1), (9, .getfield 9, 3), (12, .aload_n 0, 1), (13, .getfield 58, 3), (16, .invokestatic 77, 3), (19, .invokespecial 94, 3), (22, .astore_n 1, 1), (23, .aload_n 0, 1), (24, .iconst 0, 1), (25, .putfield 58, 3), (28, .aload_n 0, 1), (29, .iconst 0, 1), (30, .putfield 97, 3), (33, .aload_n 0, 1), (34, .iconst 0, 1), (35, .putfield 100, 3), (38, .aload_n 0, 1), (39, .getfield 22, 3), (42, .aload_n 1, 1), (43, .invokevirtual 103, 3), (46, .aload_n 0, 1), (47, .getfield 29, 3), (50, .aload_n 1, 1), (51, .invokevirtual 107, 3), (54, .goto 22, 3), (57, .astore_n 2, 1), (58, .aload_n 0, 1), (59, .aload_n 1, 1), (60, .getfield 110, 3), (63, .putfield 97, 3), (66, .aload_n 0, 1), (67, .aload_n 1, 1), (68, .getfield 111, 3), (71, .putfield 100, 3), (74, .iconst (-1), 1), (75, .ireturn, 1), (76, .aload_n 0, 1), (77, .getfield 15, 3), (80, .aload_n 0, 1), (81, .getfield 112, 3), (84, .aload_n 1, 1), (85, .aastore, 1), (86, .aload_n 0, 1), (87, .dup, 1), (88, .getfield 112, 3), (91, .iconst 1, 1), (92, .iadd, 1), (93, .putfield 112, 3), (96, .aload_n 0, 1), (97, .getfield 112, 3), (100, .iconst 1, 1), (101, .isub, 1), (102, .ireturn, 1)]
theorem D_H_load : ∀ q ∈ T_H_load, decode b_H_load q.1 = .ok (q.2.1, q.2.2) := by decide +kernel

set_option maxHeartbeats 4000000 in
set_option maxRecDepth 100000 in
theorem am_H_load_L57 (l : Launch) (hfl : l.flags = pinnedFlags ++ [noTraceFlag]) (D : va_G) (A : Nat → Prop) (σ MC MS : Nat) (h0 : xb_H) (Qr : Int32 → xb_H → Nat → Nat → Prop) (Qt : String → xb_H → Nat → Nat → Prop) (x0 : Nat) (x1 : Nat) (y0 : Nat) (h : xb_H) (bc : Nat) (bs : Nat) (hw : w_H_load_L57 Qr Qt x0 x1 y0 h bc bs) : xb_am l D A σ 9 MC MS h0 (fun v h bc bs => ∃ r, v = some (.int r) ∧ Qr r h bc bs) Qt y_H_load.cls y_H_load.name b_H_load 3 (tableOf [(38, 54, 57, 86)]) (some .int) 57 [(0, .ref x0), (1, .ref x1)] [.ref y0] h bc bs := by
  unfold w_H_load_L57 at hw
  intro p e s m args below meth c hC H locs ls k n hE hl hR hS hk hn
  obtain ⟨hx, hb, hown, hlocks, htab, hml, hr, hB, hA, hnm⟩ := id hC
  have hts := hB.1.1.at args
  refine lv_astore_n hx hb (xb_d D_H_load 29 rfl) rfl hl (by decide) rfl (fun ls hl => ?_)
  have hl : lv_has ls 3 [(2, .ref y0), (0, .ref x0), (1, .ref x1)] := hl
  refine lv_aload_n hx hb (xb_d D_H_load 30 rfl) rfl (lv_at hl 1 rfl) ?_
  refine lv_aload_n hx hb (xb_d D_H_load 31 rfl) rfl (lv_at hl 2 rfl) ?_
  obtain ⟨hk1, hw⟩ := hw
  refine xb_getI (C := R_StackModule) (T := F_StackModule) (N := 19) hx hb 2 17 hts fin_StackModule hown hR hk1 (by decide) rfl (by decide) rfl (hts _ m_c484329e) (fun _ h9 => h9) (xb_d D_H_load 32 rfl) ?_
  obtain ⟨hk2, hw⟩ := hw
  refine xb_putI (C := R_H) (T := F_H) (N := 11) (ty := .int) (x := (xb_i h x1 17)) hx hb 0 9 hts fin_H t_H t_H_ok n_H hown hR hS hk2 (by decide) rfl (by decide) rfl (hts _ m_149cae13) (fun _ h9 => h9) rfl (by decide +kernel) rfl rfl (xb_d D_H_load 33 rfl) (fun H locs hR hS => ?_)
  obtain ⟨h3, eh3⟩ : ∃ x : xb_H, x = xb_I h x0 9 (xb_i h x1 17) := ⟨_, rfl⟩
  rw [← eh3] at hR
  have hw := hw h3 eh3
  have hE : xb_ext h0 h3 := by rw [eh3]; exact hE
  refine lv_aload_n hx hb (xb_d D_H_load 34 rfl) rfl (lv_at hl 1 rfl) ?_
  refine lv_aload_n hx hb (xb_d D_H_load 35 rfl) rfl (lv_at hl 2 rfl) ?_
  have hk1 : xb_k h3 x1 = 3 := by rw [eh3]; exact hk1
  refine xb_getI (C := R_StackModule) (T := F_StackModule) (N := 19) hx hb 2 18 hts fin_StackModule hown hR hk1 (by decide) rfl (by decide) rfl (hts _ m_bf14d6e8) (fun _ h9 => h9) (xb_d D_H_load 36 rfl) ?_
  have hk2 : xb_k h3 x0 = 1 := by rw [eh3]; exact hk2
  refine xb_putI (C := R_H) (T := F_H) (N := 11) (ty := .int) (x := (xb_i h3 x1 18)) hx hb 0 10 hts fin_H t_H t_H_ok n_H hown hR hS hk2 (by decide) rfl (by decide) rfl (hts _ m_f8008c10) (fun _ h9 => h9) rfl (by decide +kernel) rfl rfl (xb_d D_H_load 37 rfl) (fun H locs hR hS => ?_)
  obtain ⟨h4, eh4⟩ : ∃ x : xb_H, x = xb_I h3 x0 10 (xb_i h3 x1 18) := ⟨_, rfl⟩
  rw [← eh4] at hR
  have hw := hw h4 eh4
  have hE : xb_ext h0 h4 := by rw [eh4]; exact hE
  refine lv_iconst (v := (-1)) hx hb (xb_d D_H_load 38 rfl) (by decide) ?_
  exact xb_iret bc bs hx hb hr hlocks (show k + bc ≤ MC by omega) (show n + bs ≤ MS by omega) hE hR hS (xb_d D_H_load 39 rfl) hw

set_option maxHeartbeats 4000000 in
set_option maxRecDepth 100000 in
theorem ok_H_load (l : Launch) (hfl : l.flags = pinnedFlags ++ [noTraceFlag]) (D : va_G) (A : Nat → Prop) (σ : Nat) (x0 : Nat) (h : xb_H) (bc : Nat) (bs : Nat) (Qr : Int32 → xb_H → Nat → Nat → Prop) (Qt : String → xb_H → Nat → Nat → Prop) (hw : w_H_load x0 h bc bs Qr Qt) : xb_Met l y_H_load [.codeWith y_H_load b_H_load 3 (some .int) [(38, 54, 57, 86)]] (xb_rm 9 bc bs) (xb_Pc D A σ h [.ref x0]) (xb_Qc D A h bc bs (fun v h bc bs => ∃ r, v = some (.int r) ∧ Qr r h bc bs) Qt) A := by
  refine xb_ofAmH (cc := b_H_load) (by decide) (Nat.le_of_ble_eq_true rfl) ?_
  unfold w_H_load at hw
  show xb_am l D A σ 9 bc bs h (fun v h bc bs => ∃ r, v = some (.int r) ∧ Qr r h bc bs) Qt y_H_load.cls y_H_load.name b_H_load 3 (tableOf [(38, 54, 57, 86)]) (some .int) 0 [(0, .ref x0)] [] h bc bs
  obtain ⟨MC, hMC⟩ : ∃ x, x = bc := ⟨_, rfl⟩
  obtain ⟨MS, hMS⟩ : ∃ x, x = bs := ⟨_, rfl⟩
  rw [show xb_am l D A σ 9 bc bs = xb_am l D A σ 9 MC MS by rw [hMC, hMS]]
  obtain ⟨h0, hh0⟩ : ∃ x, x = h := ⟨_, rfl⟩
  rw [show xb_am l D A σ 9 MC MS h = xb_am l D A σ 9 MC MS h0 by rw [hh0]]
  intro p e s m args below meth c hC H locs ls k n hE hl hR hS hk hn
  obtain ⟨hx, hb, hown, hlocks, htab, hml, hr, hB, hA, hnm⟩ := id hC
  have hts := hB.1.1.at args
  refine lv_aload_n hx hb (xb_d D_H_load 0 rfl) rfl (lv_at hl 0 rfl) ?_
  obtain ⟨hk1, hw⟩ := hw
  refine xb_call (D := D) (A := A) (σ := σ) (h := h) (d := 2) (mc := bc) (ms := bs) (maxL := 1) (rest := []) (av := [.ref x0]) (fun T hT X => by obtain ⟨cb9, ra9, rb9, rc9⟩ := xb_recv (ci := 0) hR rfl hk1 (by decide); exact xt_invV X hx hown (hts _ m_ca4c1e21) (hts _ m_84507e46) (hts _ m_a7d2c7dd) (xt_sigOf (hts _ m_0953c753)) nm_H_refuseModuleBeyondLimit (by rw [hT]; exact ra9) rb9 rc9 (g := F0 m 1 ls [.ref x0]) rfl (argsL := []) (rest := []) rfl rfl (by rw [hb]; exact (xb_d D_H_load 1 rfl))) (ok_H_refuseModuleBeyondLimit l hfl D A σ x0 h bc bs _ _ hw) (hml.trans hl.1.symm) (by rw [hb]; exact (xb_d D_H_load 1 rfl)) (Nat.le_of_ble_eq_true rfl) (Nat.le_of_ble_eq_true rfl) (Nat.le_of_ble_eq_true rfl) (show k + bc ≤ MC by omega) (show n + bs ≤ MS by omega) (xt_w1 hB.1 m_0953c753) (xt_cdOf hB.1 m_0953c753) (hts _ m_ba0734f5) hB hR hS hA (fun vv h2 bc3 bs3 kk3 nn3 H locs hk3 hn3 hq hEh2 hR hS => ?_) (fun XX ax h2 bc3 bs3 kk3 nn3 H locs hk3 hn3 hq hEh2 hex hR hS => ?_)
  · obtain ⟨rfl, hw⟩ := hq
    have hw := hw hEh2
    have hE := hE.tr hEh2
    refine W.eq (g2 := F0 m 4 ls []) rfl ?_
    obtain ⟨hcq4, hsq4, hw⟩ := hw
    refine xb_newo (C := R_StackModule) (T := F_StackModule) (N := 19) hx hb 2 hts fin_StackModule t_StackModule t_StackModule_ok hown (hts _ m_051f4bf9) (hts _ m_d718b775) (hts _ m_9c375545) hR hS hA (by decide) rfl dg_StackModule (show (k + kk3) + 1 ≤ MC by omega) (show (n + nn3) + 19 ≤ MS by omega) (xb_d D_H_load 2 rfl) (fun q4 H hqq4 hR hS => ?_)
    have hw := hw q4 hqq4
    obtain ⟨h5, eh5⟩ : ∃ x : xb_H, x = xb_new h2 q4 3 0 := ⟨_, rfl⟩
    rw [← eh5] at hR
    have hw := hw h5 eh5
    have hE : xb_ext h0 h5 := by rw [eh5]; exact hE.new _ _ hqq4
    have hk6 : xb_k h5 q4 = 3 := by rw [eh5]; exact xb_new_k _ _ _ _
    refine lv_dup hx hb (xb_d D_H_load 3 rfl) rfl ?_
    refine lv_aload_n hx hb (xb_d D_H_load 4 rfl) rfl (lv_at hl 0 rfl) ?_
    have hk1 : xb_k h2 x0 = 1 := hEh2.k hk1
    have hk1 : xb_k h5 x0 = 1 := by rw [eh5]; exact xb_nk hqq4 hk1
    refine xb_getP (C := R_H) (T := F_H) (N := 11) hx hb 0 0 hts fin_H hown hR hk1 (by decide) rfl (by decide) rfl (hts _ m_4570233e) (fun _ h9 => h9) (xb_d D_H_load 5 rfl) ?_
    obtain ⟨b7, eb7, hw⟩ := hw
    refine xb_some eb7 ?_
    refine lv_aload_n hx hb (xb_d D_H_load 6 rfl) rfl (lv_at hl 0 rfl) ?_
    refine xb_getI (C := R_H) (T := F_H) (N := 11) hx hb 0 1 hts fin_H hown hR hk1 (by decide) rfl (by decide) rfl (hts _ m_1ee8d2b8) (fun _ h9 => h9) (xb_d D_H_load 7 rfl) ?_
    refine xb_call (D := D) (A := A) (σ := σ) (h := h5) (d := 2) (mc := (bc3 - 1)) (ms := (bs3 - 19)) (maxL := 3) (rest := [.ref q4, .ref q4]) (av := [.ref b7, .int (xb_i h5 x0 1)]) (fun T hT X => xt_invS X hx hown (hts _ m_b8219f1e) (hts _ m_16c212e6) (hts _ m_b999e92a) (xt_sgS (hts _ m_d6a3543a)).1 (xt_sgS (hts _ m_d6a3543a)).2 nm_Arrays_copyOf0 (g := F0 m 16 ls [.int (xb_i h5 x0 1), .ref b7, .ref q4, .ref q4]) rfl (argsL := [.ref b7, .int (xb_i h5 x0 1)]) (rest := [.ref q4, .ref q4]) rfl rfl (by rw [hb]; exact (xb_d D_H_load 8 rfl))) (ok_Arrays_copyOf0 l hfl D A σ b7 (xb_i h5 x0 1) h5 (bc3 - 1) (bs3 - 19) _ hw) (hml.trans hl.1.symm) (by rw [hb]; exact (xb_d D_H_load 8 rfl)) (Nat.le_of_ble_eq_true rfl) (Nat.le_of_ble_eq_true rfl) (Nat.le_of_ble_eq_true rfl) (show ((k + kk3) + 1) + (bc3 - 1) ≤ MC by omega) (show ((n + nn3) + 19) + (bs3 - 19) ≤ MS by omega) (xt_w1 hB.1 m_d6a3543a) (xt_cdOf hB.1 m_d6a3543a) (hts _ m_b999e92a) hB hR hS hA (fun vv h8 bc9 bs9 kk9 nn9 H locs hk9 hn9 hq hEh8 hR hS => ?_) (fun XX ax h8 bc9 bs9 kk9 nn9 H locs hk9 hn9 hq hEh8 hex hR hS => ?_)
    · obtain ⟨r9, rfl, hw⟩ := hq
      have hw := hw hEh8
      have hE := hE.tr hEh8
      refine W.eq (g2 := F0 m 19 ls [.ref r9, .ref q4, .ref q4]) rfl ?_
      refine xb_call (D := D) (A := A) (σ := σ) (h := h8) (d := 3) (mc := bc9) (ms := bs9) (maxL := 2) (rest := [.ref q4]) (av := [.ref q4, .ref r9]) (fun T hT X => xt_invI X hx hown rfl (hts _ m_caec7b8d) (hts _ m_cb45c562) (hts _ m_81c3fd8b) nm_StackModule_init (g := F0 m 19 ls [.ref r9, .ref q4, .ref q4]) rfl (b := q4) (argsL := [.ref r9]) (rest := [.ref q4]) rfl rfl (by rw [hb]; exact (xb_d D_H_load 9 rfl))) (ok_StackModule_init l hfl D A σ q4 r9 h8 bc9 bs9 _ hw) (hml.trans hl.1.symm) (by rw [hb]; exact (xb_d D_H_load 9 rfl)) (Nat.le_of_ble_eq_true rfl) (Nat.le_of_ble_eq_true rfl) (Nat.le_of_ble_eq_true rfl) (show (((k + kk3) + 1) + kk9) + bc9 ≤ MC by omega) (show (((n + nn3) + 19) + nn9) + bs9 ≤ MS by omega) (xt_w1 hB.1 m_81c3fd8b) (xt_cdOf hB.1 m_81c3fd8b) (hts _ m_9c375545) hB hR hS hA (fun vv h10 bc11 bs11 kk11 nn11 H locs hk11 hn11 hq hEh10 hR hS => ?_) (fun XX ax h10 bc11 bs11 kk11 nn11 H locs hk11 hn11 hq hEh10 hex hR hS => ?_)
      · obtain ⟨rfl, hw⟩ := hq
        have hw := hw hEh10
        have hE := hE.tr hEh10
        refine W.eq (g2 := F0 m 22 ls [.ref q4]) rfl ?_
        refine lv_astore_n hx hb (xb_d D_H_load 10 rfl) rfl hl (by decide) rfl (fun ls hl => ?_)
        have hl : lv_has ls 3 [(1, .ref q4), (0, .ref x0)] := hl
        refine lv_aload_n hx hb (xb_d D_H_load 11 rfl) rfl (lv_at hl 1 rfl) ?_
        refine lv_iconst (v := 0) hx hb (xb_d D_H_load 12 rfl) (by decide) ?_
        have hk1 : xb_k h8 x0 = 1 := hEh8.k hk1
        have hk1 : xb_k h10 x0 = 1 := hEh10.k hk1
        refine xb_putI (C := R_H) (T := F_H) (N := 11) (ty := .int) (x := 0) hx hb 0 1 hts fin_H t_H t_H_ok n_H hown hR hS hk1 (by decide) rfl (by decide) rfl (hts _ m_1ee8d2b8) (fun _ h9 => h9) rfl (by decide +kernel) rfl rfl (xb_d D_H_load 13 rfl) (fun H locs hR hS => ?_)
        obtain ⟨h12, eh12⟩ : ∃ x : xb_H, x = xb_I h10 x0 1 0 := ⟨_, rfl⟩
        rw [← eh12] at hR
        have hw := hw h12 eh12
        have hE : xb_ext h0 h12 := by rw [eh12]; exact hE
        refine lv_aload_n hx hb (xb_d D_H_load 14 rfl) rfl (lv_at hl 1 rfl) ?_
        refine lv_iconst (v := 0) hx hb (xb_d D_H_load 15 rfl) (by decide) ?_
        have hk1 : xb_k h12 x0 = 1 := by rw [eh12]; exact hk1
        refine xb_putI (C := R_H) (T := F_H) (N := 11) (ty := .int) (x := 0) hx hb 0 9 hts fin_H t_H t_H_ok n_H hown hR hS hk1 (by decide) rfl (by decide) rfl (hts _ m_149cae13) (fun _ h9 => h9) rfl (by decide +kernel) rfl rfl (xb_d D_H_load 16 rfl) (fun H locs hR hS => ?_)
        obtain ⟨h13, eh13⟩ : ∃ x : xb_H, x = xb_I h12 x0 9 0 := ⟨_, rfl⟩
        rw [← eh13] at hR
        have hw := hw h13 eh13
        have hE : xb_ext h0 h13 := by rw [eh13]; exact hE
        refine lv_aload_n hx hb (xb_d D_H_load 17 rfl) rfl (lv_at hl 1 rfl) ?_
        refine lv_iconst (v := 0) hx hb (xb_d D_H_load 18 rfl) (by decide) ?_
        have hk1 : xb_k h13 x0 = 1 := by rw [eh13]; exact hk1
        refine xb_putI (C := R_H) (T := F_H) (N := 11) (ty := .int) (x := 0) hx hb 0 10 hts fin_H t_H t_H_ok n_H hown hR hS hk1 (by decide) rfl (by decide) rfl (hts _ m_f8008c10) (fun _ h9 => h9) rfl (by decide +kernel) rfl rfl (xb_d D_H_load 19 rfl) (fun H locs hR hS => ?_)
        obtain ⟨h14, eh14⟩ : ∃ x : xb_H, x = xb_I h13 x0 10 0 := ⟨_, rfl⟩
        rw [← eh14] at hR
        have hw := hw h14 eh14
        have hE : xb_ext h0 h14 := by rw [eh14]; exact hE
        refine lv_aload_n hx hb (xb_d D_H_load 20 rfl) rfl (lv_at hl 1 rfl) ?_
        have hk1 : xb_k h14 x0 = 1 := by rw [eh14]; exact hk1
        refine xb_getP (C := R_H) (T := F_H) (N := 11) hx hb 0 4 hts fin_H hown hR hk1 (by decide) rfl (by decide) rfl (hts _ m_95161389) (fun _ h9 => h9) (xb_d D_H_load 21 rfl) ?_
        obtain ⟨b15, eb15, hw⟩ := hw
        refine xb_some eb15 ?_
        refine lv_aload_n hx hb (xb_d D_H_load 22 rfl) rfl (lv_at hl 0 rfl) ?_
        obtain ⟨hk16, hw⟩ := hw
        refine xb_call (D := D) (A := A) (σ := σ) (h := h14) (d := 8) (mc := bc11) (ms := bs11) (maxL := 5) (rest := []) (av := [.ref b15, .ref q4]) (fun T hT X => by obtain ⟨cb9, ra9, rb9, rc9⟩ := xb_recv (ci := 3) hR rfl hk16 (by decide); exact xt_invV X hx hown (hts _ m_ee2a0f1b) (hts _ m_14fb1c3a) (hts _ m_c788098c) (xt_sigOf (hts _ m_3c818aa7)) nm_Reader_readAll (by rw [hT]; exact ra9) rb9 rc9 (g := F0 m 43 ls [.ref q4, .ref b15]) rfl (argsL := [.ref q4]) (rest := []) rfl rfl (by rw [hb]; exact (xb_d D_H_load 23 rfl))) (ok_Reader_readAll l hfl D A σ b15 q4 h14 bc11 bs11 _ _ hw) (hml.trans hl.1.symm) (by rw [hb]; exact (xb_d D_H_load 23 rfl)) (Nat.le_of_ble_eq_true rfl) (Nat.le_of_ble_eq_true rfl) (Nat.le_of_ble_eq_true rfl) (show ((((k + kk3) + 1) + kk9) + kk11) + bc11 ≤ MC by omega) (show ((((n + nn3) + 19) + nn9) + nn11) + bs11 ≤ MS by omega) (xt_w1 hB.1 m_3c818aa7) (xt_cdOf hB.1 m_3c818aa7) (hts _ m_938fcec4) hB hR hS hA (fun vv h17 bc18 bs18 kk18 nn18 H locs hk18 hn18 hq hEh17 hR hS => ?_) (fun XX ax h17 bc18 bs18 kk18 nn18 H locs hk18 hn18 hq hEh17 hex hR hS => ?_)
        · obtain ⟨rfl, hw⟩ := hq
          have hw := hw hEh17
          have hE := hE.tr hEh17
          refine W.eq (g2 := F0 m 46 ls []) rfl ?_
          refine lv_aload_n hx hb (xb_d D_H_load 24 rfl) rfl (lv_at hl 1 rfl) ?_
          have hk1 : xb_k h17 x0 = 1 := hEh17.k hk1
          refine xb_getP (C := R_H) (T := F_H) (N := 11) hx hb 0 5 hts fin_H hown hR hk1 (by decide) rfl (by decide) rfl (hts _ m_b8585ab6) (fun _ h9 => h9) (xb_d D_H_load 25 rfl) ?_
          obtain ⟨b19, eb19, hw⟩ := hw
          refine xb_some eb19 ?_
          refine lv_aload_n hx hb (xb_d D_H_load 26 rfl) rfl (lv_at hl 0 rfl) ?_
          obtain ⟨hk20, hw⟩ := hw
          refine xb_call (D := D) (A := A) (σ := σ) (h := h17) (d := 8) (mc := bc18) (ms := bs18) (maxL := 3) (rest := []) (av := [.ref b19, .ref q4]) (fun T hT X => by obtain ⟨cb9, ra9, rb9, rc9⟩ := xb_recv (ci := 4) hR rfl hk20 (by decide); exact xt_invV X hx hown (hts _ m_7bda48a2) (hts _ m_02ff25d0) (hts _ m_7c3a08b1) (xt_sigOf (hts _ m_3ee6b5e3)) nm_Checker_checkAll (by rw [hT]; exact ra9) rb9 rc9 (g := F0 m 51 ls [.ref q4, .ref b19]) rfl (argsL := [.ref q4]) (rest := []) rfl rfl (by rw [hb]; exact (xb_d D_H_load 27 rfl))) (ok_Checker_checkAll l hfl D A σ b19 q4 h17 bc18 bs18 _ _ hw) (hml.trans hl.1.symm) (by rw [hb]; exact (xb_d D_H_load 27 rfl)) (Nat.le_of_ble_eq_true rfl) (Nat.le_of_ble_eq_true rfl) (Nat.le_of_ble_eq_true rfl) (show (((((k + kk3) + 1) + kk9) + kk11) + kk18) + bc18 ≤ MC by omega) (show (((((n + nn3) + 19) + nn9) + nn11) + nn18) + bs18 ≤ MS by omega) (xt_w1 hB.1 m_3ee6b5e3) (xt_cdOf hB.1 m_3ee6b5e3) (hts _ m_44748ce5) hB hR hS hA (fun vv h21 bc22 bs22 kk22 nn22 H locs hk22 hn22 hq hEh21 hR hS => ?_) (fun XX ax h21 bc22 bs22 kk22 nn22 H locs hk22 hn22 hq hEh21 hex hR hS => ?_)
          · obtain ⟨rfl, hw⟩ := hq
            have hw := hw hEh21
            have hE := hE.tr hEh21
            refine W.eq (g2 := F0 m 54 ls []) rfl ?_
            refine lv_goto (tgt := 76) hx hb (xb_d D_H_load 28 rfl) rfl ?_
            refine lv_aload_n hx hb (xb_d D_H_load 40 rfl) rfl (lv_at hl 1 rfl) ?_
            have hk1 : xb_k h21 x0 = 1 := hEh21.k hk1
            refine xb_getP (C := R_H) (T := F_H) (N := 11) hx hb 0 2 hts fin_H hown hR hk1 (by decide) rfl (by decide) rfl (hts _ m_3f8a3106) (fun _ h9 => h9) (xb_d D_H_load 41 rfl) ?_
            obtain ⟨b23, eb23, hw⟩ := hw
            refine xb_some eb23 ?_
            refine lv_aload_n hx hb (xb_d D_H_load 42 rfl) rfl (lv_at hl 1 rfl) ?_
            refine xb_getI (C := R_H) (T := F_H) (N := 11) hx hb 0 3 hts fin_H hown hR hk1 (by decide) rfl (by decide) rfl (hts _ m_9075cfd3) (fun _ h9 => h9) (xb_d D_H_load 43 rfl) ?_
            refine lv_aload_n hx hb (xb_d D_H_load 44 rfl) rfl (lv_at hl 0 rfl) ?_
            obtain ⟨hk24, hw⟩ := hw
            obtain ⟨hi25, hw⟩ := hw
            have hk6 : xb_k h8 q4 = 3 := hEh8.k hk6
            have hk6 : xb_k h10 q4 = 3 := hEh10.k hk6
            have hk6 : xb_k h12 q4 = 3 := by rw [eh12]; exact hk6
            have hk6 : xb_k h13 q4 = 3 := by rw [eh13]; exact hk6
            have hk6 : xb_k h14 q4 = 3 := by rw [eh14]; exact hk6
            have hk6 : xb_k h17 q4 = 3 := hEh17.k hk6
            have hk6 : xb_k h21 q4 = 3 := hEh21.k hk6
            refine xb_aast104 hx hb hR hS hk24 hk6 hi25 (xb_d D_H_load 45 rfl) (fun H locs hR hS => ?_)
            obtain ⟨h26, eh26⟩ : ∃ x : xb_H, x = xb_P h21 b23 (Int32.toNatClampNeg (xb_i h21 x0 3)) (some q4) := ⟨_, rfl⟩
            rw [← eh26] at hR
            have hw := hw h26 eh26
            have hE : xb_ext h0 h26 := by rw [eh26]; exact hE
            refine lv_aload_n hx hb (xb_d D_H_load 46 rfl) rfl (lv_at hl 1 rfl) ?_
            refine lv_dup hx hb (xb_d D_H_load 47 rfl) rfl ?_
            have hk1 : xb_k h26 x0 = 1 := by rw [eh26]; exact hk1
            refine xb_getI (C := R_H) (T := F_H) (N := 11) hx hb 0 3 hts fin_H hown hR hk1 (by decide) rfl (by decide) rfl (hts _ m_9075cfd3) (fun _ h9 => h9) (xb_d D_H_load 48 rfl) ?_
            refine lv_iconst (v := 1) hx hb (xb_d D_H_load 49 rfl) (by decide) ?_
            refine lv_iadd hx hb (xb_d D_H_load 50 rfl) ?_
            refine xb_putI (C := R_H) (T := F_H) (N := 11) (ty := .int) (x := ((xb_i h26 x0 3) + 1)) hx hb 0 3 hts fin_H t_H t_H_ok n_H hown hR hS hk1 (by decide) rfl (by decide) rfl (hts _ m_9075cfd3) (fun _ h9 => h9) rfl (by decide +kernel) rfl rfl (xb_d D_H_load 51 rfl) (fun H locs hR hS => ?_)
            obtain ⟨h27, eh27⟩ : ∃ x : xb_H, x = xb_I h26 x0 3 ((xb_i h26 x0 3) + 1) := ⟨_, rfl⟩
            rw [← eh27] at hR
            have hw := hw h27 eh27
            have hE : xb_ext h0 h27 := by rw [eh27]; exact hE
            refine lv_aload_n hx hb (xb_d D_H_load 52 rfl) rfl (lv_at hl 1 rfl) ?_
            have hk1 : xb_k h27 x0 = 1 := by rw [eh27]; exact hk1
            refine xb_getI (C := R_H) (T := F_H) (N := 11) hx hb 0 3 hts fin_H hown hR hk1 (by decide) rfl (by decide) rfl (hts _ m_9075cfd3) (fun _ h9 => h9) (xb_d D_H_load 53 rfl) ?_
            refine lv_iconst (v := 1) hx hb (xb_d D_H_load 54 rfl) (by decide) ?_
            refine lv_isub hx hb (xb_d D_H_load 55 rfl) ?_
            exact xb_iret bc22 bs22 hx hb hr hlocks (show ((((((k + kk3) + 1) + kk9) + kk11) + kk18) + kk22) + bc22 ≤ MC by omega) (show ((((((n + nn3) + 19) + nn9) + nn11) + nn18) + nn22) + bs22 ≤ MS by omega) hE hR hS (xb_d D_H_load 56 rfl) hw
          · have hw := hq hEh21 ax
            have hE := hE.tr hEh21
            obtain ⟨rfl, hw⟩ := hw
            refine xt_catch (own := "StackHost") (name := "java/lang/IllegalArgumentException") (Xn := "java/lang/IllegalArgumentException") hown ⟨38, 54, 57, 86⟩ [] htab (by decide) (by decide) (hts _ m_234fc2b1) (hts _ m_b3980edb) hex ?_
            refine W.eq (g2 := F0 m 57 ls [.ref ax]) rfl ?_
            exact am_H_load_L57 l hfl D A σ MC MS h0 Qr Qt x0 q4 ax h21 bc22 bs22 hw p e s m args below meth c hC H locs ls ((((((k + kk3) + 1) + kk9) + kk11) + kk18) + kk22) ((((((n + nn3) + 19) + nn9) + nn11) + nn18) + nn22) hE (lv_sub hl [1, 0] rfl) hR hS (by omega) (by omega)
        · have hw := hq hEh17 ax
          have hE := hE.tr hEh17
          obtain ⟨rfl, hw⟩ := hw
          refine xt_catch (own := "StackHost") (name := "java/lang/IllegalArgumentException") (Xn := "java/lang/IllegalArgumentException") hown ⟨38, 54, 57, 86⟩ [] htab (by decide) (by decide) (hts _ m_234fc2b1) (hts _ m_b3980edb) hex ?_
          refine W.eq (g2 := F0 m 57 ls [.ref ax]) rfl ?_
          exact am_H_load_L57 l hfl D A σ MC MS h0 Qr Qt x0 q4 ax h17 bc18 bs18 hw p e s m args below meth c hC H locs ls (((((k + kk3) + 1) + kk9) + kk11) + kk18) (((((n + nn3) + 19) + nn9) + nn11) + nn18) hE (lv_sub hl [1, 0] rfl) hR hS (by omega) (by omega)
      · exact False.elim hq
    · exact False.elim hq
  · exact xb_pass hlocks (fun x hx9 => by rw [htab] at hx9; first | (cases hx9; done) | (simp [tableOf] at hx9; subst hx9; decide) | (simp [tableOf] at hx9; rcases hx9 with rfl | rfl <;> decide) | (simp [tableOf] at hx9; rcases hx9 with rfl | rfl | rfl <;> decide)) (show (k + kk3) + bc3 ≤ MC by omega) (show (n + nn3) + bs3 ≤ MS by omega) (hE.tr hEh2) hR hS hex hq

theorem m_039776f3 : (.methodLink "StackHost$Machine" 100 y_Machine_step : Cond) ∈ xt_tbl := xt_in (xt_t8 (List.mem_of_getElem? (i := 8) (by decide +kernel))) (by decide +kernel)
theorem m_edc0e629 : (.instanceMethod y_Machine_step : Cond) ∈ xt_tbl := xt_in (xt_t8 (List.mem_of_getElem? (i := 10) (by decide +kernel))) (by decide +kernel)
theorem m_40f89843 : (.selects "StackHost$Machine" y_Machine_step y_Machine_step : Cond) ∈ xt_tbl := xt_in (xt_v6 (q := (⟨"StackHost$Machine", "step", "()V"⟩, 18)) (List.mem_of_getElem? (i := 13) (by decide +kernel))) (by decide +kernel)
theorem m_74a5fc12 : (.code y_Machine_step b_Machine_step 2 none : Cond) ∈ xt_tbl := xt_in (xt_t8 (List.mem_of_getElem? (i := 11) (by decide +kernel))) (by decide +kernel)
theorem m_9ff3405b : (.methodLink "StackHost$Machine" 97 y_Machine_passFree : Cond) ∈ xt_tbl := xt_in (xt_t7 (List.mem_of_getElem? (i := 234) (by decide +kernel))) (by decide +kernel)
theorem m_11e6426e : (.instanceMethod y_Machine_passFree : Cond) ∈ xt_tbl := xt_in (xt_t7 (List.mem_of_getElem? (i := 236) (by decide +kernel))) (by decide +kernel)
theorem m_31c04949 : (.selects "StackHost$Machine" y_Machine_passFree y_Machine_passFree : Cond) ∈ xt_tbl := xt_in (xt_v6 (q := (⟨"StackHost$Machine", "passFree", "()V"⟩, 18)) (List.mem_of_getElem? (i := 10) (by decide +kernel))) (by decide +kernel)
theorem m_b7e88caf : (.code y_Machine_passFree b_Machine_passFree 2 none : Cond) ∈ xt_tbl := xt_in (xt_t7 (List.mem_of_getElem? (i := 237) (by decide +kernel))) (by decide +kernel)
theorem nm_Machine_step : xt_nm y_Machine_step 0 := ⟨by decide +kernel, by decide +kernel⟩
theorem nm_Machine_passFree : xt_nm y_Machine_passFree 0 := ⟨by decide +kernel, by decide +kernel⟩
set_option maxRecDepth 100000 in
def T_Machine_go : List (Nat × Instr × Nat) := [(0, .aload_n 0, 1), (1, .iconst 0, 1), (2, .putfield 90, 3), (5, .aload_n 0, 1), (6, .getfield 31, 3), (9, .iconst (-1), 1), (10, .if_icmp .eq 19, 3), (13, .aload_n 0, 1), (14, .getfield 31, 3), (17, .istore_n 2, 1), (18, .aload_n 0, 1), (19, .iconst (-1), 1), (20, .putfield 31, 3), (23, .aload_n 0, 1), (24, .iload_n 2, 1), (25, .iconst 0, 1), (26, .invokevirtual 93, 3), (29, .iload_n 1, 1), (30, .istore_n 2, 1), (31, .iload_n 2, 1), (32, .ifCond .lt 44, 3), (35, .aload_n 0, 1), (36, .getfield 46, 3), (39, .ifCond .eq 37, 3), (42, .aload_n 0, 1), (43, .invokevirtual 97, 3), (46, .aload_n 0, 1), (47, .getfield 46, 3), (50, .ifCond .eq 9, 3), (53, .iload_n 2, 1), (54, .ifCond .ne 5, 3), (57, .iconst 2, 1), (58, .ireturn, 1), (59, .aload_n 0, 1), (60, .getfield 46, 3), (63, .ifCond .eq 7, 3), (66, .aload_n 0, 1), (67, .invokevirtual 100, 3), (70, .iinc 2 (-1), 3), (73, .goto (-42), 3), (76, .aload_n 0, 1), (77, .getfield 90, 3), (80, .ifCond .eq 7, 3), (83, .iconst 1, 1), (84, .goto 4, 3), (87, .iconst 0, 1), (88, .ireturn, 1)]
theorem D_Machine_go : ∀ q ∈ T_Machine_go, decode b_Machine_go q.1 = .ok (q.2.1, q.2.2) := by decide +kernel

set_option maxHeartbeats 4000000 in
set_option maxRecDepth 100000 in
theorem am_Machine_go_L88 (l : Launch) (hfl : l.flags = pinnedFlags ++ [noTraceFlag]) (D : va_G) (A : Nat → Prop) (σ MC MS : Nat) (h0 : xb_H) (Qr : Int32 → xb_H → Nat → Nat → Prop) (y0 : Int32) (h : xb_H) (bc : Nat) (bs : Nat) (hw : w_Machine_go_L88 Qr y0 h bc bs) : xb_am l D A σ 9 MC MS h0 (fun v h bc bs => ∃ r, v = some (.int r) ∧ Qr r h bc bs) (fun _ _ _ _ => False) y_Machine_go.cls y_Machine_go.name b_Machine_go 3 ([] : List ExceptionTableEntry) (some .int) 88 [] [.int y0] h bc bs := by
  unfold w_Machine_go_L88 at hw
  intro p e s m args below meth c hC H locs ls k n hE hl hR hS hk hn
  obtain ⟨hx, hb, hown, hlocks, htab, hml, hr, hB, hA, hnm⟩ := id hC
  have hts := hB.1.1.at args
  exact xb_iret bc bs hx hb hr hlocks (show k + bc ≤ MC by omega) (show n + bs ≤ MS by omega) hE hR hS (xb_d D_Machine_go 46 rfl) hw

set_option maxHeartbeats 4000000 in
set_option maxRecDepth 100000 in
theorem am_Machine_go_L76 (l : Launch) (hfl : l.flags = pinnedFlags ++ [noTraceFlag]) (D : va_G) (A : Nat → Prop) (σ MC MS : Nat) (h0 : xb_H) (Qr : Int32 → xb_H → Nat → Nat → Prop) (x0 : Nat) (h : xb_H) (bc : Nat) (bs : Nat) (hw : w_Machine_go_L76 Qr x0 h bc bs) : xb_am l D A σ 9 MC MS h0 (fun v h bc bs => ∃ r, v = some (.int r) ∧ Qr r h bc bs) (fun _ _ _ _ => False) y_Machine_go.cls y_Machine_go.name b_Machine_go 3 ([] : List ExceptionTableEntry) (some .int) 76 [(0, .ref x0)] [] h bc bs := by
  unfold w_Machine_go_L76 at hw
  intro p e s m args below meth c hC H locs ls k n hE hl hR hS hk hn
  obtain ⟨hx, hb, hown, hlocks, htab, hml, hr, hB, hA, hnm⟩ := id hC
  have hts := hB.1.1.at args
  refine lv_aload_n hx hb (xb_d D_Machine_go 40 rfl) rfl (lv_at hl 0 rfl) ?_
  obtain ⟨hk1, hw⟩ := hw
  refine xb_getI (C := R_Machine) (T := F_Machine) (N := 18) hx hb 7 7 hts fin_Machine hown hR hk1 (by decide) rfl (by decide) rfl (hts _ m_cb912e58) (fun _ h9 => h9) (xb_d D_Machine_go 41 rfl) ?_
  refine lv_if_eq (tgt := 87) hx hb (xb_d D_Machine_go 42 rfl) rfl (fun hc2 => ?_) (fun hc2 => ?_)
  · have hw := hw.1 hc2
    refine lv_iconst (v := 0) hx hb (xb_d D_Machine_go 45 rfl) (by decide) ?_
    exact am_Machine_go_L88 l hfl D A σ MC MS h0 Qr 0 h bc bs hw p e s m args below meth c hC H locs ls k n hE (lv_sub hl [] rfl) hR hS (by omega) (by omega)
  · have hw := hw.2 hc2
    refine lv_iconst (v := 1) hx hb (xb_d D_Machine_go 43 rfl) (by decide) ?_
    refine lv_goto (tgt := 88) hx hb (xb_d D_Machine_go 44 rfl) rfl ?_
    exact am_Machine_go_L88 l hfl D A σ MC MS h0 Qr 1 h bc bs hw p e s m args below meth c hC H locs ls k n hE (lv_sub hl [] rfl) hR hS (by omega) (by omega)

set_option maxHeartbeats 4000000 in
set_option maxRecDepth 100000 in
theorem am_Machine_go_L70 (l : Launch) (hfl : l.flags = pinnedFlags ++ [noTraceFlag]) (D : va_G) (A : Nat → Prop) (σ MC MS : Nat) (h0 : xb_H) (Qr : Int32 → xb_H → Nat → Nat → Prop) (K31 : Nat → Int32 → xb_H → Nat → Nat → Prop) (hK31 : ∀ (x0 : Nat) (x2 : Int32) (h : xb_H) (bc : Nat) (bs : Nat), K31 x0 x2 h bc bs → xb_am l D A σ 9 MC MS h0 (fun v h bc bs => ∃ r, v = some (.int r) ∧ Qr r h bc bs) (fun _ _ _ _ => False) y_Machine_go.cls y_Machine_go.name b_Machine_go 3 ([] : List ExceptionTableEntry) (some .int) 31 [(0, .ref x0), (2, .int x2)] [] h bc bs) (x0 : Nat) (x2 : Int32) (h : xb_H) (bc : Nat) (bs : Nat) (hw : w_Machine_go_L70 K31 Qr x0 x2 h bc bs) : xb_am l D A σ 9 MC MS h0 (fun v h bc bs => ∃ r, v = some (.int r) ∧ Qr r h bc bs) (fun _ _ _ _ => False) y_Machine_go.cls y_Machine_go.name b_Machine_go 3 ([] : List ExceptionTableEntry) (some .int) 70 [(0, .ref x0), (2, .int x2)] [] h bc bs := by
  unfold w_Machine_go_L70 at hw
  intro p e s m args below meth c hC H locs ls k n hE hl hR hS hk hn
  obtain ⟨hx, hb, hown, hlocks, htab, hml, hr, hB, hA, hnm⟩ := id hC
  have hts := hB.1.1.at args
  refine lv_iinc (v := (x2 + (-1))) (k := 1) hx hb (xb_d D_Machine_go 38 rfl) hl rfl (by first | rfl | decide) (by decide) rfl (fun ls hl => ?_)
  have hl : lv_has ls 3 [(2, .int (x2 + (-1))), (0, .ref x0)] := hl
  refine lv_goto (tgt := 31) hx hb (xb_d D_Machine_go 39 rfl) rfl ?_
  exact hK31 x0 (x2 + (-1)) h bc bs hw p e s m args below meth c hC H locs ls k n hE (lv_sub hl [1, 0] rfl) hR hS (by omega) (by omega)

set_option maxHeartbeats 4000000 in
set_option maxRecDepth 100000 in
theorem am_Machine_go_L59 (l : Launch) (hfl : l.flags = pinnedFlags ++ [noTraceFlag]) (D : va_G) (A : Nat → Prop) (σ MC MS : Nat) (h0 : xb_H) (Qr : Int32 → xb_H → Nat → Nat → Prop) (K31 : Nat → Int32 → xb_H → Nat → Nat → Prop) (hK31 : ∀ (x0 : Nat) (x2 : Int32) (h : xb_H) (bc : Nat) (bs : Nat), K31 x0 x2 h bc bs → xb_am l D A σ 9 MC MS h0 (fun v h bc bs => ∃ r, v = some (.int r) ∧ Qr r h bc bs) (fun _ _ _ _ => False) y_Machine_go.cls y_Machine_go.name b_Machine_go 3 ([] : List ExceptionTableEntry) (some .int) 31 [(0, .ref x0), (2, .int x2)] [] h bc bs) (x0 : Nat) (x2 : Int32) (h : xb_H) (bc : Nat) (bs : Nat) (hw : w_Machine_go_L59 K31 Qr x0 x2 h bc bs) : xb_am l D A σ 9 MC MS h0 (fun v h bc bs => ∃ r, v = some (.int r) ∧ Qr r h bc bs) (fun _ _ _ _ => False) y_Machine_go.cls y_Machine_go.name b_Machine_go 3 ([] : List ExceptionTableEntry) (some .int) 59 [(0, .ref x0), (2, .int x2)] [] h bc bs := by
  unfold w_Machine_go_L59 at hw
  intro p e s m args below meth c hC H locs ls k n hE hl hR hS hk hn
  obtain ⟨hx, hb, hown, hlocks, htab, hml, hr, hB, hA, hnm⟩ := id hC
  have hts := hB.1.1.at args
  refine lv_aload_n hx hb (xb_d D_Machine_go 33 rfl) rfl (lv_at hl 0 rfl) ?_
  obtain ⟨hk1, hw⟩ := hw
  refine xb_getI (C := R_Machine) (T := F_Machine) (N := 18) hx hb 7 3 hts fin_Machine hown hR hk1 (by decide) rfl (by decide) rfl (hts _ m_87cf9501) (fun _ h9 => h9) (xb_d D_Machine_go 34 rfl) ?_
  refine lv_if_eq (tgt := 70) hx hb (xb_d D_Machine_go 35 rfl) rfl (fun hc2 => ?_) (fun hc2 => ?_)
  · have hw := hw.1 hc2
    exact am_Machine_go_L70 l hfl D A σ MC MS h0 Qr K31 hK31 x0 x2 h bc bs hw p e s m args below meth c hC H locs ls k n hE (lv_sub hl [0, 1] rfl) hR hS (by omega) (by omega)
  · have hw := hw.2 hc2
    refine lv_aload_n hx hb (xb_d D_Machine_go 36 rfl) rfl (lv_at hl 0 rfl) ?_
    refine xb_call (D := D) (A := A) (σ := σ) (h := h) (d := 8) (mc := bc) (ms := bs) (maxL := 2) (rest := []) (av := [.ref x0]) (fun T hT X => by obtain ⟨cb9, ra9, rb9, rc9⟩ := xb_recv (ci := 7) hR rfl hk1 (by decide); exact xt_invV X hx hown (hts _ m_039776f3) (hts _ m_edc0e629) (hts _ m_40f89843) (xt_sigOf (hts _ m_74a5fc12)) nm_Machine_step (by rw [hT]; exact ra9) rb9 rc9 (g := F0 m 67 ls [.ref x0]) rfl (argsL := []) (rest := []) rfl rfl (by rw [hb]; exact (xb_d D_Machine_go 37 rfl))) (ok_Machine_step l hfl D A σ x0 h bc bs _ hw) (hml.trans hl.1.symm) (by rw [hb]; exact (xb_d D_Machine_go 37 rfl)) (Nat.le_of_ble_eq_true rfl) (Nat.le_of_ble_eq_true rfl) (Nat.le_of_ble_eq_true rfl) (show k + bc ≤ MC by omega) (show n + bs ≤ MS by omega) (xt_w1 hB.1 m_74a5fc12) (xt_cdOf hB.1 m_74a5fc12) (hts _ m_73451f9b) hB hR hS hA (fun vv h3 bc4 bs4 kk4 nn4 H locs hk4 hn4 hq hEh3 hR hS => ?_) (fun XX ax h3 bc4 bs4 kk4 nn4 H locs hk4 hn4 hq hEh3 hex hR hS => ?_)
    · obtain ⟨rfl, hw⟩ := hq
      have hw := hw hEh3
      have hE := hE.tr hEh3
      refine W.eq (g2 := F0 m 70 ls []) rfl ?_
      exact am_Machine_go_L70 l hfl D A σ MC MS h0 Qr K31 hK31 x0 x2 h3 bc4 bs4 hw p e s m args below meth c hC H locs ls (k + kk4) (n + nn4) hE (lv_sub hl [0, 1] rfl) hR hS (by omega) (by omega)
    · exact False.elim hq

set_option maxHeartbeats 4000000 in
set_option maxRecDepth 100000 in
theorem am_Machine_go_L31 (l : Launch) (hfl : l.flags = pinnedFlags ++ [noTraceFlag]) (D : va_G) (A : Nat → Prop) (σ MC MS : Nat) (h0 : xb_H) (Qr : Int32 → xb_H → Nat → Nat → Prop) (n9 : Nat) : ∀ (x0 : Nat) (x2 : Int32) (h : xb_H) (bc : Nat) (bs : Nat), w_Machine_go_L31 Qr n9 x0 x2 h bc bs → xb_am l D A σ 9 MC MS h0 (fun v h bc bs => ∃ r, v = some (.int r) ∧ Qr r h bc bs) (fun _ _ _ _ => False) y_Machine_go.cls y_Machine_go.name b_Machine_go 3 ([] : List ExceptionTableEntry) (some .int) 31 [(0, .ref x0), (2, .int x2)] [] h bc bs := by
  induction n9 with
  | zero => intro x0 x2 h bc bs hw; exact False.elim hw
  | succ n9 ih =>
    intro x0 x2 h bc bs hw
    unfold w_Machine_go_L31 at hw
    intro p e s m args below meth c hC H locs ls k n hE hl hR hS hk hn
    obtain ⟨hx, hb, hown, hlocks, htab, hml, hr, hB, hA, hnm⟩ := id hC
    have hts := hB.1.1.at args
    refine lv_iload_n hx hb (xb_d D_Machine_go 19 rfl) rfl (lv_at hl 1 rfl) ?_
    refine lv_if_lt (tgt := 76) hx hb (xb_d D_Machine_go 20 rfl) rfl (fun hc1 => ?_) (fun hc1 => ?_)
    · have hw := hw.1 hc1
      exact am_Machine_go_L76 l hfl D A σ MC MS h0 Qr x0 h bc bs hw p e s m args below meth c hC H locs ls k n hE (lv_sub hl [0] rfl) hR hS (by omega) (by omega)
    · have hw := hw.2 hc1
      refine lv_aload_n hx hb (xb_d D_Machine_go 21 rfl) rfl (lv_at hl 0 rfl) ?_
      obtain ⟨hk2, hw⟩ := hw
      refine xb_getI (C := R_Machine) (T := F_Machine) (N := 18) hx hb 7 3 hts fin_Machine hown hR hk2 (by decide) rfl (by decide) rfl (hts _ m_87cf9501) (fun _ h9 => h9) (xb_d D_Machine_go 22 rfl) ?_
      refine lv_if_eq (tgt := 76) hx hb (xb_d D_Machine_go 23 rfl) rfl (fun hc3 => ?_) (fun hc3 => ?_)
      · have hw := hw.1 hc3
        exact am_Machine_go_L76 l hfl D A σ MC MS h0 Qr x0 h bc bs hw p e s m args below meth c hC H locs ls k n hE (lv_sub hl [0] rfl) hR hS (by omega) (by omega)
      · have hw := hw.2 hc3
        refine lv_aload_n hx hb (xb_d D_Machine_go 24 rfl) rfl (lv_at hl 0 rfl) ?_
        refine xb_call0 (D := D) (A := A) (σ := σ) (h := h) (d := 5) (maxL := 2) (rest := []) (av := [.ref x0]) (fun T hT X => by obtain ⟨cb9, ra9, rb9, rc9⟩ := xb_recv (ci := 7) hR rfl hk2 (by decide); exact xt_invV X hx hown (hts _ m_9ff3405b) (hts _ m_11e6426e) (hts _ m_31c04949) (xt_sigOf (hts _ m_b7e88caf)) nm_Machine_passFree (by rw [hT]; exact ra9) rb9 rc9 (g := F0 m 43 ls [.ref x0]) rfl (argsL := []) (rest := []) rfl rfl (by rw [hb]; exact (xb_d D_Machine_go 25 rfl))) (ok_Machine_passFree l hfl D A σ x0 h _ hw) (hml.trans hl.1.symm) (by rw [hb]; exact (xb_d D_Machine_go 25 rfl)) (Nat.le_of_ble_eq_true rfl) (Nat.le_of_ble_eq_true rfl) (Nat.le_of_ble_eq_true rfl) (show k ≤ MC by omega) (show n ≤ MS by omega) (xt_w1 hB.1 m_b7e88caf) (xt_cdOf hB.1 m_b7e88caf) (hts _ m_73451f9b) hB hR hS hA (fun vv h4 H locs hq hEh4 hR hS => ?_)
        obtain ⟨rfl, hw⟩ := hq
        have hw := hw hEh4
        have hE := hE.tr hEh4
        refine W.eq (g2 := F0 m 46 ls []) rfl ?_
        refine lv_aload_n hx hb (xb_d D_Machine_go 26 rfl) rfl (lv_at hl 0 rfl) ?_
        have hk2 : xb_k h4 x0 = 8 := hEh4.k hk2
        refine xb_getI (C := R_Machine) (T := F_Machine) (N := 18) hx hb 7 3 hts fin_Machine hown hR hk2 (by decide) rfl (by decide) rfl (hts _ m_87cf9501) (fun _ h9 => h9) (xb_d D_Machine_go 27 rfl) ?_
        refine lv_if_eq (tgt := 59) hx hb (xb_d D_Machine_go 28 rfl) rfl (fun hc6 => ?_) (fun hc6 => ?_)
        · have hw := hw.1 hc6
          exact am_Machine_go_L59 l hfl D A σ MC MS h0 Qr (w_Machine_go_L31 Qr n9) ih x0 x2 h4 bc bs hw p e s m args below meth c hC H locs ls k n hE (lv_sub hl [0, 1] rfl) hR hS (by omega) (by omega)
        · have hw := hw.2 hc6
          refine lv_iload_n hx hb (xb_d D_Machine_go 29 rfl) rfl (lv_at hl 1 rfl) ?_
          refine lv_if_ne (tgt := 59) hx hb (xb_d D_Machine_go 30 rfl) rfl (fun hc7 => ?_) (fun hc7 => ?_)
          · have hw := hw.1 hc7
            exact am_Machine_go_L59 l hfl D A σ MC MS h0 Qr (w_Machine_go_L31 Qr n9) ih x0 x2 h4 bc bs hw p e s m args below meth c hC H locs ls k n hE (lv_sub hl [0, 1] rfl) hR hS (by omega) (by omega)
          · have hw := hw.2 hc7
            refine lv_iconst (v := 2) hx hb (xb_d D_Machine_go 31 rfl) (by decide) ?_
            exact xb_iret bc bs hx hb hr hlocks (show k + bc ≤ MC by omega) (show n + bs ≤ MS by omega) hE hR hS (xb_d D_Machine_go 32 rfl) hw

set_option maxHeartbeats 4000000 in
set_option maxRecDepth 100000 in
theorem am_Machine_go_L29 (l : Launch) (hfl : l.flags = pinnedFlags ++ [noTraceFlag]) (D : va_G) (A : Nat → Prop) (σ MC MS : Nat) (h0 : xb_H) (Qr : Int32 → xb_H → Nat → Nat → Prop) (x0 : Nat) (x1 : Int32) (h : xb_H) (bc : Nat) (bs : Nat) (hw : w_Machine_go_L29 Qr x0 x1 h bc bs) : xb_am l D A σ 9 MC MS h0 (fun v h bc bs => ∃ r, v = some (.int r) ∧ Qr r h bc bs) (fun _ _ _ _ => False) y_Machine_go.cls y_Machine_go.name b_Machine_go 3 ([] : List ExceptionTableEntry) (some .int) 29 [(0, .ref x0), (1, .int x1)] [] h bc bs := by
  unfold w_Machine_go_L29 at hw
  intro p e s m args below meth c hC H locs ls k n hE hl hR hS hk hn
  obtain ⟨hx, hb, hown, hlocks, htab, hml, hr, hB, hA, hnm⟩ := id hC
  have hts := hB.1.1.at args
  refine lv_iload_n hx hb (xb_d D_Machine_go 17 rfl) rfl (lv_at hl 1 rfl) ?_
  refine lv_istore_n hx hb (xb_d D_Machine_go 18 rfl) rfl hl (by decide) rfl (fun ls hl => ?_)
  have hl : lv_has ls 3 [(2, .int x1), (0, .ref x0), (1, .int x1)] := hl
  obtain ⟨n8, hw⟩ := hw
  exact am_Machine_go_L31 l hfl D A σ MC MS h0 Qr n8 x0 x1 h bc bs hw p e s m args below meth c hC H locs ls k n hE (lv_sub hl [1, 0] rfl) hR hS (by omega) (by omega)

set_option maxHeartbeats 4000000 in
set_option maxRecDepth 100000 in
theorem ok_Machine_go (l : Launch) (hfl : l.flags = pinnedFlags ++ [noTraceFlag]) (D : va_G) (A : Nat → Prop) (σ : Nat) (x0 : Nat) (x1 : Int32) (h : xb_H) (bc : Nat) (bs : Nat) (Qr : Int32 → xb_H → Nat → Nat → Prop) (hw : w_Machine_go x0 x1 h bc bs Qr) : xb_Met l y_Machine_go [.code y_Machine_go b_Machine_go 3 (some .int)] (xb_rm 9 bc bs) (xb_Pc D A σ h [.ref x0, .int x1]) (xb_Qc D A h bc bs (fun v h bc bs => ∃ r, v = some (.int r) ∧ Qr r h bc bs) (fun _ _ _ _ => False)) A := by
  refine xb_ofAm (cc := b_Machine_go) (by decide) (Nat.le_of_ble_eq_true rfl) ?_
  unfold w_Machine_go at hw
  show xb_am l D A σ 9 bc bs h (fun v h bc bs => ∃ r, v = some (.int r) ∧ Qr r h bc bs) (fun _ _ _ _ => False) y_Machine_go.cls y_Machine_go.name b_Machine_go 3 ([] : List ExceptionTableEntry) (some .int) 0 [(0, .ref x0), (1, .int x1)] [] h bc bs
  obtain ⟨MC, hMC⟩ : ∃ x, x = bc := ⟨_, rfl⟩
  obtain ⟨MS, hMS⟩ : ∃ x, x = bs := ⟨_, rfl⟩
  rw [show xb_am l D A σ 9 bc bs = xb_am l D A σ 9 MC MS by rw [hMC, hMS]]
  obtain ⟨h0, hh0⟩ : ∃ x, x = h := ⟨_, rfl⟩
  rw [show xb_am l D A σ 9 MC MS h = xb_am l D A σ 9 MC MS h0 by rw [hh0]]
  intro p e s m args below meth c hC H locs ls k n hE hl hR hS hk hn
  obtain ⟨hx, hb, hown, hlocks, htab, hml, hr, hB, hA, hnm⟩ := id hC
  have hts := hB.1.1.at args
  refine lv_aload_n hx hb (xb_d D_Machine_go 0 rfl) rfl (lv_at hl 0 rfl) ?_
  refine lv_iconst (v := 0) hx hb (xb_d D_Machine_go 1 rfl) (by decide) ?_
  obtain ⟨hk1, hw⟩ := hw
  refine xb_putI (C := R_Machine) (T := F_Machine) (N := 18) (ty := .boolean) (x := 0) hx hb 7 7 hts fin_Machine t_Machine t_Machine_ok n_Machine hown hR hS hk1 (by decide) rfl (by decide) rfl (hts _ m_cb912e58) (fun _ h9 => h9) rfl (by decide +kernel) (by decide) (by decide) (xb_d D_Machine_go 2 rfl) (fun H locs hR hS => ?_)
  obtain ⟨h2, eh2⟩ : ∃ x : xb_H, x = xb_I h x0 7 0 := ⟨_, rfl⟩
  rw [← eh2] at hR
  have hw := hw h2 eh2
  have hE : xb_ext h0 h2 := by rw [eh2]; exact hE
  refine lv_aload_n hx hb (xb_d D_Machine_go 3 rfl) rfl (lv_at hl 0 rfl) ?_
  have hk1 : xb_k h2 x0 = 8 := by rw [eh2]; exact hk1
  refine xb_getI (C := R_Machine) (T := F_Machine) (N := 18) hx hb 7 8 hts fin_Machine hown hR hk1 (by decide) rfl (by decide) rfl (hts _ m_71c815d4) (fun _ h9 => h9) (xb_d D_Machine_go 4 rfl) ?_
  refine lv_iconst (v := (-1)) hx hb (xb_d D_Machine_go 5 rfl) (by decide) ?_
  refine lv_icmp_eq (tgt := 29) hx hb (xb_d D_Machine_go 6 rfl) rfl (fun hc3 => ?_) (fun hc3 => ?_)
  · have hw := hw.1 hc3
    exact am_Machine_go_L29 l hfl D A σ MC MS h0 Qr x0 x1 h2 bc bs hw p e s m args below meth c hC H locs ls k n hE (lv_sub hl [0, 1] rfl) hR hS (by omega) (by omega)
  · have hw := hw.2 hc3
    refine lv_aload_n hx hb (xb_d D_Machine_go 7 rfl) rfl (lv_at hl 0 rfl) ?_
    refine xb_getI (C := R_Machine) (T := F_Machine) (N := 18) hx hb 7 8 hts fin_Machine hown hR hk1 (by decide) rfl (by decide) rfl (hts _ m_71c815d4) (fun _ h9 => h9) (xb_d D_Machine_go 8 rfl) ?_
    obtain ⟨v4, ev4⟩ : ∃ x : Int32, x = (xb_i h2 x0 8) := ⟨_, rfl⟩
    have hw := hw v4 ev4
    refine xt_numi (y := v4) ev4.symm ?_
    refine lv_istore_n hx hb (xb_d D_Machine_go 9 rfl) rfl hl (by decide) rfl (fun ls hl => ?_)
    have hl : lv_has ls 3 [(2, .int v4), (0, .ref x0), (1, .int x1)] := hl
    refine lv_aload_n hx hb (xb_d D_Machine_go 10 rfl) rfl (lv_at hl 1 rfl) ?_
    refine lv_iconst (v := (-1)) hx hb (xb_d D_Machine_go 11 rfl) (by decide) ?_
    refine xb_putI (C := R_Machine) (T := F_Machine) (N := 18) (ty := .int) (x := (-1)) hx hb 7 8 hts fin_Machine t_Machine t_Machine_ok n_Machine hown hR hS hk1 (by decide) rfl (by decide) rfl (hts _ m_71c815d4) (fun _ h9 => h9) rfl (by decide +kernel) rfl rfl (xb_d D_Machine_go 12 rfl) (fun H locs hR hS => ?_)
    obtain ⟨h5, eh5⟩ : ∃ x : xb_H, x = xb_I h2 x0 8 (-1) := ⟨_, rfl⟩
    rw [← eh5] at hR
    have hw := hw h5 eh5
    have hE : xb_ext h0 h5 := by rw [eh5]; exact hE
    refine lv_aload_n hx hb (xb_d D_Machine_go 13 rfl) rfl (lv_at hl 1 rfl) ?_
    refine lv_iload_n hx hb (xb_d D_Machine_go 14 rfl) rfl (lv_at hl 0 rfl) ?_
    refine lv_iconst (v := 0) hx hb (xb_d D_Machine_go 15 rfl) (by decide) ?_
    have hk1 : xb_k h5 x0 = 8 := by rw [eh5]; exact hk1
    refine xb_call (D := D) (A := A) (σ := σ) (h := h5) (d := 6) (mc := bc) (ms := bs) (maxL := 10) (rest := []) (av := [.ref x0, .int v4, .int 0]) (fun T hT X => by obtain ⟨cb9, ra9, rb9, rc9⟩ := xb_recv (ci := 7) hR rfl hk1 (by decide); exact xt_invV X hx hown (hts _ m_2e977ee7) (hts _ m_0a404550) (hts _ m_a0a488ae) (xt_sigOf (hts _ m_f3390e9e)) nm_Machine_call (by rw [hT]; exact ra9) rb9 rc9 (g := F0 m 26 ls [.int 0, .int v4, .ref x0]) rfl (argsL := [.int v4, .int 0]) (rest := []) rfl rfl (by rw [hb]; exact (xb_d D_Machine_go 16 rfl))) (ok_Machine_call l hfl D A σ x0 v4 0 h5 bc bs _ hw) (hml.trans hl.1.symm) (by rw [hb]; exact (xb_d D_Machine_go 16 rfl)) (Nat.le_of_ble_eq_true rfl) (Nat.le_of_ble_eq_true rfl) (Nat.le_of_ble_eq_true rfl) (show k + bc ≤ MC by omega) (show n + bs ≤ MS by omega) (xt_w1 hB.1 m_f3390e9e) (xt_cdOf hB.1 m_f3390e9e) (hts _ m_73451f9b) hB hR hS hA (fun vv h6 bc7 bs7 kk7 nn7 H locs hk7 hn7 hq hEh6 hR hS => ?_) (fun XX ax h6 bc7 bs7 kk7 nn7 H locs hk7 hn7 hq hEh6 hex hR hS => ?_)
    · obtain ⟨rfl, hw⟩ := hq
      have hw := hw hEh6
      have hE := hE.tr hEh6
      refine W.eq (g2 := F0 m 29 ls []) rfl ?_
      exact am_Machine_go_L29 l hfl D A σ MC MS h0 Qr x0 x1 h6 bc7 bs7 hw p e s m args below meth c hC H locs ls (k + kk7) (n + nn7) hE (lv_sub hl [1, 2] rfl) hR hS (by omega) (by omega)
    · exact False.elim hq

theorem m_bc98340a : (.methodLink "StackHostLaw" 38 y_H_instantiate : Cond) ∈ xt_tbl := xt_in (xt_t6 (List.mem_of_getElem? (i := 103) (by decide +kernel))) (by decide +kernel)
theorem m_bb139735 : (.instanceMethod y_H_instantiate : Cond) ∈ xt_tbl := xt_in (xt_t6 (List.mem_of_getElem? (i := 104) (by decide +kernel))) (by decide +kernel)
theorem m_92663d79 : (.selects "StackHost" y_H_instantiate y_H_instantiate : Cond) ∈ xt_tbl := xt_in (xt_t6 (List.mem_of_getElem? (i := 105) (by decide +kernel))) (by decide +kernel)
theorem m_5048f999 : (.code y_H_instantiate b_H_instantiate 4 (some .int) : Cond) ∈ xt_tbl := xt_in (xt_t6 (List.mem_of_getElem? (i := 106) (by decide +kernel))) (by decide +kernel)
theorem nm_H_instantiate : xt_nm y_H_instantiate 1 := ⟨by decide +kernel, by decide +kernel⟩
set_option maxRecDepth 100000 in
def T_Law_instantiate : List (Nat × Instr × Nat) := [(0, .aload_n 2, 1), (1, .iconst 0, 1), (2, .aload_n 0, 1), (3, .iload_n 1, 1), (4, .invokevirtual 38, 3), (7, .i2l, 1), (8, .lastore, 1), (9, .goto 9, 3), (12, .astore_n 3, 1), (13, .iconst 1, 1), (14, .ireturn, 1), (15, .astore_n 3, 1), (16, .iconst 2, 1), (17, .ireturn, 1), (18, .iconst 0, 1), (19, .ireturn, 1)]
theorem D_Law_instantiate : ∀ q ∈ T_Law_instantiate, decode b_Law_instantiate q.1 = .ok (q.2.1, q.2.2) := by decide +kernel

set_option maxHeartbeats 4000000 in
set_option maxRecDepth 100000 in
theorem ok_Law_instantiate (l : Launch) (hfl : l.flags = pinnedFlags ++ [noTraceFlag]) (D : va_G) (A : Nat → Prop) (σ : Nat) (x0 : Nat) (x1 : Int32) (x2 : Nat) (h : xb_H) (bc : Nat) (bs : Nat) (Qr : Int32 → xb_H → Nat → Nat → Prop) (hw : w_Law_instantiate σ x0 x1 x2 h bc bs Qr) : xb_Met l y_Law_instantiate [.codeWith y_Law_instantiate b_Law_instantiate 4 (some .int) [(0, 9, 12, 29), (0, 9, 15, 13)]] (xb_rm 9 bc bs) (xb_Pc D A σ h [.ref x0, .int x1, .ref x2]) (xb_Qc D A h bc bs (fun v h bc bs => ∃ r, v = some (.int r) ∧ Qr r h bc bs) (fun _ _ _ _ => False)) A := by
  refine xb_ofAmH (cc := b_Law_instantiate) (by decide) (Nat.le_of_ble_eq_true rfl) ?_
  unfold w_Law_instantiate at hw
  show xb_am l D A σ 9 bc bs h (fun v h bc bs => ∃ r, v = some (.int r) ∧ Qr r h bc bs) (fun _ _ _ _ => False) y_Law_instantiate.cls y_Law_instantiate.name b_Law_instantiate 4 (tableOf [(0, 9, 12, 29), (0, 9, 15, 13)]) (some .int) 0 [(0, .ref x0), (1, .int x1), (2, .ref x2)] [] h bc bs
  obtain ⟨MC, hMC⟩ : ∃ x, x = bc := ⟨_, rfl⟩
  obtain ⟨MS, hMS⟩ : ∃ x, x = bs := ⟨_, rfl⟩
  rw [show xb_am l D A σ 9 bc bs = xb_am l D A σ 9 MC MS by rw [hMC, hMS]]
  obtain ⟨h0, hh0⟩ : ∃ x, x = h := ⟨_, rfl⟩
  rw [show xb_am l D A σ 9 MC MS h = xb_am l D A σ 9 MC MS h0 by rw [hh0]]
  intro p e s m args below meth c hC H locs ls k n hE hl hR hS hk hn
  obtain ⟨hx, hb, hown, hlocks, htab, hml, hr, hB, hA, hnm⟩ := id hC
  have hts := hB.1.1.at args
  refine lv_aload_n hx hb (xb_d D_Law_instantiate 0 rfl) rfl (lv_at hl 2 rfl) ?_
  refine lv_iconst (v := 0) hx hb (xb_d D_Law_instantiate 1 rfl) (by decide) ?_
  refine lv_aload_n hx hb (xb_d D_Law_instantiate 2 rfl) rfl (lv_at hl 0 rfl) ?_
  refine lv_iload_n hx hb (xb_d D_Law_instantiate 3 rfl) rfl (lv_at hl 1 rfl) ?_
  obtain ⟨hk1, hw⟩ := hw
  refine xb_call (D := D) (A := A) (σ := σ) (h := h) (d := 8) (mc := bc) (ms := bs) (maxL := 4) (rest := [.int 0, .ref x2]) (av := [.ref x0, .int x1]) (fun T hT X => by obtain ⟨cb9, ra9, rb9, rc9⟩ := xb_recv (ci := 0) hR rfl hk1 (by decide); exact xt_invV X hx hown (hts _ m_bc98340a) (hts _ m_bb139735) (hts _ m_92663d79) (xt_sigOf (hts _ m_5048f999)) nm_H_instantiate (by rw [hT]; exact ra9) rb9 rc9 (g := F0 m 4 ls [.int x1, .ref x0, .int 0, .ref x2]) rfl (argsL := [.int x1]) (rest := [.int 0, .ref x2]) rfl rfl (by rw [hb]; exact (xb_d D_Law_instantiate 4 rfl))) (ok_H_instantiate l hfl D A σ x0 x1 h bc bs _ _ hw) (hml.trans hl.1.symm) (by rw [hb]; exact (xb_d D_Law_instantiate 4 rfl)) (Nat.le_of_ble_eq_true rfl) (Nat.le_of_ble_eq_true rfl) (Nat.le_of_ble_eq_true rfl) (show k + bc ≤ MC by omega) (show n + bs ≤ MS by omega) (xt_w1 hB.1 m_5048f999) (xt_cdOf hB.1 m_5048f999) (hts _ m_ba0734f5) hB hR hS hA (fun vv h2 bc3 bs3 kk3 nn3 H locs hk3 hn3 hq hEh2 hR hS => ?_) (fun XX ax h2 bc3 bs3 kk3 nn3 H locs hk3 hn3 hq hEh2 hex hR hS => ?_)
  · obtain ⟨r3, rfl, hw⟩ := hq
    have hw := hw hEh2
    have hE := hE.tr hEh2
    refine W.eq (g2 := F0 m 7 ls [.int r3, .int 0, .ref x2]) rfl ?_
    refine lv_i2l hx hb (xb_d D_Law_instantiate 5 rfl) rfl ?_
    obtain ⟨hk4, hw⟩ := hw
    obtain ⟨hi5, hw⟩ := hw
    refine xb_last hx hb hR hS hk4 hi5 (xb_d D_Law_instantiate 6 rfl) (fun H locs hR hS => ?_)
    obtain ⟨h6, eh6⟩ : ∃ x : xb_H, x = xb_L h2 x2 (Int32.toNatClampNeg 0) (Int32.toInt64 r3) := ⟨_, rfl⟩
    rw [← eh6] at hR
    have hw := hw h6 eh6
    have hE : xb_ext h0 h6 := by rw [eh6]; exact hE
    refine lv_goto (tgt := 18) hx hb (xb_d D_Law_instantiate 7 rfl) rfl ?_
    refine lv_iconst (v := 0) hx hb (xb_d D_Law_instantiate 14 rfl) (by decide) ?_
    exact xb_iret bc3 bs3 hx hb hr hlocks (show (k + kk3) + bc3 ≤ MC by omega) (show (n + nn3) + bs3 ≤ MS by omega) hE hR hS (xb_d D_Law_instantiate 15 rfl) hw
  · have hw := hq hEh2 ax
    have hE := hE.tr hEh2
    rcases hw with ⟨rfl, hw⟩ | ⟨rfl, hw⟩
    · refine xt_catch2 (own := "StackHostLaw") (name1 := "java/lang/IndexOutOfBoundsException") (name := "java/lang/IllegalStateException") (Xn := "java/lang/IllegalStateException") hown ⟨0, 9, 12, 29⟩ ⟨0, 9, 15, 13⟩ [] htab (by decide) (by decide) (by decide) (by decide) (hts _ m_17a0b3c6) (xb_nc hB "java/lang/IllegalStateException" "java/lang/IndexOutOfBoundsException" (by decide +kernel)) (hts _ m_cd065aea) (hts _ m_a4ef0ec8) hex ?_
      refine W.eq (g2 := F0 m 15 ls [.ref ax]) rfl ?_
      refine lv_astore_n hx hb (xb_d D_Law_instantiate 11 rfl) rfl hl (by decide) rfl (fun ls hl => ?_)
      have hl : lv_has ls 4 [(3, .ref ax), (0, .ref x0), (1, .int x1), (2, .ref x2)] := hl
      refine lv_iconst (v := 2) hx hb (xb_d D_Law_instantiate 12 rfl) (by decide) ?_
      exact xb_iret bc3 bs3 hx hb hr hlocks (show (k + kk3) + bc3 ≤ MC by omega) (show (n + nn3) + bs3 ≤ MS by omega) hE hR hS (xb_d D_Law_instantiate 13 rfl) hw
    · refine xt_catch (own := "StackHostLaw") (name := "java/lang/IndexOutOfBoundsException") (Xn := "java/lang/IndexOutOfBoundsException") hown ⟨0, 9, 12, 29⟩ [⟨0, 9, 15, 13⟩] htab (by decide) (by decide) (hts _ m_17a0b3c6) (hts _ m_b0d3d118) hex ?_
      refine W.eq (g2 := F0 m 12 ls [.ref ax]) rfl ?_
      refine lv_astore_n hx hb (xb_d D_Law_instantiate 8 rfl) rfl hl (by decide) rfl (fun ls hl => ?_)
      have hl : lv_has ls 4 [(3, .ref ax), (0, .ref x0), (1, .int x1), (2, .ref x2)] := hl
      refine lv_iconst (v := 1) hx hb (xb_d D_Law_instantiate 9 rfl) (by decide) ?_
      exact xb_iret bc3 bs3 hx hb hr hlocks (show (k + kk3) + bc3 ≤ MC by omega) (show (n + nn3) + bs3 ≤ MS by omega) hE hR hS (xb_d D_Law_instantiate 10 rfl) hw

theorem m_36f12bf0 : (.methodLink "StackHostModel" 697 y_M_branch : Cond) ∈ xt_tbl := xt_in (xt_t13 (List.mem_of_getElem? (i := 154) (by decide +kernel))) (by decide +kernel)
theorem m_cb58d8a1 : (.instanceMethod y_M_branch : Cond) ∈ xt_tbl := xt_in (xt_t13 (List.mem_of_getElem? (i := 156) (by decide +kernel))) (by decide +kernel)
theorem m_c5c944a0 : (.selects "StackHostModel" y_M_branch y_M_branch : Cond) ∈ xt_tbl := xt_in (xt_v17 (q := (⟨"StackHostModel", "branch", "(J)V"⟩, 97)) (List.mem_of_getElem? (i := 11) (by decide +kernel))) (by decide +kernel)
theorem m_0889f0dc : (.code y_M_branch b_M_branch 8 none : Cond) ∈ xt_tbl := xt_in (xt_t13 (List.mem_of_getElem? (i := 157) (by decide +kernel))) (by decide +kernel)
theorem nm_M_branch : xt_nm y_M_branch 1 := ⟨by decide +kernel, by decide +kernel⟩
set_option maxRecDepth 100000 in
def T_M_byTable : List (Nat × Instr × Nat) := [(0, .aload_n 0, 1), (1, .invokevirtual 218, 3), (4, .lstore_n 1, 1), (5, .aload_n 0, 1), (6, .getfield 202, 3), (9, .istore_n 3, 1), (10, .aload_n 0, 1), (11, .bipush 127, 2), (13, .invokevirtual 634, 3), (16, .ldc2_w 517, 3), (19, .land, 1), (20, .lstore 4, 2), (22, .aload_n 0, 1), (23, .iload_n 3, 1), (24, .putfield 202, 3), (27, .lconst 0, 1), (28, .lstore 6, 2), (30, .lconst 0, 1), (31, .lstore 8, 2), (33, .lload 8, 2), (35, .lload_n 1, 1), (36, .lcmp, 1), (37, .ifCond .gt 35, 3), (40, .aload_n 0, 1), (41, .invokevirtual 218, 3), (44, .lstore 10, 2), (46, .lload 8, 2), (48, .lload 4, 2), (50, .lcmp, 1), (51, .ifCond .gt 8, 3), (54, .lload 10, 2), (56, .goto 5, 3), (59, .lload 6, 2), (61, .lstore 6, 2), (63, .lload 8, 2), (65, .lconst 1, 1), (66, .ladd, 1), (67, .lstore 8, 2), (69, .goto (-36), 3), (72, .aload_n 0, 1), (73, .lload 6, 2), (75, .invokevirtual 697, 3), (78, .return_, 1)]
theorem D_M_byTable : ∀ q ∈ T_M_byTable, decode b_M_byTable q.1 = .ok (q.2.1, q.2.2) := by decide +kernel

set_option maxHeartbeats 4000000 in
set_option maxRecDepth 100000 in
theorem am_M_byTable_L61 (l : Launch) (hfl : l.flags = pinnedFlags ++ [noTraceFlag]) (D : va_G) (A : Nat → Prop) (σ MC MS : Nat) (h0 : xb_H) (Qr : xb_H → Prop) (K33 : Nat → Int64 → Int64 → Int64 → Int64 → xb_H → Prop) (hK33 : ∀ (x0 : Nat) (x1 : Int64) (x4 : Int64) (x6 : Int64) (x8 : Int64) (h : xb_H), K33 x0 x1 x4 x6 x8 h → xb_am l D A σ 9 MC MS h0 (fun v h _ _ => v = none ∧ Qr h) (fun _ _ _ _ => False) y_M_byTable.cls y_M_byTable.name b_M_byTable 12 ([] : List ExceptionTableEntry) none 33 [(0, .ref x0), (1, .long x1), (4, .long x4), (6, .long x6), (8, .long x8)] [] h 0 0) (x0 : Nat) (x1 : Int64) (x4 : Int64) (x8 : Int64) (y0 : Int64) (h : xb_H) (hw : w_M_byTable_L61 K33 Qr x0 x1 x4 x8 y0 h) : xb_am l D A σ 9 MC MS h0 (fun v h _ _ => v = none ∧ Qr h) (fun _ _ _ _ => False) y_M_byTable.cls y_M_byTable.name b_M_byTable 12 ([] : List ExceptionTableEntry) none 61 [(0, .ref x0), (1, .long x1), (4, .long x4), (8, .long x8)] [.long y0] h 0 0 := by
  unfold w_M_byTable_L61 at hw
  intro p e s m args below meth c hC H locs ls k n hE hl hR hS hk hn
  obtain ⟨hx, hb, hown, hlocks, htab, hml, hr, hB, hA, hnm⟩ := id hC
  have hts := hB.1.1.at args
  refine lv_lstore hx hb (xb_d D_M_byTable 33 rfl) hl (by decide) rfl (fun ls hl => ?_)
  have hl : lv_has ls 12 [(6, .long y0), (0, .ref x0), (1, .long x1), (4, .long x4), (8, .long x8)] := hl
  refine lv_lload hx hb (xb_d D_M_byTable 34 rfl) (lv_at hl 4 rfl) ?_
  refine lv_lconst (v := 1) hx hb (xb_d D_M_byTable 35 rfl) (by decide) ?_
  refine lv_ladd hx hb (xb_d D_M_byTable 36 rfl) ?_
  obtain ⟨v1, ev1⟩ : ∃ x : Int64, x = (x8 + 1) := ⟨_, rfl⟩
  have hw := hw v1 ev1
  refine xt_numl (y := v1) ev1.symm ?_
  refine lv_lstore hx hb (xb_d D_M_byTable 37 rfl) hl (by decide) rfl (fun ls hl => ?_)
  have hl : lv_has ls 12 [(8, .long v1), (6, .long y0), (0, .ref x0), (1, .long x1), (4, .long x4)] := hl
  refine lv_goto (tgt := 33) hx hb (xb_d D_M_byTable 38 rfl) rfl ?_
  exact hK33 x0 x1 x4 y0 v1 h hw p e s m args below meth c hC H locs ls k n hE (lv_sub hl [2, 3, 4, 1, 0] rfl) hR hS (by omega) (by omega)

set_option maxHeartbeats 4000000 in
set_option maxRecDepth 100000 in
theorem am_M_byTable_L33 (l : Launch) (hfl : l.flags = pinnedFlags ++ [noTraceFlag]) (D : va_G) (A : Nat → Prop) (σ MC MS : Nat) (h0 : xb_H) (Qr : xb_H → Prop) (n9 : Nat) : ∀ (x0 : Nat) (x1 : Int64) (x4 : Int64) (x6 : Int64) (x8 : Int64) (h : xb_H), w_M_byTable_L33 Qr n9 x0 x1 x4 x6 x8 h → xb_am l D A σ 9 MC MS h0 (fun v h _ _ => v = none ∧ Qr h) (fun _ _ _ _ => False) y_M_byTable.cls y_M_byTable.name b_M_byTable 12 ([] : List ExceptionTableEntry) none 33 [(0, .ref x0), (1, .long x1), (4, .long x4), (6, .long x6), (8, .long x8)] [] h 0 0 := by
  induction n9 with
  | zero => intro x0 x1 x4 x6 x8 h hw; exact False.elim hw
  | succ n9 ih =>
    intro x0 x1 x4 x6 x8 h hw
    unfold w_M_byTable_L33 at hw
    intro p e s m args below meth c hC H locs ls k n hE hl hR hS hk hn
    obtain ⟨hx, hb, hown, hlocks, htab, hml, hr, hB, hA, hnm⟩ := id hC
    have hts := hB.1.1.at args
    refine lv_lload hx hb (xb_d D_M_byTable 19 rfl) (lv_at hl 4 rfl) ?_
    refine lv_lload_n hx hb (xb_d D_M_byTable 20 rfl) rfl (lv_at hl 1 rfl) ?_
    refine xb_lc_gt (tgt := 72) hx hb (xb_d D_M_byTable 21 rfl) (xb_d D_M_byTable 22 rfl) rfl (fun hc1 => ?_) (fun hc1 => ?_)
    · have hw := hw.1 hc1
      refine lv_aload_n hx hb (xb_d D_M_byTable 39 rfl) rfl (lv_at hl 0 rfl) ?_
      refine lv_lload hx hb (xb_d D_M_byTable 40 rfl) (lv_at hl 3 rfl) ?_
      obtain ⟨hk2, hw⟩ := hw
      refine xb_call0 (D := D) (A := A) (σ := σ) (h := h) (d := 8) (maxL := 8) (rest := []) (av := [.ref x0, .long x6]) (fun T hT X => by obtain ⟨cb9, ra9, rb9, rc9⟩ := xb_recv (ci := 8) hR rfl hk2 (by decide); exact xt_invV X hx hown (hts _ m_36f12bf0) (hts _ m_cb58d8a1) (hts _ m_c5c944a0) (xt_sigOf (hts _ m_0889f0dc)) nm_M_branch (by rw [hT]; exact ra9) rb9 rc9 (g := F0 m 75 ls [.long x6, .ref x0]) rfl (argsL := [.long x6]) (rest := []) rfl rfl (by rw [hb]; exact (xb_d D_M_byTable 41 rfl))) (ok_M_branch l hfl D A σ x0 x6 h _ hw) (hml.trans hl.1.symm) (by rw [hb]; exact (xb_d D_M_byTable 41 rfl)) (Nat.le_of_ble_eq_true rfl) (Nat.le_of_ble_eq_true rfl) (Nat.le_of_ble_eq_true rfl) (show k ≤ MC by omega) (show n ≤ MS by omega) (xt_w1 hB.1 m_0889f0dc) (xt_cdOf hB.1 m_0889f0dc) (hts _ m_d5ed7bed) hB hR hS hA (fun vv h3 H locs hq hEh3 hR hS => ?_)
      obtain ⟨rfl, hw⟩ := hq
      have hw := hw hEh3
      have hE := hE.tr hEh3
      refine W.eq (g2 := F0 m 78 ls []) rfl ?_
      exact xb_vret 0 0 hx hb hr hlocks (show k + 0 ≤ MC by omega) (show n + 0 ≤ MS by omega) hE hR hS (xb_d D_M_byTable 42 rfl) hw
    · have hw := hw.2 hc1
      refine lv_aload_n hx hb (xb_d D_M_byTable 23 rfl) rfl (lv_at hl 0 rfl) ?_
      obtain ⟨hk5, hw⟩ := hw
      refine xb_call0 (D := D) (A := A) (σ := σ) (h := h) (d := 4) (maxL := 5) (rest := []) (av := [.ref x0]) (fun T hT X => by obtain ⟨cb9, ra9, rb9, rc9⟩ := xb_recv (ci := 8) hR rfl hk5 (by decide); exact xt_invV X hx hown (hts _ m_e991293f) (hts _ m_385a74b3) (hts _ m_c9fbcd02) (xt_sigOf (hts _ m_1f53f210)) nm_M_count (by rw [hT]; exact ra9) rb9 rc9 (g := F0 m 41 ls [.ref x0]) rfl (argsL := []) (rest := []) rfl rfl (by rw [hb]; exact (xb_d D_M_byTable 24 rfl))) (ok_M_count l hfl D A σ x0 h _ hw) (hml.trans hl.1.symm) (by rw [hb]; exact (xb_d D_M_byTable 24 rfl)) (Nat.le_of_ble_eq_true rfl) (Nat.le_of_ble_eq_true rfl) (Nat.le_of_ble_eq_true rfl) (show k ≤ MC by omega) (show n ≤ MS by omega) (xt_w1 hB.1 m_1f53f210) (xt_cdOf hB.1 m_1f53f210) (hts _ m_d5ed7bed) hB hR hS hA (fun vv h6 H locs hq hEh6 hR hS => ?_)
      obtain ⟨r7, rfl, hw⟩ := hq
      have hw := hw hEh6
      have hE := hE.tr hEh6
      refine W.eq (g2 := F0 m 44 ls [.long r7]) rfl ?_
      refine lv_lstore hx hb (xb_d D_M_byTable 25 rfl) hl (by decide) rfl (fun ls hl => ?_)
      have hl : lv_has ls 12 [(10, .long r7), (0, .ref x0), (1, .long x1), (4, .long x4), (6, .long x6), (8, .long x8)] := hl
      refine lv_lload hx hb (xb_d D_M_byTable 26 rfl) (lv_at hl 5 rfl) ?_
      refine lv_lload hx hb (xb_d D_M_byTable 27 rfl) (lv_at hl 3 rfl) ?_
      refine xb_lc_gt (tgt := 59) hx hb (xb_d D_M_byTable 28 rfl) (xb_d D_M_byTable 29 rfl) rfl (fun hc8 => ?_) (fun hc8 => ?_)
      · have hw := hw.1 hc8
        refine lv_lload hx hb (xb_d D_M_byTable 32 rfl) (lv_at hl 4 rfl) ?_
        exact am_M_byTable_L61 l hfl D A σ MC MS h0 Qr (w_M_byTable_L33 Qr n9) ih x0 x1 x4 x8 x6 h6 hw p e s m args below meth c hC H locs ls k n hE (lv_sub hl [1, 2, 3, 5] rfl) hR hS (by omega) (by omega)
      · have hw := hw.2 hc8
        refine lv_lload hx hb (xb_d D_M_byTable 30 rfl) (lv_at hl 0 rfl) ?_
        refine lv_goto (tgt := 61) hx hb (xb_d D_M_byTable 31 rfl) rfl ?_
        exact am_M_byTable_L61 l hfl D A σ MC MS h0 Qr (w_M_byTable_L33 Qr n9) ih x0 x1 x4 x8 r7 h6 hw p e s m args below meth c hC H locs ls k n hE (lv_sub hl [1, 2, 3, 5] rfl) hR hS (by omega) (by omega)

set_option maxHeartbeats 4000000 in
set_option maxRecDepth 100000 in
theorem ok_M_byTable (l : Launch) (hfl : l.flags = pinnedFlags ++ [noTraceFlag]) (D : va_G) (A : Nat → Prop) (σ : Nat) (x0 : Nat) (h : xb_H) (Qr : xb_H → Prop) (hw : w_M_byTable x0 h Qr) : xb_Met l y_M_byTable [.code y_M_byTable b_M_byTable 12 none] (xb_rm 9 0 0) (xb_Pc D A σ h [.ref x0]) (xb_Qc D A h 0 0 (fun v h _ _ => v = none ∧ Qr h) (fun _ _ _ _ => False)) A := by
  refine xb_ofAm (cc := b_M_byTable) (by decide) (Nat.le_of_ble_eq_true rfl) ?_
  unfold w_M_byTable at hw
  show xb_am l D A σ 9 0 0 h (fun v h _ _ => v = none ∧ Qr h) (fun _ _ _ _ => False) y_M_byTable.cls y_M_byTable.name b_M_byTable 12 ([] : List ExceptionTableEntry) none 0 [(0, .ref x0)] [] h 0 0
  obtain ⟨MC, hMC⟩ : ∃ x, x = 0 := ⟨_, rfl⟩
  obtain ⟨MS, hMS⟩ : ∃ x, x = 0 := ⟨_, rfl⟩
  rw [show xb_am l D A σ 9 0 0 = xb_am l D A σ 9 MC MS by rw [hMC, hMS]]
  obtain ⟨h0, hh0⟩ : ∃ x, x = h := ⟨_, rfl⟩
  rw [show xb_am l D A σ 9 MC MS h = xb_am l D A σ 9 MC MS h0 by rw [hh0]]
  intro p e s m args below meth c hC H locs ls k n hE hl hR hS hk hn
  obtain ⟨hx, hb, hown, hlocks, htab, hml, hr, hB, hA, hnm⟩ := id hC
  have hts := hB.1.1.at args
  refine lv_aload_n hx hb (xb_d D_M_byTable 0 rfl) rfl (lv_at hl 0 rfl) ?_
  obtain ⟨hk1, hw⟩ := hw
  refine xb_call0 (D := D) (A := A) (σ := σ) (h := h) (d := 4) (maxL := 5) (rest := []) (av := [.ref x0]) (fun T hT X => by obtain ⟨cb9, ra9, rb9, rc9⟩ := xb_recv (ci := 8) hR rfl hk1 (by decide); exact xt_invV X hx hown (hts _ m_e991293f) (hts _ m_385a74b3) (hts _ m_c9fbcd02) (xt_sigOf (hts _ m_1f53f210)) nm_M_count (by rw [hT]; exact ra9) rb9 rc9 (g := F0 m 1 ls [.ref x0]) rfl (argsL := []) (rest := []) rfl rfl (by rw [hb]; exact (xb_d D_M_byTable 1 rfl))) (ok_M_count l hfl D A σ x0 h _ hw) (hml.trans hl.1.symm) (by rw [hb]; exact (xb_d D_M_byTable 1 rfl)) (Nat.le_of_ble_eq_true rfl) (Nat.le_of_ble_eq_true rfl) (Nat.le_of_ble_eq_true rfl) (show k ≤ MC by omega) (show n ≤ MS by omega) (xt_w1 hB.1 m_1f53f210) (xt_cdOf hB.1 m_1f53f210) (hts _ m_d5ed7bed) hB hR hS hA (fun vv h2 H locs hq hEh2 hR hS => ?_)
  obtain ⟨r3, rfl, hw⟩ := hq
  have hw := hw hEh2
  have hE := hE.tr hEh2
  refine W.eq (g2 := F0 m 4 ls [.long r3]) rfl ?_
  refine lv_lstore_n hx hb (xb_d D_M_byTable 2 rfl) rfl hl (by decide) rfl (fun ls hl => ?_)
  have hl : lv_has ls 12 [(1, .long r3), (0, .ref x0)] := hl
  refine lv_aload_n hx hb (xb_d D_M_byTable 3 rfl) rfl (lv_at hl 1 rfl) ?_
  have hk1 : xb_k h2 x0 = 9 := hEh2.k hk1
  refine xb_getI (C := R_M) (T := F_M) (N := 97) hx hb 8 15 hts fin_M hown hR hk1 (by decide) rfl (by decide) rfl (hts _ m_6c2d27ad) (fun _ h9 => h9) (xb_d D_M_byTable 4 rfl) ?_
  obtain ⟨v4, ev4⟩ : ∃ x : Int32, x = (xb_i h2 x0 15) := ⟨_, rfl⟩
  have hw := hw v4 ev4
  refine xt_numi (y := v4) ev4.symm ?_
  refine lv_istore_n hx hb (xb_d D_M_byTable 5 rfl) rfl hl (by decide) rfl (fun ls hl => ?_)
  have hl : lv_has ls 12 [(3, .int v4), (1, .long r3), (0, .ref x0)] := hl
  refine lv_aload_n hx hb (xb_d D_M_byTable 6 rfl) rfl (lv_at hl 2 rfl) ?_
  refine lv_bipush (v := 127) hx hb (xb_d D_M_byTable 7 rfl) (by decide) ?_
  refine xb_call0 (D := D) (A := A) (σ := σ) (h := h2) (d := 2) (maxL := 2) (rest := []) (av := [.ref x0, .int 127]) (fun T hT X => by obtain ⟨cb9, ra9, rb9, rc9⟩ := xb_recv (ci := 8) hR rfl hk1 (by decide); exact xt_invV X hx hown (hts _ m_ce40dc40) (hts _ m_c3a002b8) (hts _ m_395c99b5) (xt_sigOf (hts _ m_1ea89357)) nm_M_pop (by rw [hT]; exact ra9) rb9 rc9 (g := F0 m 13 ls [.int 127, .ref x0]) rfl (argsL := [.int 127]) (rest := []) rfl rfl (by rw [hb]; exact (xb_d D_M_byTable 8 rfl))) (ok_M_pop l hfl D A σ x0 127 h2 _ hw) (hml.trans hl.1.symm) (by rw [hb]; exact (xb_d D_M_byTable 8 rfl)) (Nat.le_of_ble_eq_true rfl) (Nat.le_of_ble_eq_true rfl) (Nat.le_of_ble_eq_true rfl) (show k ≤ MC by omega) (show n ≤ MS by omega) (xt_w1 hB.1 m_1ea89357) (xt_cdOf hB.1 m_1ea89357) (hts _ m_d5ed7bed) hB hR hS hA (fun vv h5 H locs hq hEh5 hR hS => ?_)
  obtain ⟨r6, rfl, hw⟩ := hq
  have hw := hw hEh5
  have hE := hE.tr hEh5
  refine W.eq (g2 := F0 m 16 ls [.long r6]) rfl ?_
  refine lv_ldc2 (v := 4294967295) hx hb hown (hts _ m_92d51c6a) (xb_d D_M_byTable 9 rfl) ?_
  refine lv_land hx hb (xb_d D_M_byTable 10 rfl) ?_
  obtain ⟨v7, ev7⟩ : ∃ x : Int64, x = (r6 &&& 4294967295) := ⟨_, rfl⟩
  have hw := hw v7 ev7
  refine xt_numl (y := v7) ev7.symm ?_
  refine lv_lstore hx hb (xb_d D_M_byTable 11 rfl) hl (by decide) rfl (fun ls hl => ?_)
  have hl : lv_has ls 12 [(4, .long v7), (3, .int v4), (1, .long r3), (0, .ref x0)] := hl
  refine lv_aload_n hx hb (xb_d D_M_byTable 12 rfl) rfl (lv_at hl 3 rfl) ?_
  refine lv_iload_n hx hb (xb_d D_M_byTable 13 rfl) rfl (lv_at hl 1 rfl) ?_
  have hk1 : xb_k h5 x0 = 9 := hEh5.k hk1
  refine xb_putI (C := R_M) (T := F_M) (N := 97) (ty := .int) (x := v4) hx hb 8 15 hts fin_M t_M t_M_ok n_M hown hR hS hk1 (by decide) rfl (by decide) rfl (hts _ m_6c2d27ad) (fun _ h9 => h9) rfl (by decide +kernel) rfl rfl (xb_d D_M_byTable 14 rfl) (fun H locs hR hS => ?_)
  obtain ⟨h8, eh8⟩ : ∃ x : xb_H, x = xb_I h5 x0 15 v4 := ⟨_, rfl⟩
  rw [← eh8] at hR
  have hw := hw h8 eh8
  have hE : xb_ext h0 h8 := by rw [eh8]; exact hE
  refine lv_lconst (v := 0) hx hb (xb_d D_M_byTable 15 rfl) (by decide) ?_
  refine lv_lstore hx hb (xb_d D_M_byTable 16 rfl) hl (by decide) rfl (fun ls hl => ?_)
  have hl : lv_has ls 12 [(6, .long 0), (4, .long v7), (3, .int v4), (1, .long r3), (0, .ref x0)] := hl
  refine lv_lconst (v := 0) hx hb (xb_d D_M_byTable 17 rfl) (by decide) ?_
  refine lv_lstore hx hb (xb_d D_M_byTable 18 rfl) hl (by decide) rfl (fun ls hl => ?_)
  have hl : lv_has ls 12 [(8, .long 0), (6, .long 0), (4, .long v7), (3, .int v4), (1, .long r3), (0, .ref x0)] := hl
  obtain ⟨n8, hw⟩ := hw
  exact am_M_byTable_L33 l hfl D A σ MC MS h0 Qr n8 x0 r3 v7 0 0 h8 hw p e s m args below meth c hC H locs ls k n hE (lv_sub hl [5, 4, 2, 1, 0] rfl) hR hS (by omega) (by omega)

