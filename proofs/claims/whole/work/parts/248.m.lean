theorem m_126cb4c9 : (.methodLink "StackHostModel" 651 y_M_call : Cond) ∈ xt_tbl := xt_in (xt_t12 (List.mem_of_getElem? (i := 166) (by decide +kernel))) (by decide +kernel)
theorem m_811b7936 : (.instanceMethod y_M_call : Cond) ∈ xt_tbl := xt_in (xt_t12 (List.mem_of_getElem? (i := 168) (by decide +kernel))) (by decide +kernel)
theorem m_879535a0 : (.selects "StackHostModel" y_M_call y_M_call : Cond) ∈ xt_tbl := xt_in (xt_v14 (q := (⟨"StackHostModel", "call", "(I)V"⟩, 97)) (List.mem_of_getElem? (i := 11) (by decide +kernel))) (by decide +kernel)
theorem m_650a8028 : (.code y_M_call b_M_call 10 none : Cond) ∈ xt_tbl := xt_in (xt_t12 (List.mem_of_getElem? (i := 169) (by decide +kernel))) (by decide +kernel)
theorem nm_M_call : xt_nm y_M_call 1 := ⟨by decide +kernel, by decide +kernel⟩
set_option maxRecDepth 100000 in
def T_M_calling : List (Nat × Instr × Nat) := [(0, .aload_n 0, 1), (1, .getfield 62, 3), (4, .iload_n 2, 1), (5, .iaload, 1), (6, .istore 4, 2), (8, .iload_n 3, 1), (9, .bipush 26, 2), (11, .if_icmp .eq 9, 3), (14, .iload_n 3, 1), (15, .bipush 27, 2), (17, .if_icmp .ne 98, 3), (20, .iload_n 3, 1), (21, .bipush 27, 2), (23, .if_icmp .ne 12, 3), (26, .aload_n 0, 1), (27, .bipush 127, 2), (29, .invokevirtual 634, 3), (32, .goto 4, 3), (35, .lconst 0, 1), (36, .lstore 5, 2), (38, .aload_n 0, 1), (39, .getfield 607, 3), (42, .ifCond .le 17, 3), (45, .aload_n 0, 1), (46, .getfield 157, 3), (49, .aload_n 0, 1), (50, .getfield 607, 3), (53, .iconst 1, 1), (54, .isub, 1), (55, .baload, 1), (56, .goto 5, 3), (59, .bipush 127, 2), (61, .istore 7, 2), (63, .aload_n 0, 1), (64, .iconst 0, 1), (65, .invokevirtual 634, 3), (68, .lstore 8, 2), (70, .iload_n 3, 1), (71, .bipush 27, 2), (73, .if_icmp .ne 31, 3), (76, .aload_n 0, 1), (77, .iload 7, 2), (79, .invokevirtual 634, 3), (82, .lstore 10, 2), (84, .aload_n 0, 1), (85, .lload 5, 2), (87, .lconst 0, 1), (88, .lcmp, 1), (89, .ifCond .eq 8, 3), (92, .lload 10, 2), (94, .goto 5, 3), (97, .lload 8, 2), (99, .iload 7, 2), (101, .invokevirtual 628, 3), (104, .aload_n 0, 1), (105, .getfield 142, 3), (108, .iload_n 1, 1), (109, .aload_n 0, 1), (110, .getfield 202, 3), (113, .iastore, 1), (114, .return_, 1), (115, .aload_n 0, 1), (116, .invokevirtual 218, 3), (119, .l2i, 1), (120, .istore 5, 2), (122, .iconst 0, 1), (123, .istore 6, 2), (125, .iload_n 3, 1), (126, .bipush 16, 2), (128, .if_icmp .ne 26, 3), (131, .aload_n 0, 1), (132, .getfield 142, 3), (135, .iload_n 1, 1), (136, .aload_n 0, 1), (137, .getfield 202, 3), (140, .iastore, 1), (141, .aload_n 0, 1), (142, .iload_n 2, 1), (143, .iconst 0, 1), (144, .iload 5, 2), (146, .invokevirtual 479, 3), (149, .istore 6, 2), (151, .goto 139, 3), (154, .aload_n 0, 1), (155, .getfield 142, 3), (158, .iload_n 1, 1), (159, .aload_n 0, 1), (160, .getfield 202, 3), (163, .iconst 1, 1), (164, .iadd, 1), (165, .iastore, 1), (166, .aload_n 0, 1), (167, .bipush 127, 2), (169, .invokevirtual 634, 3), (172, .ldc2_w 517, 3), (175, .land, 1), (176, .lstore 7, 2), (178, .aload_n 0, 1), (179, .iload_n 2, 1), (180, .iconst 1, 1), (181, .invokevirtual 522, 3), (184, .istore 9, 2), (186, .lload 7, 2), (188, .aload_n 0, 1), (189, .getfield 101, 3), (192, .iload 9, 2), (194, .iaload, 1), (195, .i2l, 1), (196, .lcmp, 1), (197, .ifCond .ge 22, 3), (200, .aload_n 0, 1), (201, .getfield 108, 3), (204, .aload_n 0, 1), (205, .getfield 98, 3), (208, .iload 9, 2), (210, .iaload, 1), (211, .lload 7, 2), (213, .l2i, 1), (214, .iadd, 1), (215, .iaload, 1), (216, .goto 4, 3), (219, .iconst 0, 1), (220, .istore 10, 2), (222, .aload_n 0, 1), (223, .lload 7, 2), (225, .aload_n 0, 1), (226, .getfield 101, 3), (229, .iload 9, 2), (231, .iaload, 1), (232, .i2l, 1), (233, .lcmp, 1), (234, .ifCond .lt 8, 3), (237, .bipush 6, 2), (239, .goto 34, 3), (242, .iload 10, 2), (244, .ifCond .ne 8, 3), (247, .bipush 7, 2), (249, .goto 24, 3), (252, .aload_n 0, 1), (253, .iload 10, 2), (255, .iconst 1, 1), (256, .isub, 1), (257, .iload 4, 2), (259, .iload 5, 2), (261, .invokevirtual 496, 3), (264, .ifCond .ne 8, 3), (267, .bipush 8, 2), (269, .goto 4, 3), (272, .iconst 0, 1), (273, .putfield 625, 3), (276, .aload_n 0, 1), (277, .getfield 625, 3), (280, .ifCond .le 4, 3), (283, .return_, 1), (284, .iload 10, 2), (286, .iconst 1, 1), (287, .isub, 1), (288, .istore 6, 2), (290, .aload_n 0, 1), (291, .iload 6, 2), (293, .invokevirtual 651, 3), (296, .return_, 1)]
theorem D_M_calling : ∀ q ∈ T_M_calling, decode b_M_calling q.1 = .ok (q.2.1, q.2.2) := by decide +kernel

set_option maxHeartbeats 4000000 in
set_option maxRecDepth 100000 in
theorem am_M_calling_L290 (l : Launch) (hfl : l.flags = pinnedFlags ++ [noTraceFlag]) (D : va_G) (A : Nat → Prop) (σ MC MS : Nat) (h0 : xb_H) (Qr : xb_H → Prop) (x0 : Nat) (x6 : Int32) (h : xb_H) (hw : w_M_calling_L290 Qr x0 x6 h) : xb_am l D A σ 11 MC MS h0 (fun v h _ _ => v = none ∧ Qr h) (fun _ _ _ _ => False) y_M_calling.cls y_M_calling.name b_M_calling 12 ([] : List ExceptionTableEntry) none 290 [(0, .ref x0), (6, .int x6)] [] h 0 0 := by
  unfold w_M_calling_L290 at hw
  intro p e s m args below meth c hC H locs ls k n hE hl hR hS hk hn
  obtain ⟨hx, hb, hown, hlocks, htab, hml, hr, hB, hA, hnm⟩ := id hC
  have hts := hB.1.1.at args
  refine lv_aload_n hx hb (xb_d D_M_calling 158 rfl) rfl (lv_at hl 0 rfl) ?_
  refine lv_iload hx hb (xb_d D_M_calling 159 rfl) (lv_at hl 1 rfl) ?_
  obtain ⟨hk1, hw⟩ := hw
  refine xb_call0 (D := D) (A := A) (σ := σ) (h := h) (d := 10) (maxL := 10) (rest := []) (av := [.ref x0, .int x6]) (fun T hT X => by obtain ⟨cb9, ra9, rb9, rc9⟩ := xb_recv (ci := 8) hR rfl hk1 (by decide); exact xt_invV X hx hown (hts _ m_126cb4c9) (hts _ m_811b7936) (hts _ m_879535a0) (xt_sigOf (hts _ m_650a8028)) nm_M_call (by rw [hT]; exact ra9) rb9 rc9 (g := F0 m 293 ls [.int x6, .ref x0]) rfl (argsL := [.int x6]) (rest := []) rfl rfl (by rw [hb]; exact (xb_d D_M_calling 160 rfl))) (ok_M_call l hfl D A σ x0 x6 h _ hw) (hml.trans hl.1.symm) (by rw [hb]; exact (xb_d D_M_calling 160 rfl)) (Nat.le_of_ble_eq_true rfl) (Nat.le_of_ble_eq_true rfl) (Nat.le_of_ble_eq_true rfl) (show k ≤ MC by omega) (show n ≤ MS by omega) (xt_w1 hB.1 m_650a8028) (xt_cdOf hB.1 m_650a8028) (hts _ m_d5ed7bed) hB hR hS hA (fun vv h2 H locs hq hEh2 hR hS => ?_)
  obtain ⟨rfl, hw⟩ := hq
  have hw := hw hEh2
  have hE := hE.tr hEh2
  refine W.eq (g2 := F0 m 296 ls []) rfl ?_
  exact xb_vret 0 0 hx hb hr hlocks (show k + 0 ≤ MC by omega) (show n + 0 ≤ MS by omega) hE hR hS (xb_d D_M_calling 161 rfl) hw

set_option maxHeartbeats 4000000 in
set_option maxRecDepth 100000 in
theorem am_M_calling_L273 (l : Launch) (hfl : l.flags = pinnedFlags ++ [noTraceFlag]) (D : va_G) (A : Nat → Prop) (σ MC MS : Nat) (h0 : xb_H) (Qr : xb_H → Prop) (x0 : Nat) (x10 : Int32) (y0 : Int32) (y1 : Nat) (h : xb_H) (hw : w_M_calling_L273 Qr x0 x10 y0 y1 h) : xb_am l D A σ 11 MC MS h0 (fun v h _ _ => v = none ∧ Qr h) (fun _ _ _ _ => False) y_M_calling.cls y_M_calling.name b_M_calling 12 ([] : List ExceptionTableEntry) none 273 [(0, .ref x0), (10, .int x10)] [.int y0, .ref y1] h 0 0 := by
  unfold w_M_calling_L273 at hw
  intro p e s m args below meth c hC H locs ls k n hE hl hR hS hk hn
  obtain ⟨hx, hb, hown, hlocks, htab, hml, hr, hB, hA, hnm⟩ := id hC
  have hts := hB.1.1.at args
  obtain ⟨hk1, hw⟩ := hw
  refine xb_putI (C := R_M) (T := F_M) (N := 97) (ty := .int) (x := y0) hx hb 8 82 hts fin_M t_M t_M_ok n_M hown hR hS hk1 (by decide) rfl (by decide) rfl (hts _ m_ad343437) (fun _ h9 => h9) rfl (by decide +kernel) rfl rfl (xb_d D_M_calling 149 rfl) (fun H locs hR hS => ?_)
  obtain ⟨h2, eh2⟩ : ∃ x : xb_H, x = xb_I h y1 82 y0 := ⟨_, rfl⟩
  rw [← eh2] at hR
  have hw := hw h2 eh2
  have hE : xb_ext h0 h2 := by rw [eh2]; exact hE
  refine lv_aload_n hx hb (xb_d D_M_calling 150 rfl) rfl (lv_at hl 0 rfl) ?_
  obtain ⟨hk3, hw⟩ := hw
  refine xb_getI (C := R_M) (T := F_M) (N := 97) hx hb 8 82 hts fin_M hown hR hk3 (by decide) rfl (by decide) rfl (hts _ m_ad343437) (fun _ h9 => h9) (xb_d D_M_calling 151 rfl) ?_
  refine lv_if_le (tgt := 284) hx hb (xb_d D_M_calling 152 rfl) rfl (fun hc4 => ?_) (fun hc4 => ?_)
  · have hw := hw.1 hc4
    refine lv_iload hx hb (xb_d D_M_calling 154 rfl) (lv_at hl 1 rfl) ?_
    refine lv_iconst (v := 1) hx hb (xb_d D_M_calling 155 rfl) (by decide) ?_
    refine lv_isub hx hb (xb_d D_M_calling 156 rfl) ?_
    obtain ⟨v5, ev5⟩ : ∃ x : Int32, x = (x10 - 1) := ⟨_, rfl⟩
    have hw := hw v5 ev5
    refine xt_numi (y := v5) ev5.symm ?_
    refine lv_istore hx hb (xb_d D_M_calling 157 rfl) hl (by decide) rfl (fun ls hl => ?_)
    have hl : lv_has ls 12 [(6, .int v5), (0, .ref x0), (10, .int x10)] := hl
    exact am_M_calling_L290 l hfl D A σ MC MS h0 Qr x0 v5 h2 hw p e s m args below meth c hC H locs ls k n hE (lv_sub hl [1, 0] rfl) hR hS (by omega) (by omega)
  · have hw := hw.2 hc4
    exact xb_vret 0 0 hx hb hr hlocks (show k + 0 ≤ MC by omega) (show n + 0 ≤ MS by omega) hE hR hS (xb_d D_M_calling 153 rfl) hw

set_option maxHeartbeats 4000000 in
set_option maxRecDepth 100000 in
theorem am_M_calling_L220 (l : Launch) (hfl : l.flags = pinnedFlags ++ [noTraceFlag]) (D : va_G) (A : Nat → Prop) (σ MC MS : Nat) (h0 : xb_H) (Qr : xb_H → Prop) (x0 : Nat) (x4 : Int32) (x5 : Int32) (x7 : Int64) (x9 : Int32) (y0 : Int32) (h : xb_H) (hw : w_M_calling_L220 Qr x0 x4 x5 x7 x9 y0 h) : xb_am l D A σ 11 MC MS h0 (fun v h _ _ => v = none ∧ Qr h) (fun _ _ _ _ => False) y_M_calling.cls y_M_calling.name b_M_calling 12 ([] : List ExceptionTableEntry) none 220 [(0, .ref x0), (4, .int x4), (5, .int x5), (7, .long x7), (9, .int x9)] [.int y0] h 0 0 := by
  unfold w_M_calling_L220 at hw
  intro p e s m args below meth c hC H locs ls k n hE hl hR hS hk hn
  obtain ⟨hx, hb, hown, hlocks, htab, hml, hr, hB, hA, hnm⟩ := id hC
  have hts := hB.1.1.at args
  refine lv_istore hx hb (xb_d D_M_calling 122 rfl) hl (by decide) rfl (fun ls hl => ?_)
  have hl : lv_has ls 12 [(10, .int y0), (0, .ref x0), (4, .int x4), (5, .int x5), (7, .long x7), (9, .int x9)] := hl
  refine lv_aload_n hx hb (xb_d D_M_calling 123 rfl) rfl (lv_at hl 1 rfl) ?_
  refine lv_lload hx hb (xb_d D_M_calling 124 rfl) (lv_at hl 4 rfl) ?_
  refine lv_aload_n hx hb (xb_d D_M_calling 125 rfl) rfl (lv_at hl 1 rfl) ?_
  obtain ⟨hk1, hw⟩ := hw
  refine xb_getP (C := R_M) (T := F_M) (N := 97) hx hb 8 49 hts fin_M hown hR hk1 (by decide) rfl (by decide) rfl (hts _ m_0c329d74) (fun _ h9 => h9) (xb_d D_M_calling 126 rfl) ?_
  obtain ⟨b2, eb2, hw⟩ := hw
  refine xb_some eb2 ?_
  refine lv_iload hx hb (xb_d D_M_calling 127 rfl) (lv_at hl 5 rfl) ?_
  obtain ⟨hk4, hw⟩ := hw
  obtain ⟨hi3, hw⟩ := hw
  refine xb_iald hx hb hR hk4 hi3 (xb_d D_M_calling 128 rfl) ?_
  refine lv_i2l hx hb (xb_d D_M_calling 129 rfl) rfl ?_
  refine xb_lc_lt (tgt := 242) hx hb (xb_d D_M_calling 130 rfl) (xb_d D_M_calling 131 rfl) rfl (fun hc5 => ?_) (fun hc5 => ?_)
  · have hw := hw.1 hc5
    refine lv_iload hx hb (xb_d D_M_calling 134 rfl) (lv_at hl 0 rfl) ?_
    refine lv_if_ne (tgt := 252) hx hb (xb_d D_M_calling 135 rfl) rfl (fun hc6 => ?_) (fun hc6 => ?_)
    · have hw := hw.1 hc6
      refine lv_aload_n hx hb (xb_d D_M_calling 138 rfl) rfl (lv_at hl 1 rfl) ?_
      refine lv_iload hx hb (xb_d D_M_calling 139 rfl) (lv_at hl 0 rfl) ?_
      refine lv_iconst (v := 1) hx hb (xb_d D_M_calling 140 rfl) (by decide) ?_
      refine lv_isub hx hb (xb_d D_M_calling 141 rfl) ?_
      refine lv_iload hx hb (xb_d D_M_calling 142 rfl) (lv_at hl 2 rfl) ?_
      refine lv_iload hx hb (xb_d D_M_calling 143 rfl) (lv_at hl 3 rfl) ?_
      refine xb_call0 (D := D) (A := A) (σ := σ) (h := h) (d := 9) (maxL := 5) (rest := [.ref x0]) (av := [.ref x0, .int (y0 - 1), .int x4, .int x5]) (fun T hT X => by obtain ⟨cb9, ra9, rb9, rc9⟩ := xb_recv (ci := 8) hR rfl hk1 (by decide); exact xt_invV X hx hown (hts _ m_71b2c3db) (hts _ m_1d48feed) (hts _ m_628c5dc3) (xt_sigOf (hts _ m_f3efd3e1)) nm_M_hasType (by rw [hT]; exact ra9) rb9 rc9 (g := F0 m 261 ls [.int x5, .int x4, .int (y0 - 1), .ref x0, .ref x0]) rfl (argsL := [.int (y0 - 1), .int x4, .int x5]) (rest := [.ref x0]) rfl rfl (by rw [hb]; exact (xb_d D_M_calling 144 rfl))) (ok_M_hasType l hfl D A σ x0 (y0 - 1) x4 x5 h _ hw) (hml.trans hl.1.symm) (by rw [hb]; exact (xb_d D_M_calling 144 rfl)) (Nat.le_of_ble_eq_true rfl) (Nat.le_of_ble_eq_true rfl) (Nat.le_of_ble_eq_true rfl) (show k ≤ MC by omega) (show n ≤ MS by omega) (xt_w1 hB.1 m_f3efd3e1) (xt_cdOf hB.1 m_f3efd3e1) (hts _ m_d5ed7bed) hB hR hS hA (fun vv h7 H locs hq hEh7 hR hS => ?_)
      obtain ⟨r8, rfl, hw⟩ := hq
      have hw := hw hEh7
      have hE := hE.tr hEh7
      refine W.eq (g2 := F0 m 264 ls [.int r8, .ref x0]) rfl ?_
      refine lv_if_ne (tgt := 272) hx hb (xb_d D_M_calling 145 rfl) rfl (fun hc9 => ?_) (fun hc9 => ?_)
      · have hw := hw.1 hc9
        refine lv_iconst (v := 0) hx hb (xb_d D_M_calling 148 rfl) (by decide) ?_
        exact am_M_calling_L273 l hfl D A σ MC MS h0 Qr x0 y0 0 x0 h7 hw p e s m args below meth c hC H locs ls k n hE (lv_sub hl [1, 0] rfl) hR hS (by omega) (by omega)
      · have hw := hw.2 hc9
        refine lv_bipush (v := 8) hx hb (xb_d D_M_calling 146 rfl) (by decide) ?_
        refine lv_goto (tgt := 273) hx hb (xb_d D_M_calling 147 rfl) rfl ?_
        exact am_M_calling_L273 l hfl D A σ MC MS h0 Qr x0 y0 8 x0 h7 hw p e s m args below meth c hC H locs ls k n hE (lv_sub hl [1, 0] rfl) hR hS (by omega) (by omega)
    · have hw := hw.2 hc6
      refine lv_bipush (v := 7) hx hb (xb_d D_M_calling 136 rfl) (by decide) ?_
      refine lv_goto (tgt := 273) hx hb (xb_d D_M_calling 137 rfl) rfl ?_
      exact am_M_calling_L273 l hfl D A σ MC MS h0 Qr x0 y0 7 x0 h hw p e s m args below meth c hC H locs ls k n hE (lv_sub hl [1, 0] rfl) hR hS (by omega) (by omega)
  · have hw := hw.2 hc5
    refine lv_bipush (v := 6) hx hb (xb_d D_M_calling 132 rfl) (by decide) ?_
    refine lv_goto (tgt := 273) hx hb (xb_d D_M_calling 133 rfl) rfl ?_
    exact am_M_calling_L273 l hfl D A σ MC MS h0 Qr x0 y0 6 x0 h hw p e s m args below meth c hC H locs ls k n hE (lv_sub hl [1, 0] rfl) hR hS (by omega) (by omega)

set_option maxHeartbeats 4000000 in
set_option maxRecDepth 100000 in
theorem am_M_calling_L104 (l : Launch) (hfl : l.flags = pinnedFlags ++ [noTraceFlag]) (D : va_G) (A : Nat → Prop) (σ MC MS : Nat) (h0 : xb_H) (Qr : xb_H → Prop) (x0 : Nat) (x1 : Int32) (h : xb_H) (hw : w_M_calling_L104 Qr x0 x1 h) : xb_am l D A σ 11 MC MS h0 (fun v h _ _ => v = none ∧ Qr h) (fun _ _ _ _ => False) y_M_calling.cls y_M_calling.name b_M_calling 12 ([] : List ExceptionTableEntry) none 104 [(0, .ref x0), (1, .int x1)] [] h 0 0 := by
  unfold w_M_calling_L104 at hw
  intro p e s m args below meth c hC H locs ls k n hE hl hR hS hk hn
  obtain ⟨hx, hb, hown, hlocks, htab, hml, hr, hB, hA, hnm⟩ := id hC
  have hts := hB.1.1.at args
  refine lv_aload_n hx hb (xb_d D_M_calling 54 rfl) rfl (lv_at hl 0 rfl) ?_
  obtain ⟨hk1, hw⟩ := hw
  refine xb_getP (C := R_M) (T := F_M) (N := 97) hx hb 8 70 hts fin_M hown hR hk1 (by decide) rfl (by decide) rfl (hts _ m_ab98e9c9) (fun _ h9 => h9) (xb_d D_M_calling 55 rfl) ?_
  obtain ⟨b2, eb2, hw⟩ := hw
  refine xb_some eb2 ?_
  refine lv_iload_n hx hb (xb_d D_M_calling 56 rfl) rfl (lv_at hl 1 rfl) ?_
  refine lv_aload_n hx hb (xb_d D_M_calling 57 rfl) rfl (lv_at hl 0 rfl) ?_
  refine xb_getI (C := R_M) (T := F_M) (N := 97) hx hb 8 15 hts fin_M hown hR hk1 (by decide) rfl (by decide) rfl (hts _ m_6c2d27ad) (fun _ h9 => h9) (xb_d D_M_calling 58 rfl) ?_
  obtain ⟨hk3, hw⟩ := hw
  obtain ⟨hi4, hw⟩ := hw
  refine xb_iast hx hb hR hS hk3 hi4 (xb_d D_M_calling 59 rfl) (fun H locs hR hS => ?_)
  obtain ⟨h5, eh5⟩ : ∃ x : xb_H, x = xb_I h b2 (Int32.toNatClampNeg x1) (xb_i h x0 15) := ⟨_, rfl⟩
  rw [← eh5] at hR
  have hw := hw h5 eh5
  have hE : xb_ext h0 h5 := by rw [eh5]; exact hE
  exact xb_vret 0 0 hx hb hr hlocks (show k + 0 ≤ MC by omega) (show n + 0 ≤ MS by omega) hE hR hS (xb_d D_M_calling 60 rfl) hw

set_option maxHeartbeats 4000000 in
set_option maxRecDepth 100000 in
theorem am_M_calling_L99 (l : Launch) (hfl : l.flags = pinnedFlags ++ [noTraceFlag]) (D : va_G) (A : Nat → Prop) (σ MC MS : Nat) (h0 : xb_H) (Qr : xb_H → Prop) (x0 : Nat) (x1 : Int32) (x7 : Int32) (y0 : Int64) (y1 : Nat) (h : xb_H) (hw : w_M_calling_L99 Qr x0 x1 x7 y0 y1 h) : xb_am l D A σ 11 MC MS h0 (fun v h _ _ => v = none ∧ Qr h) (fun _ _ _ _ => False) y_M_calling.cls y_M_calling.name b_M_calling 12 ([] : List ExceptionTableEntry) none 99 [(0, .ref x0), (1, .int x1), (7, .int x7)] [.long y0, .ref y1] h 0 0 := by
  unfold w_M_calling_L99 at hw
  intro p e s m args below meth c hC H locs ls k n hE hl hR hS hk hn
  obtain ⟨hx, hb, hown, hlocks, htab, hml, hr, hB, hA, hnm⟩ := id hC
  have hts := hB.1.1.at args
  refine lv_iload hx hb (xb_d D_M_calling 52 rfl) (lv_at hl 2 rfl) ?_
  obtain ⟨hk1, hw⟩ := hw
  refine xb_call0 (D := D) (A := A) (σ := σ) (h := h) (d := 2) (maxL := 4) (rest := []) (av := [.ref y1, .long y0, .int x7]) (fun T hT X => by obtain ⟨cb9, ra9, rb9, rc9⟩ := xb_recv (ci := 8) hR rfl hk1 (by decide); exact xt_invV X hx hown (hts _ m_1dd22d11) (hts _ m_e8ae1713) (hts _ m_973b740a) (xt_sigOf (hts _ m_a0d5a63e)) nm_M_add (by rw [hT]; exact ra9) rb9 rc9 (g := F0 m 101 ls [.int x7, .long y0, .ref y1]) rfl (argsL := [.long y0, .int x7]) (rest := []) rfl rfl (by rw [hb]; exact (xb_d D_M_calling 53 rfl))) (ok_M_add l hfl D A σ y1 y0 x7 h _ hw) (hml.trans hl.1.symm) (by rw [hb]; exact (xb_d D_M_calling 53 rfl)) (Nat.le_of_ble_eq_true rfl) (Nat.le_of_ble_eq_true rfl) (Nat.le_of_ble_eq_true rfl) (show k ≤ MC by omega) (show n ≤ MS by omega) (xt_w1 hB.1 m_a0d5a63e) (xt_cdOf hB.1 m_a0d5a63e) (hts _ m_d5ed7bed) hB hR hS hA (fun vv h2 H locs hq hEh2 hR hS => ?_)
  obtain ⟨rfl, hw⟩ := hq
  have hw := hw hEh2
  have hE := hE.tr hEh2
  refine W.eq (g2 := F0 m 104 ls []) rfl ?_
  exact am_M_calling_L104 l hfl D A σ MC MS h0 Qr x0 x1 h2 hw p e s m args below meth c hC H locs ls k n hE (lv_sub hl [0, 1] rfl) hR hS (by omega) (by omega)

set_option maxHeartbeats 4000000 in
set_option maxRecDepth 100000 in
theorem am_M_calling_L61 (l : Launch) (hfl : l.flags = pinnedFlags ++ [noTraceFlag]) (D : va_G) (A : Nat → Prop) (σ MC MS : Nat) (h0 : xb_H) (Qr : xb_H → Prop) (x0 : Nat) (x1 : Int32) (x3 : Int32) (x5 : Int64) (y0 : Int32) (h : xb_H) (hw : w_M_calling_L61 Qr x0 x1 x3 x5 y0 h) : xb_am l D A σ 11 MC MS h0 (fun v h _ _ => v = none ∧ Qr h) (fun _ _ _ _ => False) y_M_calling.cls y_M_calling.name b_M_calling 12 ([] : List ExceptionTableEntry) none 61 [(0, .ref x0), (1, .int x1), (3, .int x3), (5, .long x5)] [.int y0] h 0 0 := by
  unfold w_M_calling_L61 at hw
  intro p e s m args below meth c hC H locs ls k n hE hl hR hS hk hn
  obtain ⟨hx, hb, hown, hlocks, htab, hml, hr, hB, hA, hnm⟩ := id hC
  have hts := hB.1.1.at args
  refine lv_istore hx hb (xb_d D_M_calling 32 rfl) hl (by decide) rfl (fun ls hl => ?_)
  have hl : lv_has ls 12 [(7, .int y0), (0, .ref x0), (1, .int x1), (3, .int x3), (5, .long x5)] := hl
  refine lv_aload_n hx hb (xb_d D_M_calling 33 rfl) rfl (lv_at hl 1 rfl) ?_
  refine lv_iconst (v := 0) hx hb (xb_d D_M_calling 34 rfl) (by decide) ?_
  obtain ⟨hk1, hw⟩ := hw
  refine xb_call0 (D := D) (A := A) (σ := σ) (h := h) (d := 2) (maxL := 2) (rest := []) (av := [.ref x0, .int 0]) (fun T hT X => by obtain ⟨cb9, ra9, rb9, rc9⟩ := xb_recv (ci := 8) hR rfl hk1 (by decide); exact xt_invV X hx hown (hts _ m_ce40dc40) (hts _ m_c3a002b8) (hts _ m_395c99b5) (xt_sigOf (hts _ m_1ea89357)) nm_M_pop (by rw [hT]; exact ra9) rb9 rc9 (g := F0 m 65 ls [.int 0, .ref x0]) rfl (argsL := [.int 0]) (rest := []) rfl rfl (by rw [hb]; exact (xb_d D_M_calling 35 rfl))) (ok_M_pop l hfl D A σ x0 0 h _ hw) (hml.trans hl.1.symm) (by rw [hb]; exact (xb_d D_M_calling 35 rfl)) (Nat.le_of_ble_eq_true rfl) (Nat.le_of_ble_eq_true rfl) (Nat.le_of_ble_eq_true rfl) (show k ≤ MC by omega) (show n ≤ MS by omega) (xt_w1 hB.1 m_1ea89357) (xt_cdOf hB.1 m_1ea89357) (hts _ m_d5ed7bed) hB hR hS hA (fun vv h2 H locs hq hEh2 hR hS => ?_)
  obtain ⟨r3, rfl, hw⟩ := hq
  have hw := hw hEh2
  have hE := hE.tr hEh2
  refine W.eq (g2 := F0 m 68 ls [.long r3]) rfl ?_
  refine lv_lstore hx hb (xb_d D_M_calling 36 rfl) hl (by decide) rfl (fun ls hl => ?_)
  have hl : lv_has ls 12 [(8, .long r3), (7, .int y0), (0, .ref x0), (1, .int x1), (3, .int x3), (5, .long x5)] := hl
  refine lv_iload_n hx hb (xb_d D_M_calling 37 rfl) rfl (lv_at hl 4 rfl) ?_
  refine lv_bipush (v := 27) hx hb (xb_d D_M_calling 38 rfl) (by decide) ?_
  refine lv_icmp_ne (tgt := 104) hx hb (xb_d D_M_calling 39 rfl) rfl (fun hc4 => ?_) (fun hc4 => ?_)
  · have hw := hw.1 hc4
    exact am_M_calling_L104 l hfl D A σ MC MS h0 Qr x0 x1 h2 hw p e s m args below meth c hC H locs ls k n hE (lv_sub hl [2, 3] rfl) hR hS (by omega) (by omega)
  · have hw := hw.2 hc4
    refine lv_aload_n hx hb (xb_d D_M_calling 40 rfl) rfl (lv_at hl 2 rfl) ?_
    refine lv_iload hx hb (xb_d D_M_calling 41 rfl) (lv_at hl 1 rfl) ?_
    have hk1 : xb_k h2 x0 = 9 := hEh2.k hk1
    refine xb_call0 (D := D) (A := A) (σ := σ) (h := h2) (d := 2) (maxL := 2) (rest := []) (av := [.ref x0, .int y0]) (fun T hT X => by obtain ⟨cb9, ra9, rb9, rc9⟩ := xb_recv (ci := 8) hR rfl hk1 (by decide); exact xt_invV X hx hown (hts _ m_ce40dc40) (hts _ m_c3a002b8) (hts _ m_395c99b5) (xt_sigOf (hts _ m_1ea89357)) nm_M_pop (by rw [hT]; exact ra9) rb9 rc9 (g := F0 m 79 ls [.int y0, .ref x0]) rfl (argsL := [.int y0]) (rest := []) rfl rfl (by rw [hb]; exact (xb_d D_M_calling 42 rfl))) (ok_M_pop l hfl D A σ x0 y0 h2 _ hw) (hml.trans hl.1.symm) (by rw [hb]; exact (xb_d D_M_calling 42 rfl)) (Nat.le_of_ble_eq_true rfl) (Nat.le_of_ble_eq_true rfl) (Nat.le_of_ble_eq_true rfl) (show k ≤ MC by omega) (show n ≤ MS by omega) (xt_w1 hB.1 m_1ea89357) (xt_cdOf hB.1 m_1ea89357) (hts _ m_d5ed7bed) hB hR hS hA (fun vv h5 H locs hq hEh5 hR hS => ?_)
    obtain ⟨r6, rfl, hw⟩ := hq
    have hw := hw hEh5
    have hE := hE.tr hEh5
    refine W.eq (g2 := F0 m 82 ls [.long r6]) rfl ?_
    refine lv_lstore hx hb (xb_d D_M_calling 43 rfl) hl (by decide) rfl (fun ls hl => ?_)
    have hl : lv_has ls 12 [(10, .long r6), (8, .long r3), (7, .int y0), (0, .ref x0), (1, .int x1), (3, .int x3), (5, .long x5)] := hl
    refine lv_aload_n hx hb (xb_d D_M_calling 44 rfl) rfl (lv_at hl 3 rfl) ?_
    refine lv_lload hx hb (xb_d D_M_calling 45 rfl) (lv_at hl 6 rfl) ?_
    refine lv_lconst (v := 0) hx hb (xb_d D_M_calling 46 rfl) (by decide) ?_
    refine xb_lc_eq (tgt := 97) hx hb (xb_d D_M_calling 47 rfl) (xb_d D_M_calling 48 rfl) rfl (fun hc7 => ?_) (fun hc7 => ?_)
    · have hw := hw.1 hc7
      refine lv_lload hx hb (xb_d D_M_calling 51 rfl) (lv_at hl 1 rfl) ?_
      exact am_M_calling_L99 l hfl D A σ MC MS h0 Qr x0 x1 y0 r3 x0 h5 hw p e s m args below meth c hC H locs ls k n hE (lv_sub hl [3, 4, 2] rfl) hR hS (by omega) (by omega)
    · have hw := hw.2 hc7
      refine lv_lload hx hb (xb_d D_M_calling 49 rfl) (lv_at hl 0 rfl) ?_
      refine lv_goto (tgt := 99) hx hb (xb_d D_M_calling 50 rfl) rfl ?_
      exact am_M_calling_L99 l hfl D A σ MC MS h0 Qr x0 x1 y0 r6 x0 h5 hw p e s m args below meth c hC H locs ls k n hE (lv_sub hl [3, 4, 2] rfl) hR hS (by omega) (by omega)

set_option maxHeartbeats 4000000 in
set_option maxRecDepth 100000 in
theorem am_M_calling_L36 (l : Launch) (hfl : l.flags = pinnedFlags ++ [noTraceFlag]) (D : va_G) (A : Nat → Prop) (σ MC MS : Nat) (h0 : xb_H) (Qr : xb_H → Prop) (x0 : Nat) (x1 : Int32) (x3 : Int32) (y0 : Int64) (h : xb_H) (hw : w_M_calling_L36 Qr x0 x1 x3 y0 h) : xb_am l D A σ 11 MC MS h0 (fun v h _ _ => v = none ∧ Qr h) (fun _ _ _ _ => False) y_M_calling.cls y_M_calling.name b_M_calling 12 ([] : List ExceptionTableEntry) none 36 [(0, .ref x0), (1, .int x1), (3, .int x3)] [.long y0] h 0 0 := by
  unfold w_M_calling_L36 at hw
  intro p e s m args below meth c hC H locs ls k n hE hl hR hS hk hn
  obtain ⟨hx, hb, hown, hlocks, htab, hml, hr, hB, hA, hnm⟩ := id hC
  have hts := hB.1.1.at args
  refine lv_lstore hx hb (xb_d D_M_calling 19 rfl) hl (by decide) rfl (fun ls hl => ?_)
  have hl : lv_has ls 12 [(5, .long y0), (0, .ref x0), (1, .int x1), (3, .int x3)] := hl
  refine lv_aload_n hx hb (xb_d D_M_calling 20 rfl) rfl (lv_at hl 1 rfl) ?_
  obtain ⟨hk1, hw⟩ := hw
  refine xb_getI (C := R_M) (T := F_M) (N := 97) hx hb 8 76 hts fin_M hown hR hk1 (by decide) rfl (by decide) rfl (hts _ m_d6ddfcd8) (fun _ h9 => h9) (xb_d D_M_calling 21 rfl) ?_
  refine lv_if_le (tgt := 59) hx hb (xb_d D_M_calling 22 rfl) rfl (fun hc2 => ?_) (fun hc2 => ?_)
  · have hw := hw.1 hc2
    refine lv_bipush (v := 127) hx hb (xb_d D_M_calling 31 rfl) (by decide) ?_
    exact am_M_calling_L61 l hfl D A σ MC MS h0 Qr x0 x1 x3 y0 127 h hw p e s m args below meth c hC H locs ls k n hE (lv_sub hl [1, 2, 3, 0] rfl) hR hS (by omega) (by omega)
  · have hw := hw.2 hc2
    refine lv_aload_n hx hb (xb_d D_M_calling 23 rfl) rfl (lv_at hl 1 rfl) ?_
    refine xb_getP (C := R_M) (T := F_M) (N := 97) hx hb 8 75 hts fin_M hown hR hk1 (by decide) rfl (by decide) rfl (hts _ m_6b215119) (fun _ h9 => h9) (xb_d D_M_calling 24 rfl) ?_
    obtain ⟨b3, eb3, hw⟩ := hw
    refine xb_some eb3 ?_
    refine lv_aload_n hx hb (xb_d D_M_calling 25 rfl) rfl (lv_at hl 1 rfl) ?_
    refine xb_getI (C := R_M) (T := F_M) (N := 97) hx hb 8 76 hts fin_M hown hR hk1 (by decide) rfl (by decide) rfl (hts _ m_d6ddfcd8) (fun _ h9 => h9) (xb_d D_M_calling 26 rfl) ?_
    refine lv_iconst (v := 1) hx hb (xb_d D_M_calling 27 rfl) (by decide) ?_
    refine lv_isub hx hb (xb_d D_M_calling 28 rfl) ?_
    obtain ⟨hk5, hw⟩ := hw
    obtain ⟨hi4, hw⟩ := hw
    refine xb_bald hx hb hR hk5 hi4 (xb_d D_M_calling 29 rfl) ?_
    refine lv_goto (tgt := 61) hx hb (xb_d D_M_calling 30 rfl) rfl ?_
    exact am_M_calling_L61 l hfl D A σ MC MS h0 Qr x0 x1 x3 y0 (xb_i h b3 (Int32.toNatClampNeg ((xb_i h x0 76) - 1))) h hw p e s m args below meth c hC H locs ls k n hE (lv_sub hl [1, 2, 3, 0] rfl) hR hS (by omega) (by omega)

set_option maxHeartbeats 4000000 in
set_option maxRecDepth 100000 in
theorem am_M_calling_L20 (l : Launch) (hfl : l.flags = pinnedFlags ++ [noTraceFlag]) (D : va_G) (A : Nat → Prop) (σ MC MS : Nat) (h0 : xb_H) (Qr : xb_H → Prop) (x0 : Nat) (x1 : Int32) (x3 : Int32) (h : xb_H) (hw : w_M_calling_L20 Qr x0 x1 x3 h) : xb_am l D A σ 11 MC MS h0 (fun v h _ _ => v = none ∧ Qr h) (fun _ _ _ _ => False) y_M_calling.cls y_M_calling.name b_M_calling 12 ([] : List ExceptionTableEntry) none 20 [(0, .ref x0), (1, .int x1), (3, .int x3)] [] h 0 0 := by
  unfold w_M_calling_L20 at hw
  intro p e s m args below meth c hC H locs ls k n hE hl hR hS hk hn
  obtain ⟨hx, hb, hown, hlocks, htab, hml, hr, hB, hA, hnm⟩ := id hC
  have hts := hB.1.1.at args
  refine lv_iload_n hx hb (xb_d D_M_calling 11 rfl) rfl (lv_at hl 2 rfl) ?_
  refine lv_bipush (v := 27) hx hb (xb_d D_M_calling 12 rfl) (by decide) ?_
  refine lv_icmp_ne (tgt := 35) hx hb (xb_d D_M_calling 13 rfl) rfl (fun hc1 => ?_) (fun hc1 => ?_)
  · have hw := hw.1 hc1
    refine lv_lconst (v := 0) hx hb (xb_d D_M_calling 18 rfl) (by decide) ?_
    exact am_M_calling_L36 l hfl D A σ MC MS h0 Qr x0 x1 x3 0 h hw p e s m args below meth c hC H locs ls k n hE (lv_sub hl [0, 1, 2] rfl) hR hS (by omega) (by omega)
  · have hw := hw.2 hc1
    refine lv_aload_n hx hb (xb_d D_M_calling 14 rfl) rfl (lv_at hl 0 rfl) ?_
    refine lv_bipush (v := 127) hx hb (xb_d D_M_calling 15 rfl) (by decide) ?_
    obtain ⟨hk2, hw⟩ := hw
    refine xb_call0 (D := D) (A := A) (σ := σ) (h := h) (d := 2) (maxL := 2) (rest := []) (av := [.ref x0, .int 127]) (fun T hT X => by obtain ⟨cb9, ra9, rb9, rc9⟩ := xb_recv (ci := 8) hR rfl hk2 (by decide); exact xt_invV X hx hown (hts _ m_ce40dc40) (hts _ m_c3a002b8) (hts _ m_395c99b5) (xt_sigOf (hts _ m_1ea89357)) nm_M_pop (by rw [hT]; exact ra9) rb9 rc9 (g := F0 m 29 ls [.int 127, .ref x0]) rfl (argsL := [.int 127]) (rest := []) rfl rfl (by rw [hb]; exact (xb_d D_M_calling 16 rfl))) (ok_M_pop l hfl D A σ x0 127 h _ hw) (hml.trans hl.1.symm) (by rw [hb]; exact (xb_d D_M_calling 16 rfl)) (Nat.le_of_ble_eq_true rfl) (Nat.le_of_ble_eq_true rfl) (Nat.le_of_ble_eq_true rfl) (show k ≤ MC by omega) (show n ≤ MS by omega) (xt_w1 hB.1 m_1ea89357) (xt_cdOf hB.1 m_1ea89357) (hts _ m_d5ed7bed) hB hR hS hA (fun vv h3 H locs hq hEh3 hR hS => ?_)
    obtain ⟨r4, rfl, hw⟩ := hq
    have hw := hw hEh3
    have hE := hE.tr hEh3
    refine W.eq (g2 := F0 m 32 ls [.long r4]) rfl ?_
    refine lv_goto (tgt := 36) hx hb (xb_d D_M_calling 17 rfl) rfl ?_
    exact am_M_calling_L36 l hfl D A σ MC MS h0 Qr x0 x1 x3 r4 h3 hw p e s m args below meth c hC H locs ls k n hE (lv_sub hl [0, 1, 2] rfl) hR hS (by omega) (by omega)

set_option maxHeartbeats 4000000 in
set_option maxRecDepth 100000 in
theorem ok_M_calling (l : Launch) (hfl : l.flags = pinnedFlags ++ [noTraceFlag]) (D : va_G) (A : Nat → Prop) (σ : Nat) (x0 : Nat) (x1 : Int32) (x2 : Int32) (x3 : Int32) (h : xb_H) (Qr : xb_H → Prop) (hw : w_M_calling x0 x1 x2 x3 h Qr) : xb_Met l y_M_calling [.code y_M_calling b_M_calling 12 none] (xb_rm 11 0 0) (xb_Pc D A σ h [.ref x0, .int x1, .int x2, .int x3]) (xb_Qc D A h 0 0 (fun v h _ _ => v = none ∧ Qr h) (fun _ _ _ _ => False)) A := by
  refine xb_ofAm (cc := b_M_calling) (by decide) (Nat.le_of_ble_eq_true rfl) ?_
  unfold w_M_calling at hw
  show xb_am l D A σ 11 0 0 h (fun v h _ _ => v = none ∧ Qr h) (fun _ _ _ _ => False) y_M_calling.cls y_M_calling.name b_M_calling 12 ([] : List ExceptionTableEntry) none 0 [(0, .ref x0), (1, .int x1), (2, .int x2), (3, .int x3)] [] h 0 0
  obtain ⟨MC, hMC⟩ : ∃ x, x = 0 := ⟨_, rfl⟩
  obtain ⟨MS, hMS⟩ : ∃ x, x = 0 := ⟨_, rfl⟩
  rw [show xb_am l D A σ 11 0 0 = xb_am l D A σ 11 MC MS by rw [hMC, hMS]]
  obtain ⟨h0, hh0⟩ : ∃ x, x = h := ⟨_, rfl⟩
  rw [show xb_am l D A σ 11 MC MS h = xb_am l D A σ 11 MC MS h0 by rw [hh0]]
  intro p e s m args below meth c hC H locs ls k n hE hl hR hS hk hn
  obtain ⟨hx, hb, hown, hlocks, htab, hml, hr, hB, hA, hnm⟩ := id hC
  have hts := hB.1.1.at args
  refine lv_aload_n hx hb (xb_d D_M_calling 0 rfl) rfl (lv_at hl 0 rfl) ?_
  obtain ⟨hk1, hw⟩ := hw
  refine xb_getP (C := R_M) (T := F_M) (N := 97) hx hb 8 31 hts fin_M hown hR hk1 (by decide) rfl (by decide) rfl (hts _ m_691d5f47) (fun _ h9 => h9) (xb_d D_M_calling 1 rfl) ?_
  obtain ⟨b2, eb2, hw⟩ := hw
  refine xb_some eb2 ?_
  refine lv_iload_n hx hb (xb_d D_M_calling 2 rfl) rfl (lv_at hl 2 rfl) ?_
  obtain ⟨hk4, hw⟩ := hw
  obtain ⟨hi3, hw⟩ := hw
  refine xb_iald hx hb hR hk4 hi3 (xb_d D_M_calling 3 rfl) ?_
  obtain ⟨v5, ev5⟩ : ∃ x : Int32, x = (xb_i h b2 (Int32.toNatClampNeg x2)) := ⟨_, rfl⟩
  have hw := hw v5 ev5
  refine xt_numi (y := v5) ev5.symm ?_
  refine lv_istore hx hb (xb_d D_M_calling 4 rfl) hl (by decide) rfl (fun ls hl => ?_)
  have hl : lv_has ls 12 [(4, .int v5), (0, .ref x0), (1, .int x1), (2, .int x2), (3, .int x3)] := hl
  refine lv_iload_n hx hb (xb_d D_M_calling 5 rfl) rfl (lv_at hl 4 rfl) ?_
  refine lv_bipush (v := 26) hx hb (xb_d D_M_calling 6 rfl) (by decide) ?_
  refine lv_icmp_eq (tgt := 20) hx hb (xb_d D_M_calling 7 rfl) rfl (fun hc6 => ?_) (fun hc6 => ?_)
  · have hw := hw.1 hc6
    exact am_M_calling_L20 l hfl D A σ MC MS h0 Qr x0 x1 x3 h hw p e s m args below meth c hC H locs ls k n hE (lv_sub hl [1, 2, 4] rfl) hR hS (by omega) (by omega)
  · have hw := hw.2 hc6
    refine lv_iload_n hx hb (xb_d D_M_calling 8 rfl) rfl (lv_at hl 4 rfl) ?_
    refine lv_bipush (v := 27) hx hb (xb_d D_M_calling 9 rfl) (by decide) ?_
    refine lv_icmp_ne (tgt := 115) hx hb (xb_d D_M_calling 10 rfl) rfl (fun hc7 => ?_) (fun hc7 => ?_)
    · have hw := hw.1 hc7
      refine lv_aload_n hx hb (xb_d D_M_calling 61 rfl) rfl (lv_at hl 1 rfl) ?_
      refine xb_call0 (D := D) (A := A) (σ := σ) (h := h) (d := 4) (maxL := 5) (rest := []) (av := [.ref x0]) (fun T hT X => by obtain ⟨cb9, ra9, rb9, rc9⟩ := xb_recv (ci := 8) hR rfl hk1 (by decide); exact xt_invV X hx hown (hts _ m_e991293f) (hts _ m_385a74b3) (hts _ m_c9fbcd02) (xt_sigOf (hts _ m_1f53f210)) nm_M_count (by rw [hT]; exact ra9) rb9 rc9 (g := F0 m 116 ls [.ref x0]) rfl (argsL := []) (rest := []) rfl rfl (by rw [hb]; exact (xb_d D_M_calling 62 rfl))) (ok_M_count l hfl D A σ x0 h _ hw) (hml.trans hl.1.symm) (by rw [hb]; exact (xb_d D_M_calling 62 rfl)) (Nat.le_of_ble_eq_true rfl) (Nat.le_of_ble_eq_true rfl) (Nat.le_of_ble_eq_true rfl) (show k ≤ MC by omega) (show n ≤ MS by omega) (xt_w1 hB.1 m_1f53f210) (xt_cdOf hB.1 m_1f53f210) (hts _ m_d5ed7bed) hB hR hS hA (fun vv h8 H locs hq hEh8 hR hS => ?_)
      obtain ⟨r9, rfl, hw⟩ := hq
      have hw := hw hEh8
      have hE := hE.tr hEh8
      refine W.eq (g2 := F0 m 119 ls [.long r9]) rfl ?_
      refine lv_l2i hx hb (xb_d D_M_calling 63 rfl) rfl ?_
      obtain ⟨v10, ev10⟩ : ∃ x : Int32, x = (Int64.toInt32 r9) := ⟨_, rfl⟩
      have hw := hw v10 ev10
      refine xt_numi (y := v10) ev10.symm ?_
      refine lv_istore hx hb (xb_d D_M_calling 64 rfl) hl (by decide) rfl (fun ls hl => ?_)
      have hl : lv_has ls 12 [(5, .int v10), (4, .int v5), (0, .ref x0), (1, .int x1), (2, .int x2), (3, .int x3)] := hl
      refine lv_iconst (v := 0) hx hb (xb_d D_M_calling 65 rfl) (by decide) ?_
      refine lv_istore hx hb (xb_d D_M_calling 66 rfl) hl (by decide) rfl (fun ls hl => ?_)
      have hl : lv_has ls 12 [(6, .int 0), (5, .int v10), (4, .int v5), (0, .ref x0), (1, .int x1), (2, .int x2), (3, .int x3)] := hl
      refine lv_iload_n hx hb (xb_d D_M_calling 67 rfl) rfl (lv_at hl 6 rfl) ?_
      refine lv_bipush (v := 16) hx hb (xb_d D_M_calling 68 rfl) (by decide) ?_
      refine lv_icmp_ne (tgt := 154) hx hb (xb_d D_M_calling 69 rfl) rfl (fun hc11 => ?_) (fun hc11 => ?_)
      · have hw := hw.1 hc11
        refine lv_aload_n hx hb (xb_d D_M_calling 83 rfl) rfl (lv_at hl 3 rfl) ?_
        have hk1 : xb_k h8 x0 = 9 := hEh8.k hk1
        refine xb_getP (C := R_M) (T := F_M) (N := 97) hx hb 8 70 hts fin_M hown hR hk1 (by decide) rfl (by decide) rfl (hts _ m_ab98e9c9) (fun _ h9 => h9) (xb_d D_M_calling 84 rfl) ?_
        obtain ⟨b12, eb12, hw⟩ := hw
        refine xb_some eb12 ?_
        refine lv_iload_n hx hb (xb_d D_M_calling 85 rfl) rfl (lv_at hl 4 rfl) ?_
        refine lv_aload_n hx hb (xb_d D_M_calling 86 rfl) rfl (lv_at hl 3 rfl) ?_
        refine xb_getI (C := R_M) (T := F_M) (N := 97) hx hb 8 15 hts fin_M hown hR hk1 (by decide) rfl (by decide) rfl (hts _ m_6c2d27ad) (fun _ h9 => h9) (xb_d D_M_calling 87 rfl) ?_
        refine lv_iconst (v := 1) hx hb (xb_d D_M_calling 88 rfl) (by decide) ?_
        refine lv_iadd hx hb (xb_d D_M_calling 89 rfl) ?_
        obtain ⟨hk13, hw⟩ := hw
        obtain ⟨hi14, hw⟩ := hw
        refine xb_iast hx hb hR hS hk13 hi14 (xb_d D_M_calling 90 rfl) (fun H locs hR hS => ?_)
        obtain ⟨h15, eh15⟩ : ∃ x : xb_H, x = xb_I h8 b12 (Int32.toNatClampNeg x1) ((xb_i h8 x0 15) + 1) := ⟨_, rfl⟩
        rw [← eh15] at hR
        have hw := hw h15 eh15
        have hE : xb_ext h0 h15 := by rw [eh15]; exact hE
        refine lv_aload_n hx hb (xb_d D_M_calling 91 rfl) rfl (lv_at hl 3 rfl) ?_
        refine lv_bipush (v := 127) hx hb (xb_d D_M_calling 92 rfl) (by decide) ?_
        have hk1 : xb_k h15 x0 = 9 := by rw [eh15]; exact hk1
        refine xb_call0 (D := D) (A := A) (σ := σ) (h := h15) (d := 2) (maxL := 2) (rest := []) (av := [.ref x0, .int 127]) (fun T hT X => by obtain ⟨cb9, ra9, rb9, rc9⟩ := xb_recv (ci := 8) hR rfl hk1 (by decide); exact xt_invV X hx hown (hts _ m_ce40dc40) (hts _ m_c3a002b8) (hts _ m_395c99b5) (xt_sigOf (hts _ m_1ea89357)) nm_M_pop (by rw [hT]; exact ra9) rb9 rc9 (g := F0 m 169 ls [.int 127, .ref x0]) rfl (argsL := [.int 127]) (rest := []) rfl rfl (by rw [hb]; exact (xb_d D_M_calling 93 rfl))) (ok_M_pop l hfl D A σ x0 127 h15 _ hw) (hml.trans hl.1.symm) (by rw [hb]; exact (xb_d D_M_calling 93 rfl)) (Nat.le_of_ble_eq_true rfl) (Nat.le_of_ble_eq_true rfl) (Nat.le_of_ble_eq_true rfl) (show k ≤ MC by omega) (show n ≤ MS by omega) (xt_w1 hB.1 m_1ea89357) (xt_cdOf hB.1 m_1ea89357) (hts _ m_d5ed7bed) hB hR hS hA (fun vv h16 H locs hq hEh16 hR hS => ?_)
        obtain ⟨r17, rfl, hw⟩ := hq
        have hw := hw hEh16
        have hE := hE.tr hEh16
        refine W.eq (g2 := F0 m 172 ls [.long r17]) rfl ?_
        refine lv_ldc2 (v := 4294967295) hx hb hown (hts _ m_92d51c6a) (xb_d D_M_calling 94 rfl) ?_
        refine lv_land hx hb (xb_d D_M_calling 95 rfl) ?_
        obtain ⟨v18, ev18⟩ : ∃ x : Int64, x = (r17 &&& 4294967295) := ⟨_, rfl⟩
        have hw := hw v18 ev18
        refine xt_numl (y := v18) ev18.symm ?_
        refine lv_lstore hx hb (xb_d D_M_calling 96 rfl) hl (by decide) rfl (fun ls hl => ?_)
        have hl : lv_has ls 12 [(7, .long v18), (6, .int 0), (5, .int v10), (4, .int v5), (0, .ref x0), (1, .int x1), (2, .int x2), (3, .int x3)] := hl
        refine lv_aload_n hx hb (xb_d D_M_calling 97 rfl) rfl (lv_at hl 4 rfl) ?_
        refine lv_iload_n hx hb (xb_d D_M_calling 98 rfl) rfl (lv_at hl 6 rfl) ?_
        refine lv_iconst (v := 1) hx hb (xb_d D_M_calling 99 rfl) (by decide) ?_
        have hk1 : xb_k h16 x0 = 9 := hEh16.k hk1
        refine xb_call0 (D := D) (A := A) (σ := σ) (h := h16) (d := 9) (maxL := 3) (rest := []) (av := [.ref x0, .int x2, .int 1]) (fun T hT X => by obtain ⟨cb9, ra9, rb9, rc9⟩ := xb_recv (ci := 8) hR rfl hk1 (by decide); exact xt_invV X hx hown (hts _ m_392cec72) (hts _ m_982c4770) (hts _ m_e18e99cc) (xt_sigOf (hts _ m_3f9e55aa)) nm_M_only (by rw [hT]; exact ra9) rb9 rc9 (g := F0 m 181 ls [.int 1, .int x2, .ref x0]) rfl (argsL := [.int x2, .int 1]) (rest := []) rfl rfl (by rw [hb]; exact (xb_d D_M_calling 100 rfl))) (ok_M_only l hfl D A σ x0 x2 1 h16 _ hw) (hml.trans hl.1.symm) (by rw [hb]; exact (xb_d D_M_calling 100 rfl)) (Nat.le_of_ble_eq_true rfl) (Nat.le_of_ble_eq_true rfl) (Nat.le_of_ble_eq_true rfl) (show k ≤ MC by omega) (show n ≤ MS by omega) (xt_w1 hB.1 m_3f9e55aa) (xt_cdOf hB.1 m_3f9e55aa) (hts _ m_d5ed7bed) hB hR hS hA (fun vv h19 H locs hq hEh19 hR hS => ?_)
        obtain ⟨r20, rfl, hw⟩ := hq
        have hw := hw hEh19
        have hE := hE.tr hEh19
        refine W.eq (g2 := F0 m 184 ls [.int r20]) rfl ?_
        refine lv_istore hx hb (xb_d D_M_calling 101 rfl) hl (by decide) rfl (fun ls hl => ?_)
        have hl : lv_has ls 12 [(9, .int r20), (7, .long v18), (6, .int 0), (5, .int v10), (4, .int v5), (0, .ref x0), (1, .int x1), (2, .int x2), (3, .int x3)] := hl
        refine lv_lload hx hb (xb_d D_M_calling 102 rfl) (lv_at hl 1 rfl) ?_
        refine lv_aload_n hx hb (xb_d D_M_calling 103 rfl) rfl (lv_at hl 5 rfl) ?_
        have hk1 : xb_k h19 x0 = 9 := hEh19.k hk1
        refine xb_getP (C := R_M) (T := F_M) (N := 97) hx hb 8 49 hts fin_M hown hR hk1 (by decide) rfl (by decide) rfl (hts _ m_0c329d74) (fun _ h9 => h9) (xb_d D_M_calling 104 rfl) ?_
        obtain ⟨b21, eb21, hw⟩ := hw
        refine xb_some eb21 ?_
        refine lv_iload hx hb (xb_d D_M_calling 105 rfl) (lv_at hl 0 rfl) ?_
        obtain ⟨hk23, hw⟩ := hw
        obtain ⟨hi22, hw⟩ := hw
        refine xb_iald hx hb hR hk23 hi22 (xb_d D_M_calling 106 rfl) ?_
        refine lv_i2l hx hb (xb_d D_M_calling 107 rfl) rfl ?_
        refine xb_lc_ge (tgt := 219) hx hb (xb_d D_M_calling 108 rfl) (xb_d D_M_calling 109 rfl) rfl (fun hc24 => ?_) (fun hc24 => ?_)
        · have hw := hw.1 hc24
          refine lv_iconst (v := 0) hx hb (xb_d D_M_calling 121 rfl) (by decide) ?_
          exact am_M_calling_L220 l hfl D A σ MC MS h0 Qr x0 v5 v10 v18 r20 0 h19 hw p e s m args below meth c hC H locs ls k n hE (lv_sub hl [5, 4, 3, 1, 0] rfl) hR hS (by omega) (by omega)
        · have hw := hw.2 hc24
          refine lv_aload_n hx hb (xb_d D_M_calling 110 rfl) rfl (lv_at hl 5 rfl) ?_
          refine xb_getP (C := R_M) (T := F_M) (N := 97) hx hb 8 51 hts fin_M hown hR hk1 (by decide) rfl (by decide) rfl (hts _ m_c18d3c89) (fun _ h9 => h9) (xb_d D_M_calling 111 rfl) ?_
          obtain ⟨b25, eb25, hw⟩ := hw
          refine xb_some eb25 ?_
          refine lv_aload_n hx hb (xb_d D_M_calling 112 rfl) rfl (lv_at hl 5 rfl) ?_
          refine xb_getP (C := R_M) (T := F_M) (N := 97) hx hb 8 48 hts fin_M hown hR hk1 (by decide) rfl (by decide) rfl (hts _ m_f28a3cfc) (fun _ h9 => h9) (xb_d D_M_calling 113 rfl) ?_
          obtain ⟨b26, eb26, hw⟩ := hw
          refine xb_some eb26 ?_
          refine lv_iload hx hb (xb_d D_M_calling 114 rfl) (lv_at hl 0 rfl) ?_
          obtain ⟨hk28, hw⟩ := hw
          obtain ⟨hi27, hw⟩ := hw
          refine xb_iald hx hb hR hk28 hi27 (xb_d D_M_calling 115 rfl) ?_
          refine lv_lload hx hb (xb_d D_M_calling 116 rfl) (lv_at hl 1 rfl) ?_
          refine lv_l2i hx hb (xb_d D_M_calling 117 rfl) rfl ?_
          refine lv_iadd hx hb (xb_d D_M_calling 118 rfl) ?_
          obtain ⟨hk30, hw⟩ := hw
          obtain ⟨hi29, hw⟩ := hw
          refine xb_iald hx hb hR hk30 hi29 (xb_d D_M_calling 119 rfl) ?_
          refine lv_goto (tgt := 220) hx hb (xb_d D_M_calling 120 rfl) rfl ?_
          exact am_M_calling_L220 l hfl D A σ MC MS h0 Qr x0 v5 v10 v18 r20 (xb_i h19 b25 (Int32.toNatClampNeg ((xb_i h19 b26 (Int32.toNatClampNeg r20)) + (Int64.toInt32 v18)))) h19 hw p e s m args below meth c hC H locs ls k n hE (lv_sub hl [5, 4, 3, 1, 0] rfl) hR hS (by omega) (by omega)
      · have hw := hw.2 hc11
        refine lv_aload_n hx hb (xb_d D_M_calling 70 rfl) rfl (lv_at hl 3 rfl) ?_
        have hk1 : xb_k h8 x0 = 9 := hEh8.k hk1
        refine xb_getP (C := R_M) (T := F_M) (N := 97) hx hb 8 70 hts fin_M hown hR hk1 (by decide) rfl (by decide) rfl (hts _ m_ab98e9c9) (fun _ h9 => h9) (xb_d D_M_calling 71 rfl) ?_
        obtain ⟨b31, eb31, hw⟩ := hw
        refine xb_some eb31 ?_
        refine lv_iload_n hx hb (xb_d D_M_calling 72 rfl) rfl (lv_at hl 4 rfl) ?_
        refine lv_aload_n hx hb (xb_d D_M_calling 73 rfl) rfl (lv_at hl 3 rfl) ?_
        refine xb_getI (C := R_M) (T := F_M) (N := 97) hx hb 8 15 hts fin_M hown hR hk1 (by decide) rfl (by decide) rfl (hts _ m_6c2d27ad) (fun _ h9 => h9) (xb_d D_M_calling 74 rfl) ?_
        obtain ⟨hk32, hw⟩ := hw
        obtain ⟨hi33, hw⟩ := hw
        refine xb_iast hx hb hR hS hk32 hi33 (xb_d D_M_calling 75 rfl) (fun H locs hR hS => ?_)
        obtain ⟨h34, eh34⟩ : ∃ x : xb_H, x = xb_I h8 b31 (Int32.toNatClampNeg x1) (xb_i h8 x0 15) := ⟨_, rfl⟩
        rw [← eh34] at hR
        have hw := hw h34 eh34
        have hE : xb_ext h0 h34 := by rw [eh34]; exact hE
        refine lv_aload_n hx hb (xb_d D_M_calling 76 rfl) rfl (lv_at hl 3 rfl) ?_
        refine lv_iload_n hx hb (xb_d D_M_calling 77 rfl) rfl (lv_at hl 5 rfl) ?_
        refine lv_iconst (v := 0) hx hb (xb_d D_M_calling 78 rfl) (by decide) ?_
        refine lv_iload hx hb (xb_d D_M_calling 79 rfl) (lv_at hl 1 rfl) ?_
        have hk1 : xb_k h34 x0 = 9 := by rw [eh34]; exact hk1
        refine xb_call0 (D := D) (A := A) (σ := σ) (h := h34) (d := 8) (maxL := 6) (rest := []) (av := [.ref x0, .int x2, .int 0, .int v10]) (fun T hT X => by obtain ⟨cb9, ra9, rb9, rc9⟩ := xb_recv (ci := 8) hR rfl hk1 (by decide); exact xt_invV X hx hown (hts _ m_5ec466f2) (hts _ m_f0f1d102) (hts _ m_cfa25922) (xt_sigOf (hts _ m_59347bba)) nm_M_meant (by rw [hT]; exact ra9) rb9 rc9 (g := F0 m 146 ls [.int v10, .int 0, .int x2, .ref x0]) rfl (argsL := [.int x2, .int 0, .int v10]) (rest := []) rfl rfl (by rw [hb]; exact (xb_d D_M_calling 80 rfl))) (ok_M_meant l hfl D A σ x0 x2 0 v10 h34 _ hw) (hml.trans hl.1.symm) (by rw [hb]; exact (xb_d D_M_calling 80 rfl)) (Nat.le_of_ble_eq_true rfl) (Nat.le_of_ble_eq_true rfl) (Nat.le_of_ble_eq_true rfl) (show k ≤ MC by omega) (show n ≤ MS by omega) (xt_w1 hB.1 m_59347bba) (xt_cdOf hB.1 m_59347bba) (hts _ m_d5ed7bed) hB hR hS hA (fun vv h35 H locs hq hEh35 hR hS => ?_)
        obtain ⟨r36, rfl, hw⟩ := hq
        have hw := hw hEh35
        have hE := hE.tr hEh35
        refine W.eq (g2 := F0 m 149 ls [.int r36]) rfl ?_
        refine lv_istore hx hb (xb_d D_M_calling 81 rfl) hl (by decide) rfl (fun ls hl => ?_)
        have hl : lv_has ls 12 [(6, .int r36), (5, .int v10), (4, .int v5), (0, .ref x0), (1, .int x1), (2, .int x2), (3, .int x3)] := hl
        refine lv_goto (tgt := 290) hx hb (xb_d D_M_calling 82 rfl) rfl ?_
        exact am_M_calling_L290 l hfl D A σ MC MS h0 Qr x0 r36 h35 hw p e s m args below meth c hC H locs ls k n hE (lv_sub hl [3, 0] rfl) hR hS (by omega) (by omega)
    · have hw := hw.2 hc7
      exact am_M_calling_L20 l hfl D A σ MC MS h0 Qr x0 x1 x3 h hw p e s m args below meth c hC H locs ls k n hE (lv_sub hl [1, 2, 4] rfl) hR hS (by omega) (by omega)

theorem m_a244c6c1 : (.methodLink "StackHostModel" 433 y_M_checkMemory : Cond) ∈ xt_tbl := xt_in (xt_t11 (List.mem_of_getElem? (i := 187) (by decide +kernel))) (by decide +kernel)
theorem m_c2918bdb : (.instanceMethod y_M_checkMemory : Cond) ∈ xt_tbl := xt_in (xt_t11 (List.mem_of_getElem? (i := 189) (by decide +kernel))) (by decide +kernel)
theorem m_05a21917 : (.selects "StackHostModel" y_M_checkMemory y_M_checkMemory : Cond) ∈ xt_tbl := xt_in (xt_v12 (q := (⟨"StackHostModel", "checkMemory", "(I)V"⟩, 97)) (List.mem_of_getElem? (i := 3) (by decide +kernel))) (by decide +kernel)
theorem m_b987d3e7 : (.code y_M_checkMemory b_M_checkMemory 4 none : Cond) ∈ xt_tbl := xt_in (xt_t11 (List.mem_of_getElem? (i := 190) (by decide +kernel))) (by decide +kernel)
theorem m_2d190725 : (.methodLink "StackHostModel" 442 y_M_checkFlow : Cond) ∈ xt_tbl := xt_in (xt_t11 (List.mem_of_getElem? (i := 213) (by decide +kernel))) (by decide +kernel)
theorem m_8b8061a6 : (.instanceMethod y_M_checkFlow : Cond) ∈ xt_tbl := xt_in (xt_t11 (List.mem_of_getElem? (i := 215) (by decide +kernel))) (by decide +kernel)
theorem m_2ff0ee4e : (.selects "StackHostModel" y_M_checkFlow y_M_checkFlow : Cond) ∈ xt_tbl := xt_in (xt_v12 (q := (⟨"StackHostModel", "checkFlow", "(I)V"⟩, 97)) (List.mem_of_getElem? (i := 8) (by decide +kernel))) (by decide +kernel)
theorem m_49ec1eea : (.code y_M_checkFlow b_M_checkFlow 7 none : Cond) ∈ xt_tbl := xt_in (xt_t11 (List.mem_of_getElem? (i := 216) (by decide +kernel))) (by decide +kernel)
theorem m_ded68ce2 : (.methodLink "StackHostModel" 439 y_M_checkCalls : Cond) ∈ xt_tbl := xt_in (xt_t11 (List.mem_of_getElem? (i := 201) (by decide +kernel))) (by decide +kernel)
theorem m_03015b40 : (.instanceMethod y_M_checkCalls : Cond) ∈ xt_tbl := xt_in (xt_t11 (List.mem_of_getElem? (i := 203) (by decide +kernel))) (by decide +kernel)
theorem m_48da8444 : (.selects "StackHostModel" y_M_checkCalls y_M_checkCalls : Cond) ∈ xt_tbl := xt_in (xt_v12 (q := (⟨"StackHostModel", "checkCalls", "(II)V"⟩, 97)) (List.mem_of_getElem? (i := 5) (by decide +kernel))) (by decide +kernel)
theorem m_4ded7f17 : (.code y_M_checkCalls b_M_checkCalls 6 none : Cond) ∈ xt_tbl := xt_in (xt_t11 (List.mem_of_getElem? (i := 204) (by decide +kernel))) (by decide +kernel)
theorem m_1e16f409 : (.methodLink "StackHostModel" 436 y_M_checkPlace : Cond) ∈ xt_tbl := xt_in (xt_t11 (List.mem_of_getElem? (i := 197) (by decide +kernel))) (by decide +kernel)
theorem m_636a5eb0 : (.instanceMethod y_M_checkPlace : Cond) ∈ xt_tbl := xt_in (xt_t11 (List.mem_of_getElem? (i := 199) (by decide +kernel))) (by decide +kernel)
theorem m_7b0a69eb : (.selects "StackHostModel" y_M_checkPlace y_M_checkPlace : Cond) ∈ xt_tbl := xt_in (xt_v12 (q := (⟨"StackHostModel", "checkPlace", "(II)V"⟩, 97)) (List.mem_of_getElem? (i := 4) (by decide +kernel))) (by decide +kernel)
theorem m_351e95cd : (.code y_M_checkPlace b_M_checkPlace 7 none : Cond) ∈ xt_tbl := xt_in (xt_t11 (List.mem_of_getElem? (i := 200) (by decide +kernel))) (by decide +kernel)
theorem nm_M_checkMemory : xt_nm y_M_checkMemory 1 := ⟨by decide +kernel, by decide +kernel⟩
theorem nm_M_checkFlow : xt_nm y_M_checkFlow 1 := ⟨by decide +kernel, by decide +kernel⟩
theorem nm_M_checkCalls : xt_nm y_M_checkCalls 2 := ⟨by decide +kernel, by decide +kernel⟩
theorem nm_M_checkPlace : xt_nm y_M_checkPlace 2 := ⟨by decide +kernel, by decide +kernel⟩
set_option maxRecDepth 100000 in
def T_M_checkInstruction : List (Nat × Instr × Nat) := [(0, .iload_n 2, 1), (1, .bipush 69, 2), (3, .if_icmp .lt 47, 3), (6, .iload_n 2, 1), (7, .invokestatic 425, 3), (10, .istore_n 3, 1), (11, .iload_n 3, 1), (12, .ifCond .lt 12, 3), (15, .aload_n 0, 1), (16, .bipush 127, 2), (18, .iload_n 3, 1), (19, .isub, 1), (20, .invokevirtual 402, 3), (23, .pop, 1), (24, .aload_n 0, 1), (25, .bipush 127, 2), (27, .iload_n 2, 1), (28, .invokestatic 428, 3), (31, .isub, 1), (32, .invokevirtual 402, 3), (35, .pop, 1), (36, .aload_n 0, 1), (37, .bipush 127, 2), (39, .iload_n 2, 1), (40, .invokestatic 430, 3), (43, .isub, 1), (44, .invokevirtual 405, 3), (47, .goto 92, 3), (50, .iload_n 2, 1), (51, .bipush 65, 2), (53, .if_icmp .lt 15, 3), (56, .aload_n 0, 1), (57, .sipush 192, 3), (60, .iload_n 2, 1), (61, .isub, 1), (62, .invokevirtual 405, 3), (65, .goto 74, 3), (68, .iload_n 2, 1), (69, .bipush 40, 2), (71, .if_icmp .lt 33, 3), (74, .aload_n 0, 1), (75, .aload_n 0, 1), (76, .iload_n 1, 1), (77, .iconst 2, 1), (78, .invokevirtual 362, 3), (81, .lconst 0, 1), (82, .lcmp, 1), (83, .ifCond .le 7, 3), (86, .iconst 1, 1), (87, .goto 4, 3), (90, .iconst 0, 1), (91, .bipush 20, 2), (93, .invokevirtual 408, 3), (96, .aload_n 0, 1), (97, .iload_n 2, 1), (98, .invokevirtual 433, 3), (101, .goto 38, 3), (104, .iload_n 2, 1), (105, .bipush 32, 2), (107, .if_icmp .lt 12, 3), (110, .aload_n 0, 1), (111, .iload_n 1, 1), (112, .iload_n 2, 1), (113, .invokevirtual 436, 3), (116, .goto 23, 3), (119, .iload_n 2, 1), (120, .bipush 16, 2), (122, .if_icmp .lt 12, 3), (125, .aload_n 0, 1), (126, .iload_n 1, 1), (127, .iload_n 2, 1), (128, .invokevirtual 439, 3), (131, .goto 8, 3), (134, .aload_n 0, 1), (135, .iload_n 2, 1), (136, .invokevirtual 442, 3), (139, .return_, 1)]
theorem D_M_checkInstruction : ∀ q ∈ T_M_checkInstruction, decode b_M_checkInstruction q.1 = .ok (q.2.1, q.2.2) := by decide +kernel

set_option maxHeartbeats 4000000 in
set_option maxRecDepth 100000 in
theorem am_M_checkInstruction_L139 (l : Launch) (hfl : l.flags = pinnedFlags ++ [noTraceFlag]) (D : va_G) (A : Nat → Prop) (σ MC MS : Nat) (h0 : xb_H) (Qr : xb_H → Prop) (h : xb_H) (hw : w_M_checkInstruction_L139 Qr h) : xb_am l D A σ 11 MC MS h0 (fun v h _ _ => v = none ∧ Qr h) (fun _ _ _ _ => False) y_M_checkInstruction.cls y_M_checkInstruction.name b_M_checkInstruction 4 ([] : List ExceptionTableEntry) none 139 [] [] h 0 0 := by
  unfold w_M_checkInstruction_L139 at hw
  intro p e s m args below meth c hC H locs ls k n hE hl hR hS hk hn
  obtain ⟨hx, hb, hown, hlocks, htab, hml, hr, hB, hA, hnm⟩ := id hC
  have hts := hB.1.1.at args
  exact xb_vret 0 0 hx hb hr hlocks (show k + 0 ≤ MC by omega) (show n + 0 ≤ MS by omega) hE hR hS (xb_d D_M_checkInstruction 76 rfl) hw

set_option maxHeartbeats 4000000 in
set_option maxRecDepth 100000 in
theorem am_M_checkInstruction_L91 (l : Launch) (hfl : l.flags = pinnedFlags ++ [noTraceFlag]) (D : va_G) (A : Nat → Prop) (σ MC MS : Nat) (h0 : xb_H) (Qr : xb_H → Prop) (x0 : Nat) (x2 : Int32) (y0 : Int32) (y1 : Nat) (h : xb_H) (hw : w_M_checkInstruction_L91 Qr x0 x2 y0 y1 h) : xb_am l D A σ 11 MC MS h0 (fun v h _ _ => v = none ∧ Qr h) (fun _ _ _ _ => False) y_M_checkInstruction.cls y_M_checkInstruction.name b_M_checkInstruction 4 ([] : List ExceptionTableEntry) none 91 [(0, .ref x0), (2, .int x2)] [.int y0, .ref y1] h 0 0 := by
  unfold w_M_checkInstruction_L91 at hw
  intro p e s m args below meth c hC H locs ls k n hE hl hR hS hk hn
  obtain ⟨hx, hb, hown, hlocks, htab, hml, hr, hB, hA, hnm⟩ := id hC
  have hts := hB.1.1.at args
  refine lv_bipush (v := 20) hx hb (xb_d D_M_checkInstruction 51 rfl) (by decide) ?_
  obtain ⟨hk1, hw⟩ := hw
  refine xb_call0 (D := D) (A := A) (σ := σ) (h := h) (d := 3) (maxL := 3) (rest := []) (av := [.ref y1, .int y0, .int 20]) (fun T hT X => by obtain ⟨cb9, ra9, rb9, rc9⟩ := xb_recv (ci := 8) hR rfl hk1 (by decide); exact xt_invV X hx hown (hts _ m_3b351fe6) (hts _ m_c9ff1909) (hts _ m_4d34701a) (xt_sigOf (hts _ m_c5aab6b8)) nm_M_need (by rw [hT]; exact ra9) rb9 rc9 (g := F0 m 93 ls [.int 20, .int y0, .ref y1]) rfl (argsL := [.int y0, .int 20]) (rest := []) rfl rfl (by rw [hb]; exact (xb_d D_M_checkInstruction 52 rfl))) (ok_M_need l hfl D A σ y1 y0 20 h _ hw) (hml.trans hl.1.symm) (by rw [hb]; exact (xb_d D_M_checkInstruction 52 rfl)) (Nat.le_of_ble_eq_true rfl) (Nat.le_of_ble_eq_true rfl) (Nat.le_of_ble_eq_true rfl) (show k ≤ MC by omega) (show n ≤ MS by omega) (xt_w1 hB.1 m_c5aab6b8) (xt_cdOf hB.1 m_c5aab6b8) (hts _ m_d5ed7bed) hB hR hS hA (fun vv h2 H locs hq hEh2 hR hS => ?_)
  obtain ⟨rfl, hw⟩ := hq
  have hw := hw hEh2
  have hE := hE.tr hEh2
  refine W.eq (g2 := F0 m 96 ls []) rfl ?_
  refine lv_aload_n hx hb (xb_d D_M_checkInstruction 53 rfl) rfl (lv_at hl 0 rfl) ?_
  refine lv_iload_n hx hb (xb_d D_M_checkInstruction 54 rfl) rfl (lv_at hl 1 rfl) ?_
  obtain ⟨hk4, hw⟩ := hw
  refine xb_call0 (D := D) (A := A) (σ := σ) (h := h2) (d := 5) (maxL := 4) (rest := []) (av := [.ref x0, .int x2]) (fun T hT X => by obtain ⟨cb9, ra9, rb9, rc9⟩ := xb_recv (ci := 8) hR rfl hk4 (by decide); exact xt_invV X hx hown (hts _ m_a244c6c1) (hts _ m_c2918bdb) (hts _ m_05a21917) (xt_sigOf (hts _ m_b987d3e7)) nm_M_checkMemory (by rw [hT]; exact ra9) rb9 rc9 (g := F0 m 98 ls [.int x2, .ref x0]) rfl (argsL := [.int x2]) (rest := []) rfl rfl (by rw [hb]; exact (xb_d D_M_checkInstruction 55 rfl))) (ok_M_checkMemory l hfl D A σ x0 x2 h2 _ hw) (hml.trans hl.1.symm) (by rw [hb]; exact (xb_d D_M_checkInstruction 55 rfl)) (Nat.le_of_ble_eq_true rfl) (Nat.le_of_ble_eq_true rfl) (Nat.le_of_ble_eq_true rfl) (show k ≤ MC by omega) (show n ≤ MS by omega) (xt_w1 hB.1 m_b987d3e7) (xt_cdOf hB.1 m_b987d3e7) (hts _ m_d5ed7bed) hB hR hS hA (fun vv h5 H locs hq hEh5 hR hS => ?_)
  obtain ⟨rfl, hw⟩ := hq
  have hw := hw hEh5
  have hE := hE.tr hEh5
  refine W.eq (g2 := F0 m 101 ls []) rfl ?_
  refine lv_goto (tgt := 139) hx hb (xb_d D_M_checkInstruction 56 rfl) rfl ?_
  exact am_M_checkInstruction_L139 l hfl D A σ MC MS h0 Qr h5 hw p e s m args below meth c hC H locs ls k n hE (lv_sub hl [] rfl) hR hS (by omega) (by omega)

set_option maxHeartbeats 4000000 in
set_option maxRecDepth 100000 in
theorem am_M_checkInstruction_L24 (l : Launch) (hfl : l.flags = pinnedFlags ++ [noTraceFlag]) (D : va_G) (A : Nat → Prop) (σ MC MS : Nat) (h0 : xb_H) (Qr : xb_H → Prop) (x0 : Nat) (x2 : Int32) (h : xb_H) (hw : w_M_checkInstruction_L24 Qr x0 x2 h) : xb_am l D A σ 11 MC MS h0 (fun v h _ _ => v = none ∧ Qr h) (fun _ _ _ _ => False) y_M_checkInstruction.cls y_M_checkInstruction.name b_M_checkInstruction 4 ([] : List ExceptionTableEntry) none 24 [(0, .ref x0), (2, .int x2)] [] h 0 0 := by
  unfold w_M_checkInstruction_L24 at hw
  intro p e s m args below meth c hC H locs ls k n hE hl hR hS hk hn
  obtain ⟨hx, hb, hown, hlocks, htab, hml, hr, hB, hA, hnm⟩ := id hC
  have hts := hB.1.1.at args
  refine lv_aload_n hx hb (xb_d D_M_checkInstruction 14 rfl) rfl (lv_at hl 0 rfl) ?_
  refine lv_bipush (v := 127) hx hb (xb_d D_M_checkInstruction 15 rfl) (by decide) ?_
  refine lv_iload_n hx hb (xb_d D_M_checkInstruction 16 rfl) rfl (lv_at hl 1 rfl) ?_
  refine xb_call0 (D := D) (A := A) (σ := σ) (h := h) (d := 3) (maxL := 1) (rest := [.int 127, .ref x0]) (av := [.int x2]) (fun T hT X => xt_invS X hx hown (hts _ m_bc61b689) (hts _ m_69a81f16) (hts _ m_b807310b) (xt_sgS (hts _ m_4328253a)).1 (xt_sgS (hts _ m_4328253a)).2 nm_Exact_first (g := F0 m 28 ls [.int x2, .int 127, .ref x0]) rfl (argsL := [.int x2]) (rest := [.int 127, .ref x0]) rfl rfl (by rw [hb]; exact (xb_d D_M_checkInstruction 17 rfl))) (ok_Exact_first l hfl D A σ x2 h _ hw) (hml.trans hl.1.symm) (by rw [hb]; exact (xb_d D_M_checkInstruction 17 rfl)) (Nat.le_of_ble_eq_true rfl) (Nat.le_of_ble_eq_true rfl) (Nat.le_of_ble_eq_true rfl) (show k ≤ MC by omega) (show n ≤ MS by omega) (xt_w1 hB.1 m_4328253a) (xt_cdOf hB.1 m_4328253a) (hts _ m_b807310b) hB hR hS hA (fun vv h1 H locs hq hEh1 hR hS => ?_)
  obtain ⟨r2, rfl, hw⟩ := hq
  have hw := hw hEh1
  have hE := hE.tr hEh1
  refine W.eq (g2 := F0 m 31 ls [.int r2, .int 127, .ref x0]) rfl ?_
  refine lv_isub hx hb (xb_d D_M_checkInstruction 18 rfl) ?_
  obtain ⟨hk3, hw⟩ := hw
  refine xb_call0 (D := D) (A := A) (σ := σ) (h := h1) (d := 3) (maxL := 3) (rest := []) (av := [.ref x0, .int (127 - r2)]) (fun T hT X => by obtain ⟨cb9, ra9, rb9, rc9⟩ := xb_recv (ci := 8) hR rfl hk3 (by decide); exact xt_invV X hx hown (hts _ m_4290bf91) (hts _ m_641dba55) (hts _ m_286bb193) (xt_sigOf (hts _ m_8ef3c792)) nm_M_take (by rw [hT]; exact ra9) rb9 rc9 (g := F0 m 32 ls [.int (127 - r2), .ref x0]) rfl (argsL := [.int (127 - r2)]) (rest := []) rfl rfl (by rw [hb]; exact (xb_d D_M_checkInstruction 19 rfl))) (ok_M_take l hfl D A σ x0 (127 - r2) h1 _ hw) (hml.trans hl.1.symm) (by rw [hb]; exact (xb_d D_M_checkInstruction 19 rfl)) (Nat.le_of_ble_eq_true rfl) (Nat.le_of_ble_eq_true rfl) (Nat.le_of_ble_eq_true rfl) (show k ≤ MC by omega) (show n ≤ MS by omega) (xt_w1 hB.1 m_8ef3c792) (xt_cdOf hB.1 m_8ef3c792) (hts _ m_d5ed7bed) hB hR hS hA (fun vv h4 H locs hq hEh4 hR hS => ?_)
  obtain ⟨r5, rfl, hw⟩ := hq
  have hw := hw hEh4
  have hE := hE.tr hEh4
  refine W.eq (g2 := F0 m 35 ls [.int r5]) rfl ?_
  refine lv_pop hx hb (xb_d D_M_checkInstruction 20 rfl) rfl ?_
  refine lv_aload_n hx hb (xb_d D_M_checkInstruction 21 rfl) rfl (lv_at hl 0 rfl) ?_
  refine lv_bipush (v := 127) hx hb (xb_d D_M_checkInstruction 22 rfl) (by decide) ?_
  refine lv_iload_n hx hb (xb_d D_M_checkInstruction 23 rfl) rfl (lv_at hl 1 rfl) ?_
  refine xb_call0 (D := D) (A := A) (σ := σ) (h := h4) (d := 2) (maxL := 1) (rest := [.int 127, .ref x0]) (av := [.int x2]) (fun T hT X => xt_invS X hx hown (hts _ m_c299b093) (hts _ m_2a32d197) (hts _ m_b807310b) (xt_sgS (hts _ m_ce6b0c6d)).1 (xt_sgS (hts _ m_ce6b0c6d)).2 nm_Exact_result (g := F0 m 40 ls [.int x2, .int 127, .ref x0]) rfl (argsL := [.int x2]) (rest := [.int 127, .ref x0]) rfl rfl (by rw [hb]; exact (xb_d D_M_checkInstruction 24 rfl))) (ok_Exact_result l hfl D A σ x2 h4 _ hw) (hml.trans hl.1.symm) (by rw [hb]; exact (xb_d D_M_checkInstruction 24 rfl)) (Nat.le_of_ble_eq_true rfl) (Nat.le_of_ble_eq_true rfl) (Nat.le_of_ble_eq_true rfl) (show k ≤ MC by omega) (show n ≤ MS by omega) (xt_w1 hB.1 m_ce6b0c6d) (xt_cdOf hB.1 m_ce6b0c6d) (hts _ m_b807310b) hB hR hS hA (fun vv h6 H locs hq hEh6 hR hS => ?_)
  obtain ⟨r7, rfl, hw⟩ := hq
  have hw := hw hEh6
  have hE := hE.tr hEh6
  refine W.eq (g2 := F0 m 43 ls [.int r7, .int 127, .ref x0]) rfl ?_
  refine lv_isub hx hb (xb_d D_M_checkInstruction 25 rfl) ?_
  have hk3 : xb_k h4 x0 = 9 := hEh4.k hk3
  have hk3 : xb_k h6 x0 = 9 := hEh6.k hk3
  refine xb_call0 (D := D) (A := A) (σ := σ) (h := h6) (d := 2) (maxL := 2) (rest := []) (av := [.ref x0, .int (127 - r7)]) (fun T hT X => by obtain ⟨cb9, ra9, rb9, rc9⟩ := xb_recv (ci := 8) hR rfl hk3 (by decide); exact xt_invV X hx hown (hts _ m_3308f884) (hts _ m_052429f9) (hts _ m_8c0b8095) (xt_sigOf (hts _ m_98c8d9b3)) nm_M_put (by rw [hT]; exact ra9) rb9 rc9 (g := F0 m 44 ls [.int (127 - r7), .ref x0]) rfl (argsL := [.int (127 - r7)]) (rest := []) rfl rfl (by rw [hb]; exact (xb_d D_M_checkInstruction 26 rfl))) (ok_M_put l hfl D A σ x0 (127 - r7) h6 _ hw) (hml.trans hl.1.symm) (by rw [hb]; exact (xb_d D_M_checkInstruction 26 rfl)) (Nat.le_of_ble_eq_true rfl) (Nat.le_of_ble_eq_true rfl) (Nat.le_of_ble_eq_true rfl) (show k ≤ MC by omega) (show n ≤ MS by omega) (xt_w1 hB.1 m_98c8d9b3) (xt_cdOf hB.1 m_98c8d9b3) (hts _ m_d5ed7bed) hB hR hS hA (fun vv h8 H locs hq hEh8 hR hS => ?_)
  obtain ⟨rfl, hw⟩ := hq
  have hw := hw hEh8
  have hE := hE.tr hEh8
  refine W.eq (g2 := F0 m 47 ls []) rfl ?_
  refine lv_goto (tgt := 139) hx hb (xb_d D_M_checkInstruction 27 rfl) rfl ?_
  exact am_M_checkInstruction_L139 l hfl D A σ MC MS h0 Qr h8 hw p e s m args below meth c hC H locs ls k n hE (lv_sub hl [] rfl) hR hS (by omega) (by omega)

set_option maxHeartbeats 4000000 in
set_option maxRecDepth 100000 in
theorem ok_M_checkInstruction (l : Launch) (hfl : l.flags = pinnedFlags ++ [noTraceFlag]) (D : va_G) (A : Nat → Prop) (σ : Nat) (x0 : Nat) (x1 : Int32) (x2 : Int32) (h : xb_H) (Qr : xb_H → Prop) (hw : w_M_checkInstruction x0 x1 x2 h Qr) : xb_Met l y_M_checkInstruction [.code y_M_checkInstruction b_M_checkInstruction 4 none] (xb_rm 11 0 0) (xb_Pc D A σ h [.ref x0, .int x1, .int x2]) (xb_Qc D A h 0 0 (fun v h _ _ => v = none ∧ Qr h) (fun _ _ _ _ => False)) A := by
  refine xb_ofAm (cc := b_M_checkInstruction) (by decide) (Nat.le_of_ble_eq_true rfl) ?_
  unfold w_M_checkInstruction at hw
  show xb_am l D A σ 11 0 0 h (fun v h _ _ => v = none ∧ Qr h) (fun _ _ _ _ => False) y_M_checkInstruction.cls y_M_checkInstruction.name b_M_checkInstruction 4 ([] : List ExceptionTableEntry) none 0 [(0, .ref x0), (1, .int x1), (2, .int x2)] [] h 0 0
  obtain ⟨MC, hMC⟩ : ∃ x, x = 0 := ⟨_, rfl⟩
  obtain ⟨MS, hMS⟩ : ∃ x, x = 0 := ⟨_, rfl⟩
  rw [show xb_am l D A σ 11 0 0 = xb_am l D A σ 11 MC MS by rw [hMC, hMS]]
  obtain ⟨h0, hh0⟩ : ∃ x, x = h := ⟨_, rfl⟩
  rw [show xb_am l D A σ 11 MC MS h = xb_am l D A σ 11 MC MS h0 by rw [hh0]]
  intro p e s m args below meth c hC H locs ls k n hE hl hR hS hk hn
  obtain ⟨hx, hb, hown, hlocks, htab, hml, hr, hB, hA, hnm⟩ := id hC
  have hts := hB.1.1.at args
  refine lv_iload_n hx hb (xb_d D_M_checkInstruction 0 rfl) rfl (lv_at hl 2 rfl) ?_
  refine lv_bipush (v := 69) hx hb (xb_d D_M_checkInstruction 1 rfl) (by decide) ?_
  refine lv_icmp_lt (tgt := 50) hx hb (xb_d D_M_checkInstruction 2 rfl) rfl (fun hc1 => ?_) (fun hc1 => ?_)
  · have hw := hw.1 hc1
    refine lv_iload_n hx hb (xb_d D_M_checkInstruction 28 rfl) rfl (lv_at hl 2 rfl) ?_
    refine lv_bipush (v := 65) hx hb (xb_d D_M_checkInstruction 29 rfl) (by decide) ?_
    refine lv_icmp_lt (tgt := 68) hx hb (xb_d D_M_checkInstruction 30 rfl) rfl (fun hc2 => ?_) (fun hc2 => ?_)
    · have hw := hw.1 hc2
      refine lv_iload_n hx hb (xb_d D_M_checkInstruction 37 rfl) rfl (lv_at hl 2 rfl) ?_
      refine lv_bipush (v := 40) hx hb (xb_d D_M_checkInstruction 38 rfl) (by decide) ?_
      refine lv_icmp_lt (tgt := 104) hx hb (xb_d D_M_checkInstruction 39 rfl) rfl (fun hc3 => ?_) (fun hc3 => ?_)
      · have hw := hw.1 hc3
        refine lv_iload_n hx hb (xb_d D_M_checkInstruction 57 rfl) rfl (lv_at hl 2 rfl) ?_
        refine lv_bipush (v := 32) hx hb (xb_d D_M_checkInstruction 58 rfl) (by decide) ?_
        refine lv_icmp_lt (tgt := 119) hx hb (xb_d D_M_checkInstruction 59 rfl) rfl (fun hc4 => ?_) (fun hc4 => ?_)
        · have hw := hw.1 hc4
          refine lv_iload_n hx hb (xb_d D_M_checkInstruction 65 rfl) rfl (lv_at hl 2 rfl) ?_
          refine lv_bipush (v := 16) hx hb (xb_d D_M_checkInstruction 66 rfl) (by decide) ?_
          refine lv_icmp_lt (tgt := 134) hx hb (xb_d D_M_checkInstruction 67 rfl) rfl (fun hc5 => ?_) (fun hc5 => ?_)
          · have hw := hw.1 hc5
            refine lv_aload_n hx hb (xb_d D_M_checkInstruction 73 rfl) rfl (lv_at hl 0 rfl) ?_
            refine lv_iload_n hx hb (xb_d D_M_checkInstruction 74 rfl) rfl (lv_at hl 2 rfl) ?_
            obtain ⟨hk6, hw⟩ := hw
            refine xb_call0 (D := D) (A := A) (σ := σ) (h := h) (d := 6) (maxL := 7) (rest := []) (av := [.ref x0, .int x2]) (fun T hT X => by obtain ⟨cb9, ra9, rb9, rc9⟩ := xb_recv (ci := 8) hR rfl hk6 (by decide); exact xt_invV X hx hown (hts _ m_2d190725) (hts _ m_8b8061a6) (hts _ m_2ff0ee4e) (xt_sigOf (hts _ m_49ec1eea)) nm_M_checkFlow (by rw [hT]; exact ra9) rb9 rc9 (g := F0 m 136 ls [.int x2, .ref x0]) rfl (argsL := [.int x2]) (rest := []) rfl rfl (by rw [hb]; exact (xb_d D_M_checkInstruction 75 rfl))) (ok_M_checkFlow l hfl D A σ x0 x2 h _ hw) (hml.trans hl.1.symm) (by rw [hb]; exact (xb_d D_M_checkInstruction 75 rfl)) (Nat.le_of_ble_eq_true rfl) (Nat.le_of_ble_eq_true rfl) (Nat.le_of_ble_eq_true rfl) (show k ≤ MC by omega) (show n ≤ MS by omega) (xt_w1 hB.1 m_49ec1eea) (xt_cdOf hB.1 m_49ec1eea) (hts _ m_d5ed7bed) hB hR hS hA (fun vv h7 H locs hq hEh7 hR hS => ?_)
            obtain ⟨rfl, hw⟩ := hq
            have hw := hw hEh7
            have hE := hE.tr hEh7
            refine W.eq (g2 := F0 m 139 ls []) rfl ?_
            exact am_M_checkInstruction_L139 l hfl D A σ MC MS h0 Qr h7 hw p e s m args below meth c hC H locs ls k n hE (lv_sub hl [] rfl) hR hS (by omega) (by omega)
          · have hw := hw.2 hc5
            refine lv_aload_n hx hb (xb_d D_M_checkInstruction 68 rfl) rfl (lv_at hl 0 rfl) ?_
            refine lv_iload_n hx hb (xb_d D_M_checkInstruction 69 rfl) rfl (lv_at hl 1 rfl) ?_
            refine lv_iload_n hx hb (xb_d D_M_checkInstruction 70 rfl) rfl (lv_at hl 2 rfl) ?_
            obtain ⟨hk9, hw⟩ := hw
            refine xb_call0 (D := D) (A := A) (σ := σ) (h := h) (d := 9) (maxL := 6) (rest := []) (av := [.ref x0, .int x1, .int x2]) (fun T hT X => by obtain ⟨cb9, ra9, rb9, rc9⟩ := xb_recv (ci := 8) hR rfl hk9 (by decide); exact xt_invV X hx hown (hts _ m_ded68ce2) (hts _ m_03015b40) (hts _ m_48da8444) (xt_sigOf (hts _ m_4ded7f17)) nm_M_checkCalls (by rw [hT]; exact ra9) rb9 rc9 (g := F0 m 128 ls [.int x2, .int x1, .ref x0]) rfl (argsL := [.int x1, .int x2]) (rest := []) rfl rfl (by rw [hb]; exact (xb_d D_M_checkInstruction 71 rfl))) (ok_M_checkCalls l hfl D A σ x0 x1 x2 h _ hw) (hml.trans hl.1.symm) (by rw [hb]; exact (xb_d D_M_checkInstruction 71 rfl)) (Nat.le_of_ble_eq_true rfl) (Nat.le_of_ble_eq_true rfl) (Nat.le_of_ble_eq_true rfl) (show k ≤ MC by omega) (show n ≤ MS by omega) (xt_w1 hB.1 m_4ded7f17) (xt_cdOf hB.1 m_4ded7f17) (hts _ m_d5ed7bed) hB hR hS hA (fun vv h10 H locs hq hEh10 hR hS => ?_)
            obtain ⟨rfl, hw⟩ := hq
            have hw := hw hEh10
            have hE := hE.tr hEh10
            refine W.eq (g2 := F0 m 131 ls []) rfl ?_
            refine lv_goto (tgt := 139) hx hb (xb_d D_M_checkInstruction 72 rfl) rfl ?_
            exact am_M_checkInstruction_L139 l hfl D A σ MC MS h0 Qr h10 hw p e s m args below meth c hC H locs ls k n hE (lv_sub hl [] rfl) hR hS (by omega) (by omega)
        · have hw := hw.2 hc4
          refine lv_aload_n hx hb (xb_d D_M_checkInstruction 60 rfl) rfl (lv_at hl 0 rfl) ?_
          refine lv_iload_n hx hb (xb_d D_M_checkInstruction 61 rfl) rfl (lv_at hl 1 rfl) ?_
          refine lv_iload_n hx hb (xb_d D_M_checkInstruction 62 rfl) rfl (lv_at hl 2 rfl) ?_
          obtain ⟨hk12, hw⟩ := hw
          refine xb_call0 (D := D) (A := A) (σ := σ) (h := h) (d := 10) (maxL := 7) (rest := []) (av := [.ref x0, .int x1, .int x2]) (fun T hT X => by obtain ⟨cb9, ra9, rb9, rc9⟩ := xb_recv (ci := 8) hR rfl hk12 (by decide); exact xt_invV X hx hown (hts _ m_1e16f409) (hts _ m_636a5eb0) (hts _ m_7b0a69eb) (xt_sigOf (hts _ m_351e95cd)) nm_M_checkPlace (by rw [hT]; exact ra9) rb9 rc9 (g := F0 m 113 ls [.int x2, .int x1, .ref x0]) rfl (argsL := [.int x1, .int x2]) (rest := []) rfl rfl (by rw [hb]; exact (xb_d D_M_checkInstruction 63 rfl))) (ok_M_checkPlace l hfl D A σ x0 x1 x2 h _ hw) (hml.trans hl.1.symm) (by rw [hb]; exact (xb_d D_M_checkInstruction 63 rfl)) (Nat.le_of_ble_eq_true rfl) (Nat.le_of_ble_eq_true rfl) (Nat.le_of_ble_eq_true rfl) (show k ≤ MC by omega) (show n ≤ MS by omega) (xt_w1 hB.1 m_351e95cd) (xt_cdOf hB.1 m_351e95cd) (hts _ m_d5ed7bed) hB hR hS hA (fun vv h13 H locs hq hEh13 hR hS => ?_)
          obtain ⟨rfl, hw⟩ := hq
          have hw := hw hEh13
          have hE := hE.tr hEh13
          refine W.eq (g2 := F0 m 116 ls []) rfl ?_
          refine lv_goto (tgt := 139) hx hb (xb_d D_M_checkInstruction 64 rfl) rfl ?_
          exact am_M_checkInstruction_L139 l hfl D A σ MC MS h0 Qr h13 hw p e s m args below meth c hC H locs ls k n hE (lv_sub hl [] rfl) hR hS (by omega) (by omega)
      · have hw := hw.2 hc3
        refine lv_aload_n hx hb (xb_d D_M_checkInstruction 40 rfl) rfl (lv_at hl 0 rfl) ?_
        refine lv_aload_n hx hb (xb_d D_M_checkInstruction 41 rfl) rfl (lv_at hl 0 rfl) ?_
        refine lv_iload_n hx hb (xb_d D_M_checkInstruction 42 rfl) rfl (lv_at hl 1 rfl) ?_
        refine lv_iconst (v := 2) hx hb (xb_d D_M_checkInstruction 43 rfl) (by decide) ?_
        obtain ⟨hk15, hw⟩ := hw
        refine xb_call0 (D := D) (A := A) (σ := σ) (h := h) (d := 3) (maxL := 3) (rest := [.ref x0]) (av := [.ref x0, .int x1, .int 2]) (fun T hT X => by obtain ⟨cb9, ra9, rb9, rc9⟩ := xb_recv (ci := 8) hR rfl hk15 (by decide); exact xt_invV X hx hown (hts _ m_940fb65e) (hts _ m_342c0f16) (hts _ m_c0324d76) (xt_sigOf (hts _ m_feaaa075)) nm_M_total (by rw [hT]; exact ra9) rb9 rc9 (g := F0 m 78 ls [.int 2, .int x1, .ref x0, .ref x0]) rfl (argsL := [.int x1, .int 2]) (rest := [.ref x0]) rfl rfl (by rw [hb]; exact (xb_d D_M_checkInstruction 44 rfl))) (ok_M_total l hfl D A σ x0 x1 2 h _ hw) (hml.trans hl.1.symm) (by rw [hb]; exact (xb_d D_M_checkInstruction 44 rfl)) (Nat.le_of_ble_eq_true rfl) (Nat.le_of_ble_eq_true rfl) (Nat.le_of_ble_eq_true rfl) (show k ≤ MC by omega) (show n ≤ MS by omega) (xt_w1 hB.1 m_feaaa075) (xt_cdOf hB.1 m_feaaa075) (hts _ m_d5ed7bed) hB hR hS hA (fun vv h16 H locs hq hEh16 hR hS => ?_)
        obtain ⟨r17, rfl, hw⟩ := hq
        have hw := hw hEh16
        have hE := hE.tr hEh16
        refine W.eq (g2 := F0 m 81 ls [.long r17, .ref x0]) rfl ?_
        refine lv_lconst (v := 0) hx hb (xb_d D_M_checkInstruction 45 rfl) (by decide) ?_
        refine xb_lc_le (tgt := 90) hx hb (xb_d D_M_checkInstruction 46 rfl) (xb_d D_M_checkInstruction 47 rfl) rfl (fun hc18 => ?_) (fun hc18 => ?_)
        · have hw := hw.1 hc18
          refine lv_iconst (v := 0) hx hb (xb_d D_M_checkInstruction 50 rfl) (by decide) ?_
          exact am_M_checkInstruction_L91 l hfl D A σ MC MS h0 Qr x0 x2 0 x0 h16 hw p e s m args below meth c hC H locs ls k n hE (lv_sub hl [0, 2] rfl) hR hS (by omega) (by omega)
        · have hw := hw.2 hc18
          refine lv_iconst (v := 1) hx hb (xb_d D_M_checkInstruction 48 rfl) (by decide) ?_
          refine lv_goto (tgt := 91) hx hb (xb_d D_M_checkInstruction 49 rfl) rfl ?_
          exact am_M_checkInstruction_L91 l hfl D A σ MC MS h0 Qr x0 x2 1 x0 h16 hw p e s m args below meth c hC H locs ls k n hE (lv_sub hl [0, 2] rfl) hR hS (by omega) (by omega)
    · have hw := hw.2 hc2
      refine lv_aload_n hx hb (xb_d D_M_checkInstruction 31 rfl) rfl (lv_at hl 0 rfl) ?_
      refine lv_sipush (v := 192) hx hb (xb_d D_M_checkInstruction 32 rfl) (by decide) ?_
      refine lv_iload_n hx hb (xb_d D_M_checkInstruction 33 rfl) rfl (lv_at hl 2 rfl) ?_
      refine lv_isub hx hb (xb_d D_M_checkInstruction 34 rfl) ?_
      obtain ⟨hk19, hw⟩ := hw
      refine xb_call0 (D := D) (A := A) (σ := σ) (h := h) (d := 2) (maxL := 2) (rest := []) (av := [.ref x0, .int (192 - x2)]) (fun T hT X => by obtain ⟨cb9, ra9, rb9, rc9⟩ := xb_recv (ci := 8) hR rfl hk19 (by decide); exact xt_invV X hx hown (hts _ m_3308f884) (hts _ m_052429f9) (hts _ m_8c0b8095) (xt_sigOf (hts _ m_98c8d9b3)) nm_M_put (by rw [hT]; exact ra9) rb9 rc9 (g := F0 m 62 ls [.int (192 - x2), .ref x0]) rfl (argsL := [.int (192 - x2)]) (rest := []) rfl rfl (by rw [hb]; exact (xb_d D_M_checkInstruction 35 rfl))) (ok_M_put l hfl D A σ x0 (192 - x2) h _ hw) (hml.trans hl.1.symm) (by rw [hb]; exact (xb_d D_M_checkInstruction 35 rfl)) (Nat.le_of_ble_eq_true rfl) (Nat.le_of_ble_eq_true rfl) (Nat.le_of_ble_eq_true rfl) (show k ≤ MC by omega) (show n ≤ MS by omega) (xt_w1 hB.1 m_98c8d9b3) (xt_cdOf hB.1 m_98c8d9b3) (hts _ m_d5ed7bed) hB hR hS hA (fun vv h20 H locs hq hEh20 hR hS => ?_)
      obtain ⟨rfl, hw⟩ := hq
      have hw := hw hEh20
      have hE := hE.tr hEh20
      refine W.eq (g2 := F0 m 65 ls []) rfl ?_
      refine lv_goto (tgt := 139) hx hb (xb_d D_M_checkInstruction 36 rfl) rfl ?_
      exact am_M_checkInstruction_L139 l hfl D A σ MC MS h0 Qr h20 hw p e s m args below meth c hC H locs ls k n hE (lv_sub hl [] rfl) hR hS (by omega) (by omega)
  · have hw := hw.2 hc1
    refine lv_iload_n hx hb (xb_d D_M_checkInstruction 3 rfl) rfl (lv_at hl 2 rfl) ?_
    refine xb_call0 (D := D) (A := A) (σ := σ) (h := h) (d := 4) (maxL := 2) (rest := []) (av := [.int x2]) (fun T hT X => xt_invS X hx hown (hts _ m_3cb61595) (hts _ m_cf6a0046) (hts _ m_b807310b) (xt_sgS (hts _ m_d63ee885)).1 (xt_sgS (hts _ m_d63ee885)).2 nm_Exact_second (g := F0 m 7 ls [.int x2]) rfl (argsL := [.int x2]) (rest := []) rfl rfl (by rw [hb]; exact (xb_d D_M_checkInstruction 4 rfl))) (ok_Exact_second l hfl D A σ x2 h _ hw) (hml.trans hl.1.symm) (by rw [hb]; exact (xb_d D_M_checkInstruction 4 rfl)) (Nat.le_of_ble_eq_true rfl) (Nat.le_of_ble_eq_true rfl) (Nat.le_of_ble_eq_true rfl) (show k ≤ MC by omega) (show n ≤ MS by omega) (xt_w1 hB.1 m_d63ee885) (xt_cdOf hB.1 m_d63ee885) (hts _ m_b807310b) hB hR hS hA (fun vv h22 H locs hq hEh22 hR hS => ?_)
    obtain ⟨r23, rfl, hw⟩ := hq
    have hw := hw hEh22
    have hE := hE.tr hEh22
    refine W.eq (g2 := F0 m 10 ls [.int r23]) rfl ?_
    refine lv_istore_n hx hb (xb_d D_M_checkInstruction 5 rfl) rfl hl (by decide) rfl (fun ls hl => ?_)
    have hl : lv_has ls 4 [(3, .int r23), (0, .ref x0), (1, .int x1), (2, .int x2)] := hl
    refine lv_iload_n hx hb (xb_d D_M_checkInstruction 6 rfl) rfl (lv_at hl 0 rfl) ?_
    refine lv_if_lt (tgt := 24) hx hb (xb_d D_M_checkInstruction 7 rfl) rfl (fun hc24 => ?_) (fun hc24 => ?_)
    · have hw := hw.1 hc24
      exact am_M_checkInstruction_L24 l hfl D A σ MC MS h0 Qr x0 x2 h22 hw p e s m args below meth c hC H locs ls k n hE (lv_sub hl [1, 3] rfl) hR hS (by omega) (by omega)
    · have hw := hw.2 hc24
      refine lv_aload_n hx hb (xb_d D_M_checkInstruction 8 rfl) rfl (lv_at hl 1 rfl) ?_
      refine lv_bipush (v := 127) hx hb (xb_d D_M_checkInstruction 9 rfl) (by decide) ?_
      refine lv_iload_n hx hb (xb_d D_M_checkInstruction 10 rfl) rfl (lv_at hl 0 rfl) ?_
      refine lv_isub hx hb (xb_d D_M_checkInstruction 11 rfl) ?_
      obtain ⟨hk25, hw⟩ := hw
      refine xb_call0 (D := D) (A := A) (σ := σ) (h := h22) (d := 3) (maxL := 3) (rest := []) (av := [.ref x0, .int (127 - r23)]) (fun T hT X => by obtain ⟨cb9, ra9, rb9, rc9⟩ := xb_recv (ci := 8) hR rfl hk25 (by decide); exact xt_invV X hx hown (hts _ m_4290bf91) (hts _ m_641dba55) (hts _ m_286bb193) (xt_sigOf (hts _ m_8ef3c792)) nm_M_take (by rw [hT]; exact ra9) rb9 rc9 (g := F0 m 20 ls [.int (127 - r23), .ref x0]) rfl (argsL := [.int (127 - r23)]) (rest := []) rfl rfl (by rw [hb]; exact (xb_d D_M_checkInstruction 12 rfl))) (ok_M_take l hfl D A σ x0 (127 - r23) h22 _ hw) (hml.trans hl.1.symm) (by rw [hb]; exact (xb_d D_M_checkInstruction 12 rfl)) (Nat.le_of_ble_eq_true rfl) (Nat.le_of_ble_eq_true rfl) (Nat.le_of_ble_eq_true rfl) (show k ≤ MC by omega) (show n ≤ MS by omega) (xt_w1 hB.1 m_8ef3c792) (xt_cdOf hB.1 m_8ef3c792) (hts _ m_d5ed7bed) hB hR hS hA (fun vv h26 H locs hq hEh26 hR hS => ?_)
      obtain ⟨r27, rfl, hw⟩ := hq
      have hw := hw hEh26
      have hE := hE.tr hEh26
      refine W.eq (g2 := F0 m 23 ls [.int r27]) rfl ?_
      refine lv_pop hx hb (xb_d D_M_checkInstruction 13 rfl) rfl ?_
      exact am_M_checkInstruction_L24 l hfl D A σ MC MS h0 Qr x0 x2 h26 hw p e s m args below meth c hC H locs ls k n hE (lv_sub hl [1, 3] rfl) hR hS (by omega) (by omega)

theorem m_3317c695 : (.methodLink "StackHostModel" 372 y_M_checkConstant : Cond) ∈ xt_tbl := xt_in (xt_t11 (List.mem_of_getElem? (i := 97) (by decide +kernel))) (by decide +kernel)
theorem m_a90e9b00 : (.instanceMethod y_M_checkConstant : Cond) ∈ xt_tbl := xt_in (xt_t11 (List.mem_of_getElem? (i := 99) (by decide +kernel))) (by decide +kernel)
theorem m_b31c6542 : (.selects "StackHostModel" y_M_checkConstant y_M_checkConstant : Cond) ∈ xt_tbl := xt_in (xt_v11 (q := (⟨"StackHostModel", "checkConstant", "(II)V"⟩, 97)) (List.mem_of_getElem? (i := 0) (by decide +kernel))) (by decide +kernel)
theorem m_031701f6 : (.code y_M_checkConstant b_M_checkConstant 11 none : Cond) ∈ xt_tbl := xt_in (xt_t11 (List.mem_of_getElem? (i := 100) (by decide +kernel))) (by decide +kernel)
theorem nm_M_checkConstant : xt_nm y_M_checkConstant 2 := ⟨by decide +kernel, by decide +kernel⟩
set_option maxRecDepth 100000 in
def T_M_checkRows : List (Nat × Instr × Nat) := [(0, .iconst 0, 1), (1, .istore_n 2, 1), (2, .iload_n 2, 1), (3, .aload_n 0, 1), (4, .iload_n 1, 1), (5, .bipush 9, 2), (7, .invokevirtual 316, 3), (10, .if_icmp .ge 134, 3), (13, .aload_n 0, 1), (14, .getfield 193, 3), (17, .ifCond .ne 127, 3), (20, .aload_n 0, 1), (21, .iload_n 1, 1), (22, .bipush 9, 2), (24, .iload_n 2, 1), (25, .invokevirtual 320, 3), (28, .istore_n 3, 1), (29, .aload_n 0, 1), (30, .iload_n 1, 1), (31, .iload_n 3, 1), (32, .invokevirtual 324, 3), (35, .aload_n 0, 1), (36, .invokevirtual 218, 3), (39, .aload_n 0, 1), (40, .iload_n 1, 1), (41, .iconst 1, 1), (42, .invokevirtual 362, 3), (45, .lcmp, 1), (46, .ifCond .lt 13, 3), (49, .aload_n 0, 1), (50, .bipush 20, 2), (52, .iload_n 3, 1), (53, .invokevirtual 208, 3), (56, .goto 10, 3), (59, .aload_n 0, 1), (60, .iload_n 1, 1), (61, .bipush 127, 2), (63, .invokevirtual 372, 3), (66, .aload_n 0, 1), (67, .getfield 193, 3), (70, .ifCond .ne 10, 3), (73, .aload_n 0, 1), (74, .invokevirtual 218, 3), (77, .goto 4, 3), (80, .lconst 0, 1), (81, .lstore 4, 2), (83, .lconst 0, 1), (84, .lstore 6, 2), (86, .lload 6, 2), (88, .lload 4, 2), (90, .lcmp, 1), (91, .ifCond .ge 47, 3), (94, .aload_n 0, 1), (95, .getfield 193, 3), (98, .ifCond .ne 40, 3), (101, .aload_n 0, 1), (102, .getfield 202, 3), (105, .istore 8, 2), (107, .aload_n 0, 1), (108, .invokevirtual 218, 3), (111, .aload_n 0, 1), (112, .iload_n 1, 1), (113, .iconst 0, 1), (114, .invokevirtual 362, 3), (117, .lcmp, 1), (118, .ifCond .lt 11, 3), (121, .aload_n 0, 1), (122, .bipush 20, 2), (124, .iload 8, 2), (126, .invokevirtual 208, 3), (129, .lload 6, 2), (131, .lconst 1, 1), (132, .ladd, 1), (133, .lstore 6, 2), (135, .goto (-49), 3), (138, .iinc 2 1, 3), (141, .goto (-139), 3), (144, .iconst 0, 1), (145, .istore_n 2, 1), (146, .iload_n 2, 1), (147, .aload_n 0, 1), (148, .iload_n 1, 1), (149, .bipush 11, 2), (151, .invokevirtual 316, 3), (154, .if_icmp .ge 62, 3), (157, .aload_n 0, 1), (158, .getfield 193, 3), (161, .ifCond .ne 55, 3), (164, .aload_n 0, 1), (165, .iload_n 1, 1), (166, .bipush 11, 2), (168, .iload_n 2, 1), (169, .invokevirtual 320, 3), (172, .istore_n 3, 1), (173, .aload_n 0, 1), (174, .iload_n 1, 1), (175, .iload_n 3, 1), (176, .invokevirtual 324, 3), (179, .aload_n 0, 1), (180, .invokevirtual 218, 3), (183, .aload_n 0, 1), (184, .iload_n 1, 1), (185, .iconst 2, 1), (186, .invokevirtual 362, 3), (189, .lcmp, 1), (190, .ifCond .lt 13, 3), (193, .aload_n 0, 1), (194, .bipush 20, 2), (196, .iload_n 3, 1), (197, .invokevirtual 208, 3), (200, .goto 10, 3), (203, .aload_n 0, 1), (204, .iload_n 1, 1), (205, .bipush 127, 2), (207, .invokevirtual 372, 3), (210, .iinc 2 1, 3), (213, .goto (-67), 3), (216, .return_, 1)]
theorem D_M_checkRows : ∀ q ∈ T_M_checkRows, decode b_M_checkRows q.1 = .ok (q.2.1, q.2.2) := by decide +kernel

set_option maxHeartbeats 4000000 in
set_option maxRecDepth 100000 in
theorem am_M_checkRows_L216 (l : Launch) (hfl : l.flags = pinnedFlags ++ [noTraceFlag]) (D : va_G) (A : Nat → Prop) (σ MC MS : Nat) (h0 : xb_H) (Qr : xb_H → Prop) (h : xb_H) (hw : w_M_checkRows_L216 Qr h) : xb_am l D A σ 11 MC MS h0 (fun v h _ _ => v = none ∧ Qr h) (fun _ _ _ _ => False) y_M_checkRows.cls y_M_checkRows.name b_M_checkRows 9 ([] : List ExceptionTableEntry) none 216 [] [] h 0 0 := by
  unfold w_M_checkRows_L216 at hw
  intro p e s m args below meth c hC H locs ls k n hE hl hR hS hk hn
  obtain ⟨hx, hb, hown, hlocks, htab, hml, hr, hB, hA, hnm⟩ := id hC
  have hts := hB.1.1.at args
  exact xb_vret 0 0 hx hb hr hlocks (show k + 0 ≤ MC by omega) (show n + 0 ≤ MS by omega) hE hR hS (xb_d D_M_checkRows 117 rfl) hw

set_option maxHeartbeats 4000000 in
set_option maxRecDepth 100000 in
theorem am_M_checkRows_L210 (l : Launch) (hfl : l.flags = pinnedFlags ++ [noTraceFlag]) (D : va_G) (A : Nat → Prop) (σ MC MS : Nat) (h0 : xb_H) (Qr : xb_H → Prop) (K146 : Nat → Int32 → Int32 → xb_H → Prop) (hK146 : ∀ (x0 : Nat) (x1 : Int32) (x2 : Int32) (h : xb_H), K146 x0 x1 x2 h → xb_am l D A σ 11 MC MS h0 (fun v h _ _ => v = none ∧ Qr h) (fun _ _ _ _ => False) y_M_checkRows.cls y_M_checkRows.name b_M_checkRows 9 ([] : List ExceptionTableEntry) none 146 [(0, .ref x0), (1, .int x1), (2, .int x2)] [] h 0 0) (x0 : Nat) (x1 : Int32) (x2 : Int32) (h : xb_H) (hw : w_M_checkRows_L210 K146 Qr x0 x1 x2 h) : xb_am l D A σ 11 MC MS h0 (fun v h _ _ => v = none ∧ Qr h) (fun _ _ _ _ => False) y_M_checkRows.cls y_M_checkRows.name b_M_checkRows 9 ([] : List ExceptionTableEntry) none 210 [(0, .ref x0), (1, .int x1), (2, .int x2)] [] h 0 0 := by
  unfold w_M_checkRows_L210 at hw
  intro p e s m args below meth c hC H locs ls k n hE hl hR hS hk hn
  obtain ⟨hx, hb, hown, hlocks, htab, hml, hr, hB, hA, hnm⟩ := id hC
  have hts := hB.1.1.at args
  refine lv_iinc (v := (x2 + 1)) (k := 2) hx hb (xb_d D_M_checkRows 115 rfl) hl rfl (by first | rfl | decide) (by decide) rfl (fun ls hl => ?_)
  have hl : lv_has ls 9 [(2, .int (x2 + 1)), (0, .ref x0), (1, .int x1)] := hl
  refine lv_goto (tgt := 146) hx hb (xb_d D_M_checkRows 116 rfl) rfl ?_
  exact hK146 x0 x1 (x2 + 1) h hw p e s m args below meth c hC H locs ls k n hE (lv_sub hl [1, 2, 0] rfl) hR hS (by omega) (by omega)

set_option maxHeartbeats 4000000 in
set_option maxRecDepth 100000 in
theorem am_M_checkRows_L146 (l : Launch) (hfl : l.flags = pinnedFlags ++ [noTraceFlag]) (D : va_G) (A : Nat → Prop) (σ MC MS : Nat) (h0 : xb_H) (Qr : xb_H → Prop) (n9 : Nat) : ∀ (x0 : Nat) (x1 : Int32) (x2 : Int32) (h : xb_H), w_M_checkRows_L146 Qr n9 x0 x1 x2 h → xb_am l D A σ 11 MC MS h0 (fun v h _ _ => v = none ∧ Qr h) (fun _ _ _ _ => False) y_M_checkRows.cls y_M_checkRows.name b_M_checkRows 9 ([] : List ExceptionTableEntry) none 146 [(0, .ref x0), (1, .int x1), (2, .int x2)] [] h 0 0 := by
  induction n9 with
  | zero => intro x0 x1 x2 h hw; exact False.elim hw
  | succ n9 ih =>
    intro x0 x1 x2 h hw
    unfold w_M_checkRows_L146 at hw
    intro p e s m args below meth c hC H locs ls k n hE hl hR hS hk hn
    obtain ⟨hx, hb, hown, hlocks, htab, hml, hr, hB, hA, hnm⟩ := id hC
    have hts := hB.1.1.at args
    refine lv_iload_n hx hb (xb_d D_M_checkRows 79 rfl) rfl (lv_at hl 2 rfl) ?_
    refine lv_aload_n hx hb (xb_d D_M_checkRows 80 rfl) rfl (lv_at hl 0 rfl) ?_
    refine lv_iload_n hx hb (xb_d D_M_checkRows 81 rfl) rfl (lv_at hl 1 rfl) ?_
    refine lv_bipush (v := 11) hx hb (xb_d D_M_checkRows 82 rfl) (by decide) ?_
    obtain ⟨hk1, hw⟩ := hw
    refine xb_call0 (D := D) (A := A) (σ := σ) (h := h) (d := 2) (maxL := 3) (rest := [.int x2]) (av := [.ref x0, .int x1, .int 11]) (fun T hT X => by obtain ⟨cb9, ra9, rb9, rc9⟩ := xb_recv (ci := 8) hR rfl hk1 (by decide); exact xt_invV X hx hown (hts _ m_b47f62c2) (hts _ m_9f071faf) (hts _ m_e1bb5c84) (xt_sigOf (hts _ m_3a6212d6)) nm_M_manyOf (by rw [hT]; exact ra9) rb9 rc9 (g := F0 m 151 ls [.int 11, .int x1, .ref x0, .int x2]) rfl (argsL := [.int x1, .int 11]) (rest := [.int x2]) rfl rfl (by rw [hb]; exact (xb_d D_M_checkRows 83 rfl))) (ok_M_manyOf l hfl D A σ x0 x1 11 h _ hw) (hml.trans hl.1.symm) (by rw [hb]; exact (xb_d D_M_checkRows 83 rfl)) (Nat.le_of_ble_eq_true rfl) (Nat.le_of_ble_eq_true rfl) (Nat.le_of_ble_eq_true rfl) (show k ≤ MC by omega) (show n ≤ MS by omega) (xt_w1 hB.1 m_3a6212d6) (xt_cdOf hB.1 m_3a6212d6) (hts _ m_d5ed7bed) hB hR hS hA (fun vv h2 H locs hq hEh2 hR hS => ?_)
    obtain ⟨r3, rfl, hw⟩ := hq
    have hw := hw hEh2
    have hE := hE.tr hEh2
    refine W.eq (g2 := F0 m 154 ls [.int r3, .int x2]) rfl ?_
    refine lv_icmp_ge (tgt := 216) hx hb (xb_d D_M_checkRows 84 rfl) rfl (fun hc4 => ?_) (fun hc4 => ?_)
    · have hw := hw.1 hc4
      exact am_M_checkRows_L216 l hfl D A σ MC MS h0 Qr h2 hw p e s m args below meth c hC H locs ls k n hE (lv_sub hl [] rfl) hR hS (by omega) (by omega)
    · have hw := hw.2 hc4
      refine lv_aload_n hx hb (xb_d D_M_checkRows 85 rfl) rfl (lv_at hl 0 rfl) ?_
      have hk1 : xb_k h2 x0 = 9 := hEh2.k hk1
      refine xb_getI (C := R_M) (T := F_M) (N := 97) hx hb 8 17 hts fin_M hown hR hk1 (by decide) rfl (by decide) rfl (hts _ m_ff69da61) (fun _ h9 => h9) (xb_d D_M_checkRows 86 rfl) ?_
      refine lv_if_ne (tgt := 216) hx hb (xb_d D_M_checkRows 87 rfl) rfl (fun hc5 => ?_) (fun hc5 => ?_)
      · have hw := hw.1 hc5
        exact am_M_checkRows_L216 l hfl D A σ MC MS h0 Qr h2 hw p e s m args below meth c hC H locs ls k n hE (lv_sub hl [] rfl) hR hS (by omega) (by omega)
      · have hw := hw.2 hc5
        refine lv_aload_n hx hb (xb_d D_M_checkRows 88 rfl) rfl (lv_at hl 0 rfl) ?_
        refine lv_iload_n hx hb (xb_d D_M_checkRows 89 rfl) rfl (lv_at hl 1 rfl) ?_
        refine lv_bipush (v := 11) hx hb (xb_d D_M_checkRows 90 rfl) (by decide) ?_
        refine lv_iload_n hx hb (xb_d D_M_checkRows 91 rfl) rfl (lv_at hl 2 rfl) ?_
        refine xb_call0 (D := D) (A := A) (σ := σ) (h := h2) (d := 2) (maxL := 4) (rest := []) (av := [.ref x0, .int x1, .int 11, .int x2]) (fun T hT X => by obtain ⟨cb9, ra9, rb9, rc9⟩ := xb_recv (ci := 8) hR rfl hk1 (by decide); exact xt_invV X hx hown (hts _ m_7f41753e) (hts _ m_8cdd7108) (hts _ m_e228318f) (xt_sigOf (hts _ m_89667ad5)) nm_M_placeOf (by rw [hT]; exact ra9) rb9 rc9 (g := F0 m 169 ls [.int x2, .int 11, .int x1, .ref x0]) rfl (argsL := [.int x1, .int 11, .int x2]) (rest := []) rfl rfl (by rw [hb]; exact (xb_d D_M_checkRows 92 rfl))) (ok_M_placeOf l hfl D A σ x0 x1 11 x2 h2 _ hw) (hml.trans hl.1.symm) (by rw [hb]; exact (xb_d D_M_checkRows 92 rfl)) (Nat.le_of_ble_eq_true rfl) (Nat.le_of_ble_eq_true rfl) (Nat.le_of_ble_eq_true rfl) (show k ≤ MC by omega) (show n ≤ MS by omega) (xt_w1 hB.1 m_89667ad5) (xt_cdOf hB.1 m_89667ad5) (hts _ m_d5ed7bed) hB hR hS hA (fun vv h6 H locs hq hEh6 hR hS => ?_)
        obtain ⟨r7, rfl, hw⟩ := hq
        have hw := hw hEh6
        have hE := hE.tr hEh6
        refine W.eq (g2 := F0 m 172 ls [.int r7]) rfl ?_
        refine lv_istore_n hx hb (xb_d D_M_checkRows 93 rfl) rfl hl (by decide) rfl (fun ls hl => ?_)
        have hl : lv_has ls 9 [(3, .int r7), (0, .ref x0), (1, .int x1), (2, .int x2)] := hl
        refine lv_aload_n hx hb (xb_d D_M_checkRows 94 rfl) rfl (lv_at hl 1 rfl) ?_
        refine lv_iload_n hx hb (xb_d D_M_checkRows 95 rfl) rfl (lv_at hl 2 rfl) ?_
        refine lv_iload_n hx hb (xb_d D_M_checkRows 96 rfl) rfl (lv_at hl 0 rfl) ?_
        have hk1 : xb_k h6 x0 = 9 := hEh6.k hk1
        refine xb_call0 (D := D) (A := A) (σ := σ) (h := h6) (d := 2) (maxL := 3) (rest := []) (av := [.ref x0, .int x1, .int r7]) (fun T hT X => by obtain ⟨cb9, ra9, rb9, rc9⟩ := xb_recv (ci := 8) hR rfl hk1 (by decide); exact xt_invV X hx hown (hts _ m_bb531879) (hts _ m_4a6cd4a0) (hts _ m_d1c31e3c) (xt_sigOf (hts _ m_48217fba)) nm_M_go (by rw [hT]; exact ra9) rb9 rc9 (g := F0 m 176 ls [.int r7, .int x1, .ref x0]) rfl (argsL := [.int x1, .int r7]) (rest := []) rfl rfl (by rw [hb]; exact (xb_d D_M_checkRows 97 rfl))) (ok_M_go l hfl D A σ x0 x1 r7 h6 _ hw) (hml.trans hl.1.symm) (by rw [hb]; exact (xb_d D_M_checkRows 97 rfl)) (Nat.le_of_ble_eq_true rfl) (Nat.le_of_ble_eq_true rfl) (Nat.le_of_ble_eq_true rfl) (show k ≤ MC by omega) (show n ≤ MS by omega) (xt_w1 hB.1 m_48217fba) (xt_cdOf hB.1 m_48217fba) (hts _ m_d5ed7bed) hB hR hS hA (fun vv h8 H locs hq hEh8 hR hS => ?_)
        obtain ⟨rfl, hw⟩ := hq
        have hw := hw hEh8
        have hE := hE.tr hEh8
        refine W.eq (g2 := F0 m 179 ls []) rfl ?_
        refine lv_aload_n hx hb (xb_d D_M_checkRows 98 rfl) rfl (lv_at hl 1 rfl) ?_
        have hk1 : xb_k h8 x0 = 9 := hEh8.k hk1
        refine xb_call0 (D := D) (A := A) (σ := σ) (h := h8) (d := 4) (maxL := 5) (rest := []) (av := [.ref x0]) (fun T hT X => by obtain ⟨cb9, ra9, rb9, rc9⟩ := xb_recv (ci := 8) hR rfl hk1 (by decide); exact xt_invV X hx hown (hts _ m_e991293f) (hts _ m_385a74b3) (hts _ m_c9fbcd02) (xt_sigOf (hts _ m_1f53f210)) nm_M_count (by rw [hT]; exact ra9) rb9 rc9 (g := F0 m 180 ls [.ref x0]) rfl (argsL := []) (rest := []) rfl rfl (by rw [hb]; exact (xb_d D_M_checkRows 99 rfl))) (ok_M_count l hfl D A σ x0 h8 _ hw) (hml.trans hl.1.symm) (by rw [hb]; exact (xb_d D_M_checkRows 99 rfl)) (Nat.le_of_ble_eq_true rfl) (Nat.le_of_ble_eq_true rfl) (Nat.le_of_ble_eq_true rfl) (show k ≤ MC by omega) (show n ≤ MS by omega) (xt_w1 hB.1 m_1f53f210) (xt_cdOf hB.1 m_1f53f210) (hts _ m_d5ed7bed) hB hR hS hA (fun vv h10 H locs hq hEh10 hR hS => ?_)
        obtain ⟨r11, rfl, hw⟩ := hq
        have hw := hw hEh10
        have hE := hE.tr hEh10
        refine W.eq (g2 := F0 m 183 ls [.long r11]) rfl ?_
        refine lv_aload_n hx hb (xb_d D_M_checkRows 100 rfl) rfl (lv_at hl 1 rfl) ?_
        refine lv_iload_n hx hb (xb_d D_M_checkRows 101 rfl) rfl (lv_at hl 2 rfl) ?_
        refine lv_iconst (v := 2) hx hb (xb_d D_M_checkRows 102 rfl) (by decide) ?_
        have hk1 : xb_k h10 x0 = 9 := hEh10.k hk1
        refine xb_call0 (D := D) (A := A) (σ := σ) (h := h10) (d := 3) (maxL := 3) (rest := [.long r11]) (av := [.ref x0, .int x1, .int 2]) (fun T hT X => by obtain ⟨cb9, ra9, rb9, rc9⟩ := xb_recv (ci := 8) hR rfl hk1 (by decide); exact xt_invV X hx hown (hts _ m_940fb65e) (hts _ m_342c0f16) (hts _ m_c0324d76) (xt_sigOf (hts _ m_feaaa075)) nm_M_total (by rw [hT]; exact ra9) rb9 rc9 (g := F0 m 186 ls [.int 2, .int x1, .ref x0, .long r11]) rfl (argsL := [.int x1, .int 2]) (rest := [.long r11]) rfl rfl (by rw [hb]; exact (xb_d D_M_checkRows 103 rfl))) (ok_M_total l hfl D A σ x0 x1 2 h10 _ hw) (hml.trans hl.1.symm) (by rw [hb]; exact (xb_d D_M_checkRows 103 rfl)) (Nat.le_of_ble_eq_true rfl) (Nat.le_of_ble_eq_true rfl) (Nat.le_of_ble_eq_true rfl) (show k ≤ MC by omega) (show n ≤ MS by omega) (xt_w1 hB.1 m_feaaa075) (xt_cdOf hB.1 m_feaaa075) (hts _ m_d5ed7bed) hB hR hS hA (fun vv h12 H locs hq hEh12 hR hS => ?_)
        obtain ⟨r13, rfl, hw⟩ := hq
        have hw := hw hEh12
        have hE := hE.tr hEh12
        refine W.eq (g2 := F0 m 189 ls [.long r13, .long r11]) rfl ?_
        refine xb_lc_lt (tgt := 203) hx hb (xb_d D_M_checkRows 104 rfl) (xb_d D_M_checkRows 105 rfl) rfl (fun hc14 => ?_) (fun hc14 => ?_)
        · have hw := hw.1 hc14
          refine lv_aload_n hx hb (xb_d D_M_checkRows 111 rfl) rfl (lv_at hl 1 rfl) ?_
          refine lv_iload_n hx hb (xb_d D_M_checkRows 112 rfl) rfl (lv_at hl 2 rfl) ?_
          refine lv_bipush (v := 127) hx hb (xb_d D_M_checkRows 113 rfl) (by decide) ?_
          have hk1 : xb_k h12 x0 = 9 := hEh12.k hk1
          refine xb_call0 (D := D) (A := A) (σ := σ) (h := h12) (d := 10) (maxL := 11) (rest := []) (av := [.ref x0, .int x1, .int 127]) (fun T hT X => by obtain ⟨cb9, ra9, rb9, rc9⟩ := xb_recv (ci := 8) hR rfl hk1 (by decide); exact xt_invV X hx hown (hts _ m_3317c695) (hts _ m_a90e9b00) (hts _ m_b31c6542) (xt_sigOf (hts _ m_031701f6)) nm_M_checkConstant (by rw [hT]; exact ra9) rb9 rc9 (g := F0 m 207 ls [.int 127, .int x1, .ref x0]) rfl (argsL := [.int x1, .int 127]) (rest := []) rfl rfl (by rw [hb]; exact (xb_d D_M_checkRows 114 rfl))) (ok_M_checkConstant l hfl D A σ x0 x1 127 h12 _ hw) (hml.trans hl.1.symm) (by rw [hb]; exact (xb_d D_M_checkRows 114 rfl)) (Nat.le_of_ble_eq_true rfl) (Nat.le_of_ble_eq_true rfl) (Nat.le_of_ble_eq_true rfl) (show k ≤ MC by omega) (show n ≤ MS by omega) (xt_w1 hB.1 m_031701f6) (xt_cdOf hB.1 m_031701f6) (hts _ m_d5ed7bed) hB hR hS hA (fun vv h15 H locs hq hEh15 hR hS => ?_)
          obtain ⟨rfl, hw⟩ := hq
          have hw := hw hEh15
          have hE := hE.tr hEh15
          refine W.eq (g2 := F0 m 210 ls []) rfl ?_
          exact am_M_checkRows_L210 l hfl D A σ MC MS h0 Qr (w_M_checkRows_L146 Qr n9) ih x0 x1 x2 h15 hw p e s m args below meth c hC H locs ls k n hE (lv_sub hl [1, 2, 3] rfl) hR hS (by omega) (by omega)
        · have hw := hw.2 hc14
          refine lv_aload_n hx hb (xb_d D_M_checkRows 106 rfl) rfl (lv_at hl 1 rfl) ?_
          refine lv_bipush (v := 20) hx hb (xb_d D_M_checkRows 107 rfl) (by decide) ?_
          refine lv_iload_n hx hb (xb_d D_M_checkRows 108 rfl) rfl (lv_at hl 0 rfl) ?_
          have hk1 : xb_k h12 x0 = 9 := hEh12.k hk1
          refine xb_call0 (D := D) (A := A) (σ := σ) (h := h12) (d := 2) (maxL := 3) (rest := []) (av := [.ref x0, .int 20, .int r7]) (fun T hT X => by obtain ⟨cb9, ra9, rb9, rc9⟩ := xb_recv (ci := 8) hR rfl hk1 (by decide); exact xt_invV X hx hown (hts _ m_939052ad) (hts _ m_29cc8c73) (hts _ m_3b1ac7ab) (xt_sigOf (hts _ m_8f062ecd)) nm_M_fail (by rw [hT]; exact ra9) rb9 rc9 (g := F0 m 197 ls [.int r7, .int 20, .ref x0]) rfl (argsL := [.int 20, .int r7]) (rest := []) rfl rfl (by rw [hb]; exact (xb_d D_M_checkRows 109 rfl))) (ok_M_fail l hfl D A σ x0 20 r7 h12 _ hw) (hml.trans hl.1.symm) (by rw [hb]; exact (xb_d D_M_checkRows 109 rfl)) (Nat.le_of_ble_eq_true rfl) (Nat.le_of_ble_eq_true rfl) (Nat.le_of_ble_eq_true rfl) (show k ≤ MC by omega) (show n ≤ MS by omega) (xt_w1 hB.1 m_8f062ecd) (xt_cdOf hB.1 m_8f062ecd) (hts _ m_d5ed7bed) hB hR hS hA (fun vv h17 H locs hq hEh17 hR hS => ?_)
          obtain ⟨rfl, hw⟩ := hq
          have hw := hw hEh17
          have hE := hE.tr hEh17
          refine W.eq (g2 := F0 m 200 ls []) rfl ?_
          refine lv_goto (tgt := 210) hx hb (xb_d D_M_checkRows 110 rfl) rfl ?_
          exact am_M_checkRows_L210 l hfl D A σ MC MS h0 Qr (w_M_checkRows_L146 Qr n9) ih x0 x1 x2 h17 hw p e s m args below meth c hC H locs ls k n hE (lv_sub hl [1, 2, 3] rfl) hR hS (by omega) (by omega)

set_option maxHeartbeats 4000000 in
set_option maxRecDepth 100000 in
theorem am_M_checkRows_L144 (l : Launch) (hfl : l.flags = pinnedFlags ++ [noTraceFlag]) (D : va_G) (A : Nat → Prop) (σ MC MS : Nat) (h0 : xb_H) (Qr : xb_H → Prop) (x0 : Nat) (x1 : Int32) (h : xb_H) (hw : w_M_checkRows_L144 Qr x0 x1 h) : xb_am l D A σ 11 MC MS h0 (fun v h _ _ => v = none ∧ Qr h) (fun _ _ _ _ => False) y_M_checkRows.cls y_M_checkRows.name b_M_checkRows 9 ([] : List ExceptionTableEntry) none 144 [(0, .ref x0), (1, .int x1)] [] h 0 0 := by
  unfold w_M_checkRows_L144 at hw
  intro p e s m args below meth c hC H locs ls k n hE hl hR hS hk hn
  obtain ⟨hx, hb, hown, hlocks, htab, hml, hr, hB, hA, hnm⟩ := id hC
  have hts := hB.1.1.at args
  refine lv_iconst (v := 0) hx hb (xb_d D_M_checkRows 77 rfl) (by decide) ?_
  refine lv_istore_n hx hb (xb_d D_M_checkRows 78 rfl) rfl hl (by decide) rfl (fun ls hl => ?_)
  have hl : lv_has ls 9 [(2, .int 0), (0, .ref x0), (1, .int x1)] := hl
  obtain ⟨n8, hw⟩ := hw
  exact am_M_checkRows_L146 l hfl D A σ MC MS h0 Qr n8 x0 x1 0 h hw p e s m args below meth c hC H locs ls k n hE (lv_sub hl [1, 2, 0] rfl) hR hS (by omega) (by omega)

set_option maxHeartbeats 4000000 in
set_option maxRecDepth 100000 in
theorem am_M_checkRows_L138 (l : Launch) (hfl : l.flags = pinnedFlags ++ [noTraceFlag]) (D : va_G) (A : Nat → Prop) (σ MC MS : Nat) (h0 : xb_H) (Qr : xb_H → Prop) (K2 : Nat → Int32 → Int32 → xb_H → Prop) (hK2 : ∀ (x0 : Nat) (x1 : Int32) (x2 : Int32) (h : xb_H), K2 x0 x1 x2 h → xb_am l D A σ 11 MC MS h0 (fun v h _ _ => v = none ∧ Qr h) (fun _ _ _ _ => False) y_M_checkRows.cls y_M_checkRows.name b_M_checkRows 9 ([] : List ExceptionTableEntry) none 2 [(0, .ref x0), (1, .int x1), (2, .int x2)] [] h 0 0) (x0 : Nat) (x1 : Int32) (x2 : Int32) (h : xb_H) (hw : w_M_checkRows_L138 K2 Qr x0 x1 x2 h) : xb_am l D A σ 11 MC MS h0 (fun v h _ _ => v = none ∧ Qr h) (fun _ _ _ _ => False) y_M_checkRows.cls y_M_checkRows.name b_M_checkRows 9 ([] : List ExceptionTableEntry) none 138 [(0, .ref x0), (1, .int x1), (2, .int x2)] [] h 0 0 := by
  unfold w_M_checkRows_L138 at hw
  intro p e s m args below meth c hC H locs ls k n hE hl hR hS hk hn
  obtain ⟨hx, hb, hown, hlocks, htab, hml, hr, hB, hA, hnm⟩ := id hC
  have hts := hB.1.1.at args
  refine lv_iinc (v := (x2 + 1)) (k := 2) hx hb (xb_d D_M_checkRows 75 rfl) hl rfl (by first | rfl | decide) (by decide) rfl (fun ls hl => ?_)
  have hl : lv_has ls 9 [(2, .int (x2 + 1)), (0, .ref x0), (1, .int x1)] := hl
  refine lv_goto (tgt := 2) hx hb (xb_d D_M_checkRows 76 rfl) rfl ?_
  exact hK2 x0 x1 (x2 + 1) h hw p e s m args below meth c hC H locs ls k n hE (lv_sub hl [1, 2, 0] rfl) hR hS (by omega) (by omega)

set_option maxHeartbeats 4000000 in
set_option maxRecDepth 100000 in
theorem am_M_checkRows_L129 (l : Launch) (hfl : l.flags = pinnedFlags ++ [noTraceFlag]) (D : va_G) (A : Nat → Prop) (σ MC MS : Nat) (h0 : xb_H) (Qr : xb_H → Prop) (K2 : Nat → Int32 → Int32 → xb_H → Prop) (hK2 : ∀ (x0 : Nat) (x1 : Int32) (x2 : Int32) (h : xb_H), K2 x0 x1 x2 h → xb_am l D A σ 11 MC MS h0 (fun v h _ _ => v = none ∧ Qr h) (fun _ _ _ _ => False) y_M_checkRows.cls y_M_checkRows.name b_M_checkRows 9 ([] : List ExceptionTableEntry) none 2 [(0, .ref x0), (1, .int x1), (2, .int x2)] [] h 0 0) (K86 : Nat → Int32 → Int32 → Int64 → Int64 → xb_H → Prop) (hK86 : ∀ (x0 : Nat) (x1 : Int32) (x2 : Int32) (x4 : Int64) (x6 : Int64) (h : xb_H), K86 x0 x1 x2 x4 x6 h → xb_am l D A σ 11 MC MS h0 (fun v h _ _ => v = none ∧ Qr h) (fun _ _ _ _ => False) y_M_checkRows.cls y_M_checkRows.name b_M_checkRows 9 ([] : List ExceptionTableEntry) none 86 [(0, .ref x0), (1, .int x1), (2, .int x2), (4, .long x4), (6, .long x6)] [] h 0 0) (x0 : Nat) (x1 : Int32) (x2 : Int32) (x4 : Int64) (x6 : Int64) (h : xb_H) (hw : w_M_checkRows_L129 K2 K86 Qr x0 x1 x2 x4 x6 h) : xb_am l D A σ 11 MC MS h0 (fun v h _ _ => v = none ∧ Qr h) (fun _ _ _ _ => False) y_M_checkRows.cls y_M_checkRows.name b_M_checkRows 9 ([] : List ExceptionTableEntry) none 129 [(0, .ref x0), (1, .int x1), (2, .int x2), (4, .long x4), (6, .long x6)] [] h 0 0 := by
  unfold w_M_checkRows_L129 at hw
  intro p e s m args below meth c hC H locs ls k n hE hl hR hS hk hn
  obtain ⟨hx, hb, hown, hlocks, htab, hml, hr, hB, hA, hnm⟩ := id hC
  have hts := hB.1.1.at args
  refine lv_lload hx hb (xb_d D_M_checkRows 70 rfl) (lv_at hl 4 rfl) ?_
  refine lv_lconst (v := 1) hx hb (xb_d D_M_checkRows 71 rfl) (by decide) ?_
  refine lv_ladd hx hb (xb_d D_M_checkRows 72 rfl) ?_
  obtain ⟨v1, ev1⟩ : ∃ x : Int64, x = (x6 + 1) := ⟨_, rfl⟩
  have hw := hw v1 ev1
  refine xt_numl (y := v1) ev1.symm ?_
  refine lv_lstore hx hb (xb_d D_M_checkRows 73 rfl) hl (by decide) rfl (fun ls hl => ?_)
  have hl : lv_has ls 9 [(6, .long v1), (0, .ref x0), (1, .int x1), (2, .int x2), (4, .long x4)] := hl
  refine lv_goto (tgt := 86) hx hb (xb_d D_M_checkRows 74 rfl) rfl ?_
  exact hK86 x0 x1 x2 x4 v1 h hw p e s m args below meth c hC H locs ls k n hE (lv_sub hl [1, 2, 3, 4, 0] rfl) hR hS (by omega) (by omega)

set_option maxHeartbeats 4000000 in
set_option maxRecDepth 100000 in
theorem am_M_checkRows_L86 (l : Launch) (hfl : l.flags = pinnedFlags ++ [noTraceFlag]) (D : va_G) (A : Nat → Prop) (σ MC MS : Nat) (h0 : xb_H) (Qr : xb_H → Prop) (K2 : Nat → Int32 → Int32 → xb_H → Prop) (hK2 : ∀ (x0 : Nat) (x1 : Int32) (x2 : Int32) (h : xb_H), K2 x0 x1 x2 h → xb_am l D A σ 11 MC MS h0 (fun v h _ _ => v = none ∧ Qr h) (fun _ _ _ _ => False) y_M_checkRows.cls y_M_checkRows.name b_M_checkRows 9 ([] : List ExceptionTableEntry) none 2 [(0, .ref x0), (1, .int x1), (2, .int x2)] [] h 0 0) (n9 : Nat) : ∀ (x0 : Nat) (x1 : Int32) (x2 : Int32) (x4 : Int64) (x6 : Int64) (h : xb_H), w_M_checkRows_L86 K2 Qr n9 x0 x1 x2 x4 x6 h → xb_am l D A σ 11 MC MS h0 (fun v h _ _ => v = none ∧ Qr h) (fun _ _ _ _ => False) y_M_checkRows.cls y_M_checkRows.name b_M_checkRows 9 ([] : List ExceptionTableEntry) none 86 [(0, .ref x0), (1, .int x1), (2, .int x2), (4, .long x4), (6, .long x6)] [] h 0 0 := by
  induction n9 with
  | zero => intro x0 x1 x2 x4 x6 h hw; exact False.elim hw
  | succ n9 ih =>
    intro x0 x1 x2 x4 x6 h hw
    unfold w_M_checkRows_L86 at hw
    intro p e s m args below meth c hC H locs ls k n hE hl hR hS hk hn
    obtain ⟨hx, hb, hown, hlocks, htab, hml, hr, hB, hA, hnm⟩ := id hC
    have hts := hB.1.1.at args
    refine lv_lload hx hb (xb_d D_M_checkRows 48 rfl) (lv_at hl 4 rfl) ?_
    refine lv_lload hx hb (xb_d D_M_checkRows 49 rfl) (lv_at hl 3 rfl) ?_
    refine xb_lc_ge (tgt := 138) hx hb (xb_d D_M_checkRows 50 rfl) (xb_d D_M_checkRows 51 rfl) rfl (fun hc1 => ?_) (fun hc1 => ?_)
    · have hw := hw.1 hc1
      exact am_M_checkRows_L138 l hfl D A σ MC MS h0 Qr K2 hK2 x0 x1 x2 h hw p e s m args below meth c hC H locs ls k n hE (lv_sub hl [0, 1, 2] rfl) hR hS (by omega) (by omega)
    · have hw := hw.2 hc1
      refine lv_aload_n hx hb (xb_d D_M_checkRows 52 rfl) rfl (lv_at hl 0 rfl) ?_
      obtain ⟨hk2, hw⟩ := hw
      refine xb_getI (C := R_M) (T := F_M) (N := 97) hx hb 8 17 hts fin_M hown hR hk2 (by decide) rfl (by decide) rfl (hts _ m_ff69da61) (fun _ h9 => h9) (xb_d D_M_checkRows 53 rfl) ?_
      refine lv_if_ne (tgt := 138) hx hb (xb_d D_M_checkRows 54 rfl) rfl (fun hc3 => ?_) (fun hc3 => ?_)
      · have hw := hw.1 hc3
        exact am_M_checkRows_L138 l hfl D A σ MC MS h0 Qr K2 hK2 x0 x1 x2 h hw p e s m args below meth c hC H locs ls k n hE (lv_sub hl [0, 1, 2] rfl) hR hS (by omega) (by omega)
      · have hw := hw.2 hc3
        refine lv_aload_n hx hb (xb_d D_M_checkRows 55 rfl) rfl (lv_at hl 0 rfl) ?_
        refine xb_getI (C := R_M) (T := F_M) (N := 97) hx hb 8 15 hts fin_M hown hR hk2 (by decide) rfl (by decide) rfl (hts _ m_6c2d27ad) (fun _ h9 => h9) (xb_d D_M_checkRows 56 rfl) ?_
        obtain ⟨v4, ev4⟩ : ∃ x : Int32, x = (xb_i h x0 15) := ⟨_, rfl⟩
        have hw := hw v4 ev4
        refine xt_numi (y := v4) ev4.symm ?_
        refine lv_istore hx hb (xb_d D_M_checkRows 57 rfl) hl (by decide) rfl (fun ls hl => ?_)
        have hl : lv_has ls 9 [(8, .int v4), (0, .ref x0), (1, .int x1), (2, .int x2), (4, .long x4), (6, .long x6)] := hl
        refine lv_aload_n hx hb (xb_d D_M_checkRows 58 rfl) rfl (lv_at hl 1 rfl) ?_
        refine xb_call0 (D := D) (A := A) (σ := σ) (h := h) (d := 4) (maxL := 5) (rest := []) (av := [.ref x0]) (fun T hT X => by obtain ⟨cb9, ra9, rb9, rc9⟩ := xb_recv (ci := 8) hR rfl hk2 (by decide); exact xt_invV X hx hown (hts _ m_e991293f) (hts _ m_385a74b3) (hts _ m_c9fbcd02) (xt_sigOf (hts _ m_1f53f210)) nm_M_count (by rw [hT]; exact ra9) rb9 rc9 (g := F0 m 108 ls [.ref x0]) rfl (argsL := []) (rest := []) rfl rfl (by rw [hb]; exact (xb_d D_M_checkRows 59 rfl))) (ok_M_count l hfl D A σ x0 h _ hw) (hml.trans hl.1.symm) (by rw [hb]; exact (xb_d D_M_checkRows 59 rfl)) (Nat.le_of_ble_eq_true rfl) (Nat.le_of_ble_eq_true rfl) (Nat.le_of_ble_eq_true rfl) (show k ≤ MC by omega) (show n ≤ MS by omega) (xt_w1 hB.1 m_1f53f210) (xt_cdOf hB.1 m_1f53f210) (hts _ m_d5ed7bed) hB hR hS hA (fun vv h5 H locs hq hEh5 hR hS => ?_)
        obtain ⟨r6, rfl, hw⟩ := hq
        have hw := hw hEh5
        have hE := hE.tr hEh5
        refine W.eq (g2 := F0 m 111 ls [.long r6]) rfl ?_
        refine lv_aload_n hx hb (xb_d D_M_checkRows 60 rfl) rfl (lv_at hl 1 rfl) ?_
        refine lv_iload_n hx hb (xb_d D_M_checkRows 61 rfl) rfl (lv_at hl 2 rfl) ?_
        refine lv_iconst (v := 0) hx hb (xb_d D_M_checkRows 62 rfl) (by decide) ?_
        have hk2 : xb_k h5 x0 = 9 := hEh5.k hk2
        refine xb_call0 (D := D) (A := A) (σ := σ) (h := h5) (d := 3) (maxL := 3) (rest := [.long r6]) (av := [.ref x0, .int x1, .int 0]) (fun T hT X => by obtain ⟨cb9, ra9, rb9, rc9⟩ := xb_recv (ci := 8) hR rfl hk2 (by decide); exact xt_invV X hx hown (hts _ m_940fb65e) (hts _ m_342c0f16) (hts _ m_c0324d76) (xt_sigOf (hts _ m_feaaa075)) nm_M_total (by rw [hT]; exact ra9) rb9 rc9 (g := F0 m 114 ls [.int 0, .int x1, .ref x0, .long r6]) rfl (argsL := [.int x1, .int 0]) (rest := [.long r6]) rfl rfl (by rw [hb]; exact (xb_d D_M_checkRows 63 rfl))) (ok_M_total l hfl D A σ x0 x1 0 h5 _ hw) (hml.trans hl.1.symm) (by rw [hb]; exact (xb_d D_M_checkRows 63 rfl)) (Nat.le_of_ble_eq_true rfl) (Nat.le_of_ble_eq_true rfl) (Nat.le_of_ble_eq_true rfl) (show k ≤ MC by omega) (show n ≤ MS by omega) (xt_w1 hB.1 m_feaaa075) (xt_cdOf hB.1 m_feaaa075) (hts _ m_d5ed7bed) hB hR hS hA (fun vv h7 H locs hq hEh7 hR hS => ?_)
        obtain ⟨r8, rfl, hw⟩ := hq
        have hw := hw hEh7
        have hE := hE.tr hEh7
        refine W.eq (g2 := F0 m 117 ls [.long r8, .long r6]) rfl ?_
        refine xb_lc_lt (tgt := 129) hx hb (xb_d D_M_checkRows 64 rfl) (xb_d D_M_checkRows 65 rfl) rfl (fun hc9 => ?_) (fun hc9 => ?_)
        · have hw := hw.1 hc9
          exact am_M_checkRows_L129 l hfl D A σ MC MS h0 Qr K2 hK2 (w_M_checkRows_L86 K2 Qr n9) ih x0 x1 x2 x4 x6 h7 hw p e s m args below meth c hC H locs ls k n hE (lv_sub hl [1, 2, 3, 4, 5] rfl) hR hS (by omega) (by omega)
        · have hw := hw.2 hc9
          refine lv_aload_n hx hb (xb_d D_M_checkRows 66 rfl) rfl (lv_at hl 1 rfl) ?_
          refine lv_bipush (v := 20) hx hb (xb_d D_M_checkRows 67 rfl) (by decide) ?_
          refine lv_iload hx hb (xb_d D_M_checkRows 68 rfl) (lv_at hl 0 rfl) ?_
          have hk2 : xb_k h7 x0 = 9 := hEh7.k hk2
          refine xb_call0 (D := D) (A := A) (σ := σ) (h := h7) (d := 2) (maxL := 3) (rest := []) (av := [.ref x0, .int 20, .int v4]) (fun T hT X => by obtain ⟨cb9, ra9, rb9, rc9⟩ := xb_recv (ci := 8) hR rfl hk2 (by decide); exact xt_invV X hx hown (hts _ m_939052ad) (hts _ m_29cc8c73) (hts _ m_3b1ac7ab) (xt_sigOf (hts _ m_8f062ecd)) nm_M_fail (by rw [hT]; exact ra9) rb9 rc9 (g := F0 m 126 ls [.int v4, .int 20, .ref x0]) rfl (argsL := [.int 20, .int v4]) (rest := []) rfl rfl (by rw [hb]; exact (xb_d D_M_checkRows 69 rfl))) (ok_M_fail l hfl D A σ x0 20 v4 h7 _ hw) (hml.trans hl.1.symm) (by rw [hb]; exact (xb_d D_M_checkRows 69 rfl)) (Nat.le_of_ble_eq_true rfl) (Nat.le_of_ble_eq_true rfl) (Nat.le_of_ble_eq_true rfl) (show k ≤ MC by omega) (show n ≤ MS by omega) (xt_w1 hB.1 m_8f062ecd) (xt_cdOf hB.1 m_8f062ecd) (hts _ m_d5ed7bed) hB hR hS hA (fun vv h10 H locs hq hEh10 hR hS => ?_)
          obtain ⟨rfl, hw⟩ := hq
          have hw := hw hEh10
          have hE := hE.tr hEh10
          refine W.eq (g2 := F0 m 129 ls []) rfl ?_
          exact am_M_checkRows_L129 l hfl D A σ MC MS h0 Qr K2 hK2 (w_M_checkRows_L86 K2 Qr n9) ih x0 x1 x2 x4 x6 h10 hw p e s m args below meth c hC H locs ls k n hE (lv_sub hl [1, 2, 3, 4, 5] rfl) hR hS (by omega) (by omega)

set_option maxHeartbeats 4000000 in
set_option maxRecDepth 100000 in
theorem am_M_checkRows_L81 (l : Launch) (hfl : l.flags = pinnedFlags ++ [noTraceFlag]) (D : va_G) (A : Nat → Prop) (σ MC MS : Nat) (h0 : xb_H) (Qr : xb_H → Prop) (K2 : Nat → Int32 → Int32 → xb_H → Prop) (hK2 : ∀ (x0 : Nat) (x1 : Int32) (x2 : Int32) (h : xb_H), K2 x0 x1 x2 h → xb_am l D A σ 11 MC MS h0 (fun v h _ _ => v = none ∧ Qr h) (fun _ _ _ _ => False) y_M_checkRows.cls y_M_checkRows.name b_M_checkRows 9 ([] : List ExceptionTableEntry) none 2 [(0, .ref x0), (1, .int x1), (2, .int x2)] [] h 0 0) (x0 : Nat) (x1 : Int32) (x2 : Int32) (y0 : Int64) (h : xb_H) (hw : w_M_checkRows_L81 K2 Qr x0 x1 x2 y0 h) : xb_am l D A σ 11 MC MS h0 (fun v h _ _ => v = none ∧ Qr h) (fun _ _ _ _ => False) y_M_checkRows.cls y_M_checkRows.name b_M_checkRows 9 ([] : List ExceptionTableEntry) none 81 [(0, .ref x0), (1, .int x1), (2, .int x2)] [.long y0] h 0 0 := by
  unfold w_M_checkRows_L81 at hw
  intro p e s m args below meth c hC H locs ls k n hE hl hR hS hk hn
  obtain ⟨hx, hb, hown, hlocks, htab, hml, hr, hB, hA, hnm⟩ := id hC
  have hts := hB.1.1.at args
  refine lv_lstore hx hb (xb_d D_M_checkRows 45 rfl) hl (by decide) rfl (fun ls hl => ?_)
  have hl : lv_has ls 9 [(4, .long y0), (0, .ref x0), (1, .int x1), (2, .int x2)] := hl
  refine lv_lconst (v := 0) hx hb (xb_d D_M_checkRows 46 rfl) (by decide) ?_
  refine lv_lstore hx hb (xb_d D_M_checkRows 47 rfl) hl (by decide) rfl (fun ls hl => ?_)
  have hl : lv_has ls 9 [(6, .long 0), (4, .long y0), (0, .ref x0), (1, .int x1), (2, .int x2)] := hl
  obtain ⟨n8, hw⟩ := hw
  exact am_M_checkRows_L86 l hfl D A σ MC MS h0 Qr K2 hK2 n8 x0 x1 x2 y0 0 h hw p e s m args below meth c hC H locs ls k n hE (lv_sub hl [2, 3, 4, 1, 0] rfl) hR hS (by omega) (by omega)

set_option maxHeartbeats 4000000 in
set_option maxRecDepth 100000 in
theorem am_M_checkRows_L66 (l : Launch) (hfl : l.flags = pinnedFlags ++ [noTraceFlag]) (D : va_G) (A : Nat → Prop) (σ MC MS : Nat) (h0 : xb_H) (Qr : xb_H → Prop) (K2 : Nat → Int32 → Int32 → xb_H → Prop) (hK2 : ∀ (x0 : Nat) (x1 : Int32) (x2 : Int32) (h : xb_H), K2 x0 x1 x2 h → xb_am l D A σ 11 MC MS h0 (fun v h _ _ => v = none ∧ Qr h) (fun _ _ _ _ => False) y_M_checkRows.cls y_M_checkRows.name b_M_checkRows 9 ([] : List ExceptionTableEntry) none 2 [(0, .ref x0), (1, .int x1), (2, .int x2)] [] h 0 0) (x0 : Nat) (x1 : Int32) (x2 : Int32) (h : xb_H) (hw : w_M_checkRows_L66 K2 Qr x0 x1 x2 h) : xb_am l D A σ 11 MC MS h0 (fun v h _ _ => v = none ∧ Qr h) (fun _ _ _ _ => False) y_M_checkRows.cls y_M_checkRows.name b_M_checkRows 9 ([] : List ExceptionTableEntry) none 66 [(0, .ref x0), (1, .int x1), (2, .int x2)] [] h 0 0 := by
  unfold w_M_checkRows_L66 at hw
  intro p e s m args below meth c hC H locs ls k n hE hl hR hS hk hn
  obtain ⟨hx, hb, hown, hlocks, htab, hml, hr, hB, hA, hnm⟩ := id hC
  have hts := hB.1.1.at args
  refine lv_aload_n hx hb (xb_d D_M_checkRows 38 rfl) rfl (lv_at hl 0 rfl) ?_
  obtain ⟨hk1, hw⟩ := hw
  refine xb_getI (C := R_M) (T := F_M) (N := 97) hx hb 8 17 hts fin_M hown hR hk1 (by decide) rfl (by decide) rfl (hts _ m_ff69da61) (fun _ h9 => h9) (xb_d D_M_checkRows 39 rfl) ?_
  refine lv_if_ne (tgt := 80) hx hb (xb_d D_M_checkRows 40 rfl) rfl (fun hc2 => ?_) (fun hc2 => ?_)
  · have hw := hw.1 hc2
    refine lv_lconst (v := 0) hx hb (xb_d D_M_checkRows 44 rfl) (by decide) ?_
    exact am_M_checkRows_L81 l hfl D A σ MC MS h0 Qr K2 hK2 x0 x1 x2 0 h hw p e s m args below meth c hC H locs ls k n hE (lv_sub hl [0, 1, 2] rfl) hR hS (by omega) (by omega)
  · have hw := hw.2 hc2
    refine lv_aload_n hx hb (xb_d D_M_checkRows 41 rfl) rfl (lv_at hl 0 rfl) ?_
    refine xb_call0 (D := D) (A := A) (σ := σ) (h := h) (d := 4) (maxL := 5) (rest := []) (av := [.ref x0]) (fun T hT X => by obtain ⟨cb9, ra9, rb9, rc9⟩ := xb_recv (ci := 8) hR rfl hk1 (by decide); exact xt_invV X hx hown (hts _ m_e991293f) (hts _ m_385a74b3) (hts _ m_c9fbcd02) (xt_sigOf (hts _ m_1f53f210)) nm_M_count (by rw [hT]; exact ra9) rb9 rc9 (g := F0 m 74 ls [.ref x0]) rfl (argsL := []) (rest := []) rfl rfl (by rw [hb]; exact (xb_d D_M_checkRows 42 rfl))) (ok_M_count l hfl D A σ x0 h _ hw) (hml.trans hl.1.symm) (by rw [hb]; exact (xb_d D_M_checkRows 42 rfl)) (Nat.le_of_ble_eq_true rfl) (Nat.le_of_ble_eq_true rfl) (Nat.le_of_ble_eq_true rfl) (show k ≤ MC by omega) (show n ≤ MS by omega) (xt_w1 hB.1 m_1f53f210) (xt_cdOf hB.1 m_1f53f210) (hts _ m_d5ed7bed) hB hR hS hA (fun vv h3 H locs hq hEh3 hR hS => ?_)
    obtain ⟨r4, rfl, hw⟩ := hq
    have hw := hw hEh3
    have hE := hE.tr hEh3
    refine W.eq (g2 := F0 m 77 ls [.long r4]) rfl ?_
    refine lv_goto (tgt := 81) hx hb (xb_d D_M_checkRows 43 rfl) rfl ?_
    exact am_M_checkRows_L81 l hfl D A σ MC MS h0 Qr K2 hK2 x0 x1 x2 r4 h3 hw p e s m args below meth c hC H locs ls k n hE (lv_sub hl [0, 1, 2] rfl) hR hS (by omega) (by omega)

set_option maxHeartbeats 4000000 in
set_option maxRecDepth 100000 in
theorem am_M_checkRows_L2 (l : Launch) (hfl : l.flags = pinnedFlags ++ [noTraceFlag]) (D : va_G) (A : Nat → Prop) (σ MC MS : Nat) (h0 : xb_H) (Qr : xb_H → Prop) (n9 : Nat) : ∀ (x0 : Nat) (x1 : Int32) (x2 : Int32) (h : xb_H), w_M_checkRows_L2 Qr n9 x0 x1 x2 h → xb_am l D A σ 11 MC MS h0 (fun v h _ _ => v = none ∧ Qr h) (fun _ _ _ _ => False) y_M_checkRows.cls y_M_checkRows.name b_M_checkRows 9 ([] : List ExceptionTableEntry) none 2 [(0, .ref x0), (1, .int x1), (2, .int x2)] [] h 0 0 := by
  induction n9 with
  | zero => intro x0 x1 x2 h hw; exact False.elim hw
  | succ n9 ih =>
    intro x0 x1 x2 h hw
    unfold w_M_checkRows_L2 at hw
    intro p e s m args below meth c hC H locs ls k n hE hl hR hS hk hn
    obtain ⟨hx, hb, hown, hlocks, htab, hml, hr, hB, hA, hnm⟩ := id hC
    have hts := hB.1.1.at args
    refine lv_iload_n hx hb (xb_d D_M_checkRows 2 rfl) rfl (lv_at hl 2 rfl) ?_
    refine lv_aload_n hx hb (xb_d D_M_checkRows 3 rfl) rfl (lv_at hl 0 rfl) ?_
    refine lv_iload_n hx hb (xb_d D_M_checkRows 4 rfl) rfl (lv_at hl 1 rfl) ?_
    refine lv_bipush (v := 9) hx hb (xb_d D_M_checkRows 5 rfl) (by decide) ?_
    obtain ⟨hk1, hw⟩ := hw
    refine xb_call0 (D := D) (A := A) (σ := σ) (h := h) (d := 2) (maxL := 3) (rest := [.int x2]) (av := [.ref x0, .int x1, .int 9]) (fun T hT X => by obtain ⟨cb9, ra9, rb9, rc9⟩ := xb_recv (ci := 8) hR rfl hk1 (by decide); exact xt_invV X hx hown (hts _ m_b47f62c2) (hts _ m_9f071faf) (hts _ m_e1bb5c84) (xt_sigOf (hts _ m_3a6212d6)) nm_M_manyOf (by rw [hT]; exact ra9) rb9 rc9 (g := F0 m 7 ls [.int 9, .int x1, .ref x0, .int x2]) rfl (argsL := [.int x1, .int 9]) (rest := [.int x2]) rfl rfl (by rw [hb]; exact (xb_d D_M_checkRows 6 rfl))) (ok_M_manyOf l hfl D A σ x0 x1 9 h _ hw) (hml.trans hl.1.symm) (by rw [hb]; exact (xb_d D_M_checkRows 6 rfl)) (Nat.le_of_ble_eq_true rfl) (Nat.le_of_ble_eq_true rfl) (Nat.le_of_ble_eq_true rfl) (show k ≤ MC by omega) (show n ≤ MS by omega) (xt_w1 hB.1 m_3a6212d6) (xt_cdOf hB.1 m_3a6212d6) (hts _ m_d5ed7bed) hB hR hS hA (fun vv h2 H locs hq hEh2 hR hS => ?_)
    obtain ⟨r3, rfl, hw⟩ := hq
    have hw := hw hEh2
    have hE := hE.tr hEh2
    refine W.eq (g2 := F0 m 10 ls [.int r3, .int x2]) rfl ?_
    refine lv_icmp_ge (tgt := 144) hx hb (xb_d D_M_checkRows 7 rfl) rfl (fun hc4 => ?_) (fun hc4 => ?_)
    · have hw := hw.1 hc4
      exact am_M_checkRows_L144 l hfl D A σ MC MS h0 Qr x0 x1 h2 hw p e s m args below meth c hC H locs ls k n hE (lv_sub hl [0, 1] rfl) hR hS (by omega) (by omega)
    · have hw := hw.2 hc4
      refine lv_aload_n hx hb (xb_d D_M_checkRows 8 rfl) rfl (lv_at hl 0 rfl) ?_
      have hk1 : xb_k h2 x0 = 9 := hEh2.k hk1
      refine xb_getI (C := R_M) (T := F_M) (N := 97) hx hb 8 17 hts fin_M hown hR hk1 (by decide) rfl (by decide) rfl (hts _ m_ff69da61) (fun _ h9 => h9) (xb_d D_M_checkRows 9 rfl) ?_
      refine lv_if_ne (tgt := 144) hx hb (xb_d D_M_checkRows 10 rfl) rfl (fun hc5 => ?_) (fun hc5 => ?_)
      · have hw := hw.1 hc5
        exact am_M_checkRows_L144 l hfl D A σ MC MS h0 Qr x0 x1 h2 hw p e s m args below meth c hC H locs ls k n hE (lv_sub hl [0, 1] rfl) hR hS (by omega) (by omega)
      · have hw := hw.2 hc5
        refine lv_aload_n hx hb (xb_d D_M_checkRows 11 rfl) rfl (lv_at hl 0 rfl) ?_
        refine lv_iload_n hx hb (xb_d D_M_checkRows 12 rfl) rfl (lv_at hl 1 rfl) ?_
        refine lv_bipush (v := 9) hx hb (xb_d D_M_checkRows 13 rfl) (by decide) ?_
        refine lv_iload_n hx hb (xb_d D_M_checkRows 14 rfl) rfl (lv_at hl 2 rfl) ?_
        refine xb_call0 (D := D) (A := A) (σ := σ) (h := h2) (d := 2) (maxL := 4) (rest := []) (av := [.ref x0, .int x1, .int 9, .int x2]) (fun T hT X => by obtain ⟨cb9, ra9, rb9, rc9⟩ := xb_recv (ci := 8) hR rfl hk1 (by decide); exact xt_invV X hx hown (hts _ m_7f41753e) (hts _ m_8cdd7108) (hts _ m_e228318f) (xt_sigOf (hts _ m_89667ad5)) nm_M_placeOf (by rw [hT]; exact ra9) rb9 rc9 (g := F0 m 25 ls [.int x2, .int 9, .int x1, .ref x0]) rfl (argsL := [.int x1, .int 9, .int x2]) (rest := []) rfl rfl (by rw [hb]; exact (xb_d D_M_checkRows 15 rfl))) (ok_M_placeOf l hfl D A σ x0 x1 9 x2 h2 _ hw) (hml.trans hl.1.symm) (by rw [hb]; exact (xb_d D_M_checkRows 15 rfl)) (Nat.le_of_ble_eq_true rfl) (Nat.le_of_ble_eq_true rfl) (Nat.le_of_ble_eq_true rfl) (show k ≤ MC by omega) (show n ≤ MS by omega) (xt_w1 hB.1 m_89667ad5) (xt_cdOf hB.1 m_89667ad5) (hts _ m_d5ed7bed) hB hR hS hA (fun vv h6 H locs hq hEh6 hR hS => ?_)
        obtain ⟨r7, rfl, hw⟩ := hq
        have hw := hw hEh6
        have hE := hE.tr hEh6
        refine W.eq (g2 := F0 m 28 ls [.int r7]) rfl ?_
        refine lv_istore_n hx hb (xb_d D_M_checkRows 16 rfl) rfl hl (by decide) rfl (fun ls hl => ?_)
        have hl : lv_has ls 9 [(3, .int r7), (0, .ref x0), (1, .int x1), (2, .int x2)] := hl
        refine lv_aload_n hx hb (xb_d D_M_checkRows 17 rfl) rfl (lv_at hl 1 rfl) ?_
        refine lv_iload_n hx hb (xb_d D_M_checkRows 18 rfl) rfl (lv_at hl 2 rfl) ?_
        refine lv_iload_n hx hb (xb_d D_M_checkRows 19 rfl) rfl (lv_at hl 0 rfl) ?_
        have hk1 : xb_k h6 x0 = 9 := hEh6.k hk1
        refine xb_call0 (D := D) (A := A) (σ := σ) (h := h6) (d := 2) (maxL := 3) (rest := []) (av := [.ref x0, .int x1, .int r7]) (fun T hT X => by obtain ⟨cb9, ra9, rb9, rc9⟩ := xb_recv (ci := 8) hR rfl hk1 (by decide); exact xt_invV X hx hown (hts _ m_bb531879) (hts _ m_4a6cd4a0) (hts _ m_d1c31e3c) (xt_sigOf (hts _ m_48217fba)) nm_M_go (by rw [hT]; exact ra9) rb9 rc9 (g := F0 m 32 ls [.int r7, .int x1, .ref x0]) rfl (argsL := [.int x1, .int r7]) (rest := []) rfl rfl (by rw [hb]; exact (xb_d D_M_checkRows 20 rfl))) (ok_M_go l hfl D A σ x0 x1 r7 h6 _ hw) (hml.trans hl.1.symm) (by rw [hb]; exact (xb_d D_M_checkRows 20 rfl)) (Nat.le_of_ble_eq_true rfl) (Nat.le_of_ble_eq_true rfl) (Nat.le_of_ble_eq_true rfl) (show k ≤ MC by omega) (show n ≤ MS by omega) (xt_w1 hB.1 m_48217fba) (xt_cdOf hB.1 m_48217fba) (hts _ m_d5ed7bed) hB hR hS hA (fun vv h8 H locs hq hEh8 hR hS => ?_)
        obtain ⟨rfl, hw⟩ := hq
        have hw := hw hEh8
        have hE := hE.tr hEh8
        refine W.eq (g2 := F0 m 35 ls []) rfl ?_
        refine lv_aload_n hx hb (xb_d D_M_checkRows 21 rfl) rfl (lv_at hl 1 rfl) ?_
        have hk1 : xb_k h8 x0 = 9 := hEh8.k hk1
        refine xb_call0 (D := D) (A := A) (σ := σ) (h := h8) (d := 4) (maxL := 5) (rest := []) (av := [.ref x0]) (fun T hT X => by obtain ⟨cb9, ra9, rb9, rc9⟩ := xb_recv (ci := 8) hR rfl hk1 (by decide); exact xt_invV X hx hown (hts _ m_e991293f) (hts _ m_385a74b3) (hts _ m_c9fbcd02) (xt_sigOf (hts _ m_1f53f210)) nm_M_count (by rw [hT]; exact ra9) rb9 rc9 (g := F0 m 36 ls [.ref x0]) rfl (argsL := []) (rest := []) rfl rfl (by rw [hb]; exact (xb_d D_M_checkRows 22 rfl))) (ok_M_count l hfl D A σ x0 h8 _ hw) (hml.trans hl.1.symm) (by rw [hb]; exact (xb_d D_M_checkRows 22 rfl)) (Nat.le_of_ble_eq_true rfl) (Nat.le_of_ble_eq_true rfl) (Nat.le_of_ble_eq_true rfl) (show k ≤ MC by omega) (show n ≤ MS by omega) (xt_w1 hB.1 m_1f53f210) (xt_cdOf hB.1 m_1f53f210) (hts _ m_d5ed7bed) hB hR hS hA (fun vv h10 H locs hq hEh10 hR hS => ?_)
        obtain ⟨r11, rfl, hw⟩ := hq
        have hw := hw hEh10
        have hE := hE.tr hEh10
        refine W.eq (g2 := F0 m 39 ls [.long r11]) rfl ?_
        refine lv_aload_n hx hb (xb_d D_M_checkRows 23 rfl) rfl (lv_at hl 1 rfl) ?_
        refine lv_iload_n hx hb (xb_d D_M_checkRows 24 rfl) rfl (lv_at hl 2 rfl) ?_
        refine lv_iconst (v := 1) hx hb (xb_d D_M_checkRows 25 rfl) (by decide) ?_
        have hk1 : xb_k h10 x0 = 9 := hEh10.k hk1
        refine xb_call0 (D := D) (A := A) (σ := σ) (h := h10) (d := 3) (maxL := 3) (rest := [.long r11]) (av := [.ref x0, .int x1, .int 1]) (fun T hT X => by obtain ⟨cb9, ra9, rb9, rc9⟩ := xb_recv (ci := 8) hR rfl hk1 (by decide); exact xt_invV X hx hown (hts _ m_940fb65e) (hts _ m_342c0f16) (hts _ m_c0324d76) (xt_sigOf (hts _ m_feaaa075)) nm_M_total (by rw [hT]; exact ra9) rb9 rc9 (g := F0 m 42 ls [.int 1, .int x1, .ref x0, .long r11]) rfl (argsL := [.int x1, .int 1]) (rest := [.long r11]) rfl rfl (by rw [hb]; exact (xb_d D_M_checkRows 26 rfl))) (ok_M_total l hfl D A σ x0 x1 1 h10 _ hw) (hml.trans hl.1.symm) (by rw [hb]; exact (xb_d D_M_checkRows 26 rfl)) (Nat.le_of_ble_eq_true rfl) (Nat.le_of_ble_eq_true rfl) (Nat.le_of_ble_eq_true rfl) (show k ≤ MC by omega) (show n ≤ MS by omega) (xt_w1 hB.1 m_feaaa075) (xt_cdOf hB.1 m_feaaa075) (hts _ m_d5ed7bed) hB hR hS hA (fun vv h12 H locs hq hEh12 hR hS => ?_)
        obtain ⟨r13, rfl, hw⟩ := hq
        have hw := hw hEh12
        have hE := hE.tr hEh12
        refine W.eq (g2 := F0 m 45 ls [.long r13, .long r11]) rfl ?_
        refine xb_lc_lt (tgt := 59) hx hb (xb_d D_M_checkRows 27 rfl) (xb_d D_M_checkRows 28 rfl) rfl (fun hc14 => ?_) (fun hc14 => ?_)
        · have hw := hw.1 hc14
          refine lv_aload_n hx hb (xb_d D_M_checkRows 34 rfl) rfl (lv_at hl 1 rfl) ?_
          refine lv_iload_n hx hb (xb_d D_M_checkRows 35 rfl) rfl (lv_at hl 2 rfl) ?_
          refine lv_bipush (v := 127) hx hb (xb_d D_M_checkRows 36 rfl) (by decide) ?_
          have hk1 : xb_k h12 x0 = 9 := hEh12.k hk1
          refine xb_call0 (D := D) (A := A) (σ := σ) (h := h12) (d := 10) (maxL := 11) (rest := []) (av := [.ref x0, .int x1, .int 127]) (fun T hT X => by obtain ⟨cb9, ra9, rb9, rc9⟩ := xb_recv (ci := 8) hR rfl hk1 (by decide); exact xt_invV X hx hown (hts _ m_3317c695) (hts _ m_a90e9b00) (hts _ m_b31c6542) (xt_sigOf (hts _ m_031701f6)) nm_M_checkConstant (by rw [hT]; exact ra9) rb9 rc9 (g := F0 m 63 ls [.int 127, .int x1, .ref x0]) rfl (argsL := [.int x1, .int 127]) (rest := []) rfl rfl (by rw [hb]; exact (xb_d D_M_checkRows 37 rfl))) (ok_M_checkConstant l hfl D A σ x0 x1 127 h12 _ hw) (hml.trans hl.1.symm) (by rw [hb]; exact (xb_d D_M_checkRows 37 rfl)) (Nat.le_of_ble_eq_true rfl) (Nat.le_of_ble_eq_true rfl) (Nat.le_of_ble_eq_true rfl) (show k ≤ MC by omega) (show n ≤ MS by omega) (xt_w1 hB.1 m_031701f6) (xt_cdOf hB.1 m_031701f6) (hts _ m_d5ed7bed) hB hR hS hA (fun vv h15 H locs hq hEh15 hR hS => ?_)
          obtain ⟨rfl, hw⟩ := hq
          have hw := hw hEh15
          have hE := hE.tr hEh15
          refine W.eq (g2 := F0 m 66 ls []) rfl ?_
          exact am_M_checkRows_L66 l hfl D A σ MC MS h0 Qr (w_M_checkRows_L2 Qr n9) ih x0 x1 x2 h15 hw p e s m args below meth c hC H locs ls k n hE (lv_sub hl [1, 2, 3] rfl) hR hS (by omega) (by omega)
        · have hw := hw.2 hc14
          refine lv_aload_n hx hb (xb_d D_M_checkRows 29 rfl) rfl (lv_at hl 1 rfl) ?_
          refine lv_bipush (v := 20) hx hb (xb_d D_M_checkRows 30 rfl) (by decide) ?_
          refine lv_iload_n hx hb (xb_d D_M_checkRows 31 rfl) rfl (lv_at hl 0 rfl) ?_
          have hk1 : xb_k h12 x0 = 9 := hEh12.k hk1
          refine xb_call0 (D := D) (A := A) (σ := σ) (h := h12) (d := 2) (maxL := 3) (rest := []) (av := [.ref x0, .int 20, .int r7]) (fun T hT X => by obtain ⟨cb9, ra9, rb9, rc9⟩ := xb_recv (ci := 8) hR rfl hk1 (by decide); exact xt_invV X hx hown (hts _ m_939052ad) (hts _ m_29cc8c73) (hts _ m_3b1ac7ab) (xt_sigOf (hts _ m_8f062ecd)) nm_M_fail (by rw [hT]; exact ra9) rb9 rc9 (g := F0 m 53 ls [.int r7, .int 20, .ref x0]) rfl (argsL := [.int 20, .int r7]) (rest := []) rfl rfl (by rw [hb]; exact (xb_d D_M_checkRows 32 rfl))) (ok_M_fail l hfl D A σ x0 20 r7 h12 _ hw) (hml.trans hl.1.symm) (by rw [hb]; exact (xb_d D_M_checkRows 32 rfl)) (Nat.le_of_ble_eq_true rfl) (Nat.le_of_ble_eq_true rfl) (Nat.le_of_ble_eq_true rfl) (show k ≤ MC by omega) (show n ≤ MS by omega) (xt_w1 hB.1 m_8f062ecd) (xt_cdOf hB.1 m_8f062ecd) (hts _ m_d5ed7bed) hB hR hS hA (fun vv h17 H locs hq hEh17 hR hS => ?_)
          obtain ⟨rfl, hw⟩ := hq
          have hw := hw hEh17
          have hE := hE.tr hEh17
          refine W.eq (g2 := F0 m 56 ls []) rfl ?_
          refine lv_goto (tgt := 66) hx hb (xb_d D_M_checkRows 33 rfl) rfl ?_
          exact am_M_checkRows_L66 l hfl D A σ MC MS h0 Qr (w_M_checkRows_L2 Qr n9) ih x0 x1 x2 h17 hw p e s m args below meth c hC H locs ls k n hE (lv_sub hl [1, 2, 3] rfl) hR hS (by omega) (by omega)

set_option maxHeartbeats 4000000 in
set_option maxRecDepth 100000 in
theorem ok_M_checkRows (l : Launch) (hfl : l.flags = pinnedFlags ++ [noTraceFlag]) (D : va_G) (A : Nat → Prop) (σ : Nat) (x0 : Nat) (x1 : Int32) (h : xb_H) (Qr : xb_H → Prop) (hw : w_M_checkRows x0 x1 h Qr) : xb_Met l y_M_checkRows [.code y_M_checkRows b_M_checkRows 9 none] (xb_rm 11 0 0) (xb_Pc D A σ h [.ref x0, .int x1]) (xb_Qc D A h 0 0 (fun v h _ _ => v = none ∧ Qr h) (fun _ _ _ _ => False)) A := by
  refine xb_ofAm (cc := b_M_checkRows) (by decide) (Nat.le_of_ble_eq_true rfl) ?_
  unfold w_M_checkRows at hw
  show xb_am l D A σ 11 0 0 h (fun v h _ _ => v = none ∧ Qr h) (fun _ _ _ _ => False) y_M_checkRows.cls y_M_checkRows.name b_M_checkRows 9 ([] : List ExceptionTableEntry) none 0 [(0, .ref x0), (1, .int x1)] [] h 0 0
  obtain ⟨MC, hMC⟩ : ∃ x, x = 0 := ⟨_, rfl⟩
  obtain ⟨MS, hMS⟩ : ∃ x, x = 0 := ⟨_, rfl⟩
  rw [show xb_am l D A σ 11 0 0 = xb_am l D A σ 11 MC MS by rw [hMC, hMS]]
  obtain ⟨h0, hh0⟩ : ∃ x, x = h := ⟨_, rfl⟩
  rw [show xb_am l D A σ 11 MC MS h = xb_am l D A σ 11 MC MS h0 by rw [hh0]]
  intro p e s m args below meth c hC H locs ls k n hE hl hR hS hk hn
  obtain ⟨hx, hb, hown, hlocks, htab, hml, hr, hB, hA, hnm⟩ := id hC
  have hts := hB.1.1.at args
  refine lv_iconst (v := 0) hx hb (xb_d D_M_checkRows 0 rfl) (by decide) ?_
  refine lv_istore_n hx hb (xb_d D_M_checkRows 1 rfl) rfl hl (by decide) rfl (fun ls hl => ?_)
  have hl : lv_has ls 9 [(2, .int 0), (0, .ref x0), (1, .int x1)] := hl
  obtain ⟨n8, hw⟩ := hw
  exact am_M_checkRows_L2 l hfl D A σ MC MS h0 Qr n8 x0 x1 0 h hw p e s m args below meth c hC H locs ls k n hE (lv_sub hl [1, 2, 0] rfl) hR hS (by omega) (by omega)

