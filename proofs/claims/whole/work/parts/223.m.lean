theorem m_24974b85 : (.methodLink "StackHostModel$Exact" 60 y_Exact_isBelow : Cond) ∈ xt_tbl := xt_in (xt_t13 (List.mem_of_getElem? (i := 35) (by decide +kernel))) (by decide +kernel)
theorem m_a034788e : (.instanceMethod y_Exact_isBelow : Cond) ∈ xt_tbl := xt_in (xt_t13 (List.mem_of_getElem? (i := 37) (by decide +kernel))) (by decide +kernel)
theorem m_61a2f1f5 : (.selects "StackHostModel$Exact" y_Exact_isBelow y_Exact_isBelow : Cond) ∈ xt_tbl := xt_in (xt_v16 (q := (⟨"StackHostModel$Exact", "isBelow", "(I)Z"⟩, 11)) (List.mem_of_getElem? (i := 2) (by decide +kernel))) (by decide +kernel)
theorem m_e6aa3f0f : (.code y_Exact_isBelow b_Exact_isBelow 4 (some .boolean) : Cond) ∈ xt_tbl := xt_in (xt_t13 (List.mem_of_getElem? (i := 38) (by decide +kernel))) (by decide +kernel)
theorem m_66357da4 : (.methodLink "StackHostModel$Exact" 56 y_Exact_highest : Cond) ∈ xt_tbl := xt_in (xt_t13 (List.mem_of_getElem? (i := 31) (by decide +kernel))) (by decide +kernel)
theorem m_d0ac19e2 : (.instanceMethod y_Exact_highest : Cond) ∈ xt_tbl := xt_in (xt_t13 (List.mem_of_getElem? (i := 33) (by decide +kernel))) (by decide +kernel)
theorem m_efe18c85 : (.selects "StackHostModel$Exact" y_Exact_highest y_Exact_highest : Cond) ∈ xt_tbl := xt_in (xt_v16 (q := (⟨"StackHostModel$Exact", "highest", "()I"⟩, 11)) (List.mem_of_getElem? (i := 1) (by decide +kernel))) (by decide +kernel)
theorem m_586abdc5 : (.code y_Exact_highest b_Exact_highest 2 (some .int) : Cond) ∈ xt_tbl := xt_in (xt_t13 (List.mem_of_getElem? (i := 34) (by decide +kernel))) (by decide +kernel)
theorem nm_Exact_isBelow : xt_nm y_Exact_isBelow 1 := ⟨by decide +kernel, by decide +kernel⟩
theorem nm_Exact_highest : xt_nm y_Exact_highest 0 := ⟨by decide +kernel, by decide +kernel⟩
set_option maxRecDepth 100000 in
def T_Exact_rounded : List (Nat × Instr × Nat) := [(0, .aload_n 0, 1), (1, .invokevirtual 56, 3), (4, .istore_n 2, 1), (5, .sipush 2201, 3), (8, .aload_n 0, 1), (9, .getfield 47, 3), (12, .isub, 1), (13, .aload_n 0, 1), (14, .getfield 44, 3), (17, .isub, 1), (18, .istore_n 3, 1), (19, .iload_n 2, 1), (20, .aload_n 0, 1), (21, .getfield 44, 3), (24, .isub, 1), (25, .iload_n 3, 1), (26, .if_icmp .le 12, 3), (29, .iload_n 2, 1), (30, .aload_n 0, 1), (31, .getfield 44, 3), (34, .isub, 1), (35, .goto 4, 3), (38, .iload_n 3, 1), (39, .istore 4, 2), (41, .lconst 0, 1), (42, .lstore 5, 2), (44, .iload_n 2, 1), (45, .istore 7, 2), (47, .iload 7, 2), (49, .iload 4, 2), (51, .if_icmp .lt 26, 3), (54, .ldc2_w 50, 3), (57, .lload 5, 2), (59, .lmul, 1), (60, .aload_n 0, 1), (61, .getfield 9, 3), (64, .iload 7, 2), (66, .baload, 1), (67, .i2l, 1), (68, .ladd, 1), (69, .lstore 5, 2), (71, .iinc 7 (-1), 3), (74, .goto (-27), 3), (77, .iload 4, 2), (79, .ifCond .le 41, 3), (82, .iload 4, 2), (84, .iconst 1, 1), (85, .isub, 1), (86, .aload_n 0, 1), (87, .getfield 19, 3), (90, .if_icmp .gt 30, 3), (93, .iload 4, 2), (95, .iconst 1, 1), (96, .isub, 1), (97, .aload_n 0, 1), (98, .getfield 15, 3), (101, .if_icmp .lt 19, 3), (104, .aload_n 0, 1), (105, .getfield 9, 3), (108, .iload 4, 2), (110, .iconst 1, 1), (111, .isub, 1), (112, .baload, 1), (113, .ifCond .eq 7, 3), (116, .iconst 1, 1), (117, .goto 4, 3), (120, .iconst 0, 1), (121, .istore 7, 2), (123, .iload 7, 2), (125, .ifCond .eq 27, 3), (128, .aload_n 0, 1), (129, .iload 4, 2), (131, .iconst 1, 1), (132, .isub, 1), (133, .invokevirtual 60, 3), (136, .ifCond .ne 12, 3), (139, .lload 5, 2), (141, .lconst 1, 1), (142, .land, 1), (143, .lconst 1, 1), (144, .lcmp, 1), (145, .ifCond .ne 7, 3), (148, .iconst 1, 1), (149, .goto 4, 3), (152, .iconst 0, 1), (153, .istore 8, 2), (155, .iload 8, 2), (157, .ifCond .eq 10, 3), (160, .lload 5, 2), (162, .lconst 1, 1), (163, .ladd, 1), (164, .goto 5, 3), (167, .lload 5, 2), (169, .lstore 5, 2), (171, .iload 4, 2), (173, .iload_n 3, 1), (174, .isub, 1), (175, .istore 9, 2), (177, .lload 5, 2), (179, .aload_n 0, 1), (180, .getfield 44, 3), (183, .lshr, 1), (184, .ldc2_w 50, 3), (187, .lcmp, 1), (188, .ifCond .ne 12, 3), (191, .lload 5, 2), (193, .iconst 1, 1), (194, .lshr, 1), (195, .lstore 5, 2), (197, .iinc 9 1, 3), (200, .lload 5, 2), (202, .aload_n 0, 1), (203, .getfield 44, 3), (206, .lshr, 1), (207, .lconst 0, 1), (208, .lcmp, 1), (209, .ifCond .ne 11, 3), (212, .aload_n 0, 1), (213, .lload 5, 2), (215, .iload_n 1, 1), (216, .invokevirtual 52, 3), (219, .lreturn, 1), (220, .iload 9, 2), (222, .iconst 1, 1), (223, .iadd, 1), (224, .iconst 2, 1), (225, .aload_n 0, 1), (226, .getfield 47, 3), (229, .imul, 1), (230, .if_icmp .le 11, 3), (233, .aload_n 0, 1), (234, .iload_n 1, 1), (235, .invokevirtual 64, 3), (238, .goto 30, 3), (241, .aload_n 0, 1), (242, .iload 9, 2), (244, .iconst 1, 1), (245, .iadd, 1), (246, .i2l, 1), (247, .aload_n 0, 1), (248, .getfield 44, 3), (251, .lshl, 1), (252, .lload 5, 2), (254, .lconst 1, 1), (255, .aload_n 0, 1), (256, .getfield 44, 3), (259, .lshl, 1), (260, .lconst 1, 1), (261, .lsub, 1), (262, .land, 1), (263, .lor, 1), (264, .iload_n 1, 1), (265, .invokevirtual 52, 3), (268, .lreturn, 1)]
theorem D_Exact_rounded : ∀ q ∈ T_Exact_rounded, decode b_Exact_rounded q.1 = .ok (q.2.1, q.2.2) := by decide +kernel

set_option maxHeartbeats 4000000 in
set_option maxRecDepth 100000 in
theorem am_Exact_rounded_L268 (l : Launch) (hfl : l.flags = pinnedFlags ++ [noTraceFlag]) (D : va_G) (A : Nat → Prop) (σ MC MS : Nat) (h0 : xb_H) (Qr : Int64 → xb_H → Prop) (y0 : Int64) (h : xb_H) (hw : w_Exact_rounded_L268 Qr y0 h) : xb_am l D A σ 4 MC MS h0 (fun v h _ _ => ∃ r, v = some (.long r) ∧ Qr r h) (fun _ _ _ _ => False) y_Exact_rounded.cls y_Exact_rounded.name b_Exact_rounded 10 ([] : List ExceptionTableEntry) (some .long) 268 [] [.long y0] h 0 0 := by
  unfold w_Exact_rounded_L268 at hw
  intro p e s m args below meth c hC H locs ls k n hE hl hR hS hk hn
  obtain ⟨hx, hb, hown, hlocks, htab, hml, hr, hB, hA, hnm⟩ := id hC
  have hts := hB.1.1.at args
  exact xb_lret 0 0 hx hb hr hlocks (show k + 0 ≤ MC by omega) (show n + 0 ≤ MS by omega) hE hR hS (xb_d D_Exact_rounded 153 rfl) hw

set_option maxHeartbeats 4000000 in
set_option maxRecDepth 100000 in
theorem am_Exact_rounded_L200 (l : Launch) (hfl : l.flags = pinnedFlags ++ [noTraceFlag]) (D : va_G) (A : Nat → Prop) (σ MC MS : Nat) (h0 : xb_H) (Qr : Int64 → xb_H → Prop) (x0 : Nat) (x1 : Int32) (x5 : Int64) (x9 : Int32) (h : xb_H) (hw : w_Exact_rounded_L200 Qr x0 x1 x5 x9 h) : xb_am l D A σ 4 MC MS h0 (fun v h _ _ => ∃ r, v = some (.long r) ∧ Qr r h) (fun _ _ _ _ => False) y_Exact_rounded.cls y_Exact_rounded.name b_Exact_rounded 10 ([] : List ExceptionTableEntry) (some .long) 200 [(0, .ref x0), (1, .int x1), (5, .long x5), (9, .int x9)] [] h 0 0 := by
  unfold w_Exact_rounded_L200 at hw
  intro p e s m args below meth c hC H locs ls k n hE hl hR hS hk hn
  obtain ⟨hx, hb, hown, hlocks, htab, hml, hr, hB, hA, hnm⟩ := id hC
  have hts := hB.1.1.at args
  refine lv_lload hx hb (xb_d D_Exact_rounded 110 rfl) (lv_at hl 2 rfl) ?_
  refine lv_aload_n hx hb (xb_d D_Exact_rounded 111 rfl) rfl (lv_at hl 0 rfl) ?_
  obtain ⟨hk1, hw⟩ := hw
  refine xb_getI (C := R_Exact) (T := F_Exact) (N := 11) hx hb 9 6 hts fin_Exact hown hR hk1 (by decide) rfl (by decide) rfl (hts _ m_904a6bc5) (fun _ h9 => h9) (xb_d D_Exact_rounded 112 rfl) ?_
  refine lv_lshr (v := (xb_lshr x5 (xb_i h x0 6))) hx hb (xb_d D_Exact_rounded 113 rfl) rfl ?_
  refine lv_lconst (v := 0) hx hb (xb_d D_Exact_rounded 114 rfl) (by decide) ?_
  refine xb_lc_ne (tgt := 220) hx hb (xb_d D_Exact_rounded 115 rfl) (xb_d D_Exact_rounded 116 rfl) rfl (fun hc2 => ?_) (fun hc2 => ?_)
  · have hw := hw.1 hc2
    refine lv_iload hx hb (xb_d D_Exact_rounded 122 rfl) (lv_at hl 3 rfl) ?_
    refine lv_iconst (v := 1) hx hb (xb_d D_Exact_rounded 123 rfl) (by decide) ?_
    refine lv_iadd hx hb (xb_d D_Exact_rounded 124 rfl) ?_
    refine lv_iconst (v := 2) hx hb (xb_d D_Exact_rounded 125 rfl) (by decide) ?_
    refine lv_aload_n hx hb (xb_d D_Exact_rounded 126 rfl) rfl (lv_at hl 0 rfl) ?_
    refine xb_getI (C := R_Exact) (T := F_Exact) (N := 11) hx hb 9 7 hts fin_Exact hown hR hk1 (by decide) rfl (by decide) rfl (hts _ m_71f7a53b) (fun _ h9 => h9) (xb_d D_Exact_rounded 127 rfl) ?_
    refine lv_imul hx hb (xb_d D_Exact_rounded 128 rfl) ?_
    refine lv_icmp_le (tgt := 241) hx hb (xb_d D_Exact_rounded 129 rfl) rfl (fun hc3 => ?_) (fun hc3 => ?_)
    · have hw := hw.1 hc3
      refine lv_aload_n hx hb (xb_d D_Exact_rounded 134 rfl) rfl (lv_at hl 0 rfl) ?_
      refine lv_iload hx hb (xb_d D_Exact_rounded 135 rfl) (lv_at hl 3 rfl) ?_
      refine lv_iconst (v := 1) hx hb (xb_d D_Exact_rounded 136 rfl) (by decide) ?_
      refine lv_iadd hx hb (xb_d D_Exact_rounded 137 rfl) ?_
      refine lv_i2l hx hb (xb_d D_Exact_rounded 138 rfl) rfl ?_
      refine lv_aload_n hx hb (xb_d D_Exact_rounded 139 rfl) rfl (lv_at hl 0 rfl) ?_
      refine xb_getI (C := R_Exact) (T := F_Exact) (N := 11) hx hb 9 6 hts fin_Exact hown hR hk1 (by decide) rfl (by decide) rfl (hts _ m_904a6bc5) (fun _ h9 => h9) (xb_d D_Exact_rounded 140 rfl) ?_
      refine lv_lshl (v := (xb_lshl (Int32.toInt64 (x9 + 1)) (xb_i h x0 6))) hx hb (xb_d D_Exact_rounded 141 rfl) rfl ?_
      refine lv_lload hx hb (xb_d D_Exact_rounded 142 rfl) (lv_at hl 2 rfl) ?_
      refine lv_lconst (v := 1) hx hb (xb_d D_Exact_rounded 143 rfl) (by decide) ?_
      refine lv_aload_n hx hb (xb_d D_Exact_rounded 144 rfl) rfl (lv_at hl 0 rfl) ?_
      refine xb_getI (C := R_Exact) (T := F_Exact) (N := 11) hx hb 9 6 hts fin_Exact hown hR hk1 (by decide) rfl (by decide) rfl (hts _ m_904a6bc5) (fun _ h9 => h9) (xb_d D_Exact_rounded 145 rfl) ?_
      refine lv_lshl (v := (xb_lshl 1 (xb_i h x0 6))) hx hb (xb_d D_Exact_rounded 146 rfl) rfl ?_
      refine lv_lconst (v := 1) hx hb (xb_d D_Exact_rounded 147 rfl) (by decide) ?_
      refine lv_lsub hx hb (xb_d D_Exact_rounded 148 rfl) ?_
      refine lv_land hx hb (xb_d D_Exact_rounded 149 rfl) ?_
      refine lv_lor hx hb (xb_d D_Exact_rounded 150 rfl) ?_
      refine lv_iload_n hx hb (xb_d D_Exact_rounded 151 rfl) rfl (lv_at hl 1 rfl) ?_
      refine xb_call0 (D := D) (A := A) (σ := σ) (h := h) (d := 2) (maxL := 4) (rest := []) (av := [.ref x0, .long ((xb_lshl (Int32.toInt64 (x9 + 1)) (xb_i h x0 6)) ||| (x5 &&& ((xb_lshl 1 (xb_i h x0 6)) - 1))), .int x1]) (fun T hT X => by obtain ⟨cb9, ra9, rb9, rc9⟩ := xb_recv (ci := 9) hR rfl hk1 (by decide); exact xt_invV X hx hown (hts _ m_7b6c7353) (hts _ m_28babb18) (hts _ m_243e01d5) (xt_sigOf (hts _ m_88c0fc78)) nm_Exact_signed (by rw [hT]; exact ra9) rb9 rc9 (g := F0 m 265 ls [.int x1, .long ((xb_lshl (Int32.toInt64 (x9 + 1)) (xb_i h x0 6)) ||| (x5 &&& ((xb_lshl 1 (xb_i h x0 6)) - 1))), .ref x0]) rfl (argsL := [.long ((xb_lshl (Int32.toInt64 (x9 + 1)) (xb_i h x0 6)) ||| (x5 &&& ((xb_lshl 1 (xb_i h x0 6)) - 1))), .int x1]) (rest := []) rfl rfl (by rw [hb]; exact (xb_d D_Exact_rounded 152 rfl))) (ok_Exact_signed l hfl D A σ x0 ((xb_lshl (Int32.toInt64 (x9 + 1)) (xb_i h x0 6)) ||| (x5 &&& ((xb_lshl 1 (xb_i h x0 6)) - 1))) x1 h _ hw) (hml.trans hl.1.symm) (by rw [hb]; exact (xb_d D_Exact_rounded 152 rfl)) (Nat.le_of_ble_eq_true rfl) (Nat.le_of_ble_eq_true rfl) (Nat.le_of_ble_eq_true rfl) (show k ≤ MC by omega) (show n ≤ MS by omega) (xt_w1 hB.1 m_88c0fc78) (xt_cdOf hB.1 m_88c0fc78) (hts _ m_b807310b) hB hR hS hA (fun vv h4 H locs hq hEh4 hR hS => ?_)
      obtain ⟨r5, rfl, hw⟩ := hq
      have hw := hw hEh4
      have hE := hE.tr hEh4
      refine W.eq (g2 := F0 m 268 ls [.long r5]) rfl ?_
      exact am_Exact_rounded_L268 l hfl D A σ MC MS h0 Qr r5 h4 hw p e s m args below meth c hC H locs ls k n hE (lv_sub hl [] rfl) hR hS (by omega) (by omega)
    · have hw := hw.2 hc3
      refine lv_aload_n hx hb (xb_d D_Exact_rounded 130 rfl) rfl (lv_at hl 0 rfl) ?_
      refine lv_iload_n hx hb (xb_d D_Exact_rounded 131 rfl) rfl (lv_at hl 1 rfl) ?_
      refine xb_call0 (D := D) (A := A) (σ := σ) (h := h) (d := 3) (maxL := 2) (rest := []) (av := [.ref x0, .int x1]) (fun T hT X => by obtain ⟨cb9, ra9, rb9, rc9⟩ := xb_recv (ci := 9) hR rfl hk1 (by decide); exact xt_invV X hx hown (hts _ m_c1bdecd7) (hts _ m_3ecdf3c0) (hts _ m_93791b31) (xt_sigOf (hts _ m_99b71483)) nm_Exact_infinite (by rw [hT]; exact ra9) rb9 rc9 (g := F0 m 235 ls [.int x1, .ref x0]) rfl (argsL := [.int x1]) (rest := []) rfl rfl (by rw [hb]; exact (xb_d D_Exact_rounded 132 rfl))) (ok_Exact_infinite l hfl D A σ x0 x1 h _ hw) (hml.trans hl.1.symm) (by rw [hb]; exact (xb_d D_Exact_rounded 132 rfl)) (Nat.le_of_ble_eq_true rfl) (Nat.le_of_ble_eq_true rfl) (Nat.le_of_ble_eq_true rfl) (show k ≤ MC by omega) (show n ≤ MS by omega) (xt_w1 hB.1 m_99b71483) (xt_cdOf hB.1 m_99b71483) (hts _ m_b807310b) hB hR hS hA (fun vv h6 H locs hq hEh6 hR hS => ?_)
      obtain ⟨r7, rfl, hw⟩ := hq
      have hw := hw hEh6
      have hE := hE.tr hEh6
      refine W.eq (g2 := F0 m 238 ls [.long r7]) rfl ?_
      refine lv_goto (tgt := 268) hx hb (xb_d D_Exact_rounded 133 rfl) rfl ?_
      exact am_Exact_rounded_L268 l hfl D A σ MC MS h0 Qr r7 h6 hw p e s m args below meth c hC H locs ls k n hE (lv_sub hl [] rfl) hR hS (by omega) (by omega)
  · have hw := hw.2 hc2
    refine lv_aload_n hx hb (xb_d D_Exact_rounded 117 rfl) rfl (lv_at hl 0 rfl) ?_
    refine lv_lload hx hb (xb_d D_Exact_rounded 118 rfl) (lv_at hl 2 rfl) ?_
    refine lv_iload_n hx hb (xb_d D_Exact_rounded 119 rfl) rfl (lv_at hl 1 rfl) ?_
    refine xb_call0 (D := D) (A := A) (σ := σ) (h := h) (d := 2) (maxL := 4) (rest := []) (av := [.ref x0, .long x5, .int x1]) (fun T hT X => by obtain ⟨cb9, ra9, rb9, rc9⟩ := xb_recv (ci := 9) hR rfl hk1 (by decide); exact xt_invV X hx hown (hts _ m_7b6c7353) (hts _ m_28babb18) (hts _ m_243e01d5) (xt_sigOf (hts _ m_88c0fc78)) nm_Exact_signed (by rw [hT]; exact ra9) rb9 rc9 (g := F0 m 216 ls [.int x1, .long x5, .ref x0]) rfl (argsL := [.long x5, .int x1]) (rest := []) rfl rfl (by rw [hb]; exact (xb_d D_Exact_rounded 120 rfl))) (ok_Exact_signed l hfl D A σ x0 x5 x1 h _ hw) (hml.trans hl.1.symm) (by rw [hb]; exact (xb_d D_Exact_rounded 120 rfl)) (Nat.le_of_ble_eq_true rfl) (Nat.le_of_ble_eq_true rfl) (Nat.le_of_ble_eq_true rfl) (show k ≤ MC by omega) (show n ≤ MS by omega) (xt_w1 hB.1 m_88c0fc78) (xt_cdOf hB.1 m_88c0fc78) (hts _ m_b807310b) hB hR hS hA (fun vv h8 H locs hq hEh8 hR hS => ?_)
    obtain ⟨r9, rfl, hw⟩ := hq
    have hw := hw hEh8
    have hE := hE.tr hEh8
    refine W.eq (g2 := F0 m 219 ls [.long r9]) rfl ?_
    exact xb_lret 0 0 hx hb hr hlocks (show k + 0 ≤ MC by omega) (show n + 0 ≤ MS by omega) hE hR hS (xb_d D_Exact_rounded 121 rfl) hw

set_option maxHeartbeats 4000000 in
set_option maxRecDepth 100000 in
theorem am_Exact_rounded_L169 (l : Launch) (hfl : l.flags = pinnedFlags ++ [noTraceFlag]) (D : va_G) (A : Nat → Prop) (σ MC MS : Nat) (h0 : xb_H) (Qr : Int64 → xb_H → Prop) (x0 : Nat) (x1 : Int32) (x3 : Int32) (x4 : Int32) (y0 : Int64) (h : xb_H) (hw : w_Exact_rounded_L169 Qr x0 x1 x3 x4 y0 h) : xb_am l D A σ 4 MC MS h0 (fun v h _ _ => ∃ r, v = some (.long r) ∧ Qr r h) (fun _ _ _ _ => False) y_Exact_rounded.cls y_Exact_rounded.name b_Exact_rounded 10 ([] : List ExceptionTableEntry) (some .long) 169 [(0, .ref x0), (1, .int x1), (3, .int x3), (4, .int x4)] [.long y0] h 0 0 := by
  unfold w_Exact_rounded_L169 at hw
  intro p e s m args below meth c hC H locs ls k n hE hl hR hS hk hn
  obtain ⟨hx, hb, hown, hlocks, htab, hml, hr, hB, hA, hnm⟩ := id hC
  have hts := hB.1.1.at args
  refine lv_lstore hx hb (xb_d D_Exact_rounded 93 rfl) hl (by decide) rfl (fun ls hl => ?_)
  have hl : lv_has ls 10 [(5, .long y0), (0, .ref x0), (1, .int x1), (3, .int x3), (4, .int x4)] := hl
  refine lv_iload hx hb (xb_d D_Exact_rounded 94 rfl) (lv_at hl 4 rfl) ?_
  refine lv_iload_n hx hb (xb_d D_Exact_rounded 95 rfl) rfl (lv_at hl 3 rfl) ?_
  refine lv_isub hx hb (xb_d D_Exact_rounded 96 rfl) ?_
  obtain ⟨v1, ev1⟩ : ∃ x : Int32, x = (x4 - x3) := ⟨_, rfl⟩
  have hw := hw v1 ev1
  refine xt_numi (y := v1) ev1.symm ?_
  refine lv_istore hx hb (xb_d D_Exact_rounded 97 rfl) hl (by decide) rfl (fun ls hl => ?_)
  have hl : lv_has ls 10 [(9, .int v1), (5, .long y0), (0, .ref x0), (1, .int x1), (3, .int x3), (4, .int x4)] := hl
  refine lv_lload hx hb (xb_d D_Exact_rounded 98 rfl) (lv_at hl 1 rfl) ?_
  refine lv_aload_n hx hb (xb_d D_Exact_rounded 99 rfl) rfl (lv_at hl 2 rfl) ?_
  obtain ⟨hk2, hw⟩ := hw
  refine xb_getI (C := R_Exact) (T := F_Exact) (N := 11) hx hb 9 6 hts fin_Exact hown hR hk2 (by decide) rfl (by decide) rfl (hts _ m_904a6bc5) (fun _ h9 => h9) (xb_d D_Exact_rounded 100 rfl) ?_
  refine lv_lshr (v := (xb_lshr y0 (xb_i h x0 6))) hx hb (xb_d D_Exact_rounded 101 rfl) rfl ?_
  refine lv_ldc2 (v := 2) hx hb hown (hts _ m_9070420a) (xb_d D_Exact_rounded 102 rfl) ?_
  refine xb_lc_ne (tgt := 200) hx hb (xb_d D_Exact_rounded 103 rfl) (xb_d D_Exact_rounded 104 rfl) rfl (fun hc3 => ?_) (fun hc3 => ?_)
  · have hw := hw.1 hc3
    exact am_Exact_rounded_L200 l hfl D A σ MC MS h0 Qr x0 x1 y0 v1 h hw p e s m args below meth c hC H locs ls k n hE (lv_sub hl [2, 3, 1, 0] rfl) hR hS (by omega) (by omega)
  · have hw := hw.2 hc3
    refine lv_lload hx hb (xb_d D_Exact_rounded 105 rfl) (lv_at hl 1 rfl) ?_
    refine lv_iconst (v := 1) hx hb (xb_d D_Exact_rounded 106 rfl) (by decide) ?_
    refine lv_lshr (v := (xb_lshr y0 1)) hx hb (xb_d D_Exact_rounded 107 rfl) rfl ?_
    obtain ⟨v4, ev4⟩ : ∃ x : Int64, x = (xb_lshr y0 1) := ⟨_, rfl⟩
    have hw := hw v4 ev4
    refine xt_numl (y := v4) ev4.symm ?_
    refine lv_lstore hx hb (xb_d D_Exact_rounded 108 rfl) hl (by decide) rfl (fun ls hl => ?_)
    have hl : lv_has ls 10 [(5, .long v4), (9, .int v1), (0, .ref x0), (1, .int x1), (3, .int x3), (4, .int x4)] := hl
    refine lv_iinc (v := (v1 + 1)) (k := 1) hx hb (xb_d D_Exact_rounded 109 rfl) hl rfl (by first | rfl | decide) (by decide) rfl (fun ls hl => ?_)
    have hl : lv_has ls 10 [(9, .int (v1 + 1)), (5, .long v4), (0, .ref x0), (1, .int x1), (3, .int x3), (4, .int x4)] := hl
    exact am_Exact_rounded_L200 l hfl D A σ MC MS h0 Qr x0 x1 v4 (v1 + 1) h hw p e s m args below meth c hC H locs ls k n hE (lv_sub hl [2, 3, 1, 0] rfl) hR hS (by omega) (by omega)

set_option maxHeartbeats 4000000 in
set_option maxRecDepth 100000 in
theorem am_Exact_rounded_L153 (l : Launch) (hfl : l.flags = pinnedFlags ++ [noTraceFlag]) (D : va_G) (A : Nat → Prop) (σ MC MS : Nat) (h0 : xb_H) (Qr : Int64 → xb_H → Prop) (x0 : Nat) (x1 : Int32) (x3 : Int32) (x4 : Int32) (x5 : Int64) (y0 : Int32) (h : xb_H) (hw : w_Exact_rounded_L153 Qr x0 x1 x3 x4 x5 y0 h) : xb_am l D A σ 4 MC MS h0 (fun v h _ _ => ∃ r, v = some (.long r) ∧ Qr r h) (fun _ _ _ _ => False) y_Exact_rounded.cls y_Exact_rounded.name b_Exact_rounded 10 ([] : List ExceptionTableEntry) (some .long) 153 [(0, .ref x0), (1, .int x1), (3, .int x3), (4, .int x4), (5, .long x5)] [.int y0] h 0 0 := by
  unfold w_Exact_rounded_L153 at hw
  intro p e s m args below meth c hC H locs ls k n hE hl hR hS hk hn
  obtain ⟨hx, hb, hown, hlocks, htab, hml, hr, hB, hA, hnm⟩ := id hC
  have hts := hB.1.1.at args
  refine lv_istore hx hb (xb_d D_Exact_rounded 85 rfl) hl (by decide) rfl (fun ls hl => ?_)
  have hl : lv_has ls 10 [(8, .int y0), (0, .ref x0), (1, .int x1), (3, .int x3), (4, .int x4), (5, .long x5)] := hl
  refine lv_iload hx hb (xb_d D_Exact_rounded 86 rfl) (lv_at hl 0 rfl) ?_
  refine lv_if_eq (tgt := 167) hx hb (xb_d D_Exact_rounded 87 rfl) rfl (fun hc1 => ?_) (fun hc1 => ?_)
  · have hw := hw.1 hc1
    refine lv_lload hx hb (xb_d D_Exact_rounded 92 rfl) (lv_at hl 5 rfl) ?_
    exact am_Exact_rounded_L169 l hfl D A σ MC MS h0 Qr x0 x1 x3 x4 x5 h hw p e s m args below meth c hC H locs ls k n hE (lv_sub hl [1, 2, 3, 4] rfl) hR hS (by omega) (by omega)
  · have hw := hw.2 hc1
    refine lv_lload hx hb (xb_d D_Exact_rounded 88 rfl) (lv_at hl 5 rfl) ?_
    refine lv_lconst (v := 1) hx hb (xb_d D_Exact_rounded 89 rfl) (by decide) ?_
    refine lv_ladd hx hb (xb_d D_Exact_rounded 90 rfl) ?_
    refine lv_goto (tgt := 169) hx hb (xb_d D_Exact_rounded 91 rfl) rfl ?_
    exact am_Exact_rounded_L169 l hfl D A σ MC MS h0 Qr x0 x1 x3 x4 (x5 + 1) h hw p e s m args below meth c hC H locs ls k n hE (lv_sub hl [1, 2, 3, 4] rfl) hR hS (by omega) (by omega)

set_option maxHeartbeats 4000000 in
set_option maxRecDepth 100000 in
theorem am_Exact_rounded_L152 (l : Launch) (hfl : l.flags = pinnedFlags ++ [noTraceFlag]) (D : va_G) (A : Nat → Prop) (σ MC MS : Nat) (h0 : xb_H) (Qr : Int64 → xb_H → Prop) (x0 : Nat) (x1 : Int32) (x3 : Int32) (x4 : Int32) (x5 : Int64) (h : xb_H) (hw : w_Exact_rounded_L152 Qr x0 x1 x3 x4 x5 h) : xb_am l D A σ 4 MC MS h0 (fun v h _ _ => ∃ r, v = some (.long r) ∧ Qr r h) (fun _ _ _ _ => False) y_Exact_rounded.cls y_Exact_rounded.name b_Exact_rounded 10 ([] : List ExceptionTableEntry) (some .long) 152 [(0, .ref x0), (1, .int x1), (3, .int x3), (4, .int x4), (5, .long x5)] [] h 0 0 := by
  unfold w_Exact_rounded_L152 at hw
  intro p e s m args below meth c hC H locs ls k n hE hl hR hS hk hn
  obtain ⟨hx, hb, hown, hlocks, htab, hml, hr, hB, hA, hnm⟩ := id hC
  have hts := hB.1.1.at args
  refine lv_iconst (v := 0) hx hb (xb_d D_Exact_rounded 84 rfl) (by decide) ?_
  exact am_Exact_rounded_L153 l hfl D A σ MC MS h0 Qr x0 x1 x3 x4 x5 0 h hw p e s m args below meth c hC H locs ls k n hE (lv_sub hl [0, 1, 2, 3, 4] rfl) hR hS (by omega) (by omega)

set_option maxHeartbeats 4000000 in
set_option maxRecDepth 100000 in
theorem am_Exact_rounded_L148 (l : Launch) (hfl : l.flags = pinnedFlags ++ [noTraceFlag]) (D : va_G) (A : Nat → Prop) (σ MC MS : Nat) (h0 : xb_H) (Qr : Int64 → xb_H → Prop) (x0 : Nat) (x1 : Int32) (x3 : Int32) (x4 : Int32) (x5 : Int64) (h : xb_H) (hw : w_Exact_rounded_L148 Qr x0 x1 x3 x4 x5 h) : xb_am l D A σ 4 MC MS h0 (fun v h _ _ => ∃ r, v = some (.long r) ∧ Qr r h) (fun _ _ _ _ => False) y_Exact_rounded.cls y_Exact_rounded.name b_Exact_rounded 10 ([] : List ExceptionTableEntry) (some .long) 148 [(0, .ref x0), (1, .int x1), (3, .int x3), (4, .int x4), (5, .long x5)] [] h 0 0 := by
  unfold w_Exact_rounded_L148 at hw
  intro p e s m args below meth c hC H locs ls k n hE hl hR hS hk hn
  obtain ⟨hx, hb, hown, hlocks, htab, hml, hr, hB, hA, hnm⟩ := id hC
  have hts := hB.1.1.at args
  refine lv_iconst (v := 1) hx hb (xb_d D_Exact_rounded 82 rfl) (by decide) ?_
  refine lv_goto (tgt := 153) hx hb (xb_d D_Exact_rounded 83 rfl) rfl ?_
  exact am_Exact_rounded_L153 l hfl D A σ MC MS h0 Qr x0 x1 x3 x4 x5 1 h hw p e s m args below meth c hC H locs ls k n hE (lv_sub hl [0, 1, 2, 3, 4] rfl) hR hS (by omega) (by omega)

set_option maxHeartbeats 4000000 in
set_option maxRecDepth 100000 in
theorem am_Exact_rounded_L121 (l : Launch) (hfl : l.flags = pinnedFlags ++ [noTraceFlag]) (D : va_G) (A : Nat → Prop) (σ MC MS : Nat) (h0 : xb_H) (Qr : Int64 → xb_H → Prop) (x0 : Nat) (x1 : Int32) (x3 : Int32) (x4 : Int32) (x5 : Int64) (y0 : Int32) (h : xb_H) (hw : w_Exact_rounded_L121 Qr x0 x1 x3 x4 x5 y0 h) : xb_am l D A σ 4 MC MS h0 (fun v h _ _ => ∃ r, v = some (.long r) ∧ Qr r h) (fun _ _ _ _ => False) y_Exact_rounded.cls y_Exact_rounded.name b_Exact_rounded 10 ([] : List ExceptionTableEntry) (some .long) 121 [(0, .ref x0), (1, .int x1), (3, .int x3), (4, .int x4), (5, .long x5)] [.int y0] h 0 0 := by
  unfold w_Exact_rounded_L121 at hw
  intro p e s m args below meth c hC H locs ls k n hE hl hR hS hk hn
  obtain ⟨hx, hb, hown, hlocks, htab, hml, hr, hB, hA, hnm⟩ := id hC
  have hts := hB.1.1.at args
  refine lv_istore hx hb (xb_d D_Exact_rounded 67 rfl) hl (by decide) rfl (fun ls hl => ?_)
  have hl : lv_has ls 10 [(7, .int y0), (0, .ref x0), (1, .int x1), (3, .int x3), (4, .int x4), (5, .long x5)] := hl
  refine lv_iload hx hb (xb_d D_Exact_rounded 68 rfl) (lv_at hl 0 rfl) ?_
  refine lv_if_eq (tgt := 152) hx hb (xb_d D_Exact_rounded 69 rfl) rfl (fun hc1 => ?_) (fun hc1 => ?_)
  · have hw := hw.1 hc1
    exact am_Exact_rounded_L152 l hfl D A σ MC MS h0 Qr x0 x1 x3 x4 x5 h hw p e s m args below meth c hC H locs ls k n hE (lv_sub hl [1, 2, 3, 4, 5] rfl) hR hS (by omega) (by omega)
  · have hw := hw.2 hc1
    refine lv_aload_n hx hb (xb_d D_Exact_rounded 70 rfl) rfl (lv_at hl 1 rfl) ?_
    refine lv_iload hx hb (xb_d D_Exact_rounded 71 rfl) (lv_at hl 4 rfl) ?_
    refine lv_iconst (v := 1) hx hb (xb_d D_Exact_rounded 72 rfl) (by decide) ?_
    refine lv_isub hx hb (xb_d D_Exact_rounded 73 rfl) ?_
    obtain ⟨hk2, hw⟩ := hw
    refine xb_call0 (D := D) (A := A) (σ := σ) (h := h) (d := 2) (maxL := 4) (rest := []) (av := [.ref x0, .int (x4 - 1)]) (fun T hT X => by obtain ⟨cb9, ra9, rb9, rc9⟩ := xb_recv (ci := 9) hR rfl hk2 (by decide); exact xt_invV X hx hown (hts _ m_24974b85) (hts _ m_a034788e) (hts _ m_61a2f1f5) (xt_sigOf (hts _ m_e6aa3f0f)) nm_Exact_isBelow (by rw [hT]; exact ra9) rb9 rc9 (g := F0 m 133 ls [.int (x4 - 1), .ref x0]) rfl (argsL := [.int (x4 - 1)]) (rest := []) rfl rfl (by rw [hb]; exact (xb_d D_Exact_rounded 74 rfl))) (ok_Exact_isBelow l hfl D A σ x0 (x4 - 1) h _ hw) (hml.trans hl.1.symm) (by rw [hb]; exact (xb_d D_Exact_rounded 74 rfl)) (Nat.le_of_ble_eq_true rfl) (Nat.le_of_ble_eq_true rfl) (Nat.le_of_ble_eq_true rfl) (show k ≤ MC by omega) (show n ≤ MS by omega) (xt_w1 hB.1 m_e6aa3f0f) (xt_cdOf hB.1 m_e6aa3f0f) (hts _ m_b807310b) hB hR hS hA (fun vv h3 H locs hq hEh3 hR hS => ?_)
    obtain ⟨r4, rfl, hw⟩ := hq
    have hw := hw hEh3
    have hE := hE.tr hEh3
    refine W.eq (g2 := F0 m 136 ls [.int r4]) rfl ?_
    refine lv_if_ne (tgt := 148) hx hb (xb_d D_Exact_rounded 75 rfl) rfl (fun hc5 => ?_) (fun hc5 => ?_)
    · have hw := hw.1 hc5
      exact am_Exact_rounded_L148 l hfl D A σ MC MS h0 Qr x0 x1 x3 x4 x5 h3 hw p e s m args below meth c hC H locs ls k n hE (lv_sub hl [1, 2, 3, 4, 5] rfl) hR hS (by omega) (by omega)
    · have hw := hw.2 hc5
      refine lv_lload hx hb (xb_d D_Exact_rounded 76 rfl) (lv_at hl 5 rfl) ?_
      refine lv_lconst (v := 1) hx hb (xb_d D_Exact_rounded 77 rfl) (by decide) ?_
      refine lv_land hx hb (xb_d D_Exact_rounded 78 rfl) ?_
      refine lv_lconst (v := 1) hx hb (xb_d D_Exact_rounded 79 rfl) (by decide) ?_
      refine xb_lc_ne (tgt := 152) hx hb (xb_d D_Exact_rounded 80 rfl) (xb_d D_Exact_rounded 81 rfl) rfl (fun hc6 => ?_) (fun hc6 => ?_)
      · have hw := hw.1 hc6
        exact am_Exact_rounded_L152 l hfl D A σ MC MS h0 Qr x0 x1 x3 x4 x5 h3 hw p e s m args below meth c hC H locs ls k n hE (lv_sub hl [1, 2, 3, 4, 5] rfl) hR hS (by omega) (by omega)
      · have hw := hw.2 hc6
        exact am_Exact_rounded_L148 l hfl D A σ MC MS h0 Qr x0 x1 x3 x4 x5 h3 hw p e s m args below meth c hC H locs ls k n hE (lv_sub hl [1, 2, 3, 4, 5] rfl) hR hS (by omega) (by omega)

set_option maxHeartbeats 4000000 in
set_option maxRecDepth 100000 in
theorem am_Exact_rounded_L120 (l : Launch) (hfl : l.flags = pinnedFlags ++ [noTraceFlag]) (D : va_G) (A : Nat → Prop) (σ MC MS : Nat) (h0 : xb_H) (Qr : Int64 → xb_H → Prop) (x0 : Nat) (x1 : Int32) (x3 : Int32) (x4 : Int32) (x5 : Int64) (h : xb_H) (hw : w_Exact_rounded_L120 Qr x0 x1 x3 x4 x5 h) : xb_am l D A σ 4 MC MS h0 (fun v h _ _ => ∃ r, v = some (.long r) ∧ Qr r h) (fun _ _ _ _ => False) y_Exact_rounded.cls y_Exact_rounded.name b_Exact_rounded 10 ([] : List ExceptionTableEntry) (some .long) 120 [(0, .ref x0), (1, .int x1), (3, .int x3), (4, .int x4), (5, .long x5)] [] h 0 0 := by
  unfold w_Exact_rounded_L120 at hw
  intro p e s m args below meth c hC H locs ls k n hE hl hR hS hk hn
  obtain ⟨hx, hb, hown, hlocks, htab, hml, hr, hB, hA, hnm⟩ := id hC
  have hts := hB.1.1.at args
  refine lv_iconst (v := 0) hx hb (xb_d D_Exact_rounded 66 rfl) (by decide) ?_
  exact am_Exact_rounded_L121 l hfl D A σ MC MS h0 Qr x0 x1 x3 x4 x5 0 h hw p e s m args below meth c hC H locs ls k n hE (lv_sub hl [0, 1, 2, 3, 4] rfl) hR hS (by omega) (by omega)

set_option maxHeartbeats 4000000 in
set_option maxRecDepth 100000 in
theorem am_Exact_rounded_L47 (l : Launch) (hfl : l.flags = pinnedFlags ++ [noTraceFlag]) (D : va_G) (A : Nat → Prop) (σ MC MS : Nat) (h0 : xb_H) (Qr : Int64 → xb_H → Prop) (n9 : Nat) : ∀ (x0 : Nat) (x1 : Int32) (x3 : Int32) (x4 : Int32) (x5 : Int64) (x7 : Int32) (h : xb_H), w_Exact_rounded_L47 Qr n9 x0 x1 x3 x4 x5 x7 h → xb_am l D A σ 4 MC MS h0 (fun v h _ _ => ∃ r, v = some (.long r) ∧ Qr r h) (fun _ _ _ _ => False) y_Exact_rounded.cls y_Exact_rounded.name b_Exact_rounded 10 ([] : List ExceptionTableEntry) (some .long) 47 [(0, .ref x0), (1, .int x1), (3, .int x3), (4, .int x4), (5, .long x5), (7, .int x7)] [] h 0 0 := by
  induction n9 with
  | zero => intro x0 x1 x3 x4 x5 x7 h hw; exact False.elim hw
  | succ n9 ih =>
    intro x0 x1 x3 x4 x5 x7 h hw
    unfold w_Exact_rounded_L47 at hw
    intro p e s m args below meth c hC H locs ls k n hE hl hR hS hk hn
    obtain ⟨hx, hb, hown, hlocks, htab, hml, hr, hB, hA, hnm⟩ := id hC
    have hts := hB.1.1.at args
    refine lv_iload hx hb (xb_d D_Exact_rounded 28 rfl) (lv_at hl 5 rfl) ?_
    refine lv_iload hx hb (xb_d D_Exact_rounded 29 rfl) (lv_at hl 3 rfl) ?_
    refine lv_icmp_lt (tgt := 77) hx hb (xb_d D_Exact_rounded 30 rfl) rfl (fun hc1 => ?_) (fun hc1 => ?_)
    · have hw := hw.1 hc1
      refine lv_iload hx hb (xb_d D_Exact_rounded 43 rfl) (lv_at hl 3 rfl) ?_
      refine lv_if_le (tgt := 120) hx hb (xb_d D_Exact_rounded 44 rfl) rfl (fun hc2 => ?_) (fun hc2 => ?_)
      · have hw := hw.1 hc2
        exact am_Exact_rounded_L120 l hfl D A σ MC MS h0 Qr x0 x1 x3 x4 x5 h hw p e s m args below meth c hC H locs ls k n hE (lv_sub hl [0, 1, 2, 3, 4] rfl) hR hS (by omega) (by omega)
      · have hw := hw.2 hc2
        refine lv_iload hx hb (xb_d D_Exact_rounded 45 rfl) (lv_at hl 3 rfl) ?_
        refine lv_iconst (v := 1) hx hb (xb_d D_Exact_rounded 46 rfl) (by decide) ?_
        refine lv_isub hx hb (xb_d D_Exact_rounded 47 rfl) ?_
        refine lv_aload_n hx hb (xb_d D_Exact_rounded 48 rfl) rfl (lv_at hl 0 rfl) ?_
        obtain ⟨hk3, hw⟩ := hw
        refine xb_getI (C := R_Exact) (T := F_Exact) (N := 11) hx hb 9 3 hts fin_Exact hown hR hk3 (by decide) rfl (by decide) rfl (hts _ m_ee80a7fc) (fun _ h9 => h9) (xb_d D_Exact_rounded 49 rfl) ?_
        refine lv_icmp_gt (tgt := 120) hx hb (xb_d D_Exact_rounded 50 rfl) rfl (fun hc4 => ?_) (fun hc4 => ?_)
        · have hw := hw.1 hc4
          exact am_Exact_rounded_L120 l hfl D A σ MC MS h0 Qr x0 x1 x3 x4 x5 h hw p e s m args below meth c hC H locs ls k n hE (lv_sub hl [0, 1, 2, 3, 4] rfl) hR hS (by omega) (by omega)
        · have hw := hw.2 hc4
          refine lv_iload hx hb (xb_d D_Exact_rounded 51 rfl) (lv_at hl 3 rfl) ?_
          refine lv_iconst (v := 1) hx hb (xb_d D_Exact_rounded 52 rfl) (by decide) ?_
          refine lv_isub hx hb (xb_d D_Exact_rounded 53 rfl) ?_
          refine lv_aload_n hx hb (xb_d D_Exact_rounded 54 rfl) rfl (lv_at hl 0 rfl) ?_
          refine xb_getI (C := R_Exact) (T := F_Exact) (N := 11) hx hb 9 2 hts fin_Exact hown hR hk3 (by decide) rfl (by decide) rfl (hts _ m_2f5dbefd) (fun _ h9 => h9) (xb_d D_Exact_rounded 55 rfl) ?_
          refine lv_icmp_lt (tgt := 120) hx hb (xb_d D_Exact_rounded 56 rfl) rfl (fun hc5 => ?_) (fun hc5 => ?_)
          · have hw := hw.1 hc5
            exact am_Exact_rounded_L120 l hfl D A σ MC MS h0 Qr x0 x1 x3 x4 x5 h hw p e s m args below meth c hC H locs ls k n hE (lv_sub hl [0, 1, 2, 3, 4] rfl) hR hS (by omega) (by omega)
          · have hw := hw.2 hc5
            refine lv_aload_n hx hb (xb_d D_Exact_rounded 57 rfl) rfl (lv_at hl 0 rfl) ?_
            refine xb_getP (C := R_Exact) (T := F_Exact) (N := 11) hx hb 9 1 hts fin_Exact hown hR hk3 (by decide) rfl (by decide) rfl (hts _ m_3ef37fb8) (fun _ h9 => h9) (xb_d D_Exact_rounded 58 rfl) ?_
            obtain ⟨b6, eb6, hw⟩ := hw
            refine xb_some eb6 ?_
            refine lv_iload hx hb (xb_d D_Exact_rounded 59 rfl) (lv_at hl 3 rfl) ?_
            refine lv_iconst (v := 1) hx hb (xb_d D_Exact_rounded 60 rfl) (by decide) ?_
            refine lv_isub hx hb (xb_d D_Exact_rounded 61 rfl) ?_
            obtain ⟨hk8, hw⟩ := hw
            obtain ⟨hi7, hw⟩ := hw
            refine xb_bald hx hb hR hk8 hi7 (xb_d D_Exact_rounded 62 rfl) ?_
            refine lv_if_eq (tgt := 120) hx hb (xb_d D_Exact_rounded 63 rfl) rfl (fun hc9 => ?_) (fun hc9 => ?_)
            · have hw := hw.1 hc9
              exact am_Exact_rounded_L120 l hfl D A σ MC MS h0 Qr x0 x1 x3 x4 x5 h hw p e s m args below meth c hC H locs ls k n hE (lv_sub hl [0, 1, 2, 3, 4] rfl) hR hS (by omega) (by omega)
            · have hw := hw.2 hc9
              refine lv_iconst (v := 1) hx hb (xb_d D_Exact_rounded 64 rfl) (by decide) ?_
              refine lv_goto (tgt := 121) hx hb (xb_d D_Exact_rounded 65 rfl) rfl ?_
              exact am_Exact_rounded_L121 l hfl D A σ MC MS h0 Qr x0 x1 x3 x4 x5 1 h hw p e s m args below meth c hC H locs ls k n hE (lv_sub hl [0, 1, 2, 3, 4] rfl) hR hS (by omega) (by omega)
    · have hw := hw.2 hc1
      refine lv_ldc2 (v := 2) hx hb hown (hts _ m_9070420a) (xb_d D_Exact_rounded 31 rfl) ?_
      refine lv_lload hx hb (xb_d D_Exact_rounded 32 rfl) (lv_at hl 4 rfl) ?_
      refine lv_lmul hx hb (xb_d D_Exact_rounded 33 rfl) ?_
      refine lv_aload_n hx hb (xb_d D_Exact_rounded 34 rfl) rfl (lv_at hl 0 rfl) ?_
      obtain ⟨hk10, hw⟩ := hw
      refine xb_getP (C := R_Exact) (T := F_Exact) (N := 11) hx hb 9 1 hts fin_Exact hown hR hk10 (by decide) rfl (by decide) rfl (hts _ m_3ef37fb8) (fun _ h9 => h9) (xb_d D_Exact_rounded 35 rfl) ?_
      obtain ⟨b11, eb11, hw⟩ := hw
      refine xb_some eb11 ?_
      refine lv_iload hx hb (xb_d D_Exact_rounded 36 rfl) (lv_at hl 5 rfl) ?_
      obtain ⟨hk13, hw⟩ := hw
      obtain ⟨hi12, hw⟩ := hw
      refine xb_bald hx hb hR hk13 hi12 (xb_d D_Exact_rounded 37 rfl) ?_
      refine lv_i2l hx hb (xb_d D_Exact_rounded 38 rfl) rfl ?_
      refine lv_ladd hx hb (xb_d D_Exact_rounded 39 rfl) ?_
      obtain ⟨v14, ev14⟩ : ∃ x : Int64, x = ((2 * x5) + (Int32.toInt64 (xb_i h b11 (Int32.toNatClampNeg x7)))) := ⟨_, rfl⟩
      have hw := hw v14 ev14
      refine xt_numl (y := v14) ev14.symm ?_
      refine lv_lstore hx hb (xb_d D_Exact_rounded 40 rfl) hl (by decide) rfl (fun ls hl => ?_)
      have hl : lv_has ls 10 [(5, .long v14), (0, .ref x0), (1, .int x1), (3, .int x3), (4, .int x4), (7, .int x7)] := hl
      refine lv_iinc (v := (x7 + (-1))) (k := 5) hx hb (xb_d D_Exact_rounded 41 rfl) hl rfl (by first | rfl | decide) (by decide) rfl (fun ls hl => ?_)
      have hl : lv_has ls 10 [(7, .int (x7 + (-1))), (5, .long v14), (0, .ref x0), (1, .int x1), (3, .int x3), (4, .int x4)] := hl
      refine lv_goto (tgt := 47) hx hb (xb_d D_Exact_rounded 42 rfl) rfl ?_
      exact ih x0 x1 x3 x4 v14 (x7 + (-1)) h hw p e s m args below meth c hC H locs ls k n hE (lv_sub hl [2, 3, 4, 5, 1, 0] rfl) hR hS (by omega) (by omega)

set_option maxHeartbeats 4000000 in
set_option maxRecDepth 100000 in
theorem am_Exact_rounded_L39 (l : Launch) (hfl : l.flags = pinnedFlags ++ [noTraceFlag]) (D : va_G) (A : Nat → Prop) (σ MC MS : Nat) (h0 : xb_H) (Qr : Int64 → xb_H → Prop) (x0 : Nat) (x1 : Int32) (x2 : Int32) (x3 : Int32) (y0 : Int32) (h : xb_H) (hw : w_Exact_rounded_L39 Qr x0 x1 x2 x3 y0 h) : xb_am l D A σ 4 MC MS h0 (fun v h _ _ => ∃ r, v = some (.long r) ∧ Qr r h) (fun _ _ _ _ => False) y_Exact_rounded.cls y_Exact_rounded.name b_Exact_rounded 10 ([] : List ExceptionTableEntry) (some .long) 39 [(0, .ref x0), (1, .int x1), (2, .int x2), (3, .int x3)] [.int y0] h 0 0 := by
  unfold w_Exact_rounded_L39 at hw
  intro p e s m args below meth c hC H locs ls k n hE hl hR hS hk hn
  obtain ⟨hx, hb, hown, hlocks, htab, hml, hr, hB, hA, hnm⟩ := id hC
  have hts := hB.1.1.at args
  refine lv_istore hx hb (xb_d D_Exact_rounded 23 rfl) hl (by decide) rfl (fun ls hl => ?_)
  have hl : lv_has ls 10 [(4, .int y0), (0, .ref x0), (1, .int x1), (2, .int x2), (3, .int x3)] := hl
  refine lv_lconst (v := 0) hx hb (xb_d D_Exact_rounded 24 rfl) (by decide) ?_
  refine lv_lstore hx hb (xb_d D_Exact_rounded 25 rfl) hl (by decide) rfl (fun ls hl => ?_)
  have hl : lv_has ls 10 [(5, .long 0), (4, .int y0), (0, .ref x0), (1, .int x1), (2, .int x2), (3, .int x3)] := hl
  refine lv_iload_n hx hb (xb_d D_Exact_rounded 26 rfl) rfl (lv_at hl 4 rfl) ?_
  refine lv_istore hx hb (xb_d D_Exact_rounded 27 rfl) hl (by decide) rfl (fun ls hl => ?_)
  have hl : lv_has ls 10 [(7, .int x2), (5, .long 0), (4, .int y0), (0, .ref x0), (1, .int x1), (2, .int x2), (3, .int x3)] := hl
  obtain ⟨n8, hw⟩ := hw
  exact am_Exact_rounded_L47 l hfl D A σ MC MS h0 Qr n8 x0 x1 x3 y0 0 x2 h hw p e s m args below meth c hC H locs ls k n hE (lv_sub hl [3, 4, 6, 2, 1, 0] rfl) hR hS (by omega) (by omega)

set_option maxHeartbeats 4000000 in
set_option maxRecDepth 100000 in
theorem ok_Exact_rounded (l : Launch) (hfl : l.flags = pinnedFlags ++ [noTraceFlag]) (D : va_G) (A : Nat → Prop) (σ : Nat) (x0 : Nat) (x1 : Int32) (h : xb_H) (Qr : Int64 → xb_H → Prop) (hw : w_Exact_rounded x0 x1 h Qr) : xb_Met l y_Exact_rounded [.code y_Exact_rounded b_Exact_rounded 10 (some .long)] (xb_rm 4 0 0) (xb_Pc D A σ h [.ref x0, .int x1]) (xb_Qc D A h 0 0 (fun v h _ _ => ∃ r, v = some (.long r) ∧ Qr r h) (fun _ _ _ _ => False)) A := by
  refine xb_ofAm (cc := b_Exact_rounded) (by decide) (Nat.le_of_ble_eq_true rfl) ?_
  unfold w_Exact_rounded at hw
  show xb_am l D A σ 4 0 0 h (fun v h _ _ => ∃ r, v = some (.long r) ∧ Qr r h) (fun _ _ _ _ => False) y_Exact_rounded.cls y_Exact_rounded.name b_Exact_rounded 10 ([] : List ExceptionTableEntry) (some .long) 0 [(0, .ref x0), (1, .int x1)] [] h 0 0
  obtain ⟨MC, hMC⟩ : ∃ x, x = 0 := ⟨_, rfl⟩
  obtain ⟨MS, hMS⟩ : ∃ x, x = 0 := ⟨_, rfl⟩
  rw [show xb_am l D A σ 4 0 0 = xb_am l D A σ 4 MC MS by rw [hMC, hMS]]
  obtain ⟨h0, hh0⟩ : ∃ x, x = h := ⟨_, rfl⟩
  rw [show xb_am l D A σ 4 MC MS h = xb_am l D A σ 4 MC MS h0 by rw [hh0]]
  intro p e s m args below meth c hC H locs ls k n hE hl hR hS hk hn
  obtain ⟨hx, hb, hown, hlocks, htab, hml, hr, hB, hA, hnm⟩ := id hC
  have hts := hB.1.1.at args
  refine lv_aload_n hx hb (xb_d D_Exact_rounded 0 rfl) rfl (lv_at hl 0 rfl) ?_
  obtain ⟨hk1, hw⟩ := hw
  refine xb_call0 (D := D) (A := A) (σ := σ) (h := h) (d := 2) (maxL := 2) (rest := []) (av := [.ref x0]) (fun T hT X => by obtain ⟨cb9, ra9, rb9, rc9⟩ := xb_recv (ci := 9) hR rfl hk1 (by decide); exact xt_invV X hx hown (hts _ m_66357da4) (hts _ m_d0ac19e2) (hts _ m_efe18c85) (xt_sigOf (hts _ m_586abdc5)) nm_Exact_highest (by rw [hT]; exact ra9) rb9 rc9 (g := F0 m 1 ls [.ref x0]) rfl (argsL := []) (rest := []) rfl rfl (by rw [hb]; exact (xb_d D_Exact_rounded 1 rfl))) (ok_Exact_highest l hfl D A σ x0 h _ hw) (hml.trans hl.1.symm) (by rw [hb]; exact (xb_d D_Exact_rounded 1 rfl)) (Nat.le_of_ble_eq_true rfl) (Nat.le_of_ble_eq_true rfl) (Nat.le_of_ble_eq_true rfl) (show k ≤ MC by omega) (show n ≤ MS by omega) (xt_w1 hB.1 m_586abdc5) (xt_cdOf hB.1 m_586abdc5) (hts _ m_b807310b) hB hR hS hA (fun vv h2 H locs hq hEh2 hR hS => ?_)
  obtain ⟨r3, rfl, hw⟩ := hq
  have hw := hw hEh2
  have hE := hE.tr hEh2
  refine W.eq (g2 := F0 m 4 ls [.int r3]) rfl ?_
  refine lv_istore_n hx hb (xb_d D_Exact_rounded 2 rfl) rfl hl (by decide) rfl (fun ls hl => ?_)
  have hl : lv_has ls 10 [(2, .int r3), (0, .ref x0), (1, .int x1)] := hl
  refine lv_sipush (v := 2201) hx hb (xb_d D_Exact_rounded 3 rfl) (by decide) ?_
  refine lv_aload_n hx hb (xb_d D_Exact_rounded 4 rfl) rfl (lv_at hl 1 rfl) ?_
  have hk1 : xb_k h2 x0 = 10 := hEh2.k hk1
  refine xb_getI (C := R_Exact) (T := F_Exact) (N := 11) hx hb 9 7 hts fin_Exact hown hR hk1 (by decide) rfl (by decide) rfl (hts _ m_71f7a53b) (fun _ h9 => h9) (xb_d D_Exact_rounded 5 rfl) ?_
  refine lv_isub hx hb (xb_d D_Exact_rounded 6 rfl) ?_
  refine lv_aload_n hx hb (xb_d D_Exact_rounded 7 rfl) rfl (lv_at hl 1 rfl) ?_
  refine xb_getI (C := R_Exact) (T := F_Exact) (N := 11) hx hb 9 6 hts fin_Exact hown hR hk1 (by decide) rfl (by decide) rfl (hts _ m_904a6bc5) (fun _ h9 => h9) (xb_d D_Exact_rounded 8 rfl) ?_
  refine lv_isub hx hb (xb_d D_Exact_rounded 9 rfl) ?_
  obtain ⟨v4, ev4⟩ : ∃ x : Int32, x = ((2201 - (xb_i h2 x0 7)) - (xb_i h2 x0 6)) := ⟨_, rfl⟩
  have hw := hw v4 ev4
  refine xt_numi (y := v4) ev4.symm ?_
  refine lv_istore_n hx hb (xb_d D_Exact_rounded 10 rfl) rfl hl (by decide) rfl (fun ls hl => ?_)
  have hl : lv_has ls 10 [(3, .int v4), (2, .int r3), (0, .ref x0), (1, .int x1)] := hl
  refine lv_iload_n hx hb (xb_d D_Exact_rounded 11 rfl) rfl (lv_at hl 1 rfl) ?_
  refine lv_aload_n hx hb (xb_d D_Exact_rounded 12 rfl) rfl (lv_at hl 2 rfl) ?_
  refine xb_getI (C := R_Exact) (T := F_Exact) (N := 11) hx hb 9 6 hts fin_Exact hown hR hk1 (by decide) rfl (by decide) rfl (hts _ m_904a6bc5) (fun _ h9 => h9) (xb_d D_Exact_rounded 13 rfl) ?_
  refine lv_isub hx hb (xb_d D_Exact_rounded 14 rfl) ?_
  refine lv_iload_n hx hb (xb_d D_Exact_rounded 15 rfl) rfl (lv_at hl 0 rfl) ?_
  refine lv_icmp_le (tgt := 38) hx hb (xb_d D_Exact_rounded 16 rfl) rfl (fun hc5 => ?_) (fun hc5 => ?_)
  · have hw := hw.1 hc5
    refine lv_iload_n hx hb (xb_d D_Exact_rounded 22 rfl) rfl (lv_at hl 0 rfl) ?_
    exact am_Exact_rounded_L39 l hfl D A σ MC MS h0 Qr x0 x1 r3 v4 v4 h2 hw p e s m args below meth c hC H locs ls k n hE (lv_sub hl [2, 3, 1, 0] rfl) hR hS (by omega) (by omega)
  · have hw := hw.2 hc5
    refine lv_iload_n hx hb (xb_d D_Exact_rounded 17 rfl) rfl (lv_at hl 1 rfl) ?_
    refine lv_aload_n hx hb (xb_d D_Exact_rounded 18 rfl) rfl (lv_at hl 2 rfl) ?_
    refine xb_getI (C := R_Exact) (T := F_Exact) (N := 11) hx hb 9 6 hts fin_Exact hown hR hk1 (by decide) rfl (by decide) rfl (hts _ m_904a6bc5) (fun _ h9 => h9) (xb_d D_Exact_rounded 19 rfl) ?_
    refine lv_isub hx hb (xb_d D_Exact_rounded 20 rfl) ?_
    refine lv_goto (tgt := 39) hx hb (xb_d D_Exact_rounded 21 rfl) rfl ?_
    exact am_Exact_rounded_L39 l hfl D A σ MC MS h0 Qr x0 x1 r3 v4 (r3 - (xb_i h2 x0 6)) h2 hw p e s m args below meth c hC H locs ls k n hE (lv_sub hl [2, 3, 1, 0] rfl) hR hS (by omega) (by omega)

theorem m_03c53ef9 : (.methodLink "StackHostModel$Exact" 30 y_Exact_first : Cond) ∈ xt_tbl := xt_in (xt_t11 (List.mem_of_getElem? (i := 167) (by decide +kernel))) (by decide +kernel)
theorem m_69a81f16 : (.static y_Exact_first : Cond) ∈ xt_tbl := xt_in (xt_t11 (List.mem_of_getElem? (i := 168) (by decide +kernel))) (by decide +kernel)
theorem m_4328253a : (.code y_Exact_first b_Exact_first 1 (some .int) : Cond) ∈ xt_tbl := xt_in (xt_t11 (List.mem_of_getElem? (i := 169) (by decide +kernel))) (by decide +kernel)
theorem m_7525be9c : (.methodLink "StackHostModel$Exact" 26 y_Exact_isIn : Cond) ∈ xt_tbl := xt_in (xt_t11 (List.mem_of_getElem? (i := 164) (by decide +kernel))) (by decide +kernel)
theorem m_6150176a : (.static y_Exact_isIn : Cond) ∈ xt_tbl := xt_in (xt_t11 (List.mem_of_getElem? (i := 165) (by decide +kernel))) (by decide +kernel)
theorem m_03fde057 : (.code y_Exact_isIn b_Exact_isIn 3 (some .boolean) : Cond) ∈ xt_tbl := xt_in (xt_t11 (List.mem_of_getElem? (i := 166) (by decide +kernel))) (by decide +kernel)
theorem nm_Exact_first : xt_nm y_Exact_first 1 := ⟨by decide +kernel, by decide +kernel⟩
theorem nm_Exact_isIn : xt_nm y_Exact_isIn 3 := ⟨by decide +kernel, by decide +kernel⟩
set_option maxRecDepth 100000 in
def T_Exact_second : List (Nat × Instr × Nat) := [(0, .iload_n 0, 1), (1, .bipush 70, 2), (3, .bipush 79, 2), (5, .invokestatic 26, 3), (8, .ifCond .ne 63, 3), (11, .iload_n 0, 1), (12, .bipush 81, 2), (14, .bipush 102, 2), (16, .invokestatic 26, 3), (19, .ifCond .ne 52, 3), (22, .iload_n 0, 1), (23, .bipush 106, 2), (25, .bipush 120, 2), (27, .invokestatic 26, 3), (30, .ifCond .ne 41, 3), (33, .iload_n 0, 1), (34, .bipush 124, 2), (36, .sipush 138, 3), (39, .invokestatic 26, 3), (42, .ifCond .ne 29, 3), (45, .iload_n 0, 1), (46, .sipush 146, 3), (49, .sipush 152, 3), (52, .invokestatic 26, 3), (55, .ifCond .ne 16, 3), (58, .iload_n 0, 1), (59, .sipush 160, 3), (62, .sipush 166, 3), (65, .invokestatic 26, 3), (68, .ifCond .eq 7, 3), (71, .iconst 1, 1), (72, .goto 4, 3), (75, .iconst 0, 1), (76, .istore_n 1, 1), (77, .iload_n 1, 1), (78, .ifCond .eq 10, 3), (81, .iload_n 0, 1), (82, .invokestatic 30, 3), (85, .goto 4, 3), (88, .iconst (-1), 1), (89, .ireturn, 1)]
theorem D_Exact_second : ∀ q ∈ T_Exact_second, decode b_Exact_second q.1 = .ok (q.2.1, q.2.2) := by decide +kernel

set_option maxHeartbeats 4000000 in
set_option maxRecDepth 100000 in
theorem am_Exact_second_L89 (l : Launch) (hfl : l.flags = pinnedFlags ++ [noTraceFlag]) (D : va_G) (A : Nat → Prop) (σ MC MS : Nat) (h0 : xb_H) (Qr : Int32 → xb_H → Prop) (y0 : Int32) (h : xb_H) (hw : w_Exact_second_L89 Qr y0 h) : xb_am l D A σ 4 MC MS h0 (fun v h _ _ => ∃ r, v = some (.int r) ∧ Qr r h) (fun _ _ _ _ => False) y_Exact_second.cls y_Exact_second.name b_Exact_second 2 ([] : List ExceptionTableEntry) (some .int) 89 [] [.int y0] h 0 0 := by
  unfold w_Exact_second_L89 at hw
  intro p e s m args below meth c hC H locs ls k n hE hl hR hS hk hn
  obtain ⟨hx, hb, hown, hlocks, htab, hml, hr, hB, hA, hnm⟩ := id hC
  have hts := hB.1.1.at args
  exact xb_iret 0 0 hx hb hr hlocks (show k + 0 ≤ MC by omega) (show n + 0 ≤ MS by omega) hE hR hS (xb_d D_Exact_second 40 rfl) hw

set_option maxHeartbeats 4000000 in
set_option maxRecDepth 100000 in
theorem am_Exact_second_L76 (l : Launch) (hfl : l.flags = pinnedFlags ++ [noTraceFlag]) (D : va_G) (A : Nat → Prop) (σ MC MS : Nat) (h0 : xb_H) (Qr : Int32 → xb_H → Prop) (x0 : Int32) (y0 : Int32) (h : xb_H) (hw : w_Exact_second_L76 Qr x0 y0 h) : xb_am l D A σ 4 MC MS h0 (fun v h _ _ => ∃ r, v = some (.int r) ∧ Qr r h) (fun _ _ _ _ => False) y_Exact_second.cls y_Exact_second.name b_Exact_second 2 ([] : List ExceptionTableEntry) (some .int) 76 [(0, .int x0)] [.int y0] h 0 0 := by
  unfold w_Exact_second_L76 at hw
  intro p e s m args below meth c hC H locs ls k n hE hl hR hS hk hn
  obtain ⟨hx, hb, hown, hlocks, htab, hml, hr, hB, hA, hnm⟩ := id hC
  have hts := hB.1.1.at args
  refine lv_istore_n hx hb (xb_d D_Exact_second 33 rfl) rfl hl (by decide) rfl (fun ls hl => ?_)
  have hl : lv_has ls 2 [(1, .int y0), (0, .int x0)] := hl
  refine lv_iload_n hx hb (xb_d D_Exact_second 34 rfl) rfl (lv_at hl 0 rfl) ?_
  refine lv_if_eq (tgt := 88) hx hb (xb_d D_Exact_second 35 rfl) rfl (fun hc1 => ?_) (fun hc1 => ?_)
  · have hw := hw.1 hc1
    refine lv_iconst (v := (-1)) hx hb (xb_d D_Exact_second 39 rfl) (by decide) ?_
    exact am_Exact_second_L89 l hfl D A σ MC MS h0 Qr (-1) h hw p e s m args below meth c hC H locs ls k n hE (lv_sub hl [] rfl) hR hS (by omega) (by omega)
  · have hw := hw.2 hc1
    refine lv_iload_n hx hb (xb_d D_Exact_second 36 rfl) rfl (lv_at hl 1 rfl) ?_
    refine xb_call0 (D := D) (A := A) (σ := σ) (h := h) (d := 3) (maxL := 1) (rest := []) (av := [.int x0]) (fun T hT X => xt_invS X hx hown (hts _ m_03c53ef9) (hts _ m_69a81f16) (hts _ m_b807310b) (xt_sgS (hts _ m_4328253a)).1 (xt_sgS (hts _ m_4328253a)).2 nm_Exact_first (g := F0 m 82 ls [.int x0]) rfl (argsL := [.int x0]) (rest := []) rfl rfl (by rw [hb]; exact (xb_d D_Exact_second 37 rfl))) (ok_Exact_first l hfl D A σ x0 h _ hw) (hml.trans hl.1.symm) (by rw [hb]; exact (xb_d D_Exact_second 37 rfl)) (Nat.le_of_ble_eq_true rfl) (Nat.le_of_ble_eq_true rfl) (Nat.le_of_ble_eq_true rfl) (show k ≤ MC by omega) (show n ≤ MS by omega) (xt_w1 hB.1 m_4328253a) (xt_cdOf hB.1 m_4328253a) (hts _ m_b807310b) hB hR hS hA (fun vv h2 H locs hq hEh2 hR hS => ?_)
    obtain ⟨r3, rfl, hw⟩ := hq
    have hw := hw hEh2
    have hE := hE.tr hEh2
    refine W.eq (g2 := F0 m 85 ls [.int r3]) rfl ?_
    refine lv_goto (tgt := 89) hx hb (xb_d D_Exact_second 38 rfl) rfl ?_
    exact am_Exact_second_L89 l hfl D A σ MC MS h0 Qr r3 h2 hw p e s m args below meth c hC H locs ls k n hE (lv_sub hl [] rfl) hR hS (by omega) (by omega)

set_option maxHeartbeats 4000000 in
set_option maxRecDepth 100000 in
theorem am_Exact_second_L71 (l : Launch) (hfl : l.flags = pinnedFlags ++ [noTraceFlag]) (D : va_G) (A : Nat → Prop) (σ MC MS : Nat) (h0 : xb_H) (Qr : Int32 → xb_H → Prop) (x0 : Int32) (h : xb_H) (hw : w_Exact_second_L71 Qr x0 h) : xb_am l D A σ 4 MC MS h0 (fun v h _ _ => ∃ r, v = some (.int r) ∧ Qr r h) (fun _ _ _ _ => False) y_Exact_second.cls y_Exact_second.name b_Exact_second 2 ([] : List ExceptionTableEntry) (some .int) 71 [(0, .int x0)] [] h 0 0 := by
  unfold w_Exact_second_L71 at hw
  intro p e s m args below meth c hC H locs ls k n hE hl hR hS hk hn
  obtain ⟨hx, hb, hown, hlocks, htab, hml, hr, hB, hA, hnm⟩ := id hC
  have hts := hB.1.1.at args
  refine lv_iconst (v := 1) hx hb (xb_d D_Exact_second 30 rfl) (by decide) ?_
  refine lv_goto (tgt := 76) hx hb (xb_d D_Exact_second 31 rfl) rfl ?_
  exact am_Exact_second_L76 l hfl D A σ MC MS h0 Qr x0 1 h hw p e s m args below meth c hC H locs ls k n hE (lv_sub hl [0] rfl) hR hS (by omega) (by omega)

set_option maxHeartbeats 4000000 in
set_option maxRecDepth 100000 in
theorem ok_Exact_second (l : Launch) (hfl : l.flags = pinnedFlags ++ [noTraceFlag]) (D : va_G) (A : Nat → Prop) (σ : Nat) (x0 : Int32) (h : xb_H) (Qr : Int32 → xb_H → Prop) (hw : w_Exact_second x0 h Qr) : xb_Met l y_Exact_second [.code y_Exact_second b_Exact_second 2 (some .int)] (xb_rm 4 0 0) (xb_Pc D A σ h [.int x0]) (xb_Qc D A h 0 0 (fun v h _ _ => ∃ r, v = some (.int r) ∧ Qr r h) (fun _ _ _ _ => False)) A := by
  refine xb_ofAm (cc := b_Exact_second) (by decide) (Nat.le_of_ble_eq_true rfl) ?_
  unfold w_Exact_second at hw
  show xb_am l D A σ 4 0 0 h (fun v h _ _ => ∃ r, v = some (.int r) ∧ Qr r h) (fun _ _ _ _ => False) y_Exact_second.cls y_Exact_second.name b_Exact_second 2 ([] : List ExceptionTableEntry) (some .int) 0 [(0, .int x0)] [] h 0 0
  obtain ⟨MC, hMC⟩ : ∃ x, x = 0 := ⟨_, rfl⟩
  obtain ⟨MS, hMS⟩ : ∃ x, x = 0 := ⟨_, rfl⟩
  rw [show xb_am l D A σ 4 0 0 = xb_am l D A σ 4 MC MS by rw [hMC, hMS]]
  obtain ⟨h0, hh0⟩ : ∃ x, x = h := ⟨_, rfl⟩
  rw [show xb_am l D A σ 4 MC MS h = xb_am l D A σ 4 MC MS h0 by rw [hh0]]
  intro p e s m args below meth c hC H locs ls k n hE hl hR hS hk hn
  obtain ⟨hx, hb, hown, hlocks, htab, hml, hr, hB, hA, hnm⟩ := id hC
  have hts := hB.1.1.at args
  refine lv_iload_n hx hb (xb_d D_Exact_second 0 rfl) rfl (lv_at hl 0 rfl) ?_
  refine lv_bipush (v := 70) hx hb (xb_d D_Exact_second 1 rfl) (by decide) ?_
  refine lv_bipush (v := 79) hx hb (xb_d D_Exact_second 2 rfl) (by decide) ?_
  refine xb_call0 (D := D) (A := A) (σ := σ) (h := h) (d := 2) (maxL := 3) (rest := []) (av := [.int x0, .int 70, .int 79]) (fun T hT X => xt_invS X hx hown (hts _ m_7525be9c) (hts _ m_6150176a) (hts _ m_b807310b) (xt_sgS (hts _ m_03fde057)).1 (xt_sgS (hts _ m_03fde057)).2 nm_Exact_isIn (g := F0 m 5 ls [.int 79, .int 70, .int x0]) rfl (argsL := [.int x0, .int 70, .int 79]) (rest := []) rfl rfl (by rw [hb]; exact (xb_d D_Exact_second 3 rfl))) (ok_Exact_isIn l hfl D A σ x0 70 79 h _ hw) (hml.trans hl.1.symm) (by rw [hb]; exact (xb_d D_Exact_second 3 rfl)) (Nat.le_of_ble_eq_true rfl) (Nat.le_of_ble_eq_true rfl) (Nat.le_of_ble_eq_true rfl) (show k ≤ MC by omega) (show n ≤ MS by omega) (xt_w1 hB.1 m_03fde057) (xt_cdOf hB.1 m_03fde057) (hts _ m_b807310b) hB hR hS hA (fun vv h1 H locs hq hEh1 hR hS => ?_)
  obtain ⟨r2, rfl, hw⟩ := hq
  have hw := hw hEh1
  have hE := hE.tr hEh1
  refine W.eq (g2 := F0 m 8 ls [.int r2]) rfl ?_
  refine lv_if_ne (tgt := 71) hx hb (xb_d D_Exact_second 4 rfl) rfl (fun hc3 => ?_) (fun hc3 => ?_)
  · have hw := hw.1 hc3
    exact am_Exact_second_L71 l hfl D A σ MC MS h0 Qr x0 h1 hw p e s m args below meth c hC H locs ls k n hE (lv_sub hl [0] rfl) hR hS (by omega) (by omega)
  · have hw := hw.2 hc3
    refine lv_iload_n hx hb (xb_d D_Exact_second 5 rfl) rfl (lv_at hl 0 rfl) ?_
    refine lv_bipush (v := 81) hx hb (xb_d D_Exact_second 6 rfl) (by decide) ?_
    refine lv_bipush (v := 102) hx hb (xb_d D_Exact_second 7 rfl) (by decide) ?_
    refine xb_call0 (D := D) (A := A) (σ := σ) (h := h1) (d := 2) (maxL := 3) (rest := []) (av := [.int x0, .int 81, .int 102]) (fun T hT X => xt_invS X hx hown (hts _ m_7525be9c) (hts _ m_6150176a) (hts _ m_b807310b) (xt_sgS (hts _ m_03fde057)).1 (xt_sgS (hts _ m_03fde057)).2 nm_Exact_isIn (g := F0 m 16 ls [.int 102, .int 81, .int x0]) rfl (argsL := [.int x0, .int 81, .int 102]) (rest := []) rfl rfl (by rw [hb]; exact (xb_d D_Exact_second 8 rfl))) (ok_Exact_isIn l hfl D A σ x0 81 102 h1 _ hw) (hml.trans hl.1.symm) (by rw [hb]; exact (xb_d D_Exact_second 8 rfl)) (Nat.le_of_ble_eq_true rfl) (Nat.le_of_ble_eq_true rfl) (Nat.le_of_ble_eq_true rfl) (show k ≤ MC by omega) (show n ≤ MS by omega) (xt_w1 hB.1 m_03fde057) (xt_cdOf hB.1 m_03fde057) (hts _ m_b807310b) hB hR hS hA (fun vv h4 H locs hq hEh4 hR hS => ?_)
    obtain ⟨r5, rfl, hw⟩ := hq
    have hw := hw hEh4
    have hE := hE.tr hEh4
    refine W.eq (g2 := F0 m 19 ls [.int r5]) rfl ?_
    refine lv_if_ne (tgt := 71) hx hb (xb_d D_Exact_second 9 rfl) rfl (fun hc6 => ?_) (fun hc6 => ?_)
    · have hw := hw.1 hc6
      exact am_Exact_second_L71 l hfl D A σ MC MS h0 Qr x0 h4 hw p e s m args below meth c hC H locs ls k n hE (lv_sub hl [0] rfl) hR hS (by omega) (by omega)
    · have hw := hw.2 hc6
      refine lv_iload_n hx hb (xb_d D_Exact_second 10 rfl) rfl (lv_at hl 0 rfl) ?_
      refine lv_bipush (v := 106) hx hb (xb_d D_Exact_second 11 rfl) (by decide) ?_
      refine lv_bipush (v := 120) hx hb (xb_d D_Exact_second 12 rfl) (by decide) ?_
      refine xb_call0 (D := D) (A := A) (σ := σ) (h := h4) (d := 2) (maxL := 3) (rest := []) (av := [.int x0, .int 106, .int 120]) (fun T hT X => xt_invS X hx hown (hts _ m_7525be9c) (hts _ m_6150176a) (hts _ m_b807310b) (xt_sgS (hts _ m_03fde057)).1 (xt_sgS (hts _ m_03fde057)).2 nm_Exact_isIn (g := F0 m 27 ls [.int 120, .int 106, .int x0]) rfl (argsL := [.int x0, .int 106, .int 120]) (rest := []) rfl rfl (by rw [hb]; exact (xb_d D_Exact_second 13 rfl))) (ok_Exact_isIn l hfl D A σ x0 106 120 h4 _ hw) (hml.trans hl.1.symm) (by rw [hb]; exact (xb_d D_Exact_second 13 rfl)) (Nat.le_of_ble_eq_true rfl) (Nat.le_of_ble_eq_true rfl) (Nat.le_of_ble_eq_true rfl) (show k ≤ MC by omega) (show n ≤ MS by omega) (xt_w1 hB.1 m_03fde057) (xt_cdOf hB.1 m_03fde057) (hts _ m_b807310b) hB hR hS hA (fun vv h7 H locs hq hEh7 hR hS => ?_)
      obtain ⟨r8, rfl, hw⟩ := hq
      have hw := hw hEh7
      have hE := hE.tr hEh7
      refine W.eq (g2 := F0 m 30 ls [.int r8]) rfl ?_
      refine lv_if_ne (tgt := 71) hx hb (xb_d D_Exact_second 14 rfl) rfl (fun hc9 => ?_) (fun hc9 => ?_)
      · have hw := hw.1 hc9
        exact am_Exact_second_L71 l hfl D A σ MC MS h0 Qr x0 h7 hw p e s m args below meth c hC H locs ls k n hE (lv_sub hl [0] rfl) hR hS (by omega) (by omega)
      · have hw := hw.2 hc9
        refine lv_iload_n hx hb (xb_d D_Exact_second 15 rfl) rfl (lv_at hl 0 rfl) ?_
        refine lv_bipush (v := 124) hx hb (xb_d D_Exact_second 16 rfl) (by decide) ?_
        refine lv_sipush (v := 138) hx hb (xb_d D_Exact_second 17 rfl) (by decide) ?_
        refine xb_call0 (D := D) (A := A) (σ := σ) (h := h7) (d := 2) (maxL := 3) (rest := []) (av := [.int x0, .int 124, .int 138]) (fun T hT X => xt_invS X hx hown (hts _ m_7525be9c) (hts _ m_6150176a) (hts _ m_b807310b) (xt_sgS (hts _ m_03fde057)).1 (xt_sgS (hts _ m_03fde057)).2 nm_Exact_isIn (g := F0 m 39 ls [.int 138, .int 124, .int x0]) rfl (argsL := [.int x0, .int 124, .int 138]) (rest := []) rfl rfl (by rw [hb]; exact (xb_d D_Exact_second 18 rfl))) (ok_Exact_isIn l hfl D A σ x0 124 138 h7 _ hw) (hml.trans hl.1.symm) (by rw [hb]; exact (xb_d D_Exact_second 18 rfl)) (Nat.le_of_ble_eq_true rfl) (Nat.le_of_ble_eq_true rfl) (Nat.le_of_ble_eq_true rfl) (show k ≤ MC by omega) (show n ≤ MS by omega) (xt_w1 hB.1 m_03fde057) (xt_cdOf hB.1 m_03fde057) (hts _ m_b807310b) hB hR hS hA (fun vv h10 H locs hq hEh10 hR hS => ?_)
        obtain ⟨r11, rfl, hw⟩ := hq
        have hw := hw hEh10
        have hE := hE.tr hEh10
        refine W.eq (g2 := F0 m 42 ls [.int r11]) rfl ?_
        refine lv_if_ne (tgt := 71) hx hb (xb_d D_Exact_second 19 rfl) rfl (fun hc12 => ?_) (fun hc12 => ?_)
        · have hw := hw.1 hc12
          exact am_Exact_second_L71 l hfl D A σ MC MS h0 Qr x0 h10 hw p e s m args below meth c hC H locs ls k n hE (lv_sub hl [0] rfl) hR hS (by omega) (by omega)
        · have hw := hw.2 hc12
          refine lv_iload_n hx hb (xb_d D_Exact_second 20 rfl) rfl (lv_at hl 0 rfl) ?_
          refine lv_sipush (v := 146) hx hb (xb_d D_Exact_second 21 rfl) (by decide) ?_
          refine lv_sipush (v := 152) hx hb (xb_d D_Exact_second 22 rfl) (by decide) ?_
          refine xb_call0 (D := D) (A := A) (σ := σ) (h := h10) (d := 2) (maxL := 3) (rest := []) (av := [.int x0, .int 146, .int 152]) (fun T hT X => xt_invS X hx hown (hts _ m_7525be9c) (hts _ m_6150176a) (hts _ m_b807310b) (xt_sgS (hts _ m_03fde057)).1 (xt_sgS (hts _ m_03fde057)).2 nm_Exact_isIn (g := F0 m 52 ls [.int 152, .int 146, .int x0]) rfl (argsL := [.int x0, .int 146, .int 152]) (rest := []) rfl rfl (by rw [hb]; exact (xb_d D_Exact_second 23 rfl))) (ok_Exact_isIn l hfl D A σ x0 146 152 h10 _ hw) (hml.trans hl.1.symm) (by rw [hb]; exact (xb_d D_Exact_second 23 rfl)) (Nat.le_of_ble_eq_true rfl) (Nat.le_of_ble_eq_true rfl) (Nat.le_of_ble_eq_true rfl) (show k ≤ MC by omega) (show n ≤ MS by omega) (xt_w1 hB.1 m_03fde057) (xt_cdOf hB.1 m_03fde057) (hts _ m_b807310b) hB hR hS hA (fun vv h13 H locs hq hEh13 hR hS => ?_)
          obtain ⟨r14, rfl, hw⟩ := hq
          have hw := hw hEh13
          have hE := hE.tr hEh13
          refine W.eq (g2 := F0 m 55 ls [.int r14]) rfl ?_
          refine lv_if_ne (tgt := 71) hx hb (xb_d D_Exact_second 24 rfl) rfl (fun hc15 => ?_) (fun hc15 => ?_)
          · have hw := hw.1 hc15
            exact am_Exact_second_L71 l hfl D A σ MC MS h0 Qr x0 h13 hw p e s m args below meth c hC H locs ls k n hE (lv_sub hl [0] rfl) hR hS (by omega) (by omega)
          · have hw := hw.2 hc15
            refine lv_iload_n hx hb (xb_d D_Exact_second 25 rfl) rfl (lv_at hl 0 rfl) ?_
            refine lv_sipush (v := 160) hx hb (xb_d D_Exact_second 26 rfl) (by decide) ?_
            refine lv_sipush (v := 166) hx hb (xb_d D_Exact_second 27 rfl) (by decide) ?_
            refine xb_call0 (D := D) (A := A) (σ := σ) (h := h13) (d := 2) (maxL := 3) (rest := []) (av := [.int x0, .int 160, .int 166]) (fun T hT X => xt_invS X hx hown (hts _ m_7525be9c) (hts _ m_6150176a) (hts _ m_b807310b) (xt_sgS (hts _ m_03fde057)).1 (xt_sgS (hts _ m_03fde057)).2 nm_Exact_isIn (g := F0 m 65 ls [.int 166, .int 160, .int x0]) rfl (argsL := [.int x0, .int 160, .int 166]) (rest := []) rfl rfl (by rw [hb]; exact (xb_d D_Exact_second 28 rfl))) (ok_Exact_isIn l hfl D A σ x0 160 166 h13 _ hw) (hml.trans hl.1.symm) (by rw [hb]; exact (xb_d D_Exact_second 28 rfl)) (Nat.le_of_ble_eq_true rfl) (Nat.le_of_ble_eq_true rfl) (Nat.le_of_ble_eq_true rfl) (show k ≤ MC by omega) (show n ≤ MS by omega) (xt_w1 hB.1 m_03fde057) (xt_cdOf hB.1 m_03fde057) (hts _ m_b807310b) hB hR hS hA (fun vv h16 H locs hq hEh16 hR hS => ?_)
            obtain ⟨r17, rfl, hw⟩ := hq
            have hw := hw hEh16
            have hE := hE.tr hEh16
            refine W.eq (g2 := F0 m 68 ls [.int r17]) rfl ?_
            refine lv_if_eq (tgt := 75) hx hb (xb_d D_Exact_second 29 rfl) rfl (fun hc18 => ?_) (fun hc18 => ?_)
            · have hw := hw.1 hc18
              refine lv_iconst (v := 0) hx hb (xb_d D_Exact_second 32 rfl) (by decide) ?_
              exact am_Exact_second_L76 l hfl D A σ MC MS h0 Qr x0 0 h16 hw p e s m args below meth c hC H locs ls k n hE (lv_sub hl [0] rfl) hR hS (by omega) (by omega)
            · have hw := hw.2 hc18
              exact am_Exact_second_L71 l hfl D A σ MC MS h0 Qr x0 h16 hw p e s m args below meth c hC H locs ls k n hE (lv_sub hl [0] rfl) hR hS (by omega) (by omega)

theorem m_e26b0532 : (.methodLink "StackHost" 220 y_StackModule_exportNamed : Cond) ∈ xt_tbl := xt_in (xt_t7 (List.mem_of_getElem? (i := 145) (by decide +kernel))) (by decide +kernel)
theorem m_56ec8fb6 : (.instanceMethod y_StackModule_exportNamed : Cond) ∈ xt_tbl := xt_in (xt_t6 (List.mem_of_getElem? (i := 157) (by decide +kernel))) (by decide +kernel)
theorem m_b1e53fc5 : (.selects "StackHost$StackModule" y_StackModule_exportNamed y_StackModule_exportNamed : Cond) ∈ xt_tbl := xt_in (xt_t6 (List.mem_of_getElem? (i := 158) (by decide +kernel))) (by decide +kernel)
theorem m_bdadcc5e : (.code y_StackModule_exportNamed b_StackModule_exportNamed 4 (some .int) : Cond) ∈ xt_tbl := xt_in (xt_t6 (List.mem_of_getElem? (i := 159) (by decide +kernel))) (by decide +kernel)
theorem nm_StackModule_exportNamed : xt_nm y_StackModule_exportNamed 3 := ⟨by decide +kernel, by decide +kernel⟩
set_option maxRecDepth 100000 in
def T_H_find : List (Nat × Instr × Nat) := [(0, .aload_n 0, 1), (1, .iload_n 1, 1), (2, .invokevirtual 200, 3), (5, .astore_n 2, 1), (6, .aload_n 0, 1), (7, .getfield 58, 3), (10, .istore_n 3, 1), (11, .aload_n 0, 1), (12, .iconst 0, 1), (13, .putfield 58, 3), (16, .aload_n 2, 1), (17, .getfield 216, 3), (20, .aload_n 0, 1), (21, .getfield 9, 3), (24, .iconst 0, 1), (25, .iload_n 3, 1), (26, .invokevirtual 220, 3), (29, .ireturn, 1)]
theorem D_H_find : ∀ q ∈ T_H_find, decode b_H_find q.1 = .ok (q.2.1, q.2.2) := by decide +kernel

set_option maxHeartbeats 4000000 in
set_option maxRecDepth 100000 in
theorem ok_H_find (l : Launch) (hfl : l.flags = pinnedFlags ++ [noTraceFlag]) (D : va_G) (A : Nat → Prop) (σ : Nat) (x0 : Nat) (x1 : Int32) (h : xb_H) (bc : Nat) (bs : Nat) (Qr : Int32 → xb_H → Nat → Nat → Prop) (Qt : String → xb_H → Nat → Nat → Prop) (hw : w_H_find x0 x1 h bc bs Qr Qt) : xb_Met l y_H_find [.code y_H_find b_H_find 4 (some .int)] (xb_rm 5 bc bs) (xb_Pc D A σ h [.ref x0, .int x1]) (xb_Qc D A h bc bs (fun v h bc bs => ∃ r, v = some (.int r) ∧ Qr r h bc bs) Qt) A := by
  refine xb_ofAm (cc := b_H_find) (by decide) (Nat.le_of_ble_eq_true rfl) ?_
  unfold w_H_find at hw
  show xb_am l D A σ 5 bc bs h (fun v h bc bs => ∃ r, v = some (.int r) ∧ Qr r h bc bs) Qt y_H_find.cls y_H_find.name b_H_find 4 ([] : List ExceptionTableEntry) (some .int) 0 [(0, .ref x0), (1, .int x1)] [] h bc bs
  obtain ⟨MC, hMC⟩ : ∃ x, x = bc := ⟨_, rfl⟩
  obtain ⟨MS, hMS⟩ : ∃ x, x = bs := ⟨_, rfl⟩
  rw [show xb_am l D A σ 5 bc bs = xb_am l D A σ 5 MC MS by rw [hMC, hMS]]
  obtain ⟨h0, hh0⟩ : ∃ x, x = h := ⟨_, rfl⟩
  rw [show xb_am l D A σ 5 MC MS h = xb_am l D A σ 5 MC MS h0 by rw [hh0]]
  intro p e s m args below meth c hC H locs ls k n hE hl hR hS hk hn
  obtain ⟨hx, hb, hown, hlocks, htab, hml, hr, hB, hA, hnm⟩ := id hC
  have hts := hB.1.1.at args
  refine lv_aload_n hx hb (xb_d D_H_find 0 rfl) rfl (lv_at hl 0 rfl) ?_
  refine lv_iload_n hx hb (xb_d D_H_find 1 rfl) rfl (lv_at hl 1 rfl) ?_
  obtain ⟨hk1, hw⟩ := hw
  refine xb_call (D := D) (A := A) (σ := σ) (h := h) (d := 2) (mc := bc) (ms := bs) (maxL := 2) (rest := []) (av := [.ref x0, .int x1]) (fun T hT X => by obtain ⟨cb9, ra9, rb9, rc9⟩ := xb_recv (ci := 0) hR rfl hk1 (by decide); exact xt_invV X hx hown (hts _ m_63e9a525) (hts _ m_93abae91) (hts _ m_f44e4f6a) (xt_sigOf (hts _ m_925de4f3)) nm_H_instanceNumbered (by rw [hT]; exact ra9) rb9 rc9 (g := F0 m 2 ls [.int x1, .ref x0]) rfl (argsL := [.int x1]) (rest := []) rfl rfl (by rw [hb]; exact (xb_d D_H_find 2 rfl))) (ok_H_instanceNumbered l hfl D A σ x0 x1 h bc bs _ _ hw) (hml.trans hl.1.symm) (by rw [hb]; exact (xb_d D_H_find 2 rfl)) (Nat.le_of_ble_eq_true rfl) (Nat.le_of_ble_eq_true rfl) (Nat.le_of_ble_eq_true rfl) (show k + bc ≤ MC by omega) (show n + bs ≤ MS by omega) (xt_w1 hB.1 m_925de4f3) (xt_cdOf hB.1 m_925de4f3) (hts _ m_ba0734f5) hB hR hS hA (fun vv h2 bc3 bs3 kk3 nn3 H locs hk3 hn3 hq hEh2 hR hS => ?_) (fun XX ax h2 bc3 bs3 kk3 nn3 H locs hk3 hn3 hq hEh2 hex hR hS => ?_)
  · obtain ⟨r3, rfl, hw⟩ := hq
    have hw := hw hEh2
    have hE := hE.tr hEh2
    refine W.eq (g2 := F0 m 5 ls [.ref r3]) rfl ?_
    refine lv_astore_n hx hb (xb_d D_H_find 3 rfl) rfl hl (by decide) rfl (fun ls hl => ?_)
    have hl : lv_has ls 4 [(2, .ref r3), (0, .ref x0), (1, .int x1)] := hl
    refine lv_aload_n hx hb (xb_d D_H_find 4 rfl) rfl (lv_at hl 1 rfl) ?_
    have hk1 : xb_k h2 x0 = 1 := hEh2.k hk1
    refine xb_getI (C := R_H) (T := F_H) (N := 11) hx hb 0 1 hts fin_H hown hR hk1 (by decide) rfl (by decide) rfl (hts _ m_1ee8d2b8) (fun _ h9 => h9) (xb_d D_H_find 5 rfl) ?_
    obtain ⟨v4, ev4⟩ : ∃ x : Int32, x = (xb_i h2 x0 1) := ⟨_, rfl⟩
    have hw := hw v4 ev4
    refine xt_numi (y := v4) ev4.symm ?_
    refine lv_istore_n hx hb (xb_d D_H_find 6 rfl) rfl hl (by decide) rfl (fun ls hl => ?_)
    have hl : lv_has ls 4 [(3, .int v4), (2, .ref r3), (0, .ref x0), (1, .int x1)] := hl
    refine lv_aload_n hx hb (xb_d D_H_find 7 rfl) rfl (lv_at hl 2 rfl) ?_
    refine lv_iconst (v := 0) hx hb (xb_d D_H_find 8 rfl) (by decide) ?_
    refine xb_putI (C := R_H) (T := F_H) (N := 11) (ty := .int) (x := 0) hx hb 0 1 hts fin_H t_H t_H_ok n_H hown hR hS hk1 (by decide) rfl (by decide) rfl (hts _ m_1ee8d2b8) (fun _ h9 => h9) rfl (by decide +kernel) rfl rfl (xb_d D_H_find 9 rfl) (fun H locs hR hS => ?_)
    obtain ⟨h5, eh5⟩ : ∃ x : xb_H, x = xb_I h2 x0 1 0 := ⟨_, rfl⟩
    rw [← eh5] at hR
    have hw := hw h5 eh5
    have hE : xb_ext h0 h5 := by rw [eh5]; exact hE
    refine lv_aload_n hx hb (xb_d D_H_find 10 rfl) rfl (lv_at hl 1 rfl) ?_
    obtain ⟨hk6, hw⟩ := hw
    refine xb_getP (C := R_Instance) (T := F_Instance) (N := 8) hx hb 10 1 hts fin_Instance hown hR hk6 (by decide) rfl (by decide) rfl (hts _ m_105e0328) (fun _ h9 => h9) (xb_d D_H_find 11 rfl) ?_
    obtain ⟨b7, eb7, hw⟩ := hw
    refine xb_some eb7 ?_
    refine lv_aload_n hx hb (xb_d D_H_find 12 rfl) rfl (lv_at hl 2 rfl) ?_
    have hk1 : xb_k h5 x0 = 1 := by rw [eh5]; exact hk1
    refine xb_getP (C := R_H) (T := F_H) (N := 11) hx hb 0 0 hts fin_H hown hR hk1 (by decide) rfl (by decide) rfl (hts _ m_4570233e) (fun _ h9 => h9) (xb_d D_H_find 13 rfl) ?_
    obtain ⟨b8, eb8, hw⟩ := hw
    refine xb_some eb8 ?_
    refine lv_iconst (v := 0) hx hb (xb_d D_H_find 14 rfl) (by decide) ?_
    refine lv_iload_n hx hb (xb_d D_H_find 15 rfl) rfl (lv_at hl 0 rfl) ?_
    obtain ⟨hk9, hw⟩ := hw
    refine xb_call0 (D := D) (A := A) (σ := σ) (h := h5) (d := 4) (maxL := 4) (rest := []) (av := [.ref b7, .ref b8, .int 0, .int v4]) (fun T hT X => by obtain ⟨cb9, ra9, rb9, rc9⟩ := xb_recv (ci := 2) hR rfl hk9 (by decide); exact xt_invV X hx hown (hts _ m_e26b0532) (hts _ m_56ec8fb6) (hts _ m_b1e53fc5) (xt_sigOf (hts _ m_bdadcc5e)) nm_StackModule_exportNamed (by rw [hT]; exact ra9) rb9 rc9 (g := F0 m 26 ls [.int v4, .int 0, .ref b8, .ref b7]) rfl (argsL := [.ref b8, .int 0, .int v4]) (rest := []) rfl rfl (by rw [hb]; exact (xb_d D_H_find 16 rfl))) (ok_StackModule_exportNamed l hfl D A σ b7 b8 0 v4 h5 _ hw) (hml.trans hl.1.symm) (by rw [hb]; exact (xb_d D_H_find 16 rfl)) (Nat.le_of_ble_eq_true rfl) (Nat.le_of_ble_eq_true rfl) (Nat.le_of_ble_eq_true rfl) (show (k + kk3) ≤ MC by omega) (show (n + nn3) ≤ MS by omega) (xt_w1 hB.1 m_bdadcc5e) (xt_cdOf hB.1 m_bdadcc5e) (hts _ m_9c375545) hB hR hS hA (fun vv h10 H locs hq hEh10 hR hS => ?_)
    obtain ⟨r11, rfl, hw⟩ := hq
    have hw := hw hEh10
    have hE := hE.tr hEh10
    refine W.eq (g2 := F0 m 29 ls [.int r11]) rfl ?_
    exact xb_iret bc3 bs3 hx hb hr hlocks (show (k + kk3) + bc3 ≤ MC by omega) (show (n + nn3) + bs3 ≤ MS by omega) hE hR hS (xb_d D_H_find 17 rfl) hw
  · exact xb_pass hlocks (fun x hx9 => by rw [htab] at hx9; first | (cases hx9; done) | (simp [tableOf] at hx9; subst hx9; decide) | (simp [tableOf] at hx9; rcases hx9 with rfl | rfl <;> decide) | (simp [tableOf] at hx9; rcases hx9 with rfl | rfl | rfl <;> decide)) (show (k + kk3) + bc3 ≤ MC by omega) (show (n + nn3) + bs3 ≤ MS by omega) (hE.tr hEh2) hR hS hex hq

theorem m_d8dc723e : (.methodLink "StackHost" 169 y_H_refuseWhileUnderWay : Cond) ∈ xt_tbl := xt_in (xt_t6 (List.mem_of_getElem? (i := 107) (by decide +kernel))) (by decide +kernel)
theorem m_d39108b7 : (.instanceMethod y_H_refuseWhileUnderWay : Cond) ∈ xt_tbl := xt_in (xt_t6 (List.mem_of_getElem? (i := 109) (by decide +kernel))) (by decide +kernel)
theorem m_6c666fc1 : (.selects "StackHost" y_H_refuseWhileUnderWay y_H_refuseWhileUnderWay : Cond) ∈ xt_tbl := xt_in (xt_v5 (q := (⟨"StackHost", "refuseWhileUnderWay", "()V"⟩, 11)) (List.mem_of_getElem? (i := 1) (by decide +kernel))) (by decide +kernel)
theorem m_f1e2143e : (.code y_H_refuseWhileUnderWay b_H_refuseWhileUnderWay 1 none : Cond) ∈ xt_tbl := xt_in (xt_t6 (List.mem_of_getElem? (i := 110) (by decide +kernel))) (by decide +kernel)
theorem m_fbe39451 : (.methodLink "StackHost" 185 y_Instance_functionId : Cond) ∈ xt_tbl := xt_in (xt_t7 (List.mem_of_getElem? (i := 115) (by decide +kernel))) (by decide +kernel)
theorem m_3dbccea2 : (.instanceMethod y_Instance_functionId : Cond) ∈ xt_tbl := xt_in (xt_t6 (List.mem_of_getElem? (i := 167) (by decide +kernel))) (by decide +kernel)
theorem m_6ce97918 : (.selects "StackHost$Instance" y_Instance_functionId y_Instance_functionId : Cond) ∈ xt_tbl := xt_in (xt_t6 (List.mem_of_getElem? (i := 168) (by decide +kernel))) (by decide +kernel)
theorem m_0d2452ce : (.code y_Instance_functionId b_Instance_functionId 3 (some .int) : Cond) ∈ xt_tbl := xt_in (xt_t6 (List.mem_of_getElem? (i := 169) (by decide +kernel))) (by decide +kernel)
theorem m_90ed97fb : (.methodLink "StackHost" 191 y_Machine_begin : Cond) ∈ xt_tbl := xt_in (xt_t7 (List.mem_of_getElem? (i := 116) (by decide +kernel))) (by decide +kernel)
theorem m_4d4ca759 : (.instanceMethod y_Machine_begin : Cond) ∈ xt_tbl := xt_in (xt_t7 (List.mem_of_getElem? (i := 117) (by decide +kernel))) (by decide +kernel)
theorem m_74154b54 : (.selects "StackHost$Machine" y_Machine_begin y_Machine_begin : Cond) ∈ xt_tbl := xt_in (xt_t7 (List.mem_of_getElem? (i := 118) (by decide +kernel))) (by decide +kernel)
theorem m_12c1e6f5 : (.code y_Machine_begin b_Machine_begin 2 none : Cond) ∈ xt_tbl := xt_in (xt_t7 (List.mem_of_getElem? (i := 119) (by decide +kernel))) (by decide +kernel)
theorem m_0ee28be7 : (.methodLink "StackHost" 255 y_Machine_takeArguments : Cond) ∈ xt_tbl := xt_in (xt_t7 (List.mem_of_getElem? (i := 180) (by decide +kernel))) (by decide +kernel)
theorem m_e92224a6 : (.instanceMethod y_Machine_takeArguments : Cond) ∈ xt_tbl := xt_in (xt_t7 (List.mem_of_getElem? (i := 181) (by decide +kernel))) (by decide +kernel)
theorem m_7b1e614f : (.selects "StackHost$Machine" y_Machine_takeArguments y_Machine_takeArguments : Cond) ∈ xt_tbl := xt_in (xt_t7 (List.mem_of_getElem? (i := 182) (by decide +kernel))) (by decide +kernel)
theorem m_9a7ca6ad : (.code y_Machine_takeArguments b_Machine_takeArguments 6 none : Cond) ∈ xt_tbl := xt_in (xt_t7 (List.mem_of_getElem? (i := 183) (by decide +kernel))) (by decide +kernel)
theorem nm_H_refuseWhileUnderWay : xt_nm y_H_refuseWhileUnderWay 0 := ⟨by decide +kernel, by decide +kernel⟩
theorem nm_Instance_functionId : xt_nm y_Instance_functionId 1 := ⟨by decide +kernel, by decide +kernel⟩
theorem nm_Machine_begin : xt_nm y_Machine_begin 1 := ⟨by decide +kernel, by decide +kernel⟩
theorem nm_Machine_takeArguments : xt_nm y_Machine_takeArguments 3 := ⟨by decide +kernel, by decide +kernel⟩
set_option maxRecDepth 100000 in
def T_H_invoke : List (Nat × Instr × Nat) := [(0, .aload_n 0, 1), (1, .iload_n 1, 1), (2, .invokevirtual 200, 3), (5, .astore_n 3, 1), (6, .aload_n 0, 1), (7, .aload_n 3, 1), (8, .getfield 216, 3), (11, .iload_n 2, 1), (12, .invokevirtual 224, 3), (15, .aload_n 3, 1), (16, .getfield 216, 3), (19, .getfield 148, 3), (22, .iload_n 2, 1), (23, .iconst 1, 1), (24, .invokevirtual 166, 3), (27, .ifCond .eq 13, 3), (30, .new 86, 3), (33, .dup, 1), (34, .ldc 251, 2), (36, .invokespecial 90, 3), (39, .athrow, 1), (40, .aload_n 3, 1), (41, .getfield 216, 3), (44, .getfield 148, 3), (47, .iload_n 2, 1), (48, .iconst 2, 1), (49, .invokevirtual 166, 3), (52, .istore 4, 2), (54, .aload_n 3, 1), (55, .getfield 216, 3), (58, .iload 4, 2), (60, .invokevirtual 228, 3), (63, .istore 5, 2), (65, .aload_n 3, 1), (66, .getfield 216, 3), (69, .iload 5, 2), (71, .invokevirtual 231, 3), (74, .aload_n 0, 1), (75, .getfield 54, 3), (78, .getfield 242, 3), (81, .if_icmp .eq 13, 3), (84, .new 86, 3), (87, .dup, 1), (88, .ldc 253, 2), (90, .invokespecial 90, 3), (93, .athrow, 1), (94, .aload_n 0, 1), (95, .invokevirtual 169, 3), (98, .aload_n 0, 1), (99, .getfield 45, 3), (102, .aload_n 3, 1), (103, .iload 4, 2), (105, .invokevirtual 185, 3), (108, .invokevirtual 191, 3), (111, .aload_n 0, 1), (112, .getfield 45, 3), (115, .aload_n 0, 1), (116, .getfield 54, 3), (119, .aload_n 3, 1), (120, .getfield 216, 3), (123, .iload 5, 2), (125, .invokevirtual 255, 3), (128, .aload_n 0, 1), (129, .getfield 54, 3), (132, .iconst 0, 1), (133, .putfield 242, 3), (136, .return_, 1)]
theorem D_H_invoke : ∀ q ∈ T_H_invoke, decode b_H_invoke q.1 = .ok (q.2.1, q.2.2) := by decide +kernel

set_option maxHeartbeats 4000000 in
set_option maxRecDepth 100000 in
theorem ok_H_invoke (l : Launch) (hfl : l.flags = pinnedFlags ++ [noTraceFlag]) (D : va_G) (A : Nat → Prop) (σ : Nat) (x0 : Nat) (x1 : Int32) (x2 : Int32) (h : xb_H) (bc : Nat) (bs : Nat) (Qr : xb_H → Nat → Nat → Prop) (Qt : String → xb_H → Nat → Nat → Prop) (hw : w_H_invoke x0 x1 x2 h bc bs Qr Qt) : xb_Met l y_H_invoke [.code y_H_invoke b_H_invoke 6 none] (xb_rm 5 bc bs) (xb_Pc D A σ h [.ref x0, .int x1, .int x2]) (xb_Qc D A h bc bs (fun v h bc bs => v = none ∧ Qr h bc bs) Qt) A := by
  refine xb_ofAm (cc := b_H_invoke) (by decide) (Nat.le_of_ble_eq_true rfl) ?_
  unfold w_H_invoke at hw
  show xb_am l D A σ 5 bc bs h (fun v h bc bs => v = none ∧ Qr h bc bs) Qt y_H_invoke.cls y_H_invoke.name b_H_invoke 6 ([] : List ExceptionTableEntry) none 0 [(0, .ref x0), (1, .int x1), (2, .int x2)] [] h bc bs
  obtain ⟨MC, hMC⟩ : ∃ x, x = bc := ⟨_, rfl⟩
  obtain ⟨MS, hMS⟩ : ∃ x, x = bs := ⟨_, rfl⟩
  rw [show xb_am l D A σ 5 bc bs = xb_am l D A σ 5 MC MS by rw [hMC, hMS]]
  obtain ⟨h0, hh0⟩ : ∃ x, x = h := ⟨_, rfl⟩
  rw [show xb_am l D A σ 5 MC MS h = xb_am l D A σ 5 MC MS h0 by rw [hh0]]
  intro p e s m args below meth c hC H locs ls k n hE hl hR hS hk hn
  obtain ⟨hx, hb, hown, hlocks, htab, hml, hr, hB, hA, hnm⟩ := id hC
  have hts := hB.1.1.at args
  refine lv_aload_n hx hb (xb_d D_H_invoke 0 rfl) rfl (lv_at hl 0 rfl) ?_
  refine lv_iload_n hx hb (xb_d D_H_invoke 1 rfl) rfl (lv_at hl 1 rfl) ?_
  obtain ⟨hk1, hw⟩ := hw
  refine xb_call (D := D) (A := A) (σ := σ) (h := h) (d := 2) (mc := bc) (ms := bs) (maxL := 2) (rest := []) (av := [.ref x0, .int x1]) (fun T hT X => by obtain ⟨cb9, ra9, rb9, rc9⟩ := xb_recv (ci := 0) hR rfl hk1 (by decide); exact xt_invV X hx hown (hts _ m_63e9a525) (hts _ m_93abae91) (hts _ m_f44e4f6a) (xt_sigOf (hts _ m_925de4f3)) nm_H_instanceNumbered (by rw [hT]; exact ra9) rb9 rc9 (g := F0 m 2 ls [.int x1, .ref x0]) rfl (argsL := [.int x1]) (rest := []) rfl rfl (by rw [hb]; exact (xb_d D_H_invoke 2 rfl))) (ok_H_instanceNumbered l hfl D A σ x0 x1 h bc bs _ _ hw) (hml.trans hl.1.symm) (by rw [hb]; exact (xb_d D_H_invoke 2 rfl)) (Nat.le_of_ble_eq_true rfl) (Nat.le_of_ble_eq_true rfl) (Nat.le_of_ble_eq_true rfl) (show k + bc ≤ MC by omega) (show n + bs ≤ MS by omega) (xt_w1 hB.1 m_925de4f3) (xt_cdOf hB.1 m_925de4f3) (hts _ m_ba0734f5) hB hR hS hA (fun vv h2 bc3 bs3 kk3 nn3 H locs hk3 hn3 hq hEh2 hR hS => ?_) (fun XX ax h2 bc3 bs3 kk3 nn3 H locs hk3 hn3 hq hEh2 hex hR hS => ?_)
  · obtain ⟨r3, rfl, hw⟩ := hq
    have hw := hw hEh2
    have hE := hE.tr hEh2
    refine W.eq (g2 := F0 m 5 ls [.ref r3]) rfl ?_
    refine lv_astore_n hx hb (xb_d D_H_invoke 3 rfl) rfl hl (by decide) rfl (fun ls hl => ?_)
    have hl : lv_has ls 6 [(3, .ref r3), (0, .ref x0), (1, .int x1), (2, .int x2)] := hl
    refine lv_aload_n hx hb (xb_d D_H_invoke 4 rfl) rfl (lv_at hl 1 rfl) ?_
    refine lv_aload_n hx hb (xb_d D_H_invoke 5 rfl) rfl (lv_at hl 0 rfl) ?_
    obtain ⟨hk4, hw⟩ := hw
    refine xb_getP (C := R_Instance) (T := F_Instance) (N := 8) hx hb 10 1 hts fin_Instance hown hR hk4 (by decide) rfl (by decide) rfl (hts _ m_105e0328) (fun _ h9 => h9) (xb_d D_H_invoke 6 rfl) ?_
    obtain ⟨b5, eb5, hw⟩ := hw
    refine xb_some eb5 ?_
    refine lv_iload_n hx hb (xb_d D_H_invoke 7 rfl) rfl (lv_at hl 3 rfl) ?_
    have hk1 : xb_k h2 x0 = 1 := hEh2.k hk1
    refine xb_call (D := D) (A := A) (σ := σ) (h := h2) (d := 3) (mc := bc3) (ms := bs3) (maxL := 3) (rest := []) (av := [.ref x0, .ref b5, .int x2]) (fun T hT X => by obtain ⟨cb9, ra9, rb9, rc9⟩ := xb_recv (ci := 0) hR rfl hk1 (by decide); exact xt_invV X hx hown (hts _ m_b0843a70) (hts _ m_12222290) (hts _ m_e3665496) (xt_sigOf (hts _ m_e263622d)) nm_H_refuseExportBeyond (by rw [hT]; exact ra9) rb9 rc9 (g := F0 m 12 ls [.int x2, .ref b5, .ref x0]) rfl (argsL := [.ref b5, .int x2]) (rest := []) rfl rfl (by rw [hb]; exact (xb_d D_H_invoke 8 rfl))) (ok_H_refuseExportBeyond l hfl D A σ x0 b5 x2 h2 bc3 bs3 _ _ hw) (hml.trans hl.1.symm) (by rw [hb]; exact (xb_d D_H_invoke 8 rfl)) (Nat.le_of_ble_eq_true rfl) (Nat.le_of_ble_eq_true rfl) (Nat.le_of_ble_eq_true rfl) (show (k + kk3) + bc3 ≤ MC by omega) (show (n + nn3) + bs3 ≤ MS by omega) (xt_w1 hB.1 m_e263622d) (xt_cdOf hB.1 m_e263622d) (hts _ m_ba0734f5) hB hR hS hA (fun vv h6 bc7 bs7 kk7 nn7 H locs hk7 hn7 hq hEh6 hR hS => ?_) (fun XX ax h6 bc7 bs7 kk7 nn7 H locs hk7 hn7 hq hEh6 hex hR hS => ?_)
    · obtain ⟨rfl, hw⟩ := hq
      have hw := hw hEh6
      have hE := hE.tr hEh6
      refine W.eq (g2 := F0 m 15 ls []) rfl ?_
      refine lv_aload_n hx hb (xb_d D_H_invoke 9 rfl) rfl (lv_at hl 0 rfl) ?_
      have hk4 : xb_k h6 r3 = 11 := hEh6.k hk4
      refine xb_getP (C := R_Instance) (T := F_Instance) (N := 8) hx hb 10 1 hts fin_Instance hown hR hk4 (by decide) rfl (by decide) rfl (hts _ m_105e0328) (fun _ h9 => h9) (xb_d D_H_invoke 10 rfl) ?_
      obtain ⟨b8, eb8, hw⟩ := hw
      refine xb_some eb8 ?_
      obtain ⟨hk9, hw⟩ := hw
      refine xb_getP (C := R_StackModule) (T := F_StackModule) (N := 19) hx hb 2 8 hts fin_StackModule hown hR hk9 (by decide) rfl (by decide) rfl (hts _ m_47aa209b) (fun _ h9 => h9) (xb_d D_H_invoke 11 rfl) ?_
      obtain ⟨b10, eb10, hw⟩ := hw
      refine xb_some eb10 ?_
      refine lv_iload_n hx hb (xb_d D_H_invoke 12 rfl) rfl (lv_at hl 3 rfl) ?_
      refine lv_iconst (v := 1) hx hb (xb_d D_H_invoke 13 rfl) (by decide) ?_
      obtain ⟨hk11, hw⟩ := hw
      refine xb_call0 (D := D) (A := A) (σ := σ) (h := h6) (d := 2) (maxL := 3) (rest := []) (av := [.ref b10, .int x2, .int 1]) (fun T hT X => by obtain ⟨cb9, ra9, rb9, rc9⟩ := xb_recv (ci := 1) hR rfl hk11 (by decide); exact xt_invV X hx hown (hts _ m_b0980f8b) (hts _ m_8e233096) (hts _ m_27eed10c) (xt_sigOf (hts _ m_ff1c70ae)) nm_Row_at (by rw [hT]; exact ra9) rb9 rc9 (g := F0 m 24 ls [.int 1, .int x2, .ref b10]) rfl (argsL := [.int x2, .int 1]) (rest := []) rfl rfl (by rw [hb]; exact (xb_d D_H_invoke 14 rfl))) (ok_Row_at l hfl D A σ b10 x2 1 h6 _ hw) (hml.trans hl.1.symm) (by rw [hb]; exact (xb_d D_H_invoke 14 rfl)) (Nat.le_of_ble_eq_true rfl) (Nat.le_of_ble_eq_true rfl) (Nat.le_of_ble_eq_true rfl) (show ((k + kk3) + kk7) ≤ MC by omega) (show ((n + nn3) + nn7) ≤ MS by omega) (xt_w1 hB.1 m_ff1c70ae) (xt_cdOf hB.1 m_ff1c70ae) (hts _ m_c1bef504) hB hR hS hA (fun vv h12 H locs hq hEh12 hR hS => ?_)
      obtain ⟨r13, rfl, hw⟩ := hq
      have hw := hw hEh12
      have hE := hE.tr hEh12
      refine W.eq (g2 := F0 m 27 ls [.int r13]) rfl ?_
      refine lv_if_eq (tgt := 40) hx hb (xb_d D_H_invoke 15 rfl) rfl (fun hc14 => ?_) (fun hc14 => ?_)
      · have hw := hw.1 hc14
        refine lv_aload_n hx hb (xb_d D_H_invoke 21 rfl) rfl (lv_at hl 0 rfl) ?_
        have hk4 : xb_k h12 r3 = 11 := hEh12.k hk4
        refine xb_getP (C := R_Instance) (T := F_Instance) (N := 8) hx hb 10 1 hts fin_Instance hown hR hk4 (by decide) rfl (by decide) rfl (hts _ m_105e0328) (fun _ h9 => h9) (xb_d D_H_invoke 22 rfl) ?_
        obtain ⟨b15, eb15, hw⟩ := hw
        refine xb_some eb15 ?_
        obtain ⟨hk16, hw⟩ := hw
        refine xb_getP (C := R_StackModule) (T := F_StackModule) (N := 19) hx hb 2 8 hts fin_StackModule hown hR hk16 (by decide) rfl (by decide) rfl (hts _ m_47aa209b) (fun _ h9 => h9) (xb_d D_H_invoke 23 rfl) ?_
        obtain ⟨b17, eb17, hw⟩ := hw
        refine xb_some eb17 ?_
        refine lv_iload_n hx hb (xb_d D_H_invoke 24 rfl) rfl (lv_at hl 3 rfl) ?_
        refine lv_iconst (v := 2) hx hb (xb_d D_H_invoke 25 rfl) (by decide) ?_
        obtain ⟨hk18, hw⟩ := hw
        refine xb_call0 (D := D) (A := A) (σ := σ) (h := h12) (d := 2) (maxL := 3) (rest := []) (av := [.ref b17, .int x2, .int 2]) (fun T hT X => by obtain ⟨cb9, ra9, rb9, rc9⟩ := xb_recv (ci := 1) hR rfl hk18 (by decide); exact xt_invV X hx hown (hts _ m_b0980f8b) (hts _ m_8e233096) (hts _ m_27eed10c) (xt_sigOf (hts _ m_ff1c70ae)) nm_Row_at (by rw [hT]; exact ra9) rb9 rc9 (g := F0 m 49 ls [.int 2, .int x2, .ref b17]) rfl (argsL := [.int x2, .int 2]) (rest := []) rfl rfl (by rw [hb]; exact (xb_d D_H_invoke 26 rfl))) (ok_Row_at l hfl D A σ b17 x2 2 h12 _ hw) (hml.trans hl.1.symm) (by rw [hb]; exact (xb_d D_H_invoke 26 rfl)) (Nat.le_of_ble_eq_true rfl) (Nat.le_of_ble_eq_true rfl) (Nat.le_of_ble_eq_true rfl) (show ((k + kk3) + kk7) ≤ MC by omega) (show ((n + nn3) + nn7) ≤ MS by omega) (xt_w1 hB.1 m_ff1c70ae) (xt_cdOf hB.1 m_ff1c70ae) (hts _ m_c1bef504) hB hR hS hA (fun vv h19 H locs hq hEh19 hR hS => ?_)
        obtain ⟨r20, rfl, hw⟩ := hq
        have hw := hw hEh19
        have hE := hE.tr hEh19
        refine W.eq (g2 := F0 m 52 ls [.int r20]) rfl ?_
        refine lv_istore hx hb (xb_d D_H_invoke 27 rfl) hl (by decide) rfl (fun ls hl => ?_)
        have hl : lv_has ls 6 [(4, .int r20), (3, .ref r3), (0, .ref x0), (1, .int x1), (2, .int x2)] := hl
        refine lv_aload_n hx hb (xb_d D_H_invoke 28 rfl) rfl (lv_at hl 1 rfl) ?_
        have hk4 : xb_k h19 r3 = 11 := hEh19.k hk4
        refine xb_getP (C := R_Instance) (T := F_Instance) (N := 8) hx hb 10 1 hts fin_Instance hown hR hk4 (by decide) rfl (by decide) rfl (hts _ m_105e0328) (fun _ h9 => h9) (xb_d D_H_invoke 29 rfl) ?_
        obtain ⟨b21, eb21, hw⟩ := hw
        refine xb_some eb21 ?_
        refine lv_iload hx hb (xb_d D_H_invoke 30 rfl) (lv_at hl 0 rfl) ?_
        obtain ⟨hk22, hw⟩ := hw
        refine xb_call0 (D := D) (A := A) (σ := σ) (h := h19) (d := 3) (maxL := 2) (rest := []) (av := [.ref b21, .int r20]) (fun T hT X => by obtain ⟨cb9, ra9, rb9, rc9⟩ := xb_recv (ci := 2) hR rfl hk22 (by decide); exact xt_invV X hx hown (hts _ m_813f0fde) (hts _ m_eb5729e5) (hts _ m_9cf0d8be) (xt_sigOf (hts _ m_42e2443a)) nm_StackModule_typeOf (by rw [hT]; exact ra9) rb9 rc9 (g := F0 m 60 ls [.int r20, .ref b21]) rfl (argsL := [.int r20]) (rest := []) rfl rfl (by rw [hb]; exact (xb_d D_H_invoke 31 rfl))) (ok_StackModule_typeOf l hfl D A σ b21 r20 h19 _ hw) (hml.trans hl.1.symm) (by rw [hb]; exact (xb_d D_H_invoke 31 rfl)) (Nat.le_of_ble_eq_true rfl) (Nat.le_of_ble_eq_true rfl) (Nat.le_of_ble_eq_true rfl) (show ((k + kk3) + kk7) ≤ MC by omega) (show ((n + nn3) + nn7) ≤ MS by omega) (xt_w1 hB.1 m_42e2443a) (xt_cdOf hB.1 m_42e2443a) (hts _ m_9c375545) hB hR hS hA (fun vv h23 H locs hq hEh23 hR hS => ?_)
        obtain ⟨r24, rfl, hw⟩ := hq
        have hw := hw hEh23
        have hE := hE.tr hEh23
        refine W.eq (g2 := F0 m 63 ls [.int r24]) rfl ?_
        refine lv_istore hx hb (xb_d D_H_invoke 32 rfl) hl (by decide) rfl (fun ls hl => ?_)
        have hl : lv_has ls 6 [(5, .int r24), (4, .int r20), (3, .ref r3), (0, .ref x0), (1, .int x1), (2, .int x2)] := hl
        refine lv_aload_n hx hb (xb_d D_H_invoke 33 rfl) rfl (lv_at hl 2 rfl) ?_
        have hk4 : xb_k h23 r3 = 11 := hEh23.k hk4
        refine xb_getP (C := R_Instance) (T := F_Instance) (N := 8) hx hb 10 1 hts fin_Instance hown hR hk4 (by decide) rfl (by decide) rfl (hts _ m_105e0328) (fun _ h9 => h9) (xb_d D_H_invoke 34 rfl) ?_
        obtain ⟨b25, eb25, hw⟩ := hw
        refine xb_some eb25 ?_
        refine lv_iload hx hb (xb_d D_H_invoke 35 rfl) (lv_at hl 0 rfl) ?_
        obtain ⟨hk26, hw⟩ := hw
        refine xb_call0 (D := D) (A := A) (σ := σ) (h := h23) (d := 3) (maxL := 2) (rest := []) (av := [.ref b25, .int r24]) (fun T hT X => by obtain ⟨cb9, ra9, rb9, rc9⟩ := xb_recv (ci := 2) hR rfl hk26 (by decide); exact xt_invV X hx hown (hts _ m_3ab16739) (hts _ m_aa97372f) (hts _ m_8160d9b3) (xt_sigOf (hts _ m_8621e59b)) nm_StackModule_parameters (by rw [hT]; exact ra9) rb9 rc9 (g := F0 m 71 ls [.int r24, .ref b25]) rfl (argsL := [.int r24]) (rest := []) rfl rfl (by rw [hb]; exact (xb_d D_H_invoke 36 rfl))) (ok_StackModule_parameters l hfl D A σ b25 r24 h23 _ hw) (hml.trans hl.1.symm) (by rw [hb]; exact (xb_d D_H_invoke 36 rfl)) (Nat.le_of_ble_eq_true rfl) (Nat.le_of_ble_eq_true rfl) (Nat.le_of_ble_eq_true rfl) (show ((k + kk3) + kk7) ≤ MC by omega) (show ((n + nn3) + nn7) ≤ MS by omega) (xt_w1 hB.1 m_8621e59b) (xt_cdOf hB.1 m_8621e59b) (hts _ m_9c375545) hB hR hS hA (fun vv h27 H locs hq hEh27 hR hS => ?_)
        obtain ⟨r28, rfl, hw⟩ := hq
        have hw := hw hEh27
        have hE := hE.tr hEh27
        refine W.eq (g2 := F0 m 74 ls [.int r28]) rfl ?_
        refine lv_aload_n hx hb (xb_d D_H_invoke 37 rfl) rfl (lv_at hl 3 rfl) ?_
        have hk1 : xb_k h6 x0 = 1 := hEh6.k hk1
        have hk1 : xb_k h12 x0 = 1 := hEh12.k hk1
        have hk1 : xb_k h19 x0 = 1 := hEh19.k hk1
        have hk1 : xb_k h23 x0 = 1 := hEh23.k hk1
        have hk1 : xb_k h27 x0 = 1 := hEh27.k hk1
        refine xb_getP (C := R_H) (T := F_H) (N := 11) hx hb 0 8 hts fin_H hown hR hk1 (by decide) rfl (by decide) rfl (hts _ m_3f9b649c) (fun _ h9 => h9) (xb_d D_H_invoke 38 rfl) ?_
        obtain ⟨b29, eb29, hw⟩ := hw
        refine xb_some eb29 ?_
        obtain ⟨hk30, hw⟩ := hw
        refine xb_getI (C := R_Row) (T := F_Row) (N := 3) hx hb 1 1 hts fin_Row hown hR hk30 (by decide) rfl (by decide) rfl (hts _ m_d32f0086) (fun _ h9 => h9) (xb_d D_H_invoke 39 rfl) ?_
        refine lv_icmp_eq (tgt := 94) hx hb (xb_d D_H_invoke 40 rfl) rfl (fun hc31 => ?_) (fun hc31 => ?_)
        · have hw := hw.1 hc31
          refine lv_aload_n hx hb (xb_d D_H_invoke 46 rfl) rfl (lv_at hl 3 rfl) ?_
          refine xb_call (D := D) (A := A) (σ := σ) (h := h27) (d := 2) (mc := bc7) (ms := bs7) (maxL := 1) (rest := []) (av := [.ref x0]) (fun T hT X => by obtain ⟨cb9, ra9, rb9, rc9⟩ := xb_recv (ci := 0) hR rfl hk1 (by decide); exact xt_invV X hx hown (hts _ m_d8dc723e) (hts _ m_d39108b7) (hts _ m_6c666fc1) (xt_sigOf (hts _ m_f1e2143e)) nm_H_refuseWhileUnderWay (by rw [hT]; exact ra9) rb9 rc9 (g := F0 m 95 ls [.ref x0]) rfl (argsL := []) (rest := []) rfl rfl (by rw [hb]; exact (xb_d D_H_invoke 47 rfl))) (ok_H_refuseWhileUnderWay l hfl D A σ x0 h27 bc7 bs7 _ _ hw) (hml.trans hl.1.symm) (by rw [hb]; exact (xb_d D_H_invoke 47 rfl)) (Nat.le_of_ble_eq_true rfl) (Nat.le_of_ble_eq_true rfl) (Nat.le_of_ble_eq_true rfl) (show ((k + kk3) + kk7) + bc7 ≤ MC by omega) (show ((n + nn3) + nn7) + bs7 ≤ MS by omega) (xt_w1 hB.1 m_f1e2143e) (xt_cdOf hB.1 m_f1e2143e) (hts _ m_ba0734f5) hB hR hS hA (fun vv h32 bc33 bs33 kk33 nn33 H locs hk33 hn33 hq hEh32 hR hS => ?_) (fun XX ax h32 bc33 bs33 kk33 nn33 H locs hk33 hn33 hq hEh32 hex hR hS => ?_)
          · obtain ⟨rfl, hw⟩ := hq
            have hw := hw hEh32
            have hE := hE.tr hEh32
            refine W.eq (g2 := F0 m 98 ls []) rfl ?_
            refine lv_aload_n hx hb (xb_d D_H_invoke 48 rfl) rfl (lv_at hl 3 rfl) ?_
            have hk1 : xb_k h32 x0 = 1 := hEh32.k hk1
            refine xb_getP (C := R_H) (T := F_H) (N := 11) hx hb 0 7 hts fin_H hown hR hk1 (by decide) rfl (by decide) rfl (hts _ m_ab10058e) (fun _ h9 => h9) (xb_d D_H_invoke 49 rfl) ?_
            obtain ⟨b34, eb34, hw⟩ := hw
            refine xb_some eb34 ?_
            refine lv_aload_n hx hb (xb_d D_H_invoke 50 rfl) rfl (lv_at hl 2 rfl) ?_
            refine lv_iload hx hb (xb_d D_H_invoke 51 rfl) (lv_at hl 1 rfl) ?_
            have hk4 : xb_k h27 r3 = 11 := hEh27.k hk4
            have hk4 : xb_k h32 r3 = 11 := hEh32.k hk4
            refine xb_call0 (D := D) (A := A) (σ := σ) (h := h32) (d := 2) (maxL := 3) (rest := [.ref b34]) (av := [.ref r3, .int r20]) (fun T hT X => by obtain ⟨cb9, ra9, rb9, rc9⟩ := xb_recv (ci := 10) hR rfl hk4 (by decide); exact xt_invV X hx hown (hts _ m_fbe39451) (hts _ m_3dbccea2) (hts _ m_6ce97918) (xt_sigOf (hts _ m_0d2452ce)) nm_Instance_functionId (by rw [hT]; exact ra9) rb9 rc9 (g := F0 m 105 ls [.int r20, .ref r3, .ref b34]) rfl (argsL := [.int r20]) (rest := [.ref b34]) rfl rfl (by rw [hb]; exact (xb_d D_H_invoke 52 rfl))) (ok_Instance_functionId l hfl D A σ r3 r20 h32 _ hw) (hml.trans hl.1.symm) (by rw [hb]; exact (xb_d D_H_invoke 52 rfl)) (Nat.le_of_ble_eq_true rfl) (Nat.le_of_ble_eq_true rfl) (Nat.le_of_ble_eq_true rfl) (show (((k + kk3) + kk7) + kk33) ≤ MC by omega) (show (((n + nn3) + nn7) + nn33) ≤ MS by omega) (xt_w1 hB.1 m_0d2452ce) (xt_cdOf hB.1 m_0d2452ce) (hts _ m_7a4e907b) hB hR hS hA (fun vv h35 H locs hq hEh35 hR hS => ?_)
            obtain ⟨r36, rfl, hw⟩ := hq
            have hw := hw hEh35
            have hE := hE.tr hEh35
            refine W.eq (g2 := F0 m 108 ls [.int r36, .ref b34]) rfl ?_
            obtain ⟨hk37, hw⟩ := hw
            refine xb_call0 (D := D) (A := A) (σ := σ) (h := h35) (d := 2) (maxL := 2) (rest := []) (av := [.ref b34, .int r36]) (fun T hT X => by obtain ⟨cb9, ra9, rb9, rc9⟩ := xb_recv (ci := 7) hR rfl hk37 (by decide); exact xt_invV X hx hown (hts _ m_90ed97fb) (hts _ m_4d4ca759) (hts _ m_74154b54) (xt_sigOf (hts _ m_12c1e6f5)) nm_Machine_begin (by rw [hT]; exact ra9) rb9 rc9 (g := F0 m 108 ls [.int r36, .ref b34]) rfl (argsL := [.int r36]) (rest := []) rfl rfl (by rw [hb]; exact (xb_d D_H_invoke 53 rfl))) (ok_Machine_begin l hfl D A σ b34 r36 h35 _ hw) (hml.trans hl.1.symm) (by rw [hb]; exact (xb_d D_H_invoke 53 rfl)) (Nat.le_of_ble_eq_true rfl) (Nat.le_of_ble_eq_true rfl) (Nat.le_of_ble_eq_true rfl) (show (((k + kk3) + kk7) + kk33) ≤ MC by omega) (show (((n + nn3) + nn7) + nn33) ≤ MS by omega) (xt_w1 hB.1 m_12c1e6f5) (xt_cdOf hB.1 m_12c1e6f5) (hts _ m_73451f9b) hB hR hS hA (fun vv h38 H locs hq hEh38 hR hS => ?_)
            obtain ⟨rfl, hw⟩ := hq
            have hw := hw hEh38
            have hE := hE.tr hEh38
            refine W.eq (g2 := F0 m 111 ls []) rfl ?_
            refine lv_aload_n hx hb (xb_d D_H_invoke 54 rfl) rfl (lv_at hl 3 rfl) ?_
            have hk1 : xb_k h35 x0 = 1 := hEh35.k hk1
            have hk1 : xb_k h38 x0 = 1 := hEh38.k hk1
            refine xb_getP (C := R_H) (T := F_H) (N := 11) hx hb 0 7 hts fin_H hown hR hk1 (by decide) rfl (by decide) rfl (hts _ m_ab10058e) (fun _ h9 => h9) (xb_d D_H_invoke 55 rfl) ?_
            obtain ⟨b40, eb40, hw⟩ := hw
            refine xb_some eb40 ?_
            refine lv_aload_n hx hb (xb_d D_H_invoke 56 rfl) rfl (lv_at hl 3 rfl) ?_
            refine xb_getP (C := R_H) (T := F_H) (N := 11) hx hb 0 8 hts fin_H hown hR hk1 (by decide) rfl (by decide) rfl (hts _ m_3f9b649c) (fun _ h9 => h9) (xb_d D_H_invoke 57 rfl) ?_
            obtain ⟨b41, eb41, hw⟩ := hw
            refine xb_some eb41 ?_
            refine lv_aload_n hx hb (xb_d D_H_invoke 58 rfl) rfl (lv_at hl 2 rfl) ?_
            have hk4 : xb_k h35 r3 = 11 := hEh35.k hk4
            have hk4 : xb_k h38 r3 = 11 := hEh38.k hk4
            refine xb_getP (C := R_Instance) (T := F_Instance) (N := 8) hx hb 10 1 hts fin_Instance hown hR hk4 (by decide) rfl (by decide) rfl (hts _ m_105e0328) (fun _ h9 => h9) (xb_d D_H_invoke 59 rfl) ?_
            obtain ⟨b42, eb42, hw⟩ := hw
            refine xb_some eb42 ?_
            refine lv_iload hx hb (xb_d D_H_invoke 60 rfl) (lv_at hl 0 rfl) ?_
            obtain ⟨hk43, hw⟩ := hw
            refine xb_call (D := D) (A := A) (σ := σ) (h := h38) (d := 4) (mc := bc33) (ms := bs33) (maxL := 6) (rest := []) (av := [.ref b40, .ref b41, .ref b42, .int r24]) (fun T hT X => by obtain ⟨cb9, ra9, rb9, rc9⟩ := xb_recv (ci := 7) hR rfl hk43 (by decide); exact xt_invV X hx hown (hts _ m_0ee28be7) (hts _ m_e92224a6) (hts _ m_7b1e614f) (xt_sigOf (hts _ m_9a7ca6ad)) nm_Machine_takeArguments (by rw [hT]; exact ra9) rb9 rc9 (g := F0 m 125 ls [.int r24, .ref b42, .ref b41, .ref b40]) rfl (argsL := [.ref b41, .ref b42, .int r24]) (rest := []) rfl rfl (by rw [hb]; exact (xb_d D_H_invoke 61 rfl))) (ok_Machine_takeArguments l hfl D A σ b40 b41 b42 r24 h38 bc33 bs33 _ hw) (hml.trans hl.1.symm) (by rw [hb]; exact (xb_d D_H_invoke 61 rfl)) (Nat.le_of_ble_eq_true rfl) (Nat.le_of_ble_eq_true rfl) (Nat.le_of_ble_eq_true rfl) (show (((k + kk3) + kk7) + kk33) + bc33 ≤ MC by omega) (show (((n + nn3) + nn7) + nn33) + bs33 ≤ MS by omega) (xt_w1 hB.1 m_9a7ca6ad) (xt_cdOf hB.1 m_9a7ca6ad) (hts _ m_73451f9b) hB hR hS hA (fun vv h44 bc45 bs45 kk45 nn45 H locs hk45 hn45 hq hEh44 hR hS => ?_) (fun XX ax h44 bc45 bs45 kk45 nn45 H locs hk45 hn45 hq hEh44 hex hR hS => ?_)
            · obtain ⟨rfl, hw⟩ := hq
              have hw := hw hEh44
              have hE := hE.tr hEh44
              refine W.eq (g2 := F0 m 128 ls []) rfl ?_
              refine lv_aload_n hx hb (xb_d D_H_invoke 62 rfl) rfl (lv_at hl 3 rfl) ?_
              have hk1 : xb_k h44 x0 = 1 := hEh44.k hk1
              refine xb_getP (C := R_H) (T := F_H) (N := 11) hx hb 0 8 hts fin_H hown hR hk1 (by decide) rfl (by decide) rfl (hts _ m_3f9b649c) (fun _ h9 => h9) (xb_d D_H_invoke 63 rfl) ?_
              obtain ⟨b46, eb46, hw⟩ := hw
              refine xb_some eb46 ?_
              refine lv_iconst (v := 0) hx hb (xb_d D_H_invoke 64 rfl) (by decide) ?_
              obtain ⟨hk47, hw⟩ := hw
              refine xb_putI (C := R_Row) (T := F_Row) (N := 3) (ty := .int) (x := 0) hx hb 1 1 hts fin_Row t_Row t_Row_ok n_Row hown hR hS hk47 (by decide) rfl (by decide) rfl (hts _ m_d32f0086) (fun _ h9 => h9) rfl (by decide +kernel) rfl rfl (xb_d D_H_invoke 65 rfl) (fun H locs hR hS => ?_)
              obtain ⟨h48, eh48⟩ : ∃ x : xb_H, x = xb_I h44 b46 1 0 := ⟨_, rfl⟩
              rw [← eh48] at hR
              have hw := hw h48 eh48
              have hE : xb_ext h0 h48 := by rw [eh48]; exact hE
              exact xb_vret bc45 bs45 hx hb hr hlocks (show ((((k + kk3) + kk7) + kk33) + kk45) + bc45 ≤ MC by omega) (show ((((n + nn3) + nn7) + nn33) + nn45) + bs45 ≤ MS by omega) hE hR hS (xb_d D_H_invoke 66 rfl) hw
            · exact False.elim hq
          · exact xb_pass hlocks (fun x hx9 => by rw [htab] at hx9; first | (cases hx9; done) | (simp [tableOf] at hx9; subst hx9; decide) | (simp [tableOf] at hx9; rcases hx9 with rfl | rfl <;> decide) | (simp [tableOf] at hx9; rcases hx9 with rfl | rfl | rfl <;> decide)) (show (((k + kk3) + kk7) + kk33) + bc33 ≤ MC by omega) (show (((n + nn3) + nn7) + nn33) + bs33 ≤ MS by omega) (hE.tr hEh32) hR hS hex hq
        · have hw := hw.2 hc31
          obtain ⟨hc9, hs9, hw⟩ := hw
          exact xb_throw (names := ["java/lang/RuntimeException", "java/lang/Exception"]) hx hb (hml.trans hl.1.symm) hlocks hfl hown xsite_7b6ea3 hB hS (show ((k + kk3) + kk7) + bc7 ≤ MC by omega) (show ((n + nn3) + nn7) + bs7 ≤ MS by omega) hc9 hs9 (by decide) (Nat.le_of_ble_eq_true rfl) htab (xb_d D_H_invoke 41 rfl) (xb_d D_H_invoke 42 rfl) xt_l2 (xb_d D_H_invoke 43 rfl) (xb_d D_H_invoke 44 rfl) (xb_d D_H_invoke 45 rfl) hE hR hw
      · have hw := hw.2 hc14
        obtain ⟨hc9, hs9, hw⟩ := hw
        exact xb_throw (names := ["java/lang/RuntimeException", "java/lang/Exception"]) hx hb (hml.trans hl.1.symm) hlocks hfl hown xsite_e7cd7f hB hS (show ((k + kk3) + kk7) + bc7 ≤ MC by omega) (show ((n + nn3) + nn7) + bs7 ≤ MS by omega) hc9 hs9 (by decide) (Nat.le_of_ble_eq_true rfl) htab (xb_d D_H_invoke 16 rfl) (xb_d D_H_invoke 17 rfl) xt_l2 (xb_d D_H_invoke 18 rfl) (xb_d D_H_invoke 19 rfl) (xb_d D_H_invoke 20 rfl) hE hR hw
    · exact xb_pass hlocks (fun x hx9 => by rw [htab] at hx9; first | (cases hx9; done) | (simp [tableOf] at hx9; subst hx9; decide) | (simp [tableOf] at hx9; rcases hx9 with rfl | rfl <;> decide) | (simp [tableOf] at hx9; rcases hx9 with rfl | rfl | rfl <;> decide)) (show ((k + kk3) + kk7) + bc7 ≤ MC by omega) (show ((n + nn3) + nn7) + bs7 ≤ MS by omega) (hE.tr hEh6) hR hS hex hq
  · exact xb_pass hlocks (fun x hx9 => by rw [htab] at hx9; first | (cases hx9; done) | (simp [tableOf] at hx9; subst hx9; decide) | (simp [tableOf] at hx9; rcases hx9 with rfl | rfl <;> decide) | (simp [tableOf] at hx9; rcases hx9 with rfl | rfl | rfl <;> decide)) (show (k + kk3) + bc3 ≤ MC by omega) (show (n + nn3) + bs3 ≤ MS by omega) (hE.tr hEh2) hR hS hex hq

theorem m_45f06a7c : (.methodLink "StackHost" 247 y_Row_add : Cond) ∈ xt_tbl := xt_in (xt_t7 (List.mem_of_getElem? (i := 170) (by decide +kernel))) (by decide +kernel)
theorem m_7e8d081f : (.instanceMethod y_Row_add : Cond) ∈ xt_tbl := xt_in (xt_t3 (List.mem_of_getElem? (i := 225) (by decide +kernel))) (by decide +kernel)
theorem m_4e47f51a : (.selects "StackHost$Row" y_Row_add y_Row_add : Cond) ∈ xt_tbl := xt_in (xt_t3 (List.mem_of_getElem? (i := 226) (by decide +kernel))) (by decide +kernel)
theorem m_4f1bdc54 : (.code y_Row_add b_Row_add 3 none : Cond) ∈ xt_tbl := xt_in (xt_t3 (List.mem_of_getElem? (i := 227) (by decide +kernel))) (by decide +kernel)
theorem nm_Row_add : xt_nm y_Row_add 1 := ⟨by decide +kernel, by decide +kernel⟩
set_option maxRecDepth 100000 in
def T_H_push : List (Nat × Instr × Nat) := [(0, .aload_n 0, 1), (1, .getfield 54, 3), (4, .getfield 242, 3), (7, .sipush 1000, 3), (10, .if_icmp .lt 13, 3), (13, .new 63, 3), (16, .dup, 1), (17, .ldc 245, 2), (19, .invokespecial 67, 3), (22, .athrow, 1), (23, .aload_n 0, 1), (24, .getfield 54, 3), (27, .lload_n 1, 1), (28, .invokevirtual 247, 3), (31, .aload_n 0, 1), (32, .getfield 54, 3), (35, .getfield 242, 3), (38, .ireturn, 1)]
theorem D_H_push : ∀ q ∈ T_H_push, decode b_H_push q.1 = .ok (q.2.1, q.2.2) := by decide +kernel

set_option maxHeartbeats 4000000 in
set_option maxRecDepth 100000 in
theorem ok_H_push (l : Launch) (hfl : l.flags = pinnedFlags ++ [noTraceFlag]) (D : va_G) (A : Nat → Prop) (σ : Nat) (x0 : Nat) (x1 : Int64) (h : xb_H) (bc : Nat) (bs : Nat) (Qr : Int32 → xb_H → Nat → Nat → Prop) (Qt : String → xb_H → Nat → Nat → Prop) (hw : w_H_push x0 x1 h bc bs Qr Qt) : xb_Met l y_H_push [.code y_H_push b_H_push 3 (some .int)] (xb_rm 5 bc bs) (xb_Pc D A σ h [.ref x0, .long x1]) (xb_Qc D A h bc bs (fun v h bc bs => ∃ r, v = some (.int r) ∧ Qr r h bc bs) Qt) A := by
  refine xb_ofAm (cc := b_H_push) (by decide) (Nat.le_of_ble_eq_true rfl) ?_
  unfold w_H_push at hw
  show xb_am l D A σ 5 bc bs h (fun v h bc bs => ∃ r, v = some (.int r) ∧ Qr r h bc bs) Qt y_H_push.cls y_H_push.name b_H_push 3 ([] : List ExceptionTableEntry) (some .int) 0 [(0, .ref x0), (1, .long x1)] [] h bc bs
  obtain ⟨MC, hMC⟩ : ∃ x, x = bc := ⟨_, rfl⟩
  obtain ⟨MS, hMS⟩ : ∃ x, x = bs := ⟨_, rfl⟩
  rw [show xb_am l D A σ 5 bc bs = xb_am l D A σ 5 MC MS by rw [hMC, hMS]]
  obtain ⟨h0, hh0⟩ : ∃ x, x = h := ⟨_, rfl⟩
  rw [show xb_am l D A σ 5 MC MS h = xb_am l D A σ 5 MC MS h0 by rw [hh0]]
  intro p e s m args below meth c hC H locs ls k n hE hl hR hS hk hn
  obtain ⟨hx, hb, hown, hlocks, htab, hml, hr, hB, hA, hnm⟩ := id hC
  have hts := hB.1.1.at args
  refine lv_aload_n hx hb (xb_d D_H_push 0 rfl) rfl (lv_at hl 0 rfl) ?_
  obtain ⟨hk1, hw⟩ := hw
  refine xb_getP (C := R_H) (T := F_H) (N := 11) hx hb 0 8 hts fin_H hown hR hk1 (by decide) rfl (by decide) rfl (hts _ m_3f9b649c) (fun _ h9 => h9) (xb_d D_H_push 1 rfl) ?_
  obtain ⟨b2, eb2, hw⟩ := hw
  refine xb_some eb2 ?_
  obtain ⟨hk3, hw⟩ := hw
  refine xb_getI (C := R_Row) (T := F_Row) (N := 3) hx hb 1 1 hts fin_Row hown hR hk3 (by decide) rfl (by decide) rfl (hts _ m_d32f0086) (fun _ h9 => h9) (xb_d D_H_push 2 rfl) ?_
  refine lv_sipush (v := 1000) hx hb (xb_d D_H_push 3 rfl) (by decide) ?_
  refine lv_icmp_lt (tgt := 23) hx hb (xb_d D_H_push 4 rfl) rfl (fun hc4 => ?_) (fun hc4 => ?_)
  · have hw := hw.1 hc4
    refine lv_aload_n hx hb (xb_d D_H_push 10 rfl) rfl (lv_at hl 0 rfl) ?_
    refine xb_getP (C := R_H) (T := F_H) (N := 11) hx hb 0 8 hts fin_H hown hR hk1 (by decide) rfl (by decide) rfl (hts _ m_3f9b649c) (fun _ h9 => h9) (xb_d D_H_push 11 rfl) ?_
    obtain ⟨b5, eb5, hw⟩ := hw
    refine xb_some eb5 ?_
    refine lv_lload_n hx hb (xb_d D_H_push 12 rfl) rfl (lv_at hl 1 rfl) ?_
    obtain ⟨hk6, hw⟩ := hw
    refine xb_call (D := D) (A := A) (σ := σ) (h := h) (d := 4) (mc := bc) (ms := bs) (maxL := 3) (rest := []) (av := [.ref b5, .long x1]) (fun T hT X => by obtain ⟨cb9, ra9, rb9, rc9⟩ := xb_recv (ci := 1) hR rfl hk6 (by decide); exact xt_invV X hx hown (hts _ m_45f06a7c) (hts _ m_7e8d081f) (hts _ m_4e47f51a) (xt_sigOf (hts _ m_4f1bdc54)) nm_Row_add (by rw [hT]; exact ra9) rb9 rc9 (g := F0 m 28 ls [.long x1, .ref b5]) rfl (argsL := [.long x1]) (rest := []) rfl rfl (by rw [hb]; exact (xb_d D_H_push 13 rfl))) (ok_Row_add l hfl D A σ b5 x1 h bc bs _ hw) (hml.trans hl.1.symm) (by rw [hb]; exact (xb_d D_H_push 13 rfl)) (Nat.le_of_ble_eq_true rfl) (Nat.le_of_ble_eq_true rfl) (Nat.le_of_ble_eq_true rfl) (show k + bc ≤ MC by omega) (show n + bs ≤ MS by omega) (xt_w1 hB.1 m_4f1bdc54) (xt_cdOf hB.1 m_4f1bdc54) (hts _ m_c1bef504) hB hR hS hA (fun vv h7 bc8 bs8 kk8 nn8 H locs hk8 hn8 hq hEh7 hR hS => ?_) (fun XX ax h7 bc8 bs8 kk8 nn8 H locs hk8 hn8 hq hEh7 hex hR hS => ?_)
    · obtain ⟨rfl, hw⟩ := hq
      have hw := hw hEh7
      have hE := hE.tr hEh7
      refine W.eq (g2 := F0 m 31 ls []) rfl ?_
      refine lv_aload_n hx hb (xb_d D_H_push 14 rfl) rfl (lv_at hl 0 rfl) ?_
      have hk1 : xb_k h7 x0 = 1 := hEh7.k hk1
      refine xb_getP (C := R_H) (T := F_H) (N := 11) hx hb 0 8 hts fin_H hown hR hk1 (by decide) rfl (by decide) rfl (hts _ m_3f9b649c) (fun _ h9 => h9) (xb_d D_H_push 15 rfl) ?_
      obtain ⟨b9, eb9, hw⟩ := hw
      refine xb_some eb9 ?_
      obtain ⟨hk10, hw⟩ := hw
      refine xb_getI (C := R_Row) (T := F_Row) (N := 3) hx hb 1 1 hts fin_Row hown hR hk10 (by decide) rfl (by decide) rfl (hts _ m_d32f0086) (fun _ h9 => h9) (xb_d D_H_push 16 rfl) ?_
      exact xb_iret bc8 bs8 hx hb hr hlocks (show (k + kk8) + bc8 ≤ MC by omega) (show (n + nn8) + bs8 ≤ MS by omega) hE hR hS (xb_d D_H_push 17 rfl) hw
    · exact False.elim hq
  · have hw := hw.2 hc4
    obtain ⟨hc9, hs9, hw⟩ := hw
    exact xb_throw (names := ["java/lang/RuntimeException", "java/lang/Exception"]) hx hb (hml.trans hl.1.symm) hlocks hfl hown xsite_44be5b hB hS (show k + bc ≤ MC by omega) (show n + bs ≤ MS by omega) hc9 hs9 (by decide) (Nat.le_of_ble_eq_true rfl) htab (xb_d D_H_push 5 rfl) (xb_d D_H_push 6 rfl) xt_l2 (xb_d D_H_push 7 rfl) (xb_d D_H_push 8 rfl) (xb_d D_H_push 9 rfl) hE hR hw

