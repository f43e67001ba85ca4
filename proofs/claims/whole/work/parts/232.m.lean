set_option maxRecDepth 100000 in
def T_Exact_whole : List (Nat × Instr × Nat) := [(0, .aload_n 0, 1), (1, .lload_n 2, 1), (2, .invokevirtual 97, 3), (5, .ifCond .ne 11, 3), (8, .aload_n 0, 1), (9, .lload_n 2, 1), (10, .invokevirtual 104, 3), (13, .ifCond .eq 5, 3), (16, .lload_n 2, 1), (17, .lreturn, 1), (18, .aload_n 0, 1), (19, .lload_n 2, 1), (20, .invokevirtual 110, 3), (23, .aload_n 0, 1), (24, .getfield 87, 3), (27, .ifCond .lt 5, 3), (30, .lload_n 2, 1), (31, .lreturn, 1), (32, .aload_n 0, 1), (33, .getfield 87, 3), (36, .ineg, 1), (37, .bipush 62, 2), (39, .if_icmp .le 7, 3), (42, .lconst 0, 1), (43, .goto 13, 3), (46, .aload_n 0, 1), (47, .getfield 83, 3), (50, .aload_n 0, 1), (51, .getfield 87, 3), (54, .ineg, 1), (55, .lshr, 1), (56, .lstore 4, 2), (58, .aload_n 0, 1), (59, .getfield 87, 3), (62, .ineg, 1), (63, .bipush 62, 2), (65, .if_icmp .gt 19, 3), (68, .aload_n 0, 1), (69, .getfield 83, 3), (72, .lload 4, 2), (74, .aload_n 0, 1), (75, .getfield 87, 3), (78, .ineg, 1), (79, .lshl, 1), (80, .lcmp, 1), (81, .ifCond .eq 7, 3), (84, .iconst 1, 1), (85, .goto 4, 3), (88, .iconst 0, 1), (89, .istore 6, 2), (91, .aload_n 0, 1), (92, .getfield 87, 3), (95, .ineg, 1), (96, .bipush 63, 2), (98, .if_icmp .gt 26, 3), (101, .aload_n 0, 1), (102, .getfield 83, 3), (105, .aload_n 0, 1), (106, .getfield 87, 3), (109, .ineg, 1), (110, .iconst 1, 1), (111, .isub, 1), (112, .lshr, 1), (113, .lconst 1, 1), (114, .land, 1), (115, .lconst 1, 1), (116, .lcmp, 1), (117, .ifCond .ne 7, 3), (120, .iconst 1, 1), (121, .goto 4, 3), (124, .iconst 0, 1), (125, .istore 7, 2), (127, .iload 7, 2), (129, .ifCond .eq 31, 3), (132, .aload_n 0, 1), (133, .getfield 83, 3), (136, .ldc2_w 50, 3), (139, .lload 4, 2), (141, .lmul, 1), (142, .lconst 1, 1), (143, .ladd, 1), (144, .aload_n 0, 1), (145, .getfield 87, 3), (148, .ineg, 1), (149, .iconst 1, 1), (150, .isub, 1), (151, .lshl, 1), (152, .lcmp, 1), (153, .ifCond .eq 7, 3), (156, .iconst 1, 1), (157, .goto 4, 3), (160, .iconst 0, 1), (161, .istore 8, 2), (163, .iload_n 1, 1), (164, .iconst 3, 1), (165, .if_icmp .ne 23, 3), (168, .iload 6, 2), (170, .ifCond .eq 14, 3), (173, .aload_n 0, 1), (174, .getfield 80, 3), (177, .ifCond .ne 7, 3), (180, .iconst 1, 1), (181, .goto 62, 3), (184, .iconst 0, 1), (185, .goto 58, 3), (188, .iload_n 1, 1), (189, .iconst 4, 1), (190, .if_icmp .ne 23, 3), (193, .iload 6, 2), (195, .ifCond .eq 14, 3), (198, .aload_n 0, 1), (199, .getfield 80, 3), (202, .ifCond .eq 7, 3), (205, .iconst 1, 1), (206, .goto 37, 3), (209, .iconst 0, 1), (210, .goto 33, 3), (213, .iload_n 1, 1), (214, .bipush 6, 2), (216, .if_icmp .ne 26, 3), (219, .iload 7, 2), (221, .ifCond .eq 21, 3), (224, .iload 8, 2), (226, .ifCond .ne 12, 3), (229, .lload 4, 2), (231, .lconst 1, 1), (232, .land, 1), (233, .lconst 1, 1), (234, .lcmp, 1), (235, .ifCond .ne 7, 3), (238, .iconst 1, 1), (239, .goto 4, 3), (242, .iconst 0, 1), (243, .istore 9, 2), (245, .iload 9, 2), (247, .ifCond .eq 10, 3), (250, .lload 4, 2), (252, .lconst 1, 1), (253, .ladd, 1), (254, .goto 5, 3), (257, .lload 4, 2), (259, .lstore 4, 2), (261, .lload 4, 2), (263, .lconst 0, 1), (264, .lcmp, 1), (265, .ifCond .ne 13, 3), (268, .aload_n 0, 1), (269, .lconst 0, 1), (270, .aload_n 0, 1), (271, .getfield 80, 3), (274, .invokevirtual 52, 3), (277, .lreturn, 1), (278, .aload_n 0, 1), (279, .getfield 80, 3), (282, .istore 10, 2), (284, .aload_n 0, 1), (285, .invokevirtual 107, 3), (288, .aload_n 0, 1), (289, .lload 4, 2), (291, .iconst 0, 1), (292, .invokevirtual 114, 3), (295, .aload_n 0, 1), (296, .iload 10, 2), (298, .invokevirtual 121, 3), (301, .lreturn, 1)]
theorem D_Exact_whole : ∀ q ∈ T_Exact_whole, decode b_Exact_whole q.1 = .ok (q.2.1, q.2.2) := by decide +kernel

set_option maxHeartbeats 4000000 in
set_option maxRecDepth 100000 in
theorem am_Exact_whole_L259 (l : Launch) (hfl : l.flags = pinnedFlags ++ [noTraceFlag]) (D : va_G) (A : Nat → Prop) (σ MC MS : Nat) (h0 : xb_H) (Qr : Int64 → xb_H → Prop) (x0 : Nat) (y0 : Int64) (h : xb_H) (hw : w_Exact_whole_L259 Qr x0 y0 h) : xb_am l D A σ 5 MC MS h0 (fun v h _ _ => ∃ r, v = some (.long r) ∧ Qr r h) (fun _ _ _ _ => False) y_Exact_whole.cls y_Exact_whole.name b_Exact_whole 11 ([] : List ExceptionTableEntry) (some .long) 259 [(0, .ref x0)] [.long y0] h 0 0 := by
  unfold w_Exact_whole_L259 at hw
  intro p e s m args below meth c hC H locs ls k n hE hl hR hS hk hn
  obtain ⟨hx, hb, hown, hlocks, htab, hml, hr, hB, hA, hnm⟩ := id hC
  have hts := hB.1.1.at args
  refine lv_lstore hx hb (xb_d D_Exact_whole 141 rfl) hl (by decide) rfl (fun ls hl => ?_)
  have hl : lv_has ls 11 [(4, .long y0), (0, .ref x0)] := hl
  refine lv_lload hx hb (xb_d D_Exact_whole 142 rfl) (lv_at hl 0 rfl) ?_
  refine lv_lconst (v := 0) hx hb (xb_d D_Exact_whole 143 rfl) (by decide) ?_
  refine xb_lc_ne (tgt := 278) hx hb (xb_d D_Exact_whole 144 rfl) (xb_d D_Exact_whole 145 rfl) rfl (fun hc1 => ?_) (fun hc1 => ?_)
  · have hw := hw.1 hc1
    refine lv_aload_n hx hb (xb_d D_Exact_whole 152 rfl) rfl (lv_at hl 1 rfl) ?_
    obtain ⟨hk2, hw⟩ := hw
    refine xb_getI (C := R_Exact) (T := F_Exact) (N := 11) hx hb 9 8 hts fin_Exact hown hR hk2 (by decide) rfl (by decide) rfl (hts _ m_124dafb0) (fun _ h9 => h9) (xb_d D_Exact_whole 153 rfl) ?_
    obtain ⟨v3, ev3⟩ : ∃ x : Int32, x = (xb_i h x0 8) := ⟨_, rfl⟩
    have hw := hw v3 ev3
    refine xt_numi (y := v3) ev3.symm ?_
    refine lv_istore hx hb (xb_d D_Exact_whole 154 rfl) hl (by decide) rfl (fun ls hl => ?_)
    have hl : lv_has ls 11 [(10, .int v3), (4, .long y0), (0, .ref x0)] := hl
    refine lv_aload_n hx hb (xb_d D_Exact_whole 155 rfl) rfl (lv_at hl 2 rfl) ?_
    refine xb_call0 (D := D) (A := A) (σ := σ) (h := h) (d := 2) (maxL := 2) (rest := []) (av := [.ref x0]) (fun T hT X => by obtain ⟨cb9, ra9, rb9, rc9⟩ := xb_recv (ci := 9) hR rfl hk2 (by decide); exact xt_invV X hx hown (hts _ m_65d93325) (hts _ m_c4de73f8) (hts _ m_b3f48cc1) (xt_sigOf (hts _ m_b0daac26)) nm_Exact_clear (by rw [hT]; exact ra9) rb9 rc9 (g := F0 m 285 ls [.ref x0]) rfl (argsL := []) (rest := []) rfl rfl (by rw [hb]; exact (xb_d D_Exact_whole 156 rfl))) (ok_Exact_clear l hfl D A σ x0 h _ hw) (hml.trans hl.1.symm) (by rw [hb]; exact (xb_d D_Exact_whole 156 rfl)) (Nat.le_of_ble_eq_true rfl) (Nat.le_of_ble_eq_true rfl) (Nat.le_of_ble_eq_true rfl) (show k ≤ MC by omega) (show n ≤ MS by omega) (xt_w1 hB.1 m_b0daac26) (xt_cdOf hB.1 m_b0daac26) (hts _ m_b807310b) hB hR hS hA (fun vv h4 H locs hq hEh4 hR hS => ?_)
    obtain ⟨rfl, hw⟩ := hq
    have hw := hw hEh4
    have hE := hE.tr hEh4
    refine W.eq (g2 := F0 m 288 ls []) rfl ?_
    refine lv_aload_n hx hb (xb_d D_Exact_whole 157 rfl) rfl (lv_at hl 2 rfl) ?_
    refine lv_lload hx hb (xb_d D_Exact_whole 158 rfl) (lv_at hl 1 rfl) ?_
    refine lv_iconst (v := 0) hx hb (xb_d D_Exact_whole 159 rfl) (by decide) ?_
    have hk2 : xb_k h4 x0 = 10 := hEh4.k hk2
    refine xb_call0 (D := D) (A := A) (σ := σ) (h := h4) (d := 3) (maxL := 9) (rest := []) (av := [.ref x0, .long y0, .int 0]) (fun T hT X => by obtain ⟨cb9, ra9, rb9, rc9⟩ := xb_recv (ci := 9) hR rfl hk2 (by decide); exact xt_invV X hx hown (hts _ m_547afbfb) (hts _ m_d4b837ea) (hts _ m_b818cb8b) (xt_sigOf (hts _ m_59b46d39)) nm_Exact_add (by rw [hT]; exact ra9) rb9 rc9 (g := F0 m 292 ls [.int 0, .long y0, .ref x0]) rfl (argsL := [.long y0, .int 0]) (rest := []) rfl rfl (by rw [hb]; exact (xb_d D_Exact_whole 160 rfl))) (ok_Exact_add l hfl D A σ x0 y0 0 h4 _ hw) (hml.trans hl.1.symm) (by rw [hb]; exact (xb_d D_Exact_whole 160 rfl)) (Nat.le_of_ble_eq_true rfl) (Nat.le_of_ble_eq_true rfl) (Nat.le_of_ble_eq_true rfl) (show k ≤ MC by omega) (show n ≤ MS by omega) (xt_w1 hB.1 m_59b46d39) (xt_cdOf hB.1 m_59b46d39) (hts _ m_b807310b) hB hR hS hA (fun vv h6 H locs hq hEh6 hR hS => ?_)
    obtain ⟨rfl, hw⟩ := hq
    have hw := hw hEh6
    have hE := hE.tr hEh6
    refine W.eq (g2 := F0 m 295 ls []) rfl ?_
    refine lv_aload_n hx hb (xb_d D_Exact_whole 161 rfl) rfl (lv_at hl 2 rfl) ?_
    refine lv_iload hx hb (xb_d D_Exact_whole 162 rfl) (lv_at hl 0 rfl) ?_
    have hk2 : xb_k h6 x0 = 10 := hEh6.k hk2
    refine xb_call0 (D := D) (A := A) (σ := σ) (h := h6) (d := 4) (maxL := 10) (rest := []) (av := [.ref x0, .int v3]) (fun T hT X => by obtain ⟨cb9, ra9, rb9, rc9⟩ := xb_recv (ci := 9) hR rfl hk2 (by decide); exact xt_invV X hx hown (hts _ m_2aa5d168) (hts _ m_a9d2c1e2) (hts _ m_665f83d8) (xt_sigOf (hts _ m_bb0adfae)) nm_Exact_rounded (by rw [hT]; exact ra9) rb9 rc9 (g := F0 m 298 ls [.int v3, .ref x0]) rfl (argsL := [.int v3]) (rest := []) rfl rfl (by rw [hb]; exact (xb_d D_Exact_whole 163 rfl))) (ok_Exact_rounded l hfl D A σ x0 v3 h6 _ hw) (hml.trans hl.1.symm) (by rw [hb]; exact (xb_d D_Exact_whole 163 rfl)) (Nat.le_of_ble_eq_true rfl) (Nat.le_of_ble_eq_true rfl) (Nat.le_of_ble_eq_true rfl) (show k ≤ MC by omega) (show n ≤ MS by omega) (xt_w1 hB.1 m_bb0adfae) (xt_cdOf hB.1 m_bb0adfae) (hts _ m_b807310b) hB hR hS hA (fun vv h8 H locs hq hEh8 hR hS => ?_)
    obtain ⟨r9, rfl, hw⟩ := hq
    have hw := hw hEh8
    have hE := hE.tr hEh8
    refine W.eq (g2 := F0 m 301 ls [.long r9]) rfl ?_
    exact xb_lret 0 0 hx hb hr hlocks (show k + 0 ≤ MC by omega) (show n + 0 ≤ MS by omega) hE hR hS (xb_d D_Exact_whole 164 rfl) hw
  · have hw := hw.2 hc1
    refine lv_aload_n hx hb (xb_d D_Exact_whole 146 rfl) rfl (lv_at hl 1 rfl) ?_
    refine lv_lconst (v := 0) hx hb (xb_d D_Exact_whole 147 rfl) (by decide) ?_
    refine lv_aload_n hx hb (xb_d D_Exact_whole 148 rfl) rfl (lv_at hl 1 rfl) ?_
    obtain ⟨hk10, hw⟩ := hw
    refine xb_getI (C := R_Exact) (T := F_Exact) (N := 11) hx hb 9 8 hts fin_Exact hown hR hk10 (by decide) rfl (by decide) rfl (hts _ m_124dafb0) (fun _ h9 => h9) (xb_d D_Exact_whole 149 rfl) ?_
    refine xb_call0 (D := D) (A := A) (σ := σ) (h := h) (d := 2) (maxL := 4) (rest := []) (av := [.ref x0, .long 0, .int (xb_i h x0 8)]) (fun T hT X => by obtain ⟨cb9, ra9, rb9, rc9⟩ := xb_recv (ci := 9) hR rfl hk10 (by decide); exact xt_invV X hx hown (hts _ m_7b6c7353) (hts _ m_28babb18) (hts _ m_243e01d5) (xt_sigOf (hts _ m_88c0fc78)) nm_Exact_signed (by rw [hT]; exact ra9) rb9 rc9 (g := F0 m 274 ls [.int (xb_i h x0 8), .long 0, .ref x0]) rfl (argsL := [.long 0, .int (xb_i h x0 8)]) (rest := []) rfl rfl (by rw [hb]; exact (xb_d D_Exact_whole 150 rfl))) (ok_Exact_signed l hfl D A σ x0 0 (xb_i h x0 8) h _ hw) (hml.trans hl.1.symm) (by rw [hb]; exact (xb_d D_Exact_whole 150 rfl)) (Nat.le_of_ble_eq_true rfl) (Nat.le_of_ble_eq_true rfl) (Nat.le_of_ble_eq_true rfl) (show k ≤ MC by omega) (show n ≤ MS by omega) (xt_w1 hB.1 m_88c0fc78) (xt_cdOf hB.1 m_88c0fc78) (hts _ m_b807310b) hB hR hS hA (fun vv h11 H locs hq hEh11 hR hS => ?_)
    obtain ⟨r12, rfl, hw⟩ := hq
    have hw := hw hEh11
    have hE := hE.tr hEh11
    refine W.eq (g2 := F0 m 277 ls [.long r12]) rfl ?_
    exact xb_lret 0 0 hx hb hr hlocks (show k + 0 ≤ MC by omega) (show n + 0 ≤ MS by omega) hE hR hS (xb_d D_Exact_whole 151 rfl) hw

set_option maxHeartbeats 4000000 in
set_option maxRecDepth 100000 in
theorem am_Exact_whole_L243 (l : Launch) (hfl : l.flags = pinnedFlags ++ [noTraceFlag]) (D : va_G) (A : Nat → Prop) (σ MC MS : Nat) (h0 : xb_H) (Qr : Int64 → xb_H → Prop) (x0 : Nat) (x4 : Int64) (y0 : Int32) (h : xb_H) (hw : w_Exact_whole_L243 Qr x0 x4 y0 h) : xb_am l D A σ 5 MC MS h0 (fun v h _ _ => ∃ r, v = some (.long r) ∧ Qr r h) (fun _ _ _ _ => False) y_Exact_whole.cls y_Exact_whole.name b_Exact_whole 11 ([] : List ExceptionTableEntry) (some .long) 243 [(0, .ref x0), (4, .long x4)] [.int y0] h 0 0 := by
  unfold w_Exact_whole_L243 at hw
  intro p e s m args below meth c hC H locs ls k n hE hl hR hS hk hn
  obtain ⟨hx, hb, hown, hlocks, htab, hml, hr, hB, hA, hnm⟩ := id hC
  have hts := hB.1.1.at args
  refine lv_istore hx hb (xb_d D_Exact_whole 133 rfl) hl (by decide) rfl (fun ls hl => ?_)
  have hl : lv_has ls 11 [(9, .int y0), (0, .ref x0), (4, .long x4)] := hl
  refine lv_iload hx hb (xb_d D_Exact_whole 134 rfl) (lv_at hl 0 rfl) ?_
  refine lv_if_eq (tgt := 257) hx hb (xb_d D_Exact_whole 135 rfl) rfl (fun hc1 => ?_) (fun hc1 => ?_)
  · have hw := hw.1 hc1
    refine lv_lload hx hb (xb_d D_Exact_whole 140 rfl) (lv_at hl 2 rfl) ?_
    exact am_Exact_whole_L259 l hfl D A σ MC MS h0 Qr x0 x4 h hw p e s m args below meth c hC H locs ls k n hE (lv_sub hl [1] rfl) hR hS (by omega) (by omega)
  · have hw := hw.2 hc1
    refine lv_lload hx hb (xb_d D_Exact_whole 136 rfl) (lv_at hl 2 rfl) ?_
    refine lv_lconst (v := 1) hx hb (xb_d D_Exact_whole 137 rfl) (by decide) ?_
    refine lv_ladd hx hb (xb_d D_Exact_whole 138 rfl) ?_
    refine lv_goto (tgt := 259) hx hb (xb_d D_Exact_whole 139 rfl) rfl ?_
    exact am_Exact_whole_L259 l hfl D A σ MC MS h0 Qr x0 (x4 + 1) h hw p e s m args below meth c hC H locs ls k n hE (lv_sub hl [1] rfl) hR hS (by omega) (by omega)

set_option maxHeartbeats 4000000 in
set_option maxRecDepth 100000 in
theorem am_Exact_whole_L242 (l : Launch) (hfl : l.flags = pinnedFlags ++ [noTraceFlag]) (D : va_G) (A : Nat → Prop) (σ MC MS : Nat) (h0 : xb_H) (Qr : Int64 → xb_H → Prop) (x0 : Nat) (x4 : Int64) (h : xb_H) (hw : w_Exact_whole_L242 Qr x0 x4 h) : xb_am l D A σ 5 MC MS h0 (fun v h _ _ => ∃ r, v = some (.long r) ∧ Qr r h) (fun _ _ _ _ => False) y_Exact_whole.cls y_Exact_whole.name b_Exact_whole 11 ([] : List ExceptionTableEntry) (some .long) 242 [(0, .ref x0), (4, .long x4)] [] h 0 0 := by
  unfold w_Exact_whole_L242 at hw
  intro p e s m args below meth c hC H locs ls k n hE hl hR hS hk hn
  obtain ⟨hx, hb, hown, hlocks, htab, hml, hr, hB, hA, hnm⟩ := id hC
  have hts := hB.1.1.at args
  refine lv_iconst (v := 0) hx hb (xb_d D_Exact_whole 132 rfl) (by decide) ?_
  exact am_Exact_whole_L243 l hfl D A σ MC MS h0 Qr x0 x4 0 h hw p e s m args below meth c hC H locs ls k n hE (lv_sub hl [0, 1] rfl) hR hS (by omega) (by omega)

set_option maxHeartbeats 4000000 in
set_option maxRecDepth 100000 in
theorem am_Exact_whole_L238 (l : Launch) (hfl : l.flags = pinnedFlags ++ [noTraceFlag]) (D : va_G) (A : Nat → Prop) (σ MC MS : Nat) (h0 : xb_H) (Qr : Int64 → xb_H → Prop) (x0 : Nat) (x4 : Int64) (h : xb_H) (hw : w_Exact_whole_L238 Qr x0 x4 h) : xb_am l D A σ 5 MC MS h0 (fun v h _ _ => ∃ r, v = some (.long r) ∧ Qr r h) (fun _ _ _ _ => False) y_Exact_whole.cls y_Exact_whole.name b_Exact_whole 11 ([] : List ExceptionTableEntry) (some .long) 238 [(0, .ref x0), (4, .long x4)] [] h 0 0 := by
  unfold w_Exact_whole_L238 at hw
  intro p e s m args below meth c hC H locs ls k n hE hl hR hS hk hn
  obtain ⟨hx, hb, hown, hlocks, htab, hml, hr, hB, hA, hnm⟩ := id hC
  have hts := hB.1.1.at args
  refine lv_iconst (v := 1) hx hb (xb_d D_Exact_whole 130 rfl) (by decide) ?_
  refine lv_goto (tgt := 243) hx hb (xb_d D_Exact_whole 131 rfl) rfl ?_
  exact am_Exact_whole_L243 l hfl D A σ MC MS h0 Qr x0 x4 1 h hw p e s m args below meth c hC H locs ls k n hE (lv_sub hl [0, 1] rfl) hR hS (by omega) (by omega)

set_option maxHeartbeats 4000000 in
set_option maxRecDepth 100000 in
theorem am_Exact_whole_L209 (l : Launch) (hfl : l.flags = pinnedFlags ++ [noTraceFlag]) (D : va_G) (A : Nat → Prop) (σ MC MS : Nat) (h0 : xb_H) (Qr : Int64 → xb_H → Prop) (x0 : Nat) (x4 : Int64) (h : xb_H) (hw : w_Exact_whole_L209 Qr x0 x4 h) : xb_am l D A σ 5 MC MS h0 (fun v h _ _ => ∃ r, v = some (.long r) ∧ Qr r h) (fun _ _ _ _ => False) y_Exact_whole.cls y_Exact_whole.name b_Exact_whole 11 ([] : List ExceptionTableEntry) (some .long) 209 [(0, .ref x0), (4, .long x4)] [] h 0 0 := by
  unfold w_Exact_whole_L209 at hw
  intro p e s m args below meth c hC H locs ls k n hE hl hR hS hk hn
  obtain ⟨hx, hb, hown, hlocks, htab, hml, hr, hB, hA, hnm⟩ := id hC
  have hts := hB.1.1.at args
  refine lv_iconst (v := 0) hx hb (xb_d D_Exact_whole 115 rfl) (by decide) ?_
  refine lv_goto (tgt := 243) hx hb (xb_d D_Exact_whole 116 rfl) rfl ?_
  exact am_Exact_whole_L243 l hfl D A σ MC MS h0 Qr x0 x4 0 h hw p e s m args below meth c hC H locs ls k n hE (lv_sub hl [0, 1] rfl) hR hS (by omega) (by omega)

set_option maxHeartbeats 4000000 in
set_option maxRecDepth 100000 in
theorem am_Exact_whole_L184 (l : Launch) (hfl : l.flags = pinnedFlags ++ [noTraceFlag]) (D : va_G) (A : Nat → Prop) (σ MC MS : Nat) (h0 : xb_H) (Qr : Int64 → xb_H → Prop) (x0 : Nat) (x4 : Int64) (h : xb_H) (hw : w_Exact_whole_L184 Qr x0 x4 h) : xb_am l D A σ 5 MC MS h0 (fun v h _ _ => ∃ r, v = some (.long r) ∧ Qr r h) (fun _ _ _ _ => False) y_Exact_whole.cls y_Exact_whole.name b_Exact_whole 11 ([] : List ExceptionTableEntry) (some .long) 184 [(0, .ref x0), (4, .long x4)] [] h 0 0 := by
  unfold w_Exact_whole_L184 at hw
  intro p e s m args below meth c hC H locs ls k n hE hl hR hS hk hn
  obtain ⟨hx, hb, hown, hlocks, htab, hml, hr, hB, hA, hnm⟩ := id hC
  have hts := hB.1.1.at args
  refine lv_iconst (v := 0) hx hb (xb_d D_Exact_whole 103 rfl) (by decide) ?_
  refine lv_goto (tgt := 243) hx hb (xb_d D_Exact_whole 104 rfl) rfl ?_
  exact am_Exact_whole_L243 l hfl D A σ MC MS h0 Qr x0 x4 0 h hw p e s m args below meth c hC H locs ls k n hE (lv_sub hl [0, 1] rfl) hR hS (by omega) (by omega)

set_option maxHeartbeats 4000000 in
set_option maxRecDepth 100000 in
theorem am_Exact_whole_L161 (l : Launch) (hfl : l.flags = pinnedFlags ++ [noTraceFlag]) (D : va_G) (A : Nat → Prop) (σ MC MS : Nat) (h0 : xb_H) (Qr : Int64 → xb_H → Prop) (x0 : Nat) (x1 : Int32) (x4 : Int64) (x6 : Int32) (x7 : Int32) (y0 : Int32) (h : xb_H) (hw : w_Exact_whole_L161 Qr x0 x1 x4 x6 x7 y0 h) : xb_am l D A σ 5 MC MS h0 (fun v h _ _ => ∃ r, v = some (.long r) ∧ Qr r h) (fun _ _ _ _ => False) y_Exact_whole.cls y_Exact_whole.name b_Exact_whole 11 ([] : List ExceptionTableEntry) (some .long) 161 [(0, .ref x0), (1, .int x1), (4, .long x4), (6, .int x6), (7, .int x7)] [.int y0] h 0 0 := by
  unfold w_Exact_whole_L161 at hw
  intro p e s m args below meth c hC H locs ls k n hE hl hR hS hk hn
  obtain ⟨hx, hb, hown, hlocks, htab, hml, hr, hB, hA, hnm⟩ := id hC
  have hts := hB.1.1.at args
  refine lv_istore hx hb (xb_d D_Exact_whole 92 rfl) hl (by decide) rfl (fun ls hl => ?_)
  have hl : lv_has ls 11 [(8, .int y0), (0, .ref x0), (1, .int x1), (4, .long x4), (6, .int x6), (7, .int x7)] := hl
  refine lv_iload_n hx hb (xb_d D_Exact_whole 93 rfl) rfl (lv_at hl 2 rfl) ?_
  refine lv_iconst (v := 3) hx hb (xb_d D_Exact_whole 94 rfl) (by decide) ?_
  refine lv_icmp_ne (tgt := 188) hx hb (xb_d D_Exact_whole 95 rfl) rfl (fun hc1 => ?_) (fun hc1 => ?_)
  · have hw := hw.1 hc1
    refine lv_iload_n hx hb (xb_d D_Exact_whole 105 rfl) rfl (lv_at hl 2 rfl) ?_
    refine lv_iconst (v := 4) hx hb (xb_d D_Exact_whole 106 rfl) (by decide) ?_
    refine lv_icmp_ne (tgt := 213) hx hb (xb_d D_Exact_whole 107 rfl) rfl (fun hc2 => ?_) (fun hc2 => ?_)
    · have hw := hw.1 hc2
      refine lv_iload_n hx hb (xb_d D_Exact_whole 117 rfl) rfl (lv_at hl 2 rfl) ?_
      refine lv_bipush (v := 6) hx hb (xb_d D_Exact_whole 118 rfl) (by decide) ?_
      refine lv_icmp_ne (tgt := 242) hx hb (xb_d D_Exact_whole 119 rfl) rfl (fun hc3 => ?_) (fun hc3 => ?_)
      · have hw := hw.1 hc3
        exact am_Exact_whole_L242 l hfl D A σ MC MS h0 Qr x0 x4 h hw p e s m args below meth c hC H locs ls k n hE (lv_sub hl [1, 3] rfl) hR hS (by omega) (by omega)
      · have hw := hw.2 hc3
        refine lv_iload hx hb (xb_d D_Exact_whole 120 rfl) (lv_at hl 5 rfl) ?_
        refine lv_if_eq (tgt := 242) hx hb (xb_d D_Exact_whole 121 rfl) rfl (fun hc4 => ?_) (fun hc4 => ?_)
        · have hw := hw.1 hc4
          exact am_Exact_whole_L242 l hfl D A σ MC MS h0 Qr x0 x4 h hw p e s m args below meth c hC H locs ls k n hE (lv_sub hl [1, 3] rfl) hR hS (by omega) (by omega)
        · have hw := hw.2 hc4
          refine lv_iload hx hb (xb_d D_Exact_whole 122 rfl) (lv_at hl 0 rfl) ?_
          refine lv_if_ne (tgt := 238) hx hb (xb_d D_Exact_whole 123 rfl) rfl (fun hc5 => ?_) (fun hc5 => ?_)
          · have hw := hw.1 hc5
            exact am_Exact_whole_L238 l hfl D A σ MC MS h0 Qr x0 x4 h hw p e s m args below meth c hC H locs ls k n hE (lv_sub hl [1, 3] rfl) hR hS (by omega) (by omega)
          · have hw := hw.2 hc5
            refine lv_lload hx hb (xb_d D_Exact_whole 124 rfl) (lv_at hl 3 rfl) ?_
            refine lv_lconst (v := 1) hx hb (xb_d D_Exact_whole 125 rfl) (by decide) ?_
            refine lv_land hx hb (xb_d D_Exact_whole 126 rfl) ?_
            refine lv_lconst (v := 1) hx hb (xb_d D_Exact_whole 127 rfl) (by decide) ?_
            refine xb_lc_ne (tgt := 242) hx hb (xb_d D_Exact_whole 128 rfl) (xb_d D_Exact_whole 129 rfl) rfl (fun hc6 => ?_) (fun hc6 => ?_)
            · have hw := hw.1 hc6
              exact am_Exact_whole_L242 l hfl D A σ MC MS h0 Qr x0 x4 h hw p e s m args below meth c hC H locs ls k n hE (lv_sub hl [1, 3] rfl) hR hS (by omega) (by omega)
            · have hw := hw.2 hc6
              exact am_Exact_whole_L238 l hfl D A σ MC MS h0 Qr x0 x4 h hw p e s m args below meth c hC H locs ls k n hE (lv_sub hl [1, 3] rfl) hR hS (by omega) (by omega)
    · have hw := hw.2 hc2
      refine lv_iload hx hb (xb_d D_Exact_whole 108 rfl) (lv_at hl 4 rfl) ?_
      refine lv_if_eq (tgt := 209) hx hb (xb_d D_Exact_whole 109 rfl) rfl (fun hc7 => ?_) (fun hc7 => ?_)
      · have hw := hw.1 hc7
        exact am_Exact_whole_L209 l hfl D A σ MC MS h0 Qr x0 x4 h hw p e s m args below meth c hC H locs ls k n hE (lv_sub hl [1, 3] rfl) hR hS (by omega) (by omega)
      · have hw := hw.2 hc7
        refine lv_aload_n hx hb (xb_d D_Exact_whole 110 rfl) rfl (lv_at hl 1 rfl) ?_
        obtain ⟨hk8, hw⟩ := hw
        refine xb_getI (C := R_Exact) (T := F_Exact) (N := 11) hx hb 9 8 hts fin_Exact hown hR hk8 (by decide) rfl (by decide) rfl (hts _ m_124dafb0) (fun _ h9 => h9) (xb_d D_Exact_whole 111 rfl) ?_
        refine lv_if_eq (tgt := 209) hx hb (xb_d D_Exact_whole 112 rfl) rfl (fun hc9 => ?_) (fun hc9 => ?_)
        · have hw := hw.1 hc9
          exact am_Exact_whole_L209 l hfl D A σ MC MS h0 Qr x0 x4 h hw p e s m args below meth c hC H locs ls k n hE (lv_sub hl [1, 3] rfl) hR hS (by omega) (by omega)
        · have hw := hw.2 hc9
          refine lv_iconst (v := 1) hx hb (xb_d D_Exact_whole 113 rfl) (by decide) ?_
          refine lv_goto (tgt := 243) hx hb (xb_d D_Exact_whole 114 rfl) rfl ?_
          exact am_Exact_whole_L243 l hfl D A σ MC MS h0 Qr x0 x4 1 h hw p e s m args below meth c hC H locs ls k n hE (lv_sub hl [1, 3] rfl) hR hS (by omega) (by omega)
  · have hw := hw.2 hc1
    refine lv_iload hx hb (xb_d D_Exact_whole 96 rfl) (lv_at hl 4 rfl) ?_
    refine lv_if_eq (tgt := 184) hx hb (xb_d D_Exact_whole 97 rfl) rfl (fun hc10 => ?_) (fun hc10 => ?_)
    · have hw := hw.1 hc10
      exact am_Exact_whole_L184 l hfl D A σ MC MS h0 Qr x0 x4 h hw p e s m args below meth c hC H locs ls k n hE (lv_sub hl [1, 3] rfl) hR hS (by omega) (by omega)
    · have hw := hw.2 hc10
      refine lv_aload_n hx hb (xb_d D_Exact_whole 98 rfl) rfl (lv_at hl 1 rfl) ?_
      obtain ⟨hk11, hw⟩ := hw
      refine xb_getI (C := R_Exact) (T := F_Exact) (N := 11) hx hb 9 8 hts fin_Exact hown hR hk11 (by decide) rfl (by decide) rfl (hts _ m_124dafb0) (fun _ h9 => h9) (xb_d D_Exact_whole 99 rfl) ?_
      refine lv_if_ne (tgt := 184) hx hb (xb_d D_Exact_whole 100 rfl) rfl (fun hc12 => ?_) (fun hc12 => ?_)
      · have hw := hw.1 hc12
        exact am_Exact_whole_L184 l hfl D A σ MC MS h0 Qr x0 x4 h hw p e s m args below meth c hC H locs ls k n hE (lv_sub hl [1, 3] rfl) hR hS (by omega) (by omega)
      · have hw := hw.2 hc12
        refine lv_iconst (v := 1) hx hb (xb_d D_Exact_whole 101 rfl) (by decide) ?_
        refine lv_goto (tgt := 243) hx hb (xb_d D_Exact_whole 102 rfl) rfl ?_
        exact am_Exact_whole_L243 l hfl D A σ MC MS h0 Qr x0 x4 1 h hw p e s m args below meth c hC H locs ls k n hE (lv_sub hl [1, 3] rfl) hR hS (by omega) (by omega)

set_option maxHeartbeats 4000000 in
set_option maxRecDepth 100000 in
theorem am_Exact_whole_L160 (l : Launch) (hfl : l.flags = pinnedFlags ++ [noTraceFlag]) (D : va_G) (A : Nat → Prop) (σ MC MS : Nat) (h0 : xb_H) (Qr : Int64 → xb_H → Prop) (x0 : Nat) (x1 : Int32) (x4 : Int64) (x6 : Int32) (x7 : Int32) (h : xb_H) (hw : w_Exact_whole_L160 Qr x0 x1 x4 x6 x7 h) : xb_am l D A σ 5 MC MS h0 (fun v h _ _ => ∃ r, v = some (.long r) ∧ Qr r h) (fun _ _ _ _ => False) y_Exact_whole.cls y_Exact_whole.name b_Exact_whole 11 ([] : List ExceptionTableEntry) (some .long) 160 [(0, .ref x0), (1, .int x1), (4, .long x4), (6, .int x6), (7, .int x7)] [] h 0 0 := by
  unfold w_Exact_whole_L160 at hw
  intro p e s m args below meth c hC H locs ls k n hE hl hR hS hk hn
  obtain ⟨hx, hb, hown, hlocks, htab, hml, hr, hB, hA, hnm⟩ := id hC
  have hts := hB.1.1.at args
  refine lv_iconst (v := 0) hx hb (xb_d D_Exact_whole 91 rfl) (by decide) ?_
  exact am_Exact_whole_L161 l hfl D A σ MC MS h0 Qr x0 x1 x4 x6 x7 0 h hw p e s m args below meth c hC H locs ls k n hE (lv_sub hl [0, 1, 2, 3, 4] rfl) hR hS (by omega) (by omega)

set_option maxHeartbeats 4000000 in
set_option maxRecDepth 100000 in
theorem am_Exact_whole_L125 (l : Launch) (hfl : l.flags = pinnedFlags ++ [noTraceFlag]) (D : va_G) (A : Nat → Prop) (σ MC MS : Nat) (h0 : xb_H) (Qr : Int64 → xb_H → Prop) (x0 : Nat) (x1 : Int32) (x4 : Int64) (x6 : Int32) (y0 : Int32) (h : xb_H) (hw : w_Exact_whole_L125 Qr x0 x1 x4 x6 y0 h) : xb_am l D A σ 5 MC MS h0 (fun v h _ _ => ∃ r, v = some (.long r) ∧ Qr r h) (fun _ _ _ _ => False) y_Exact_whole.cls y_Exact_whole.name b_Exact_whole 11 ([] : List ExceptionTableEntry) (some .long) 125 [(0, .ref x0), (1, .int x1), (4, .long x4), (6, .int x6)] [.int y0] h 0 0 := by
  unfold w_Exact_whole_L125 at hw
  intro p e s m args below meth c hC H locs ls k n hE hl hR hS hk hn
  obtain ⟨hx, hb, hown, hlocks, htab, hml, hr, hB, hA, hnm⟩ := id hC
  have hts := hB.1.1.at args
  refine lv_istore hx hb (xb_d D_Exact_whole 71 rfl) hl (by decide) rfl (fun ls hl => ?_)
  have hl : lv_has ls 11 [(7, .int y0), (0, .ref x0), (1, .int x1), (4, .long x4), (6, .int x6)] := hl
  refine lv_iload hx hb (xb_d D_Exact_whole 72 rfl) (lv_at hl 0 rfl) ?_
  refine lv_if_eq (tgt := 160) hx hb (xb_d D_Exact_whole 73 rfl) rfl (fun hc1 => ?_) (fun hc1 => ?_)
  · have hw := hw.1 hc1
    exact am_Exact_whole_L160 l hfl D A σ MC MS h0 Qr x0 x1 x4 x6 y0 h hw p e s m args below meth c hC H locs ls k n hE (lv_sub hl [1, 2, 3, 4, 0] rfl) hR hS (by omega) (by omega)
  · have hw := hw.2 hc1
    refine lv_aload_n hx hb (xb_d D_Exact_whole 74 rfl) rfl (lv_at hl 1 rfl) ?_
    obtain ⟨hk2, hw⟩ := hw
    refine xb_getL (C := R_Exact) (T := F_Exact) (N := 11) hx hb 9 9 hts fin_Exact hown hR hk2 (by decide) rfl (by decide) rfl (hts _ m_183e6a18) (fun _ h9 => h9) (xb_d D_Exact_whole 75 rfl) ?_
    refine lv_ldc2 (v := 2) hx hb hown (hts _ m_9070420a) (xb_d D_Exact_whole 76 rfl) ?_
    refine lv_lload hx hb (xb_d D_Exact_whole 77 rfl) (lv_at hl 3 rfl) ?_
    refine lv_lmul hx hb (xb_d D_Exact_whole 78 rfl) ?_
    refine lv_lconst (v := 1) hx hb (xb_d D_Exact_whole 79 rfl) (by decide) ?_
    refine lv_ladd hx hb (xb_d D_Exact_whole 80 rfl) ?_
    refine lv_aload_n hx hb (xb_d D_Exact_whole 81 rfl) rfl (lv_at hl 1 rfl) ?_
    refine xb_getI (C := R_Exact) (T := F_Exact) (N := 11) hx hb 9 10 hts fin_Exact hown hR hk2 (by decide) rfl (by decide) rfl (hts _ m_a62210ac) (fun _ h9 => h9) (xb_d D_Exact_whole 82 rfl) ?_
    refine lv_ineg hx hb (xb_d D_Exact_whole 83 rfl) ?_
    refine lv_iconst (v := 1) hx hb (xb_d D_Exact_whole 84 rfl) (by decide) ?_
    refine lv_isub hx hb (xb_d D_Exact_whole 85 rfl) ?_
    refine lv_lshl (v := (xb_lshl ((2 * x4) + 1) ((-(xb_i h x0 10)) - 1))) hx hb (xb_d D_Exact_whole 86 rfl) rfl ?_
    refine xb_lc_eq (tgt := 160) hx hb (xb_d D_Exact_whole 87 rfl) (xb_d D_Exact_whole 88 rfl) rfl (fun hc3 => ?_) (fun hc3 => ?_)
    · have hw := hw.1 hc3
      exact am_Exact_whole_L160 l hfl D A σ MC MS h0 Qr x0 x1 x4 x6 y0 h hw p e s m args below meth c hC H locs ls k n hE (lv_sub hl [1, 2, 3, 4, 0] rfl) hR hS (by omega) (by omega)
    · have hw := hw.2 hc3
      refine lv_iconst (v := 1) hx hb (xb_d D_Exact_whole 89 rfl) (by decide) ?_
      refine lv_goto (tgt := 161) hx hb (xb_d D_Exact_whole 90 rfl) rfl ?_
      exact am_Exact_whole_L161 l hfl D A σ MC MS h0 Qr x0 x1 x4 x6 y0 1 h hw p e s m args below meth c hC H locs ls k n hE (lv_sub hl [1, 2, 3, 4, 0] rfl) hR hS (by omega) (by omega)

set_option maxHeartbeats 4000000 in
set_option maxRecDepth 100000 in
theorem am_Exact_whole_L124 (l : Launch) (hfl : l.flags = pinnedFlags ++ [noTraceFlag]) (D : va_G) (A : Nat → Prop) (σ MC MS : Nat) (h0 : xb_H) (Qr : Int64 → xb_H → Prop) (x0 : Nat) (x1 : Int32) (x4 : Int64) (x6 : Int32) (h : xb_H) (hw : w_Exact_whole_L124 Qr x0 x1 x4 x6 h) : xb_am l D A σ 5 MC MS h0 (fun v h _ _ => ∃ r, v = some (.long r) ∧ Qr r h) (fun _ _ _ _ => False) y_Exact_whole.cls y_Exact_whole.name b_Exact_whole 11 ([] : List ExceptionTableEntry) (some .long) 124 [(0, .ref x0), (1, .int x1), (4, .long x4), (6, .int x6)] [] h 0 0 := by
  unfold w_Exact_whole_L124 at hw
  intro p e s m args below meth c hC H locs ls k n hE hl hR hS hk hn
  obtain ⟨hx, hb, hown, hlocks, htab, hml, hr, hB, hA, hnm⟩ := id hC
  have hts := hB.1.1.at args
  refine lv_iconst (v := 0) hx hb (xb_d D_Exact_whole 70 rfl) (by decide) ?_
  exact am_Exact_whole_L125 l hfl D A σ MC MS h0 Qr x0 x1 x4 x6 0 h hw p e s m args below meth c hC H locs ls k n hE (lv_sub hl [0, 1, 2, 3] rfl) hR hS (by omega) (by omega)

set_option maxHeartbeats 4000000 in
set_option maxRecDepth 100000 in
theorem am_Exact_whole_L89 (l : Launch) (hfl : l.flags = pinnedFlags ++ [noTraceFlag]) (D : va_G) (A : Nat → Prop) (σ MC MS : Nat) (h0 : xb_H) (Qr : Int64 → xb_H → Prop) (x0 : Nat) (x1 : Int32) (x4 : Int64) (y0 : Int32) (h : xb_H) (hw : w_Exact_whole_L89 Qr x0 x1 x4 y0 h) : xb_am l D A σ 5 MC MS h0 (fun v h _ _ => ∃ r, v = some (.long r) ∧ Qr r h) (fun _ _ _ _ => False) y_Exact_whole.cls y_Exact_whole.name b_Exact_whole 11 ([] : List ExceptionTableEntry) (some .long) 89 [(0, .ref x0), (1, .int x1), (4, .long x4)] [.int y0] h 0 0 := by
  unfold w_Exact_whole_L89 at hw
  intro p e s m args below meth c hC H locs ls k n hE hl hR hS hk hn
  obtain ⟨hx, hb, hown, hlocks, htab, hml, hr, hB, hA, hnm⟩ := id hC
  have hts := hB.1.1.at args
  refine lv_istore hx hb (xb_d D_Exact_whole 49 rfl) hl (by decide) rfl (fun ls hl => ?_)
  have hl : lv_has ls 11 [(6, .int y0), (0, .ref x0), (1, .int x1), (4, .long x4)] := hl
  refine lv_aload_n hx hb (xb_d D_Exact_whole 50 rfl) rfl (lv_at hl 1 rfl) ?_
  obtain ⟨hk1, hw⟩ := hw
  refine xb_getI (C := R_Exact) (T := F_Exact) (N := 11) hx hb 9 10 hts fin_Exact hown hR hk1 (by decide) rfl (by decide) rfl (hts _ m_a62210ac) (fun _ h9 => h9) (xb_d D_Exact_whole 51 rfl) ?_
  refine lv_ineg hx hb (xb_d D_Exact_whole 52 rfl) ?_
  refine lv_bipush (v := 63) hx hb (xb_d D_Exact_whole 53 rfl) (by decide) ?_
  refine lv_icmp_gt (tgt := 124) hx hb (xb_d D_Exact_whole 54 rfl) rfl (fun hc2 => ?_) (fun hc2 => ?_)
  · have hw := hw.1 hc2
    exact am_Exact_whole_L124 l hfl D A σ MC MS h0 Qr x0 x1 x4 y0 h hw p e s m args below meth c hC H locs ls k n hE (lv_sub hl [1, 2, 3, 0] rfl) hR hS (by omega) (by omega)
  · have hw := hw.2 hc2
    refine lv_aload_n hx hb (xb_d D_Exact_whole 55 rfl) rfl (lv_at hl 1 rfl) ?_
    refine xb_getL (C := R_Exact) (T := F_Exact) (N := 11) hx hb 9 9 hts fin_Exact hown hR hk1 (by decide) rfl (by decide) rfl (hts _ m_183e6a18) (fun _ h9 => h9) (xb_d D_Exact_whole 56 rfl) ?_
    refine lv_aload_n hx hb (xb_d D_Exact_whole 57 rfl) rfl (lv_at hl 1 rfl) ?_
    refine xb_getI (C := R_Exact) (T := F_Exact) (N := 11) hx hb 9 10 hts fin_Exact hown hR hk1 (by decide) rfl (by decide) rfl (hts _ m_a62210ac) (fun _ h9 => h9) (xb_d D_Exact_whole 58 rfl) ?_
    refine lv_ineg hx hb (xb_d D_Exact_whole 59 rfl) ?_
    refine lv_iconst (v := 1) hx hb (xb_d D_Exact_whole 60 rfl) (by decide) ?_
    refine lv_isub hx hb (xb_d D_Exact_whole 61 rfl) ?_
    refine lv_lshr (v := (xb_lshr (xb_l h x0 9) ((-(xb_i h x0 10)) - 1))) hx hb (xb_d D_Exact_whole 62 rfl) rfl ?_
    refine lv_lconst (v := 1) hx hb (xb_d D_Exact_whole 63 rfl) (by decide) ?_
    refine lv_land hx hb (xb_d D_Exact_whole 64 rfl) ?_
    refine lv_lconst (v := 1) hx hb (xb_d D_Exact_whole 65 rfl) (by decide) ?_
    refine xb_lc_ne (tgt := 124) hx hb (xb_d D_Exact_whole 66 rfl) (xb_d D_Exact_whole 67 rfl) rfl (fun hc3 => ?_) (fun hc3 => ?_)
    · have hw := hw.1 hc3
      exact am_Exact_whole_L124 l hfl D A σ MC MS h0 Qr x0 x1 x4 y0 h hw p e s m args below meth c hC H locs ls k n hE (lv_sub hl [1, 2, 3, 0] rfl) hR hS (by omega) (by omega)
    · have hw := hw.2 hc3
      refine lv_iconst (v := 1) hx hb (xb_d D_Exact_whole 68 rfl) (by decide) ?_
      refine lv_goto (tgt := 125) hx hb (xb_d D_Exact_whole 69 rfl) rfl ?_
      exact am_Exact_whole_L125 l hfl D A σ MC MS h0 Qr x0 x1 x4 y0 1 h hw p e s m args below meth c hC H locs ls k n hE (lv_sub hl [1, 2, 3, 0] rfl) hR hS (by omega) (by omega)

set_option maxHeartbeats 4000000 in
set_option maxRecDepth 100000 in
theorem am_Exact_whole_L84 (l : Launch) (hfl : l.flags = pinnedFlags ++ [noTraceFlag]) (D : va_G) (A : Nat → Prop) (σ MC MS : Nat) (h0 : xb_H) (Qr : Int64 → xb_H → Prop) (x0 : Nat) (x1 : Int32) (x4 : Int64) (h : xb_H) (hw : w_Exact_whole_L84 Qr x0 x1 x4 h) : xb_am l D A σ 5 MC MS h0 (fun v h _ _ => ∃ r, v = some (.long r) ∧ Qr r h) (fun _ _ _ _ => False) y_Exact_whole.cls y_Exact_whole.name b_Exact_whole 11 ([] : List ExceptionTableEntry) (some .long) 84 [(0, .ref x0), (1, .int x1), (4, .long x4)] [] h 0 0 := by
  unfold w_Exact_whole_L84 at hw
  intro p e s m args below meth c hC H locs ls k n hE hl hR hS hk hn
  obtain ⟨hx, hb, hown, hlocks, htab, hml, hr, hB, hA, hnm⟩ := id hC
  have hts := hB.1.1.at args
  refine lv_iconst (v := 1) hx hb (xb_d D_Exact_whole 46 rfl) (by decide) ?_
  refine lv_goto (tgt := 89) hx hb (xb_d D_Exact_whole 47 rfl) rfl ?_
  exact am_Exact_whole_L89 l hfl D A σ MC MS h0 Qr x0 x1 x4 1 h hw p e s m args below meth c hC H locs ls k n hE (lv_sub hl [0, 1, 2] rfl) hR hS (by omega) (by omega)

set_option maxHeartbeats 4000000 in
set_option maxRecDepth 100000 in
theorem am_Exact_whole_L56 (l : Launch) (hfl : l.flags = pinnedFlags ++ [noTraceFlag]) (D : va_G) (A : Nat → Prop) (σ MC MS : Nat) (h0 : xb_H) (Qr : Int64 → xb_H → Prop) (x0 : Nat) (x1 : Int32) (y0 : Int64) (h : xb_H) (hw : w_Exact_whole_L56 Qr x0 x1 y0 h) : xb_am l D A σ 5 MC MS h0 (fun v h _ _ => ∃ r, v = some (.long r) ∧ Qr r h) (fun _ _ _ _ => False) y_Exact_whole.cls y_Exact_whole.name b_Exact_whole 11 ([] : List ExceptionTableEntry) (some .long) 56 [(0, .ref x0), (1, .int x1)] [.long y0] h 0 0 := by
  unfold w_Exact_whole_L56 at hw
  intro p e s m args below meth c hC H locs ls k n hE hl hR hS hk hn
  obtain ⟨hx, hb, hown, hlocks, htab, hml, hr, hB, hA, hnm⟩ := id hC
  have hts := hB.1.1.at args
  refine lv_lstore hx hb (xb_d D_Exact_whole 31 rfl) hl (by decide) rfl (fun ls hl => ?_)
  have hl : lv_has ls 11 [(4, .long y0), (0, .ref x0), (1, .int x1)] := hl
  refine lv_aload_n hx hb (xb_d D_Exact_whole 32 rfl) rfl (lv_at hl 1 rfl) ?_
  obtain ⟨hk1, hw⟩ := hw
  refine xb_getI (C := R_Exact) (T := F_Exact) (N := 11) hx hb 9 10 hts fin_Exact hown hR hk1 (by decide) rfl (by decide) rfl (hts _ m_a62210ac) (fun _ h9 => h9) (xb_d D_Exact_whole 33 rfl) ?_
  refine lv_ineg hx hb (xb_d D_Exact_whole 34 rfl) ?_
  refine lv_bipush (v := 62) hx hb (xb_d D_Exact_whole 35 rfl) (by decide) ?_
  refine lv_icmp_gt (tgt := 84) hx hb (xb_d D_Exact_whole 36 rfl) rfl (fun hc2 => ?_) (fun hc2 => ?_)
  · have hw := hw.1 hc2
    exact am_Exact_whole_L84 l hfl D A σ MC MS h0 Qr x0 x1 y0 h hw p e s m args below meth c hC H locs ls k n hE (lv_sub hl [1, 2, 0] rfl) hR hS (by omega) (by omega)
  · have hw := hw.2 hc2
    refine lv_aload_n hx hb (xb_d D_Exact_whole 37 rfl) rfl (lv_at hl 1 rfl) ?_
    refine xb_getL (C := R_Exact) (T := F_Exact) (N := 11) hx hb 9 9 hts fin_Exact hown hR hk1 (by decide) rfl (by decide) rfl (hts _ m_183e6a18) (fun _ h9 => h9) (xb_d D_Exact_whole 38 rfl) ?_
    refine lv_lload hx hb (xb_d D_Exact_whole 39 rfl) (lv_at hl 0 rfl) ?_
    refine lv_aload_n hx hb (xb_d D_Exact_whole 40 rfl) rfl (lv_at hl 1 rfl) ?_
    refine xb_getI (C := R_Exact) (T := F_Exact) (N := 11) hx hb 9 10 hts fin_Exact hown hR hk1 (by decide) rfl (by decide) rfl (hts _ m_a62210ac) (fun _ h9 => h9) (xb_d D_Exact_whole 41 rfl) ?_
    refine lv_ineg hx hb (xb_d D_Exact_whole 42 rfl) ?_
    refine lv_lshl (v := (xb_lshl y0 (-(xb_i h x0 10)))) hx hb (xb_d D_Exact_whole 43 rfl) rfl ?_
    refine xb_lc_eq (tgt := 88) hx hb (xb_d D_Exact_whole 44 rfl) (xb_d D_Exact_whole 45 rfl) rfl (fun hc3 => ?_) (fun hc3 => ?_)
    · have hw := hw.1 hc3
      refine lv_iconst (v := 0) hx hb (xb_d D_Exact_whole 48 rfl) (by decide) ?_
      exact am_Exact_whole_L89 l hfl D A σ MC MS h0 Qr x0 x1 y0 0 h hw p e s m args below meth c hC H locs ls k n hE (lv_sub hl [1, 2, 0] rfl) hR hS (by omega) (by omega)
    · have hw := hw.2 hc3
      exact am_Exact_whole_L84 l hfl D A σ MC MS h0 Qr x0 x1 y0 h hw p e s m args below meth c hC H locs ls k n hE (lv_sub hl [1, 2, 0] rfl) hR hS (by omega) (by omega)

set_option maxHeartbeats 4000000 in
set_option maxRecDepth 100000 in
theorem am_Exact_whole_L16 (l : Launch) (hfl : l.flags = pinnedFlags ++ [noTraceFlag]) (D : va_G) (A : Nat → Prop) (σ MC MS : Nat) (h0 : xb_H) (Qr : Int64 → xb_H → Prop) (x2 : Int64) (h : xb_H) (hw : w_Exact_whole_L16 Qr x2 h) : xb_am l D A σ 5 MC MS h0 (fun v h _ _ => ∃ r, v = some (.long r) ∧ Qr r h) (fun _ _ _ _ => False) y_Exact_whole.cls y_Exact_whole.name b_Exact_whole 11 ([] : List ExceptionTableEntry) (some .long) 16 [(2, .long x2)] [] h 0 0 := by
  unfold w_Exact_whole_L16 at hw
  intro p e s m args below meth c hC H locs ls k n hE hl hR hS hk hn
  obtain ⟨hx, hb, hown, hlocks, htab, hml, hr, hB, hA, hnm⟩ := id hC
  have hts := hB.1.1.at args
  refine lv_lload_n hx hb (xb_d D_Exact_whole 8 rfl) rfl (lv_at hl 0 rfl) ?_
  exact xb_lret 0 0 hx hb hr hlocks (show k + 0 ≤ MC by omega) (show n + 0 ≤ MS by omega) hE hR hS (xb_d D_Exact_whole 9 rfl) hw

set_option maxHeartbeats 4000000 in
set_option maxRecDepth 100000 in
theorem ok_Exact_whole (l : Launch) (hfl : l.flags = pinnedFlags ++ [noTraceFlag]) (D : va_G) (A : Nat → Prop) (σ : Nat) (x0 : Nat) (x1 : Int32) (x2 : Int64) (h : xb_H) (Qr : Int64 → xb_H → Prop) (hw : w_Exact_whole x0 x1 x2 h Qr) : xb_Met l y_Exact_whole [.code y_Exact_whole b_Exact_whole 11 (some .long)] (xb_rm 5 0 0) (xb_Pc D A σ h [.ref x0, .int x1, .long x2]) (xb_Qc D A h 0 0 (fun v h _ _ => ∃ r, v = some (.long r) ∧ Qr r h) (fun _ _ _ _ => False)) A := by
  refine xb_ofAm (cc := b_Exact_whole) (by decide) (Nat.le_of_ble_eq_true rfl) ?_
  unfold w_Exact_whole at hw
  show xb_am l D A σ 5 0 0 h (fun v h _ _ => ∃ r, v = some (.long r) ∧ Qr r h) (fun _ _ _ _ => False) y_Exact_whole.cls y_Exact_whole.name b_Exact_whole 11 ([] : List ExceptionTableEntry) (some .long) 0 [(0, .ref x0), (1, .int x1), (2, .long x2)] [] h 0 0
  obtain ⟨MC, hMC⟩ : ∃ x, x = 0 := ⟨_, rfl⟩
  obtain ⟨MS, hMS⟩ : ∃ x, x = 0 := ⟨_, rfl⟩
  rw [show xb_am l D A σ 5 0 0 = xb_am l D A σ 5 MC MS by rw [hMC, hMS]]
  obtain ⟨h0, hh0⟩ : ∃ x, x = h := ⟨_, rfl⟩
  rw [show xb_am l D A σ 5 MC MS h = xb_am l D A σ 5 MC MS h0 by rw [hh0]]
  intro p e s m args below meth c hC H locs ls k n hE hl hR hS hk hn
  obtain ⟨hx, hb, hown, hlocks, htab, hml, hr, hB, hA, hnm⟩ := id hC
  have hts := hB.1.1.at args
  refine lv_aload_n hx hb (xb_d D_Exact_whole 0 rfl) rfl (lv_at hl 0 rfl) ?_
  refine lv_lload_n hx hb (xb_d D_Exact_whole 1 rfl) rfl (lv_at hl 2 rfl) ?_
  obtain ⟨hk1, hw⟩ := hw
  refine xb_call0 (D := D) (A := A) (σ := σ) (h := h) (d := 4) (maxL := 3) (rest := []) (av := [.ref x0, .long x2]) (fun T hT X => by obtain ⟨cb9, ra9, rb9, rc9⟩ := xb_recv (ci := 9) hR rfl hk1 (by decide); exact xt_invV X hx hown (hts _ m_4d51455e) (hts _ m_6f0f72ed) (hts _ m_54335684) (xt_sigOf (hts _ m_c0f31264)) nm_Exact_isInfinite (by rw [hT]; exact ra9) rb9 rc9 (g := F0 m 2 ls [.long x2, .ref x0]) rfl (argsL := [.long x2]) (rest := []) rfl rfl (by rw [hb]; exact (xb_d D_Exact_whole 2 rfl))) (ok_Exact_isInfinite l hfl D A σ x0 x2 h _ hw) (hml.trans hl.1.symm) (by rw [hb]; exact (xb_d D_Exact_whole 2 rfl)) (Nat.le_of_ble_eq_true rfl) (Nat.le_of_ble_eq_true rfl) (Nat.le_of_ble_eq_true rfl) (show k ≤ MC by omega) (show n ≤ MS by omega) (xt_w1 hB.1 m_c0f31264) (xt_cdOf hB.1 m_c0f31264) (hts _ m_b807310b) hB hR hS hA (fun vv h2 H locs hq hEh2 hR hS => ?_)
  obtain ⟨r3, rfl, hw⟩ := hq
  have hw := hw hEh2
  have hE := hE.tr hEh2
  refine W.eq (g2 := F0 m 5 ls [.int r3]) rfl ?_
  refine lv_if_ne (tgt := 16) hx hb (xb_d D_Exact_whole 3 rfl) rfl (fun hc4 => ?_) (fun hc4 => ?_)
  · have hw := hw.1 hc4
    exact am_Exact_whole_L16 l hfl D A σ MC MS h0 Qr x2 h2 hw p e s m args below meth c hC H locs ls k n hE (lv_sub hl [2] rfl) hR hS (by omega) (by omega)
  · have hw := hw.2 hc4
    refine lv_aload_n hx hb (xb_d D_Exact_whole 4 rfl) rfl (lv_at hl 0 rfl) ?_
    refine lv_lload_n hx hb (xb_d D_Exact_whole 5 rfl) rfl (lv_at hl 2 rfl) ?_
    have hk1 : xb_k h2 x0 = 10 := hEh2.k hk1
    refine xb_call0 (D := D) (A := A) (σ := σ) (h := h2) (d := 3) (maxL := 3) (rest := []) (av := [.ref x0, .long x2]) (fun T hT X => by obtain ⟨cb9, ra9, rb9, rc9⟩ := xb_recv (ci := 9) hR rfl hk1 (by decide); exact xt_invV X hx hown (hts _ m_f9e5bce2) (hts _ m_d4ccf81e) (hts _ m_870ffa92) (xt_sigOf (hts _ m_b231eb2b)) nm_Exact_isZero (by rw [hT]; exact ra9) rb9 rc9 (g := F0 m 10 ls [.long x2, .ref x0]) rfl (argsL := [.long x2]) (rest := []) rfl rfl (by rw [hb]; exact (xb_d D_Exact_whole 6 rfl))) (ok_Exact_isZero l hfl D A σ x0 x2 h2 _ hw) (hml.trans hl.1.symm) (by rw [hb]; exact (xb_d D_Exact_whole 6 rfl)) (Nat.le_of_ble_eq_true rfl) (Nat.le_of_ble_eq_true rfl) (Nat.le_of_ble_eq_true rfl) (show k ≤ MC by omega) (show n ≤ MS by omega) (xt_w1 hB.1 m_b231eb2b) (xt_cdOf hB.1 m_b231eb2b) (hts _ m_b807310b) hB hR hS hA (fun vv h5 H locs hq hEh5 hR hS => ?_)
    obtain ⟨r6, rfl, hw⟩ := hq
    have hw := hw hEh5
    have hE := hE.tr hEh5
    refine W.eq (g2 := F0 m 13 ls [.int r6]) rfl ?_
    refine lv_if_eq (tgt := 18) hx hb (xb_d D_Exact_whole 7 rfl) rfl (fun hc7 => ?_) (fun hc7 => ?_)
    · have hw := hw.1 hc7
      refine lv_aload_n hx hb (xb_d D_Exact_whole 10 rfl) rfl (lv_at hl 0 rfl) ?_
      refine lv_lload_n hx hb (xb_d D_Exact_whole 11 rfl) rfl (lv_at hl 2 rfl) ?_
      have hk1 : xb_k h5 x0 = 10 := hEh5.k hk1
      refine xb_call0 (D := D) (A := A) (σ := σ) (h := h5) (d := 3) (maxL := 7) (rest := []) (av := [.ref x0, .long x2]) (fun T hT X => by obtain ⟨cb9, ra9, rb9, rc9⟩ := xb_recv (ci := 9) hR rfl hk1 (by decide); exact xt_invV X hx hown (hts _ m_26946ca5) (hts _ m_c8f41404) (hts _ m_e3ba6af7) (xt_sigOf (hts _ m_921646f3)) nm_Exact_split (by rw [hT]; exact ra9) rb9 rc9 (g := F0 m 20 ls [.long x2, .ref x0]) rfl (argsL := [.long x2]) (rest := []) rfl rfl (by rw [hb]; exact (xb_d D_Exact_whole 12 rfl))) (ok_Exact_split l hfl D A σ x0 x2 h5 _ hw) (hml.trans hl.1.symm) (by rw [hb]; exact (xb_d D_Exact_whole 12 rfl)) (Nat.le_of_ble_eq_true rfl) (Nat.le_of_ble_eq_true rfl) (Nat.le_of_ble_eq_true rfl) (show k ≤ MC by omega) (show n ≤ MS by omega) (xt_w1 hB.1 m_921646f3) (xt_cdOf hB.1 m_921646f3) (hts _ m_b807310b) hB hR hS hA (fun vv h8 H locs hq hEh8 hR hS => ?_)
      obtain ⟨rfl, hw⟩ := hq
      have hw := hw hEh8
      have hE := hE.tr hEh8
      refine W.eq (g2 := F0 m 23 ls []) rfl ?_
      refine lv_aload_n hx hb (xb_d D_Exact_whole 13 rfl) rfl (lv_at hl 0 rfl) ?_
      have hk1 : xb_k h8 x0 = 10 := hEh8.k hk1
      refine xb_getI (C := R_Exact) (T := F_Exact) (N := 11) hx hb 9 10 hts fin_Exact hown hR hk1 (by decide) rfl (by decide) rfl (hts _ m_a62210ac) (fun _ h9 => h9) (xb_d D_Exact_whole 14 rfl) ?_
      refine lv_if_lt (tgt := 32) hx hb (xb_d D_Exact_whole 15 rfl) rfl (fun hc10 => ?_) (fun hc10 => ?_)
      · have hw := hw.1 hc10
        refine lv_aload_n hx hb (xb_d D_Exact_whole 18 rfl) rfl (lv_at hl 0 rfl) ?_
        refine xb_getI (C := R_Exact) (T := F_Exact) (N := 11) hx hb 9 10 hts fin_Exact hown hR hk1 (by decide) rfl (by decide) rfl (hts _ m_a62210ac) (fun _ h9 => h9) (xb_d D_Exact_whole 19 rfl) ?_
        refine lv_ineg hx hb (xb_d D_Exact_whole 20 rfl) ?_
        refine lv_bipush (v := 62) hx hb (xb_d D_Exact_whole 21 rfl) (by decide) ?_
        refine lv_icmp_le (tgt := 46) hx hb (xb_d D_Exact_whole 22 rfl) rfl (fun hc11 => ?_) (fun hc11 => ?_)
        · have hw := hw.1 hc11
          refine lv_aload_n hx hb (xb_d D_Exact_whole 25 rfl) rfl (lv_at hl 0 rfl) ?_
          refine xb_getL (C := R_Exact) (T := F_Exact) (N := 11) hx hb 9 9 hts fin_Exact hown hR hk1 (by decide) rfl (by decide) rfl (hts _ m_183e6a18) (fun _ h9 => h9) (xb_d D_Exact_whole 26 rfl) ?_
          refine lv_aload_n hx hb (xb_d D_Exact_whole 27 rfl) rfl (lv_at hl 0 rfl) ?_
          refine xb_getI (C := R_Exact) (T := F_Exact) (N := 11) hx hb 9 10 hts fin_Exact hown hR hk1 (by decide) rfl (by decide) rfl (hts _ m_a62210ac) (fun _ h9 => h9) (xb_d D_Exact_whole 28 rfl) ?_
          refine lv_ineg hx hb (xb_d D_Exact_whole 29 rfl) ?_
          refine lv_lshr (v := (xb_lshr (xb_l h8 x0 9) (-(xb_i h8 x0 10)))) hx hb (xb_d D_Exact_whole 30 rfl) rfl ?_
          exact am_Exact_whole_L56 l hfl D A σ MC MS h0 Qr x0 x1 (xb_lshr (xb_l h8 x0 9) (-(xb_i h8 x0 10))) h8 hw p e s m args below meth c hC H locs ls k n hE (lv_sub hl [0, 1] rfl) hR hS (by omega) (by omega)
        · have hw := hw.2 hc11
          refine lv_lconst (v := 0) hx hb (xb_d D_Exact_whole 23 rfl) (by decide) ?_
          refine lv_goto (tgt := 56) hx hb (xb_d D_Exact_whole 24 rfl) rfl ?_
          exact am_Exact_whole_L56 l hfl D A σ MC MS h0 Qr x0 x1 0 h8 hw p e s m args below meth c hC H locs ls k n hE (lv_sub hl [0, 1] rfl) hR hS (by omega) (by omega)
      · have hw := hw.2 hc10
        refine lv_lload_n hx hb (xb_d D_Exact_whole 16 rfl) rfl (lv_at hl 2 rfl) ?_
        exact xb_lret 0 0 hx hb hr hlocks (show k + 0 ≤ MC by omega) (show n + 0 ≤ MS by omega) hE hR hS (xb_d D_Exact_whole 17 rfl) hw
    · have hw := hw.2 hc7
      exact am_Exact_whole_L16 l hfl D A σ MC MS h0 Qr x2 h5 hw p e s m args below meth c hC H locs ls k n hE (lv_sub hl [2] rfl) hR hS (by omega) (by omega)

theorem m_7caf537c : (.methodLink "StackHost" 207 y_World_addName : Cond) ∈ xt_tbl := xt_in (xt_t7 (List.mem_of_getElem? (i := 132) (by decide +kernel))) (by decide +kernel)
theorem m_7323471a : (.instanceMethod y_World_addName : Cond) ∈ xt_tbl := xt_in (xt_t7 (List.mem_of_getElem? (i := 133) (by decide +kernel))) (by decide +kernel)
theorem m_eaab6220 : (.selects "StackHost$World" y_World_addName y_World_addName : Cond) ∈ xt_tbl := xt_in (xt_t7 (List.mem_of_getElem? (i := 134) (by decide +kernel))) (by decide +kernel)
theorem m_dafd6dc6 : (.code y_World_addName b_World_addName 4 none : Cond) ∈ xt_tbl := xt_in (xt_t7 (List.mem_of_getElem? (i := 135) (by decide +kernel))) (by decide +kernel)
theorem nm_World_addName : xt_nm y_World_addName 3 := ⟨by decide +kernel, by decide +kernel⟩
set_option maxRecDepth 100000 in
def T_H_name : List (Nat × Instr × Nat) := [(0, .aload_n 0, 1), (1, .iload_n 1, 1), (2, .invokevirtual 200, 3), (5, .astore_n 2, 1), (6, .aload_n 0, 1), (7, .getfield 36, 3), (10, .aload_n 2, 1), (11, .getfield 204, 3), (14, .aload_n 0, 1), (15, .getfield 9, 3), (18, .aload_n 0, 1), (19, .getfield 58, 3), (22, .invokevirtual 207, 3), (25, .aload_n 0, 1), (26, .iconst 0, 1), (27, .putfield 58, 3), (30, .return_, 1)]
theorem D_H_name : ∀ q ∈ T_H_name, decode b_H_name q.1 = .ok (q.2.1, q.2.2) := by decide +kernel

set_option maxHeartbeats 4000000 in
set_option maxRecDepth 100000 in
theorem ok_H_name (l : Launch) (hfl : l.flags = pinnedFlags ++ [noTraceFlag]) (D : va_G) (A : Nat → Prop) (σ : Nat) (x0 : Nat) (x1 : Int32) (h : xb_H) (bc : Nat) (bs : Nat) (Qr : xb_H → Nat → Nat → Prop) (Qt : String → xb_H → Nat → Nat → Prop) (hw : w_H_name x0 x1 h bc bs Qr Qt) : xb_Met l y_H_name [.code y_H_name b_H_name 3 none] (xb_rm 6 bc bs) (xb_Pc D A σ h [.ref x0, .int x1]) (xb_Qc D A h bc bs (fun v h bc bs => v = none ∧ Qr h bc bs) Qt) A := by
  refine xb_ofAm (cc := b_H_name) (by decide) (Nat.le_of_ble_eq_true rfl) ?_
  unfold w_H_name at hw
  show xb_am l D A σ 6 bc bs h (fun v h bc bs => v = none ∧ Qr h bc bs) Qt y_H_name.cls y_H_name.name b_H_name 3 ([] : List ExceptionTableEntry) none 0 [(0, .ref x0), (1, .int x1)] [] h bc bs
  obtain ⟨MC, hMC⟩ : ∃ x, x = bc := ⟨_, rfl⟩
  obtain ⟨MS, hMS⟩ : ∃ x, x = bs := ⟨_, rfl⟩
  rw [show xb_am l D A σ 6 bc bs = xb_am l D A σ 6 MC MS by rw [hMC, hMS]]
  obtain ⟨h0, hh0⟩ : ∃ x, x = h := ⟨_, rfl⟩
  rw [show xb_am l D A σ 6 MC MS h = xb_am l D A σ 6 MC MS h0 by rw [hh0]]
  intro p e s m args below meth c hC H locs ls k n hE hl hR hS hk hn
  obtain ⟨hx, hb, hown, hlocks, htab, hml, hr, hB, hA, hnm⟩ := id hC
  have hts := hB.1.1.at args
  refine lv_aload_n hx hb (xb_d D_H_name 0 rfl) rfl (lv_at hl 0 rfl) ?_
  refine lv_iload_n hx hb (xb_d D_H_name 1 rfl) rfl (lv_at hl 1 rfl) ?_
  obtain ⟨hk1, hw⟩ := hw
  refine xb_call (D := D) (A := A) (σ := σ) (h := h) (d := 2) (mc := bc) (ms := bs) (maxL := 2) (rest := []) (av := [.ref x0, .int x1]) (fun T hT X => by obtain ⟨cb9, ra9, rb9, rc9⟩ := xb_recv (ci := 0) hR rfl hk1 (by decide); exact xt_invV X hx hown (hts _ m_63e9a525) (hts _ m_93abae91) (hts _ m_f44e4f6a) (xt_sigOf (hts _ m_925de4f3)) nm_H_instanceNumbered (by rw [hT]; exact ra9) rb9 rc9 (g := F0 m 2 ls [.int x1, .ref x0]) rfl (argsL := [.int x1]) (rest := []) rfl rfl (by rw [hb]; exact (xb_d D_H_name 2 rfl))) (ok_H_instanceNumbered l hfl D A σ x0 x1 h bc bs _ _ hw) (hml.trans hl.1.symm) (by rw [hb]; exact (xb_d D_H_name 2 rfl)) (Nat.le_of_ble_eq_true rfl) (Nat.le_of_ble_eq_true rfl) (Nat.le_of_ble_eq_true rfl) (show k + bc ≤ MC by omega) (show n + bs ≤ MS by omega) (xt_w1 hB.1 m_925de4f3) (xt_cdOf hB.1 m_925de4f3) (hts _ m_ba0734f5) hB hR hS hA (fun vv h2 bc3 bs3 kk3 nn3 H locs hk3 hn3 hq hEh2 hR hS => ?_) (fun XX ax h2 bc3 bs3 kk3 nn3 H locs hk3 hn3 hq hEh2 hex hR hS => ?_)
  · obtain ⟨r3, rfl, hw⟩ := hq
    have hw := hw hEh2
    have hE := hE.tr hEh2
    refine W.eq (g2 := F0 m 5 ls [.ref r3]) rfl ?_
    refine lv_astore_n hx hb (xb_d D_H_name 3 rfl) rfl hl (by decide) rfl (fun ls hl => ?_)
    have hl : lv_has ls 3 [(2, .ref r3), (0, .ref x0), (1, .int x1)] := hl
    refine lv_aload_n hx hb (xb_d D_H_name 4 rfl) rfl (lv_at hl 1 rfl) ?_
    have hk1 : xb_k h2 x0 = 1 := hEh2.k hk1
    refine xb_getP (C := R_H) (T := F_H) (N := 11) hx hb 0 6 hts fin_H hown hR hk1 (by decide) rfl (by decide) rfl (hts _ m_3ac6c4ed) (fun _ h9 => h9) (xb_d D_H_name 5 rfl) ?_
    obtain ⟨b4, eb4, hw⟩ := hw
    refine xb_some eb4 ?_
    refine lv_aload_n hx hb (xb_d D_H_name 6 rfl) rfl (lv_at hl 0 rfl) ?_
    obtain ⟨hk5, hw⟩ := hw
    refine xb_getI (C := R_Instance) (T := F_Instance) (N := 8) hx hb 10 0 hts fin_Instance hown hR hk5 (by decide) rfl (by decide) rfl (hts _ m_20b89c04) (fun _ h9 => h9) (xb_d D_H_name 7 rfl) ?_
    refine lv_aload_n hx hb (xb_d D_H_name 8 rfl) rfl (lv_at hl 1 rfl) ?_
    refine xb_getP (C := R_H) (T := F_H) (N := 11) hx hb 0 0 hts fin_H hown hR hk1 (by decide) rfl (by decide) rfl (hts _ m_4570233e) (fun _ h9 => h9) (xb_d D_H_name 9 rfl) ?_
    obtain ⟨b6, eb6, hw⟩ := hw
    refine xb_some eb6 ?_
    refine lv_aload_n hx hb (xb_d D_H_name 10 rfl) rfl (lv_at hl 1 rfl) ?_
    refine xb_getI (C := R_H) (T := F_H) (N := 11) hx hb 0 1 hts fin_H hown hR hk1 (by decide) rfl (by decide) rfl (hts _ m_1ee8d2b8) (fun _ h9 => h9) (xb_d D_H_name 11 rfl) ?_
    obtain ⟨hk7, hw⟩ := hw
    refine xb_call (D := D) (A := A) (σ := σ) (h := h2) (d := 5) (mc := bc3) (ms := bs3) (maxL := 4) (rest := []) (av := [.ref b4, .int (xb_i h2 r3 0), .ref b6, .int (xb_i h2 x0 1)]) (fun T hT X => by obtain ⟨cb9, ra9, rb9, rc9⟩ := xb_recv (ci := 6) hR rfl hk7 (by decide); exact xt_invV X hx hown (hts _ m_7caf537c) (hts _ m_7323471a) (hts _ m_eaab6220) (xt_sigOf (hts _ m_dafd6dc6)) nm_World_addName (by rw [hT]; exact ra9) rb9 rc9 (g := F0 m 22 ls [.int (xb_i h2 x0 1), .ref b6, .int (xb_i h2 r3 0), .ref b4]) rfl (argsL := [.int (xb_i h2 r3 0), .ref b6, .int (xb_i h2 x0 1)]) (rest := []) rfl rfl (by rw [hb]; exact (xb_d D_H_name 12 rfl))) (ok_World_addName l hfl D A σ b4 (xb_i h2 r3 0) b6 (xb_i h2 x0 1) h2 bc3 bs3 _ hw) (hml.trans hl.1.symm) (by rw [hb]; exact (xb_d D_H_name 12 rfl)) (Nat.le_of_ble_eq_true rfl) (Nat.le_of_ble_eq_true rfl) (Nat.le_of_ble_eq_true rfl) (show (k + kk3) + bc3 ≤ MC by omega) (show (n + nn3) + bs3 ≤ MS by omega) (xt_w1 hB.1 m_dafd6dc6) (xt_cdOf hB.1 m_dafd6dc6) (hts _ m_4534b440) hB hR hS hA (fun vv h8 bc9 bs9 kk9 nn9 H locs hk9 hn9 hq hEh8 hR hS => ?_) (fun XX ax h8 bc9 bs9 kk9 nn9 H locs hk9 hn9 hq hEh8 hex hR hS => ?_)
    · obtain ⟨rfl, hw⟩ := hq
      have hw := hw hEh8
      have hE := hE.tr hEh8
      refine W.eq (g2 := F0 m 25 ls []) rfl ?_
      refine lv_aload_n hx hb (xb_d D_H_name 13 rfl) rfl (lv_at hl 1 rfl) ?_
      refine lv_iconst (v := 0) hx hb (xb_d D_H_name 14 rfl) (by decide) ?_
      have hk1 : xb_k h8 x0 = 1 := hEh8.k hk1
      refine xb_putI (C := R_H) (T := F_H) (N := 11) (ty := .int) (x := 0) hx hb 0 1 hts fin_H t_H t_H_ok n_H hown hR hS hk1 (by decide) rfl (by decide) rfl (hts _ m_1ee8d2b8) (fun _ h9 => h9) rfl (by decide +kernel) rfl rfl (xb_d D_H_name 15 rfl) (fun H locs hR hS => ?_)
      obtain ⟨h10, eh10⟩ : ∃ x : xb_H, x = xb_I h8 x0 1 0 := ⟨_, rfl⟩
      rw [← eh10] at hR
      have hw := hw h10 eh10
      have hE : xb_ext h0 h10 := by rw [eh10]; exact hE
      exact xb_vret bc9 bs9 hx hb hr hlocks (show ((k + kk3) + kk9) + bc9 ≤ MC by omega) (show ((n + nn3) + nn9) + bs9 ≤ MS by omega) hE hR hS (xb_d D_H_name 16 rfl) hw
    · exact False.elim hq
  · exact xb_pass hlocks (fun x hx9 => by rw [htab] at hx9; first | (cases hx9; done) | (simp [tableOf] at hx9; subst hx9; decide) | (simp [tableOf] at hx9; rcases hx9 with rfl | rfl <;> decide) | (simp [tableOf] at hx9; rcases hx9 with rfl | rfl | rfl <;> decide)) (show (k + kk3) + bc3 ≤ MC by omega) (show (n + nn3) + bs3 ≤ MS by omega) (hE.tr hEh2) hR hS hex hq

theorem m_897fa4ea : (.methodLink "StackHost$Checker" 245 y_Checker_checkControl : Cond) ∈ xt_tbl := xt_in (xt_t6 (List.mem_of_getElem? (i := 7) (by decide +kernel))) (by decide +kernel)
theorem m_59e31100 : (.instanceMethod y_Checker_checkControl : Cond) ∈ xt_tbl := xt_in (xt_t6 (List.mem_of_getElem? (i := 9) (by decide +kernel))) (by decide +kernel)
theorem m_145563ec : (.selects "StackHost$Checker" y_Checker_checkControl y_Checker_checkControl : Cond) ∈ xt_tbl := xt_in (xt_v4 (q := (⟨"StackHost$Checker", "checkControl", "(I)V"⟩, 17)) (List.mem_of_getElem? (i := 6) (by decide +kernel))) (by decide +kernel)
theorem m_ecd41808 : (.code y_Checker_checkControl b_Checker_checkControl 2 none : Cond) ∈ xt_tbl := xt_in (xt_t6 (List.mem_of_getElem? (i := 10) (by decide +kernel))) (by decide +kernel)
theorem m_bcef3570 : (.methodLink "StackHost$Checker" 242 y_Checker_checkNamed : Cond) ∈ xt_tbl := xt_in (xt_t5 (List.mem_of_getElem? (i := 239) (by decide +kernel))) (by decide +kernel)
theorem m_b474e2fe : (.instanceMethod y_Checker_checkNamed : Cond) ∈ xt_tbl := xt_in (xt_t6 (List.mem_of_getElem? (i := 1) (by decide +kernel))) (by decide +kernel)
theorem m_364d3df2 : (.selects "StackHost$Checker" y_Checker_checkNamed y_Checker_checkNamed : Cond) ∈ xt_tbl := xt_in (xt_v4 (q := (⟨"StackHost$Checker", "checkNamed", "(I)V"⟩, 17)) (List.mem_of_getElem? (i := 5) (by decide +kernel))) (by decide +kernel)
theorem m_27ca5a7b : (.code y_Checker_checkNamed b_Checker_checkNamed 5 none : Cond) ∈ xt_tbl := xt_in (xt_t6 (List.mem_of_getElem? (i := 2) (by decide +kernel))) (by decide +kernel)
theorem m_ddd4342a : (.methodLink "StackHost$Checker" 239 y_Checker_checkMemory : Cond) ∈ xt_tbl := xt_in (xt_t5 (List.mem_of_getElem? (i := 227) (by decide +kernel))) (by decide +kernel)
theorem m_76a9e7e1 : (.instanceMethod y_Checker_checkMemory : Cond) ∈ xt_tbl := xt_in (xt_t5 (List.mem_of_getElem? (i := 229) (by decide +kernel))) (by decide +kernel)
theorem m_a374eefa : (.selects "StackHost$Checker" y_Checker_checkMemory y_Checker_checkMemory : Cond) ∈ xt_tbl := xt_in (xt_v4 (q := (⟨"StackHost$Checker", "checkMemory", "(I)V"⟩, 17)) (List.mem_of_getElem? (i := 3) (by decide +kernel))) (by decide +kernel)
theorem m_6f4c0c06 : (.code y_Checker_checkMemory b_Checker_checkMemory 4 none : Cond) ∈ xt_tbl := xt_in (xt_t5 (List.mem_of_getElem? (i := 230) (by decide +kernel))) (by decide +kernel)
theorem m_2c5344b7 : (.methodLink "StackHost$Checker" 233 y_Checker_checkNumeric : Cond) ∈ xt_tbl := xt_in (xt_t5 (List.mem_of_getElem? (i := 212) (by decide +kernel))) (by decide +kernel)
theorem m_ca062f24 : (.instanceMethod y_Checker_checkNumeric : Cond) ∈ xt_tbl := xt_in (xt_t5 (List.mem_of_getElem? (i := 214) (by decide +kernel))) (by decide +kernel)
theorem m_140df817 : (.selects "StackHost$Checker" y_Checker_checkNumeric y_Checker_checkNumeric : Cond) ∈ xt_tbl := xt_in (xt_v4 (q := (⟨"StackHost$Checker", "checkNumeric", "(I)V"⟩, 17)) (List.mem_of_getElem? (i := 0) (by decide +kernel))) (by decide +kernel)
theorem m_830865be : (.code y_Checker_checkNumeric b_Checker_checkNumeric 4 none : Cond) ∈ xt_tbl := xt_in (xt_t5 (List.mem_of_getElem? (i := 215) (by decide +kernel))) (by decide +kernel)
theorem nm_Checker_checkControl : xt_nm y_Checker_checkControl 1 := ⟨by decide +kernel, by decide +kernel⟩
theorem nm_Checker_checkNamed : xt_nm y_Checker_checkNamed 1 := ⟨by decide +kernel, by decide +kernel⟩
theorem nm_Checker_checkMemory : xt_nm y_Checker_checkMemory 1 := ⟨by decide +kernel, by decide +kernel⟩
theorem nm_Checker_checkNumeric : xt_nm y_Checker_checkNumeric 1 := ⟨by decide +kernel, by decide +kernel⟩
set_option maxRecDepth 100000 in
def T_Checker_checkInstruction : List (Nat × Instr × Nat) := [(0, .iload_n 1, 1), (1, .bipush 69, 2), (3, .if_icmp .lt 11, 3), (6, .aload_n 0, 1), (7, .iload_n 1, 1), (8, .invokevirtual 233, 3), (11, .goto 56, 3), (14, .iload_n 1, 1), (15, .bipush 65, 2), (17, .if_icmp .lt 17, 3), (20, .aload_n 0, 1), (21, .bipush 127, 2), (23, .iload_n 1, 1), (24, .bipush 65, 2), (26, .isub, 1), (27, .isub, 1), (28, .invokevirtual 236, 3), (31, .goto 36, 3), (34, .iload_n 1, 1), (35, .bipush 40, 2), (37, .if_icmp .lt 11, 3), (40, .aload_n 0, 1), (41, .iload_n 1, 1), (42, .invokevirtual 239, 3), (45, .goto 22, 3), (48, .iload_n 1, 1), (49, .bipush 32, 2), (51, .if_icmp .lt 11, 3), (54, .aload_n 0, 1), (55, .iload_n 1, 1), (56, .invokevirtual 242, 3), (59, .goto 8, 3), (62, .aload_n 0, 1), (63, .iload_n 1, 1), (64, .invokevirtual 245, 3), (67, .return_, 1)]
theorem D_Checker_checkInstruction : ∀ q ∈ T_Checker_checkInstruction, decode b_Checker_checkInstruction q.1 = .ok (q.2.1, q.2.2) := by decide +kernel

set_option maxHeartbeats 4000000 in
set_option maxRecDepth 100000 in
theorem am_Checker_checkInstruction_L67 (l : Launch) (hfl : l.flags = pinnedFlags ++ [noTraceFlag]) (D : va_G) (A : Nat → Prop) (σ MC MS : Nat) (h0 : xb_H) (Qr : xb_H → Nat → Nat → Prop) (Qt : String → xb_H → Nat → Nat → Prop) (h : xb_H) (bc : Nat) (bs : Nat) (hw : w_Checker_checkInstruction_L67 Qr Qt h bc bs) : xb_am l D A σ 6 MC MS h0 (fun v h bc bs => v = none ∧ Qr h bc bs) Qt y_Checker_checkInstruction.cls y_Checker_checkInstruction.name b_Checker_checkInstruction 2 ([] : List ExceptionTableEntry) none 67 [] [] h bc bs := by
  unfold w_Checker_checkInstruction_L67 at hw
  intro p e s m args below meth c hC H locs ls k n hE hl hR hS hk hn
  obtain ⟨hx, hb, hown, hlocks, htab, hml, hr, hB, hA, hnm⟩ := id hC
  have hts := hB.1.1.at args
  exact xb_vret bc bs hx hb hr hlocks (show k + bc ≤ MC by omega) (show n + bs ≤ MS by omega) hE hR hS (xb_d D_Checker_checkInstruction 35 rfl) hw

set_option maxHeartbeats 4000000 in
set_option maxRecDepth 100000 in
theorem ok_Checker_checkInstruction (l : Launch) (hfl : l.flags = pinnedFlags ++ [noTraceFlag]) (D : va_G) (A : Nat → Prop) (σ : Nat) (x0 : Nat) (x1 : Int32) (h : xb_H) (bc : Nat) (bs : Nat) (Qr : xb_H → Nat → Nat → Prop) (Qt : String → xb_H → Nat → Nat → Prop) (hw : w_Checker_checkInstruction x0 x1 h bc bs Qr Qt) : xb_Met l y_Checker_checkInstruction [.code y_Checker_checkInstruction b_Checker_checkInstruction 2 none] (xb_rm 6 bc bs) (xb_Pc D A σ h [.ref x0, .int x1]) (xb_Qc D A h bc bs (fun v h bc bs => v = none ∧ Qr h bc bs) Qt) A := by
  refine xb_ofAm (cc := b_Checker_checkInstruction) (by decide) (Nat.le_of_ble_eq_true rfl) ?_
  unfold w_Checker_checkInstruction at hw
  show xb_am l D A σ 6 bc bs h (fun v h bc bs => v = none ∧ Qr h bc bs) Qt y_Checker_checkInstruction.cls y_Checker_checkInstruction.name b_Checker_checkInstruction 2 ([] : List ExceptionTableEntry) none 0 [(0, .ref x0), (1, .int x1)] [] h bc bs
  obtain ⟨MC, hMC⟩ : ∃ x, x = bc := ⟨_, rfl⟩
  obtain ⟨MS, hMS⟩ : ∃ x, x = bs := ⟨_, rfl⟩
  rw [show xb_am l D A σ 6 bc bs = xb_am l D A σ 6 MC MS by rw [hMC, hMS]]
  obtain ⟨h0, hh0⟩ : ∃ x, x = h := ⟨_, rfl⟩
  rw [show xb_am l D A σ 6 MC MS h = xb_am l D A σ 6 MC MS h0 by rw [hh0]]
  intro p e s m args below meth c hC H locs ls k n hE hl hR hS hk hn
  obtain ⟨hx, hb, hown, hlocks, htab, hml, hr, hB, hA, hnm⟩ := id hC
  have hts := hB.1.1.at args
  refine lv_iload_n hx hb (xb_d D_Checker_checkInstruction 0 rfl) rfl (lv_at hl 1 rfl) ?_
  refine lv_bipush (v := 69) hx hb (xb_d D_Checker_checkInstruction 1 rfl) (by decide) ?_
  refine lv_icmp_lt (tgt := 14) hx hb (xb_d D_Checker_checkInstruction 2 rfl) rfl (fun hc1 => ?_) (fun hc1 => ?_)
  · have hw := hw.1 hc1
    refine lv_iload_n hx hb (xb_d D_Checker_checkInstruction 7 rfl) rfl (lv_at hl 1 rfl) ?_
    refine lv_bipush (v := 65) hx hb (xb_d D_Checker_checkInstruction 8 rfl) (by decide) ?_
    refine lv_icmp_lt (tgt := 34) hx hb (xb_d D_Checker_checkInstruction 9 rfl) rfl (fun hc2 => ?_) (fun hc2 => ?_)
    · have hw := hw.1 hc2
      refine lv_iload_n hx hb (xb_d D_Checker_checkInstruction 18 rfl) rfl (lv_at hl 1 rfl) ?_
      refine lv_bipush (v := 40) hx hb (xb_d D_Checker_checkInstruction 19 rfl) (by decide) ?_
      refine lv_icmp_lt (tgt := 48) hx hb (xb_d D_Checker_checkInstruction 20 rfl) rfl (fun hc3 => ?_) (fun hc3 => ?_)
      · have hw := hw.1 hc3
        refine lv_iload_n hx hb (xb_d D_Checker_checkInstruction 25 rfl) rfl (lv_at hl 1 rfl) ?_
        refine lv_bipush (v := 32) hx hb (xb_d D_Checker_checkInstruction 26 rfl) (by decide) ?_
        refine lv_icmp_lt (tgt := 62) hx hb (xb_d D_Checker_checkInstruction 27 rfl) rfl (fun hc4 => ?_) (fun hc4 => ?_)
        · have hw := hw.1 hc4
          refine lv_aload_n hx hb (xb_d D_Checker_checkInstruction 32 rfl) rfl (lv_at hl 0 rfl) ?_
          refine lv_iload_n hx hb (xb_d D_Checker_checkInstruction 33 rfl) rfl (lv_at hl 1 rfl) ?_
          obtain ⟨hk5, hw⟩ := hw
          refine xb_call (D := D) (A := A) (σ := σ) (h := h) (d := 5) (mc := bc) (ms := bs) (maxL := 2) (rest := []) (av := [.ref x0, .int x1]) (fun T hT X => by obtain ⟨cb9, ra9, rb9, rc9⟩ := xb_recv (ci := 4) hR rfl hk5 (by decide); exact xt_invV X hx hown (hts _ m_897fa4ea) (hts _ m_59e31100) (hts _ m_145563ec) (xt_sigOf (hts _ m_ecd41808)) nm_Checker_checkControl (by rw [hT]; exact ra9) rb9 rc9 (g := F0 m 64 ls [.int x1, .ref x0]) rfl (argsL := [.int x1]) (rest := []) rfl rfl (by rw [hb]; exact (xb_d D_Checker_checkInstruction 34 rfl))) (ok_Checker_checkControl l hfl D A σ x0 x1 h bc bs _ _ hw) (hml.trans hl.1.symm) (by rw [hb]; exact (xb_d D_Checker_checkInstruction 34 rfl)) (Nat.le_of_ble_eq_true rfl) (Nat.le_of_ble_eq_true rfl) (Nat.le_of_ble_eq_true rfl) (show k + bc ≤ MC by omega) (show n + bs ≤ MS by omega) (xt_w1 hB.1 m_ecd41808) (xt_cdOf hB.1 m_ecd41808) (hts _ m_44748ce5) hB hR hS hA (fun vv h6 bc7 bs7 kk7 nn7 H locs hk7 hn7 hq hEh6 hR hS => ?_) (fun XX ax h6 bc7 bs7 kk7 nn7 H locs hk7 hn7 hq hEh6 hex hR hS => ?_)
          · obtain ⟨rfl, hw⟩ := hq
            have hw := hw hEh6
            have hE := hE.tr hEh6
            refine W.eq (g2 := F0 m 67 ls []) rfl ?_
            exact am_Checker_checkInstruction_L67 l hfl D A σ MC MS h0 Qr Qt h6 bc7 bs7 hw p e s m args below meth c hC H locs ls (k + kk7) (n + nn7) hE (lv_sub hl [] rfl) hR hS (by omega) (by omega)
          · exact xb_pass hlocks (fun x hx9 => by rw [htab] at hx9; first | (cases hx9; done) | (simp [tableOf] at hx9; subst hx9; decide) | (simp [tableOf] at hx9; rcases hx9 with rfl | rfl <;> decide) | (simp [tableOf] at hx9; rcases hx9 with rfl | rfl | rfl <;> decide)) (show (k + kk7) + bc7 ≤ MC by omega) (show (n + nn7) + bs7 ≤ MS by omega) (hE.tr hEh6) hR hS hex hq
        · have hw := hw.2 hc4
          refine lv_aload_n hx hb (xb_d D_Checker_checkInstruction 28 rfl) rfl (lv_at hl 0 rfl) ?_
          refine lv_iload_n hx hb (xb_d D_Checker_checkInstruction 29 rfl) rfl (lv_at hl 1 rfl) ?_
          obtain ⟨hk8, hw⟩ := hw
          refine xb_call (D := D) (A := A) (σ := σ) (h := h) (d := 4) (mc := bc) (ms := bs) (maxL := 5) (rest := []) (av := [.ref x0, .int x1]) (fun T hT X => by obtain ⟨cb9, ra9, rb9, rc9⟩ := xb_recv (ci := 4) hR rfl hk8 (by decide); exact xt_invV X hx hown (hts _ m_bcef3570) (hts _ m_b474e2fe) (hts _ m_364d3df2) (xt_sigOf (hts _ m_27ca5a7b)) nm_Checker_checkNamed (by rw [hT]; exact ra9) rb9 rc9 (g := F0 m 56 ls [.int x1, .ref x0]) rfl (argsL := [.int x1]) (rest := []) rfl rfl (by rw [hb]; exact (xb_d D_Checker_checkInstruction 30 rfl))) (ok_Checker_checkNamed l hfl D A σ x0 x1 h bc bs _ _ hw) (hml.trans hl.1.symm) (by rw [hb]; exact (xb_d D_Checker_checkInstruction 30 rfl)) (Nat.le_of_ble_eq_true rfl) (Nat.le_of_ble_eq_true rfl) (Nat.le_of_ble_eq_true rfl) (show k + bc ≤ MC by omega) (show n + bs ≤ MS by omega) (xt_w1 hB.1 m_27ca5a7b) (xt_cdOf hB.1 m_27ca5a7b) (hts _ m_44748ce5) hB hR hS hA (fun vv h9 bc10 bs10 kk10 nn10 H locs hk10 hn10 hq hEh9 hR hS => ?_) (fun XX ax h9 bc10 bs10 kk10 nn10 H locs hk10 hn10 hq hEh9 hex hR hS => ?_)
          · obtain ⟨rfl, hw⟩ := hq
            have hw := hw hEh9
            have hE := hE.tr hEh9
            refine W.eq (g2 := F0 m 59 ls []) rfl ?_
            refine lv_goto (tgt := 67) hx hb (xb_d D_Checker_checkInstruction 31 rfl) rfl ?_
            exact am_Checker_checkInstruction_L67 l hfl D A σ MC MS h0 Qr Qt h9 bc10 bs10 hw p e s m args below meth c hC H locs ls (k + kk10) (n + nn10) hE (lv_sub hl [] rfl) hR hS (by omega) (by omega)
          · exact xb_pass hlocks (fun x hx9 => by rw [htab] at hx9; first | (cases hx9; done) | (simp [tableOf] at hx9; subst hx9; decide) | (simp [tableOf] at hx9; rcases hx9 with rfl | rfl <;> decide) | (simp [tableOf] at hx9; rcases hx9 with rfl | rfl | rfl <;> decide)) (show (k + kk10) + bc10 ≤ MC by omega) (show (n + nn10) + bs10 ≤ MS by omega) (hE.tr hEh9) hR hS hex hq
      · have hw := hw.2 hc3
        refine lv_aload_n hx hb (xb_d D_Checker_checkInstruction 21 rfl) rfl (lv_at hl 0 rfl) ?_
        refine lv_iload_n hx hb (xb_d D_Checker_checkInstruction 22 rfl) rfl (lv_at hl 1 rfl) ?_
        obtain ⟨hk11, hw⟩ := hw
        refine xb_call (D := D) (A := A) (σ := σ) (h := h) (d := 4) (mc := bc) (ms := bs) (maxL := 4) (rest := []) (av := [.ref x0, .int x1]) (fun T hT X => by obtain ⟨cb9, ra9, rb9, rc9⟩ := xb_recv (ci := 4) hR rfl hk11 (by decide); exact xt_invV X hx hown (hts _ m_ddd4342a) (hts _ m_76a9e7e1) (hts _ m_a374eefa) (xt_sigOf (hts _ m_6f4c0c06)) nm_Checker_checkMemory (by rw [hT]; exact ra9) rb9 rc9 (g := F0 m 42 ls [.int x1, .ref x0]) rfl (argsL := [.int x1]) (rest := []) rfl rfl (by rw [hb]; exact (xb_d D_Checker_checkInstruction 23 rfl))) (ok_Checker_checkMemory l hfl D A σ x0 x1 h bc bs _ _ hw) (hml.trans hl.1.symm) (by rw [hb]; exact (xb_d D_Checker_checkInstruction 23 rfl)) (Nat.le_of_ble_eq_true rfl) (Nat.le_of_ble_eq_true rfl) (Nat.le_of_ble_eq_true rfl) (show k + bc ≤ MC by omega) (show n + bs ≤ MS by omega) (xt_w1 hB.1 m_6f4c0c06) (xt_cdOf hB.1 m_6f4c0c06) (hts _ m_44748ce5) hB hR hS hA (fun vv h12 bc13 bs13 kk13 nn13 H locs hk13 hn13 hq hEh12 hR hS => ?_) (fun XX ax h12 bc13 bs13 kk13 nn13 H locs hk13 hn13 hq hEh12 hex hR hS => ?_)
        · obtain ⟨rfl, hw⟩ := hq
          have hw := hw hEh12
          have hE := hE.tr hEh12
          refine W.eq (g2 := F0 m 45 ls []) rfl ?_
          refine lv_goto (tgt := 67) hx hb (xb_d D_Checker_checkInstruction 24 rfl) rfl ?_
          exact am_Checker_checkInstruction_L67 l hfl D A σ MC MS h0 Qr Qt h12 bc13 bs13 hw p e s m args below meth c hC H locs ls (k + kk13) (n + nn13) hE (lv_sub hl [] rfl) hR hS (by omega) (by omega)
        · exact xb_pass hlocks (fun x hx9 => by rw [htab] at hx9; first | (cases hx9; done) | (simp [tableOf] at hx9; subst hx9; decide) | (simp [tableOf] at hx9; rcases hx9 with rfl | rfl <;> decide) | (simp [tableOf] at hx9; rcases hx9 with rfl | rfl | rfl <;> decide)) (show (k + kk13) + bc13 ≤ MC by omega) (show (n + nn13) + bs13 ≤ MS by omega) (hE.tr hEh12) hR hS hex hq
    · have hw := hw.2 hc2
      refine lv_aload_n hx hb (xb_d D_Checker_checkInstruction 10 rfl) rfl (lv_at hl 0 rfl) ?_
      refine lv_bipush (v := 127) hx hb (xb_d D_Checker_checkInstruction 11 rfl) (by decide) ?_
      refine lv_iload_n hx hb (xb_d D_Checker_checkInstruction 12 rfl) rfl (lv_at hl 1 rfl) ?_
      refine lv_bipush (v := 65) hx hb (xb_d D_Checker_checkInstruction 13 rfl) (by decide) ?_
      refine lv_isub hx hb (xb_d D_Checker_checkInstruction 14 rfl) ?_
      refine lv_isub hx hb (xb_d D_Checker_checkInstruction 15 rfl) ?_
      obtain ⟨hk14, hw⟩ := hw
      refine xb_call0 (D := D) (A := A) (σ := σ) (h := h) (d := 2) (maxL := 2) (rest := []) (av := [.ref x0, .int (127 - (x1 - 65))]) (fun T hT X => by obtain ⟨cb9, ra9, rb9, rc9⟩ := xb_recv (ci := 4) hR rfl hk14 (by decide); exact xt_invV X hx hown (hts _ m_761ff7fc) (hts _ m_e867be1e) (hts _ m_098fc344) (xt_sigOf (hts _ m_43ff17c7)) nm_Checker_put (by rw [hT]; exact ra9) rb9 rc9 (g := F0 m 28 ls [.int (127 - (x1 - 65)), .ref x0]) rfl (argsL := [.int (127 - (x1 - 65))]) (rest := []) rfl rfl (by rw [hb]; exact (xb_d D_Checker_checkInstruction 16 rfl))) (ok_Checker_put l hfl D A σ x0 (127 - (x1 - 65)) h _ hw) (hml.trans hl.1.symm) (by rw [hb]; exact (xb_d D_Checker_checkInstruction 16 rfl)) (Nat.le_of_ble_eq_true rfl) (Nat.le_of_ble_eq_true rfl) (Nat.le_of_ble_eq_true rfl) (show k ≤ MC by omega) (show n ≤ MS by omega) (xt_w1 hB.1 m_43ff17c7) (xt_cdOf hB.1 m_43ff17c7) (hts _ m_44748ce5) hB hR hS hA (fun vv h15 H locs hq hEh15 hR hS => ?_)
      obtain ⟨rfl, hw⟩ := hq
      have hw := hw hEh15
      have hE := hE.tr hEh15
      refine W.eq (g2 := F0 m 31 ls []) rfl ?_
      refine lv_goto (tgt := 67) hx hb (xb_d D_Checker_checkInstruction 17 rfl) rfl ?_
      exact am_Checker_checkInstruction_L67 l hfl D A σ MC MS h0 Qr Qt h15 bc bs hw p e s m args below meth c hC H locs ls k n hE (lv_sub hl [] rfl) hR hS (by omega) (by omega)
  · have hw := hw.2 hc1
    refine lv_aload_n hx hb (xb_d D_Checker_checkInstruction 3 rfl) rfl (lv_at hl 0 rfl) ?_
    refine lv_iload_n hx hb (xb_d D_Checker_checkInstruction 4 rfl) rfl (lv_at hl 1 rfl) ?_
    obtain ⟨hk17, hw⟩ := hw
    refine xb_call (D := D) (A := A) (σ := σ) (h := h) (d := 4) (mc := bc) (ms := bs) (maxL := 4) (rest := []) (av := [.ref x0, .int x1]) (fun T hT X => by obtain ⟨cb9, ra9, rb9, rc9⟩ := xb_recv (ci := 4) hR rfl hk17 (by decide); exact xt_invV X hx hown (hts _ m_2c5344b7) (hts _ m_ca062f24) (hts _ m_140df817) (xt_sigOf (hts _ m_830865be)) nm_Checker_checkNumeric (by rw [hT]; exact ra9) rb9 rc9 (g := F0 m 8 ls [.int x1, .ref x0]) rfl (argsL := [.int x1]) (rest := []) rfl rfl (by rw [hb]; exact (xb_d D_Checker_checkInstruction 5 rfl))) (ok_Checker_checkNumeric l hfl D A σ x0 x1 h bc bs _ _ hw) (hml.trans hl.1.symm) (by rw [hb]; exact (xb_d D_Checker_checkInstruction 5 rfl)) (Nat.le_of_ble_eq_true rfl) (Nat.le_of_ble_eq_true rfl) (Nat.le_of_ble_eq_true rfl) (show k + bc ≤ MC by omega) (show n + bs ≤ MS by omega) (xt_w1 hB.1 m_830865be) (xt_cdOf hB.1 m_830865be) (hts _ m_44748ce5) hB hR hS hA (fun vv h18 bc19 bs19 kk19 nn19 H locs hk19 hn19 hq hEh18 hR hS => ?_) (fun XX ax h18 bc19 bs19 kk19 nn19 H locs hk19 hn19 hq hEh18 hex hR hS => ?_)
    · obtain ⟨rfl, hw⟩ := hq
      have hw := hw hEh18
      have hE := hE.tr hEh18
      refine W.eq (g2 := F0 m 11 ls []) rfl ?_
      refine lv_goto (tgt := 67) hx hb (xb_d D_Checker_checkInstruction 6 rfl) rfl ?_
      exact am_Checker_checkInstruction_L67 l hfl D A σ MC MS h0 Qr Qt h18 bc19 bs19 hw p e s m args below meth c hC H locs ls (k + kk19) (n + nn19) hE (lv_sub hl [] rfl) hR hS (by omega) (by omega)
    · exact xb_pass hlocks (fun x hx9 => by rw [htab] at hx9; first | (cases hx9; done) | (simp [tableOf] at hx9; subst hx9; decide) | (simp [tableOf] at hx9; rcases hx9 with rfl | rfl <;> decide) | (simp [tableOf] at hx9; rcases hx9 with rfl | rfl | rfl <;> decide)) (show (k + kk19) + bc19 ≤ MC by omega) (show (n + nn19) + bs19 ≤ MS by omega) (hE.tr hEh18) hR hS hex hq

theorem m_c60bdb4f : (.methodLink "StackHost$Machine" 166 y_StackModule_parameters : Cond) ∈ xt_tbl := xt_in (xt_t7 (List.mem_of_getElem? (i := 229) (by decide +kernel))) (by decide +kernel)
theorem m_5ec583bc : (.fieldLink "StackHost$Machine" 150 "StackHost$StackModule" "bodies" "LStackHost$Row;" : Cond) ∈ xt_tbl := xt_in (xt_t3 (List.mem_of_getElem? (i := 103) (by decide +kernel))) (by decide +kernel)
theorem m_556e657b : (.methodLink "StackHost$Machine" 133 y_World_ownerOf : Cond) ∈ xt_tbl := xt_in (xt_t7 (List.mem_of_getElem? (i := 224) (by decide +kernel))) (by decide +kernel)
theorem m_1360c288 : (.methodLink "StackHost$Machine" 143 y_Instance_numberOf : Cond) ∈ xt_tbl := xt_in (xt_t7 (List.mem_of_getElem? (i := 225) (by decide +kernel))) (by decide +kernel)
theorem m_fe87a8a2 : (.fieldLink "StackHost$Machine" 147 "StackHost$StackModule" "imported" "[I" : Cond) ∈ xt_tbl := xt_in (xt_t3 (List.mem_of_getElem? (i := 115) (by decide +kernel))) (by decide +kernel)
theorem m_203d63fb : (.methodLink "StackHost$Machine" 159 y_Arrays_fill1 : Cond) ∈ xt_tbl := xt_in (xt_t7 (List.mem_of_getElem? (i := 227) (by decide +kernel))) (by decide +kernel)
theorem m_e14bc95b : (.methodLink "StackHost$Machine" 130 y_Machine_callHost : Cond) ∈ xt_tbl := xt_in (xt_t7 (List.mem_of_getElem? (i := 211) (by decide +kernel))) (by decide +kernel)
theorem m_55509cb2 : (.instanceMethod y_Machine_callHost : Cond) ∈ xt_tbl := xt_in (xt_t7 (List.mem_of_getElem? (i := 213) (by decide +kernel))) (by decide +kernel)
theorem m_b8a1c73a : (.selects "StackHost$Machine" y_Machine_callHost y_Machine_callHost : Cond) ∈ xt_tbl := xt_in (xt_v6 (q := (⟨"StackHost$Machine", "callHost", "(I)V"⟩, 18)) (List.mem_of_getElem? (i := 6) (by decide +kernel))) (by decide +kernel)
theorem m_1c382bc9 : (.code y_Machine_callHost b_Machine_callHost 2 none : Cond) ∈ xt_tbl := xt_in (xt_t7 (List.mem_of_getElem? (i := 214) (by decide +kernel))) (by decide +kernel)
theorem nm_Machine_callHost : xt_nm y_Machine_callHost 1 := ⟨by decide +kernel, by decide +kernel⟩
set_option maxRecDepth 100000 in
def T_Machine_call : List (Nat × Instr × Nat) := [(0, .iload_n 1, 1), (1, .sipush 8192, 3), (4, .if_icmp .lt 9, 3), (7, .aload_n 0, 1), (8, .iload_n 2, 1), (9, .invokevirtual 130, 3), (12, .return_, 1), (13, .aload_n 0, 1), (14, .getfield 42, 3), (17, .iload_n 1, 1), (18, .invokevirtual 133, 3), (21, .astore_n 3, 1), (22, .aload_n 3, 1), (23, .getfield 139, 3), (26, .astore 4, 2), (28, .aload_n 3, 1), (29, .iload_n 1, 1), (30, .invokevirtual 143, 3), (33, .istore 5, 2), (35, .iload 5, 2), (37, .aload 4, 2), (39, .getfield 147, 3), (42, .iconst 0, 1), (43, .iaload, 1), (44, .isub, 1), (45, .istore 6, 2), (47, .aload 4, 2), (49, .getfield 150, 3), (52, .iload 6, 2), (54, .iconst 1, 1), (55, .invokevirtual 154, 3), (58, .istore 7, 2), (60, .aload_n 0, 1), (61, .getfield 53, 3), (64, .iload 7, 2), (66, .iadd, 1), (67, .aload 4, 2), (69, .getfield 150, 3), (72, .iload 6, 2), (74, .iconst 4, 1), (75, .invokevirtual 154, 3), (78, .iadd, 1), (79, .istore 8, 2), (81, .aload_n 0, 1), (82, .getfield 50, 3), (85, .sipush 200, 3), (88, .if_icmp .ge 11, 3), (91, .iload 8, 2), (93, .sipush 16384, 3), (96, .if_icmp .le 10, 3), (99, .aload_n 0, 1), (100, .bipush 9, 2), (102, .invokevirtual 156, 3), (105, .return_, 1), (106, .aload_n 0, 1), (107, .iload 8, 2), (109, .invokevirtual 61, 3), (112, .aload_n 0, 1), (113, .getfield 35, 3), (116, .aload_n 0, 1), (117, .getfield 53, 3), (120, .aload_n 0, 1), (121, .getfield 53, 3), (124, .iload 7, 2), (126, .iadd, 1), (127, .lconst 0, 1), (128, .invokestatic 159, 3), (131, .aload_n 0, 1), (132, .getfield 50, 3), (135, .ifCond .le 19, 3), (138, .aload_n 0, 1), (139, .getfield 39, 3), (142, .aload_n 0, 1), (143, .getfield 50, 3), (146, .iconst 1, 1), (147, .isub, 1), (148, .iconst 5, 1), (149, .imul, 1), (150, .iconst 2, 1), (151, .iadd, 1), (152, .iload_n 2, 1), (153, .iastore, 1), (154, .aload_n 0, 1), (155, .getfield 50, 3), (158, .iconst 5, 1), (159, .imul, 1), (160, .istore 9, 2), (162, .aload_n 0, 1), (163, .getfield 39, 3), (166, .iload 9, 2), (168, .iconst 0, 1), (169, .iadd, 1), (170, .aload_n 3, 1), (171, .getfield 121, 3), (174, .iastore, 1), (175, .aload_n 0, 1), (176, .getfield 39, 3), (179, .iload 9, 2), (181, .iconst 1, 1), (182, .iadd, 1), (183, .iload 5, 2), (185, .iastore, 1), (186, .aload_n 0, 1), (187, .getfield 39, 3), (190, .iload 9, 2), (192, .iconst 3, 1), (193, .iadd, 1), (194, .aload_n 0, 1), (195, .getfield 53, 3), (198, .aload 4, 2), (200, .aload 4, 2), (202, .iload 5, 2), (204, .invokevirtual 163, 3), (207, .invokevirtual 166, 3), (210, .isub, 1), (211, .iastore, 1), (212, .aload_n 0, 1), (213, .getfield 39, 3), (216, .iload 9, 2), (218, .iconst 4, 1), (219, .iadd, 1), (220, .aload_n 0, 1), (221, .getfield 53, 3), (224, .iload 7, 2), (226, .iadd, 1), (227, .iastore, 1), (228, .aload_n 0, 1), (229, .dup, 1), (230, .getfield 53, 3), (233, .iload 7, 2), (235, .iadd, 1), (236, .putfield 53, 3), (239, .aload_n 0, 1), (240, .dup, 1), (241, .getfield 50, 3), (244, .iconst 1, 1), (245, .iadd, 1), (246, .putfield 50, 3), (249, .aload_n 0, 1), (250, .iload 9, 2), (252, .invokevirtual 169, 3), (255, .aload_n 0, 1), (256, .aload 4, 2), (258, .getfield 150, 3), (261, .iload 6, 2), (263, .iconst 0, 1), (264, .invokevirtual 154, 3), (267, .putfield 108, 3), (270, .return_, 1)]
theorem D_Machine_call : ∀ q ∈ T_Machine_call, decode b_Machine_call q.1 = .ok (q.2.1, q.2.2) := by decide +kernel

set_option maxHeartbeats 4000000 in
set_option maxRecDepth 100000 in
theorem am_Machine_call_L154 (l : Launch) (hfl : l.flags = pinnedFlags ++ [noTraceFlag]) (D : va_G) (A : Nat → Prop) (σ MC MS : Nat) (h0 : xb_H) (Qr : xb_H → Nat → Nat → Prop) (x0 : Nat) (x3 : Nat) (x4 : Nat) (x5 : Int32) (x6 : Int32) (x7 : Int32) (h : xb_H) (bc : Nat) (bs : Nat) (hw : w_Machine_call_L154 Qr x0 x3 x4 x5 x6 x7 h bc bs) : xb_am l D A σ 6 MC MS h0 (fun v h bc bs => v = none ∧ Qr h bc bs) (fun _ _ _ _ => False) y_Machine_call.cls y_Machine_call.name b_Machine_call 10 ([] : List ExceptionTableEntry) none 154 [(0, .ref x0), (3, .ref x3), (4, .ref x4), (5, .int x5), (6, .int x6), (7, .int x7)] [] h bc bs := by
  unfold w_Machine_call_L154 at hw
  intro p e s m args below meth c hC H locs ls k n hE hl hR hS hk hn
  obtain ⟨hx, hb, hown, hlocks, htab, hml, hr, hB, hA, hnm⟩ := id hC
  have hts := hB.1.1.at args
  refine lv_aload_n hx hb (xb_d D_Machine_call 82 rfl) rfl (lv_at hl 0 rfl) ?_
  obtain ⟨hk1, hw⟩ := hw
  refine xb_getI (C := R_Machine) (T := F_Machine) (N := 18) hx hb 7 4 hts fin_Machine hown hR hk1 (by decide) rfl (by decide) rfl (hts _ m_61f414b6) (fun _ h9 => h9) (xb_d D_Machine_call 83 rfl) ?_
  refine lv_iconst (v := 5) hx hb (xb_d D_Machine_call 84 rfl) (by decide) ?_
  refine lv_imul hx hb (xb_d D_Machine_call 85 rfl) ?_
  obtain ⟨v2, ev2⟩ : ∃ x : Int32, x = ((xb_i h x0 4) * 5) := ⟨_, rfl⟩
  have hw := hw v2 ev2
  refine xt_numi (y := v2) ev2.symm ?_
  refine lv_istore hx hb (xb_d D_Machine_call 86 rfl) hl (by decide) rfl (fun ls hl => ?_)
  have hl : lv_has ls 10 [(9, .int v2), (0, .ref x0), (3, .ref x3), (4, .ref x4), (5, .int x5), (6, .int x6), (7, .int x7)] := hl
  refine lv_aload_n hx hb (xb_d D_Machine_call 87 rfl) rfl (lv_at hl 1 rfl) ?_
  refine xb_getP (C := R_Machine) (T := F_Machine) (N := 18) hx hb 7 11 hts fin_Machine hown hR hk1 (by decide) rfl (by decide) rfl (hts _ m_ca1fb183) (fun _ h9 => h9) (xb_d D_Machine_call 88 rfl) ?_
  obtain ⟨b3, eb3, hw⟩ := hw
  refine xb_some eb3 ?_
  refine lv_iload hx hb (xb_d D_Machine_call 89 rfl) (lv_at hl 0 rfl) ?_
  refine lv_iconst (v := 0) hx hb (xb_d D_Machine_call 90 rfl) (by decide) ?_
  refine lv_iadd hx hb (xb_d D_Machine_call 91 rfl) ?_
  refine lv_aload_n hx hb (xb_d D_Machine_call 92 rfl) rfl (lv_at hl 2 rfl) ?_
  obtain ⟨hk4, hw⟩ := hw
  refine xb_getI (C := R_Instance) (T := F_Instance) (N := 8) hx hb 10 0 hts fin_Instance hown hR hk4 (by decide) rfl (by decide) rfl (hts _ m_0e2a43da) (fun _ h9 => h9) (xb_d D_Machine_call 93 rfl) ?_
  obtain ⟨hk5, hw⟩ := hw
  obtain ⟨hi6, hw⟩ := hw
  refine xb_iast hx hb hR hS hk5 hi6 (xb_d D_Machine_call 94 rfl) (fun H locs hR hS => ?_)
  obtain ⟨h7, eh7⟩ : ∃ x : xb_H, x = xb_I h b3 (Int32.toNatClampNeg (v2 + 0)) (xb_i h x3 0) := ⟨_, rfl⟩
  rw [← eh7] at hR
  have hw := hw h7 eh7
  have hE : xb_ext h0 h7 := by rw [eh7]; exact hE
  refine lv_aload_n hx hb (xb_d D_Machine_call 95 rfl) rfl (lv_at hl 1 rfl) ?_
  have hk1 : xb_k h7 x0 = 8 := by rw [eh7]; exact hk1
  refine xb_getP (C := R_Machine) (T := F_Machine) (N := 18) hx hb 7 11 hts fin_Machine hown hR hk1 (by decide) rfl (by decide) rfl (hts _ m_ca1fb183) (fun _ h9 => h9) (xb_d D_Machine_call 96 rfl) ?_
  obtain ⟨b8, eb8, hw⟩ := hw
  refine xb_some eb8 ?_
  refine lv_iload hx hb (xb_d D_Machine_call 97 rfl) (lv_at hl 0 rfl) ?_
  refine lv_iconst (v := 1) hx hb (xb_d D_Machine_call 98 rfl) (by decide) ?_
  refine lv_iadd hx hb (xb_d D_Machine_call 99 rfl) ?_
  refine lv_iload hx hb (xb_d D_Machine_call 100 rfl) (lv_at hl 4 rfl) ?_
  obtain ⟨hk9, hw⟩ := hw
  obtain ⟨hi10, hw⟩ := hw
  refine xb_iast hx hb hR hS hk9 hi10 (xb_d D_Machine_call 101 rfl) (fun H locs hR hS => ?_)
  obtain ⟨h11, eh11⟩ : ∃ x : xb_H, x = xb_I h7 b8 (Int32.toNatClampNeg (v2 + 1)) x5 := ⟨_, rfl⟩
  rw [← eh11] at hR
  have hw := hw h11 eh11
  have hE : xb_ext h0 h11 := by rw [eh11]; exact hE
  refine lv_aload_n hx hb (xb_d D_Machine_call 102 rfl) rfl (lv_at hl 1 rfl) ?_
  have hk1 : xb_k h11 x0 = 8 := by rw [eh11]; exact hk1
  refine xb_getP (C := R_Machine) (T := F_Machine) (N := 18) hx hb 7 11 hts fin_Machine hown hR hk1 (by decide) rfl (by decide) rfl (hts _ m_ca1fb183) (fun _ h9 => h9) (xb_d D_Machine_call 103 rfl) ?_
  obtain ⟨b12, eb12, hw⟩ := hw
  refine xb_some eb12 ?_
  refine lv_iload hx hb (xb_d D_Machine_call 104 rfl) (lv_at hl 0 rfl) ?_
  refine lv_iconst (v := 3) hx hb (xb_d D_Machine_call 105 rfl) (by decide) ?_
  refine lv_iadd hx hb (xb_d D_Machine_call 106 rfl) ?_
  refine lv_aload_n hx hb (xb_d D_Machine_call 107 rfl) rfl (lv_at hl 1 rfl) ?_
  refine xb_getI (C := R_Machine) (T := F_Machine) (N := 18) hx hb 7 10 hts fin_Machine hown hR hk1 (by decide) rfl (by decide) rfl (hts _ m_79cf62f6) (fun _ h9 => h9) (xb_d D_Machine_call 108 rfl) ?_
  refine lv_aload hx hb (xb_d D_Machine_call 109 rfl) (lv_at hl 3 rfl) ?_
  refine lv_aload hx hb (xb_d D_Machine_call 110 rfl) (lv_at hl 3 rfl) ?_
  refine lv_iload hx hb (xb_d D_Machine_call 111 rfl) (lv_at hl 4 rfl) ?_
  obtain ⟨hk13, hw⟩ := hw
  refine xb_call0 (D := D) (A := A) (σ := σ) (h := h11) (d := 3) (maxL := 2) (rest := [.ref x4, .int (xb_i h11 x0 10), .int (v2 + 3), .ref b12]) (av := [.ref x4, .int x5]) (fun T hT X => by obtain ⟨cb9, ra9, rb9, rc9⟩ := xb_recv (ci := 2) hR rfl hk13 (by decide); exact xt_invV X hx hown (hts _ m_fe0066c0) (hts _ m_eb5729e5) (hts _ m_9cf0d8be) (xt_sigOf (hts _ m_42e2443a)) nm_StackModule_typeOf (by rw [hT]; exact ra9) rb9 rc9 (g := F0 m 204 ls [.int x5, .ref x4, .ref x4, .int (xb_i h11 x0 10), .int (v2 + 3), .ref b12]) rfl (argsL := [.int x5]) (rest := [.ref x4, .int (xb_i h11 x0 10), .int (v2 + 3), .ref b12]) rfl rfl (by rw [hb]; exact (xb_d D_Machine_call 112 rfl))) (ok_StackModule_typeOf l hfl D A σ x4 x5 h11 _ hw) (hml.trans hl.1.symm) (by rw [hb]; exact (xb_d D_Machine_call 112 rfl)) (Nat.le_of_ble_eq_true rfl) (Nat.le_of_ble_eq_true rfl) (Nat.le_of_ble_eq_true rfl) (show k ≤ MC by omega) (show n ≤ MS by omega) (xt_w1 hB.1 m_42e2443a) (xt_cdOf hB.1 m_42e2443a) (hts _ m_9c375545) hB hR hS hA (fun vv h14 H locs hq hEh14 hR hS => ?_)
  obtain ⟨r15, rfl, hw⟩ := hq
  have hw := hw hEh14
  have hE := hE.tr hEh14
  refine W.eq (g2 := F0 m 207 ls [.int r15, .ref x4, .int (xb_i h11 x0 10), .int (v2 + 3), .ref b12]) rfl ?_
  have hk13 : xb_k h14 x4 = 3 := hEh14.k hk13
  refine xb_call0 (D := D) (A := A) (σ := σ) (h := h14) (d := 3) (maxL := 2) (rest := [.int (xb_i h11 x0 10), .int (v2 + 3), .ref b12]) (av := [.ref x4, .int r15]) (fun T hT X => by obtain ⟨cb9, ra9, rb9, rc9⟩ := xb_recv (ci := 2) hR rfl hk13 (by decide); exact xt_invV X hx hown (hts _ m_c60bdb4f) (hts _ m_aa97372f) (hts _ m_8160d9b3) (xt_sigOf (hts _ m_8621e59b)) nm_StackModule_parameters (by rw [hT]; exact ra9) rb9 rc9 (g := F0 m 207 ls [.int r15, .ref x4, .int (xb_i h11 x0 10), .int (v2 + 3), .ref b12]) rfl (argsL := [.int r15]) (rest := [.int (xb_i h11 x0 10), .int (v2 + 3), .ref b12]) rfl rfl (by rw [hb]; exact (xb_d D_Machine_call 113 rfl))) (ok_StackModule_parameters l hfl D A σ x4 r15 h14 _ hw) (hml.trans hl.1.symm) (by rw [hb]; exact (xb_d D_Machine_call 113 rfl)) (Nat.le_of_ble_eq_true rfl) (Nat.le_of_ble_eq_true rfl) (Nat.le_of_ble_eq_true rfl) (show k ≤ MC by omega) (show n ≤ MS by omega) (xt_w1 hB.1 m_8621e59b) (xt_cdOf hB.1 m_8621e59b) (hts _ m_9c375545) hB hR hS hA (fun vv h16 H locs hq hEh16 hR hS => ?_)
  obtain ⟨r17, rfl, hw⟩ := hq
  have hw := hw hEh16
  have hE := hE.tr hEh16
  refine W.eq (g2 := F0 m 210 ls [.int r17, .int (xb_i h11 x0 10), .int (v2 + 3), .ref b12]) rfl ?_
  refine lv_isub hx hb (xb_d D_Machine_call 114 rfl) ?_
  obtain ⟨hk18, hw⟩ := hw
  obtain ⟨hi19, hw⟩ := hw
  refine xb_iast hx hb hR hS hk18 hi19 (xb_d D_Machine_call 115 rfl) (fun H locs hR hS => ?_)
  obtain ⟨h20, eh20⟩ : ∃ x : xb_H, x = xb_I h16 b12 (Int32.toNatClampNeg (v2 + 3)) ((xb_i h11 x0 10) - r17) := ⟨_, rfl⟩
  rw [← eh20] at hR
  have hw := hw h20 eh20
  have hE : xb_ext h0 h20 := by rw [eh20]; exact hE
  refine lv_aload_n hx hb (xb_d D_Machine_call 116 rfl) rfl (lv_at hl 1 rfl) ?_
  have hk1 : xb_k h14 x0 = 8 := hEh14.k hk1
  have hk1 : xb_k h16 x0 = 8 := hEh16.k hk1
  have hk1 : xb_k h20 x0 = 8 := by rw [eh20]; exact hk1
  refine xb_getP (C := R_Machine) (T := F_Machine) (N := 18) hx hb 7 11 hts fin_Machine hown hR hk1 (by decide) rfl (by decide) rfl (hts _ m_ca1fb183) (fun _ h9 => h9) (xb_d D_Machine_call 117 rfl) ?_
  obtain ⟨b21, eb21, hw⟩ := hw
  refine xb_some eb21 ?_
  refine lv_iload hx hb (xb_d D_Machine_call 118 rfl) (lv_at hl 0 rfl) ?_
  refine lv_iconst (v := 4) hx hb (xb_d D_Machine_call 119 rfl) (by decide) ?_
  refine lv_iadd hx hb (xb_d D_Machine_call 120 rfl) ?_
  refine lv_aload_n hx hb (xb_d D_Machine_call 121 rfl) rfl (lv_at hl 1 rfl) ?_
  refine xb_getI (C := R_Machine) (T := F_Machine) (N := 18) hx hb 7 10 hts fin_Machine hown hR hk1 (by decide) rfl (by decide) rfl (hts _ m_79cf62f6) (fun _ h9 => h9) (xb_d D_Machine_call 122 rfl) ?_
  refine lv_iload hx hb (xb_d D_Machine_call 123 rfl) (lv_at hl 6 rfl) ?_
  refine lv_iadd hx hb (xb_d D_Machine_call 124 rfl) ?_
  obtain ⟨hk22, hw⟩ := hw
  obtain ⟨hi23, hw⟩ := hw
  refine xb_iast hx hb hR hS hk22 hi23 (xb_d D_Machine_call 125 rfl) (fun H locs hR hS => ?_)
  obtain ⟨h24, eh24⟩ : ∃ x : xb_H, x = xb_I h20 b21 (Int32.toNatClampNeg (v2 + 4)) ((xb_i h20 x0 10) + x7) := ⟨_, rfl⟩
  rw [← eh24] at hR
  have hw := hw h24 eh24
  have hE : xb_ext h0 h24 := by rw [eh24]; exact hE
  refine lv_aload_n hx hb (xb_d D_Machine_call 126 rfl) rfl (lv_at hl 1 rfl) ?_
  refine lv_dup hx hb (xb_d D_Machine_call 127 rfl) rfl ?_
  have hk1 : xb_k h24 x0 = 8 := by rw [eh24]; exact hk1
  refine xb_getI (C := R_Machine) (T := F_Machine) (N := 18) hx hb 7 10 hts fin_Machine hown hR hk1 (by decide) rfl (by decide) rfl (hts _ m_79cf62f6) (fun _ h9 => h9) (xb_d D_Machine_call 128 rfl) ?_
  refine lv_iload hx hb (xb_d D_Machine_call 129 rfl) (lv_at hl 6 rfl) ?_
  refine lv_iadd hx hb (xb_d D_Machine_call 130 rfl) ?_
  refine xb_putI (C := R_Machine) (T := F_Machine) (N := 18) (ty := .int) (x := ((xb_i h24 x0 10) + x7)) hx hb 7 10 hts fin_Machine t_Machine t_Machine_ok n_Machine hown hR hS hk1 (by decide) rfl (by decide) rfl (hts _ m_79cf62f6) (fun _ h9 => h9) rfl (by decide +kernel) rfl rfl (xb_d D_Machine_call 131 rfl) (fun H locs hR hS => ?_)
  obtain ⟨h25, eh25⟩ : ∃ x : xb_H, x = xb_I h24 x0 10 ((xb_i h24 x0 10) + x7) := ⟨_, rfl⟩
  rw [← eh25] at hR
  have hw := hw h25 eh25
  have hE : xb_ext h0 h25 := by rw [eh25]; exact hE
  refine lv_aload_n hx hb (xb_d D_Machine_call 132 rfl) rfl (lv_at hl 1 rfl) ?_
  refine lv_dup hx hb (xb_d D_Machine_call 133 rfl) rfl ?_
  have hk1 : xb_k h25 x0 = 8 := by rw [eh25]; exact hk1
  refine xb_getI (C := R_Machine) (T := F_Machine) (N := 18) hx hb 7 4 hts fin_Machine hown hR hk1 (by decide) rfl (by decide) rfl (hts _ m_61f414b6) (fun _ h9 => h9) (xb_d D_Machine_call 134 rfl) ?_
  refine lv_iconst (v := 1) hx hb (xb_d D_Machine_call 135 rfl) (by decide) ?_
  refine lv_iadd hx hb (xb_d D_Machine_call 136 rfl) ?_
  refine xb_putI (C := R_Machine) (T := F_Machine) (N := 18) (ty := .int) (x := ((xb_i h25 x0 4) + 1)) hx hb 7 4 hts fin_Machine t_Machine t_Machine_ok n_Machine hown hR hS hk1 (by decide) rfl (by decide) rfl (hts _ m_61f414b6) (fun _ h9 => h9) rfl (by decide +kernel) rfl rfl (xb_d D_Machine_call 137 rfl) (fun H locs hR hS => ?_)
  obtain ⟨h26, eh26⟩ : ∃ x : xb_H, x = xb_I h25 x0 4 ((xb_i h25 x0 4) + 1) := ⟨_, rfl⟩
  rw [← eh26] at hR
  have hw := hw h26 eh26
  have hE : xb_ext h0 h26 := by rw [eh26]; exact hE
  refine lv_aload_n hx hb (xb_d D_Machine_call 138 rfl) rfl (lv_at hl 1 rfl) ?_
  refine lv_iload hx hb (xb_d D_Machine_call 139 rfl) (lv_at hl 0 rfl) ?_
  have hk1 : xb_k h26 x0 = 8 := by rw [eh26]; exact hk1
  refine xb_call0 (D := D) (A := A) (σ := σ) (h := h26) (d := 2) (maxL := 2) (rest := []) (av := [.ref x0, .int v2]) (fun T hT X => by obtain ⟨cb9, ra9, rb9, rc9⟩ := xb_recv (ci := 7) hR rfl hk1 (by decide); exact xt_invV X hx hown (hts _ m_2169ca30) (hts _ m_e9857fea) (hts _ m_6e9e1f90) (xt_sigOf (hts _ m_6008b1ed)) nm_Machine_enter (by rw [hT]; exact ra9) rb9 rc9 (g := F0 m 252 ls [.int v2, .ref x0]) rfl (argsL := [.int v2]) (rest := []) rfl rfl (by rw [hb]; exact (xb_d D_Machine_call 140 rfl))) (ok_Machine_enter l hfl D A σ x0 v2 h26 _ hw) (hml.trans hl.1.symm) (by rw [hb]; exact (xb_d D_Machine_call 140 rfl)) (Nat.le_of_ble_eq_true rfl) (Nat.le_of_ble_eq_true rfl) (Nat.le_of_ble_eq_true rfl) (show k ≤ MC by omega) (show n ≤ MS by omega) (xt_w1 hB.1 m_6008b1ed) (xt_cdOf hB.1 m_6008b1ed) (hts _ m_73451f9b) hB hR hS hA (fun vv h27 H locs hq hEh27 hR hS => ?_)
  obtain ⟨rfl, hw⟩ := hq
  have hw := hw hEh27
  have hE := hE.tr hEh27
  refine W.eq (g2 := F0 m 255 ls []) rfl ?_
  refine lv_aload_n hx hb (xb_d D_Machine_call 141 rfl) rfl (lv_at hl 1 rfl) ?_
  refine lv_aload hx hb (xb_d D_Machine_call 142 rfl) (lv_at hl 3 rfl) ?_
  have hk13 : xb_k h16 x4 = 3 := hEh16.k hk13
  have hk13 : xb_k h20 x4 = 3 := by rw [eh20]; exact hk13
  have hk13 : xb_k h24 x4 = 3 := by rw [eh24]; exact hk13
  have hk13 : xb_k h25 x4 = 3 := by rw [eh25]; exact hk13
  have hk13 : xb_k h26 x4 = 3 := by rw [eh26]; exact hk13
  have hk13 : xb_k h27 x4 = 3 := hEh27.k hk13
  refine xb_getP (C := R_StackModule) (T := F_StackModule) (N := 19) hx hb 2 11 hts fin_StackModule hown hR hk13 (by decide) rfl (by decide) rfl (hts _ m_5ec583bc) (fun _ h9 => h9) (xb_d D_Machine_call 143 rfl) ?_
  obtain ⟨b29, eb29, hw⟩ := hw
  refine xb_some eb29 ?_
  refine lv_iload hx hb (xb_d D_Machine_call 144 rfl) (lv_at hl 5 rfl) ?_
  refine lv_iconst (v := 0) hx hb (xb_d D_Machine_call 145 rfl) (by decide) ?_
  obtain ⟨hk30, hw⟩ := hw
  refine xb_call0 (D := D) (A := A) (σ := σ) (h := h27) (d := 2) (maxL := 3) (rest := [.ref x0]) (av := [.ref b29, .int x6, .int 0]) (fun T hT X => by obtain ⟨cb9, ra9, rb9, rc9⟩ := xb_recv (ci := 1) hR rfl hk30 (by decide); exact xt_invV X hx hown (hts _ m_f57edc11) (hts _ m_8e233096) (hts _ m_27eed10c) (xt_sigOf (hts _ m_ff1c70ae)) nm_Row_at (by rw [hT]; exact ra9) rb9 rc9 (g := F0 m 264 ls [.int 0, .int x6, .ref b29, .ref x0]) rfl (argsL := [.int x6, .int 0]) (rest := [.ref x0]) rfl rfl (by rw [hb]; exact (xb_d D_Machine_call 146 rfl))) (ok_Row_at l hfl D A σ b29 x6 0 h27 _ hw) (hml.trans hl.1.symm) (by rw [hb]; exact (xb_d D_Machine_call 146 rfl)) (Nat.le_of_ble_eq_true rfl) (Nat.le_of_ble_eq_true rfl) (Nat.le_of_ble_eq_true rfl) (show k ≤ MC by omega) (show n ≤ MS by omega) (xt_w1 hB.1 m_ff1c70ae) (xt_cdOf hB.1 m_ff1c70ae) (hts _ m_c1bef504) hB hR hS hA (fun vv h31 H locs hq hEh31 hR hS => ?_)
  obtain ⟨r32, rfl, hw⟩ := hq
  have hw := hw hEh31
  have hE := hE.tr hEh31
  refine W.eq (g2 := F0 m 267 ls [.int r32, .ref x0]) rfl ?_
  have hk1 : xb_k h27 x0 = 8 := hEh27.k hk1
  have hk1 : xb_k h31 x0 = 8 := hEh31.k hk1
  refine xb_putI (C := R_Machine) (T := F_Machine) (N := 18) (ty := .int) (x := r32) hx hb 7 15 hts fin_Machine t_Machine t_Machine_ok n_Machine hown hR hS hk1 (by decide) rfl (by decide) rfl (hts _ m_6a595805) (fun _ h9 => h9) rfl (by decide +kernel) rfl rfl (xb_d D_Machine_call 147 rfl) (fun H locs hR hS => ?_)
  obtain ⟨h33, eh33⟩ : ∃ x : xb_H, x = xb_I h31 x0 15 r32 := ⟨_, rfl⟩
  rw [← eh33] at hR
  have hw := hw h33 eh33
  have hE : xb_ext h0 h33 := by rw [eh33]; exact hE
  exact xb_vret bc bs hx hb hr hlocks (show k + bc ≤ MC by omega) (show n + bs ≤ MS by omega) hE hR hS (xb_d D_Machine_call 148 rfl) hw

set_option maxHeartbeats 4000000 in
set_option maxRecDepth 100000 in
theorem am_Machine_call_L99 (l : Launch) (hfl : l.flags = pinnedFlags ++ [noTraceFlag]) (D : va_G) (A : Nat → Prop) (σ MC MS : Nat) (h0 : xb_H) (Qr : xb_H → Nat → Nat → Prop) (x0 : Nat) (h : xb_H) (bc : Nat) (bs : Nat) (hw : w_Machine_call_L99 Qr x0 h bc bs) : xb_am l D A σ 6 MC MS h0 (fun v h bc bs => v = none ∧ Qr h bc bs) (fun _ _ _ _ => False) y_Machine_call.cls y_Machine_call.name b_Machine_call 10 ([] : List ExceptionTableEntry) none 99 [(0, .ref x0)] [] h bc bs := by
  unfold w_Machine_call_L99 at hw
  intro p e s m args below meth c hC H locs ls k n hE hl hR hS hk hn
  obtain ⟨hx, hb, hown, hlocks, htab, hml, hr, hB, hA, hnm⟩ := id hC
  have hts := hB.1.1.at args
  refine lv_aload_n hx hb (xb_d D_Machine_call 50 rfl) rfl (lv_at hl 0 rfl) ?_
  refine lv_bipush (v := 9) hx hb (xb_d D_Machine_call 51 rfl) (by decide) ?_
  obtain ⟨hk1, hw⟩ := hw
  refine xb_call0 (D := D) (A := A) (σ := σ) (h := h) (d := 2) (maxL := 3) (rest := []) (av := [.ref x0, .int 9]) (fun T hT X => by obtain ⟨cb9, ra9, rb9, rc9⟩ := xb_recv (ci := 7) hR rfl hk1 (by decide); exact xt_invV X hx hown (hts _ m_8f5db99d) (hts _ m_0ddc8afe) (hts _ m_f5561462) (xt_sigOf (hts _ m_f0d4fd47)) nm_Machine_fall (by rw [hT]; exact ra9) rb9 rc9 (g := F0 m 102 ls [.int 9, .ref x0]) rfl (argsL := [.int 9]) (rest := []) rfl rfl (by rw [hb]; exact (xb_d D_Machine_call 52 rfl))) (ok_Machine_fall l hfl D A σ x0 9 h _ hw) (hml.trans hl.1.symm) (by rw [hb]; exact (xb_d D_Machine_call 52 rfl)) (Nat.le_of_ble_eq_true rfl) (Nat.le_of_ble_eq_true rfl) (Nat.le_of_ble_eq_true rfl) (show k ≤ MC by omega) (show n ≤ MS by omega) (xt_w1 hB.1 m_f0d4fd47) (xt_cdOf hB.1 m_f0d4fd47) (hts _ m_73451f9b) hB hR hS hA (fun vv h2 H locs hq hEh2 hR hS => ?_)
  obtain ⟨rfl, hw⟩ := hq
  have hw := hw hEh2
  have hE := hE.tr hEh2
  refine W.eq (g2 := F0 m 105 ls []) rfl ?_
  exact xb_vret bc bs hx hb hr hlocks (show k + bc ≤ MC by omega) (show n + bs ≤ MS by omega) hE hR hS (xb_d D_Machine_call 53 rfl) hw

set_option maxHeartbeats 4000000 in
set_option maxRecDepth 100000 in
theorem ok_Machine_call (l : Launch) (hfl : l.flags = pinnedFlags ++ [noTraceFlag]) (D : va_G) (A : Nat → Prop) (σ : Nat) (x0 : Nat) (x1 : Int32) (x2 : Int32) (h : xb_H) (bc : Nat) (bs : Nat) (Qr : xb_H → Nat → Nat → Prop) (hw : w_Machine_call x0 x1 x2 h bc bs Qr) : xb_Met l y_Machine_call [.code y_Machine_call b_Machine_call 10 none] (xb_rm 6 bc bs) (xb_Pc D A σ h [.ref x0, .int x1, .int x2]) (xb_Qc D A h bc bs (fun v h bc bs => v = none ∧ Qr h bc bs) (fun _ _ _ _ => False)) A := by
  refine xb_ofAm (cc := b_Machine_call) (by decide) (Nat.le_of_ble_eq_true rfl) ?_
  unfold w_Machine_call at hw
  show xb_am l D A σ 6 bc bs h (fun v h bc bs => v = none ∧ Qr h bc bs) (fun _ _ _ _ => False) y_Machine_call.cls y_Machine_call.name b_Machine_call 10 ([] : List ExceptionTableEntry) none 0 [(0, .ref x0), (1, .int x1), (2, .int x2)] [] h bc bs
  obtain ⟨MC, hMC⟩ : ∃ x, x = bc := ⟨_, rfl⟩
  obtain ⟨MS, hMS⟩ : ∃ x, x = bs := ⟨_, rfl⟩
  rw [show xb_am l D A σ 6 bc bs = xb_am l D A σ 6 MC MS by rw [hMC, hMS]]
  obtain ⟨h0, hh0⟩ : ∃ x, x = h := ⟨_, rfl⟩
  rw [show xb_am l D A σ 6 MC MS h = xb_am l D A σ 6 MC MS h0 by rw [hh0]]
  intro p e s m args below meth c hC H locs ls k n hE hl hR hS hk hn
  obtain ⟨hx, hb, hown, hlocks, htab, hml, hr, hB, hA, hnm⟩ := id hC
  have hts := hB.1.1.at args
  refine lv_iload_n hx hb (xb_d D_Machine_call 0 rfl) rfl (lv_at hl 1 rfl) ?_
  refine lv_sipush (v := 8192) hx hb (xb_d D_Machine_call 1 rfl) (by decide) ?_
  refine lv_icmp_lt (tgt := 13) hx hb (xb_d D_Machine_call 2 rfl) rfl (fun hc1 => ?_) (fun hc1 => ?_)
  · have hw := hw.1 hc1
    refine lv_aload_n hx hb (xb_d D_Machine_call 7 rfl) rfl (lv_at hl 0 rfl) ?_
    obtain ⟨hk2, hw⟩ := hw
    refine xb_getP (C := R_Machine) (T := F_Machine) (N := 18) hx hb 7 0 hts fin_Machine hown hR hk2 (by decide) rfl (by decide) rfl (hts _ m_436e7c8c) (fun _ h9 => h9) (xb_d D_Machine_call 8 rfl) ?_
    obtain ⟨b3, eb3, hw⟩ := hw
    refine xb_some eb3 ?_
    refine lv_iload_n hx hb (xb_d D_Machine_call 9 rfl) rfl (lv_at hl 1 rfl) ?_
    obtain ⟨hk4, hw⟩ := hw
    refine xb_call0 (D := D) (A := A) (σ := σ) (h := h) (d := 3) (maxL := 2) (rest := []) (av := [.ref b3, .int x1]) (fun T hT X => by obtain ⟨cb9, ra9, rb9, rc9⟩ := xb_recv (ci := 6) hR rfl hk4 (by decide); exact xt_invV X hx hown (hts _ m_556e657b) (hts _ m_905f65dc) (hts _ m_94d0d6f7) (xt_sigOf (hts _ m_267eaad3)) nm_World_ownerOf (by rw [hT]; exact ra9) rb9 rc9 (g := F0 m 18 ls [.int x1, .ref b3]) rfl (argsL := [.int x1]) (rest := []) rfl rfl (by rw [hb]; exact (xb_d D_Machine_call 10 rfl))) (ok_World_ownerOf l hfl D A σ b3 x1 h _ hw) (hml.trans hl.1.symm) (by rw [hb]; exact (xb_d D_Machine_call 10 rfl)) (Nat.le_of_ble_eq_true rfl) (Nat.le_of_ble_eq_true rfl) (Nat.le_of_ble_eq_true rfl) (show k ≤ MC by omega) (show n ≤ MS by omega) (xt_w1 hB.1 m_267eaad3) (xt_cdOf hB.1 m_267eaad3) (hts _ m_4534b440) hB hR hS hA (fun vv h5 H locs hq hEh5 hR hS => ?_)
    obtain ⟨r6, rfl, hw⟩ := hq
    have hw := hw hEh5
    have hE := hE.tr hEh5
    refine W.eq (g2 := F0 m 21 ls [.ref r6]) rfl ?_
    refine lv_astore_n hx hb (xb_d D_Machine_call 11 rfl) rfl hl (by decide) rfl (fun ls hl => ?_)
    have hl : lv_has ls 10 [(3, .ref r6), (0, .ref x0), (1, .int x1), (2, .int x2)] := hl
    refine lv_aload_n hx hb (xb_d D_Machine_call 12 rfl) rfl (lv_at hl 0 rfl) ?_
    obtain ⟨hk7, hw⟩ := hw
    refine xb_getP (C := R_Instance) (T := F_Instance) (N := 8) hx hb 10 1 hts fin_Instance hown hR hk7 (by decide) rfl (by decide) rfl (hts _ m_142b55ed) (fun _ h9 => h9) (xb_d D_Machine_call 13 rfl) ?_
    obtain ⟨b8, eb8, hw⟩ := hw
    refine xb_some eb8 ?_
    refine lv_astore hx hb (xb_d D_Machine_call 14 rfl) hl (by decide) rfl (fun ls hl => ?_)
    have hl : lv_has ls 10 [(4, .ref b8), (3, .ref r6), (0, .ref x0), (1, .int x1), (2, .int x2)] := hl
    refine lv_aload_n hx hb (xb_d D_Machine_call 15 rfl) rfl (lv_at hl 1 rfl) ?_
    refine lv_iload_n hx hb (xb_d D_Machine_call 16 rfl) rfl (lv_at hl 3 rfl) ?_
    refine xb_call0 (D := D) (A := A) (σ := σ) (h := h5) (d := 2) (maxL := 2) (rest := []) (av := [.ref r6, .int x1]) (fun T hT X => by obtain ⟨cb9, ra9, rb9, rc9⟩ := xb_recv (ci := 10) hR rfl hk7 (by decide); exact xt_invV X hx hown (hts _ m_1360c288) (hts _ m_5272c608) (hts _ m_455039e8) (xt_sigOf (hts _ m_bf66480a)) nm_Instance_numberOf (by rw [hT]; exact ra9) rb9 rc9 (g := F0 m 30 ls [.int x1, .ref r6]) rfl (argsL := [.int x1]) (rest := []) rfl rfl (by rw [hb]; exact (xb_d D_Machine_call 17 rfl))) (ok_Instance_numberOf l hfl D A σ r6 x1 h5 _ hw) (hml.trans hl.1.symm) (by rw [hb]; exact (xb_d D_Machine_call 17 rfl)) (Nat.le_of_ble_eq_true rfl) (Nat.le_of_ble_eq_true rfl) (Nat.le_of_ble_eq_true rfl) (show k ≤ MC by omega) (show n ≤ MS by omega) (xt_w1 hB.1 m_bf66480a) (xt_cdOf hB.1 m_bf66480a) (hts _ m_7a4e907b) hB hR hS hA (fun vv h9 H locs hq hEh9 hR hS => ?_)
    obtain ⟨r10, rfl, hw⟩ := hq
    have hw := hw hEh9
    have hE := hE.tr hEh9
    refine W.eq (g2 := F0 m 33 ls [.int r10]) rfl ?_
    refine lv_istore hx hb (xb_d D_Machine_call 18 rfl) hl (by decide) rfl (fun ls hl => ?_)
    have hl : lv_has ls 10 [(5, .int r10), (4, .ref b8), (3, .ref r6), (0, .ref x0), (1, .int x1), (2, .int x2)] := hl
    refine lv_iload hx hb (xb_d D_Machine_call 19 rfl) (lv_at hl 0 rfl) ?_
    refine lv_aload hx hb (xb_d D_Machine_call 20 rfl) (lv_at hl 1 rfl) ?_
    obtain ⟨hk11, hw⟩ := hw
    refine xb_getP (C := R_StackModule) (T := F_StackModule) (N := 19) hx hb 2 14 hts fin_StackModule hown hR hk11 (by decide) rfl (by decide) rfl (hts _ m_fe87a8a2) (fun _ h9 => h9) (xb_d D_Machine_call 21 rfl) ?_
    obtain ⟨b12, eb12, hw⟩ := hw
    refine xb_some eb12 ?_
    refine lv_iconst (v := 0) hx hb (xb_d D_Machine_call 22 rfl) (by decide) ?_
    obtain ⟨hk14, hw⟩ := hw
    obtain ⟨hi13, hw⟩ := hw
    refine xb_iald hx hb hR hk14 hi13 (xb_d D_Machine_call 23 rfl) ?_
    refine xt_numi (y := (xb_i h9 b12 0)) (congrArg (xb_i h9 b12) (by decide : (0 : Int32).toNatClampNeg = 0)) ?_
    refine lv_isub hx hb (xb_d D_Machine_call 24 rfl) ?_
    obtain ⟨v15, ev15⟩ : ∃ x : Int32, x = (r10 - (xb_i h9 b12 0)) := ⟨_, rfl⟩
    have hw := hw v15 ev15
    refine xt_numi (y := v15) ev15.symm ?_
    refine lv_istore hx hb (xb_d D_Machine_call 25 rfl) hl (by decide) rfl (fun ls hl => ?_)
    have hl : lv_has ls 10 [(6, .int v15), (5, .int r10), (4, .ref b8), (3, .ref r6), (0, .ref x0), (1, .int x1), (2, .int x2)] := hl
    refine lv_aload hx hb (xb_d D_Machine_call 26 rfl) (lv_at hl 2 rfl) ?_
    refine xb_getP (C := R_StackModule) (T := F_StackModule) (N := 19) hx hb 2 11 hts fin_StackModule hown hR hk11 (by decide) rfl (by decide) rfl (hts _ m_5ec583bc) (fun _ h9 => h9) (xb_d D_Machine_call 27 rfl) ?_
    obtain ⟨b16, eb16, hw⟩ := hw
    refine xb_some eb16 ?_
    refine lv_iload hx hb (xb_d D_Machine_call 28 rfl) (lv_at hl 0 rfl) ?_
    refine lv_iconst (v := 1) hx hb (xb_d D_Machine_call 29 rfl) (by decide) ?_
    obtain ⟨hk17, hw⟩ := hw
    refine xb_call0 (D := D) (A := A) (σ := σ) (h := h9) (d := 2) (maxL := 3) (rest := []) (av := [.ref b16, .int v15, .int 1]) (fun T hT X => by obtain ⟨cb9, ra9, rb9, rc9⟩ := xb_recv (ci := 1) hR rfl hk17 (by decide); exact xt_invV X hx hown (hts _ m_f57edc11) (hts _ m_8e233096) (hts _ m_27eed10c) (xt_sigOf (hts _ m_ff1c70ae)) nm_Row_at (by rw [hT]; exact ra9) rb9 rc9 (g := F0 m 55 ls [.int 1, .int v15, .ref b16]) rfl (argsL := [.int v15, .int 1]) (rest := []) rfl rfl (by rw [hb]; exact (xb_d D_Machine_call 30 rfl))) (ok_Row_at l hfl D A σ b16 v15 1 h9 _ hw) (hml.trans hl.1.symm) (by rw [hb]; exact (xb_d D_Machine_call 30 rfl)) (Nat.le_of_ble_eq_true rfl) (Nat.le_of_ble_eq_true rfl) (Nat.le_of_ble_eq_true rfl) (show k ≤ MC by omega) (show n ≤ MS by omega) (xt_w1 hB.1 m_ff1c70ae) (xt_cdOf hB.1 m_ff1c70ae) (hts _ m_c1bef504) hB hR hS hA (fun vv h18 H locs hq hEh18 hR hS => ?_)
    obtain ⟨r19, rfl, hw⟩ := hq
    have hw := hw hEh18
    have hE := hE.tr hEh18
    refine W.eq (g2 := F0 m 58 ls [.int r19]) rfl ?_
    refine lv_istore hx hb (xb_d D_Machine_call 31 rfl) hl (by decide) rfl (fun ls hl => ?_)
    have hl : lv_has ls 10 [(7, .int r19), (6, .int v15), (5, .int r10), (4, .ref b8), (3, .ref r6), (0, .ref x0), (1, .int x1), (2, .int x2)] := hl
    refine lv_aload_n hx hb (xb_d D_Machine_call 32 rfl) rfl (lv_at hl 5 rfl) ?_
    have hk2 : xb_k h5 x0 = 8 := hEh5.k hk2
    have hk2 : xb_k h9 x0 = 8 := hEh9.k hk2
    have hk2 : xb_k h18 x0 = 8 := hEh18.k hk2
    refine xb_getI (C := R_Machine) (T := F_Machine) (N := 18) hx hb 7 10 hts fin_Machine hown hR hk2 (by decide) rfl (by decide) rfl (hts _ m_79cf62f6) (fun _ h9 => h9) (xb_d D_Machine_call 33 rfl) ?_
    refine lv_iload hx hb (xb_d D_Machine_call 34 rfl) (lv_at hl 0 rfl) ?_
    refine lv_iadd hx hb (xb_d D_Machine_call 35 rfl) ?_
    refine lv_aload hx hb (xb_d D_Machine_call 36 rfl) (lv_at hl 3 rfl) ?_
    have hk11 : xb_k h18 b8 = 3 := hEh18.k hk11
    refine xb_getP (C := R_StackModule) (T := F_StackModule) (N := 19) hx hb 2 11 hts fin_StackModule hown hR hk11 (by decide) rfl (by decide) rfl (hts _ m_5ec583bc) (fun _ h9 => h9) (xb_d D_Machine_call 37 rfl) ?_
    obtain ⟨b20, eb20, hw⟩ := hw
    refine xb_some eb20 ?_
    refine lv_iload hx hb (xb_d D_Machine_call 38 rfl) (lv_at hl 1 rfl) ?_
    refine lv_iconst (v := 4) hx hb (xb_d D_Machine_call 39 rfl) (by decide) ?_
    obtain ⟨hk21, hw⟩ := hw
    refine xb_call0 (D := D) (A := A) (σ := σ) (h := h18) (d := 2) (maxL := 3) (rest := [.int ((xb_i h18 x0 10) + r19)]) (av := [.ref b20, .int v15, .int 4]) (fun T hT X => by obtain ⟨cb9, ra9, rb9, rc9⟩ := xb_recv (ci := 1) hR rfl hk21 (by decide); exact xt_invV X hx hown (hts _ m_f57edc11) (hts _ m_8e233096) (hts _ m_27eed10c) (xt_sigOf (hts _ m_ff1c70ae)) nm_Row_at (by rw [hT]; exact ra9) rb9 rc9 (g := F0 m 75 ls [.int 4, .int v15, .ref b20, .int ((xb_i h18 x0 10) + r19)]) rfl (argsL := [.int v15, .int 4]) (rest := [.int ((xb_i h18 x0 10) + r19)]) rfl rfl (by rw [hb]; exact (xb_d D_Machine_call 40 rfl))) (ok_Row_at l hfl D A σ b20 v15 4 h18 _ hw) (hml.trans hl.1.symm) (by rw [hb]; exact (xb_d D_Machine_call 40 rfl)) (Nat.le_of_ble_eq_true rfl) (Nat.le_of_ble_eq_true rfl) (Nat.le_of_ble_eq_true rfl) (show k ≤ MC by omega) (show n ≤ MS by omega) (xt_w1 hB.1 m_ff1c70ae) (xt_cdOf hB.1 m_ff1c70ae) (hts _ m_c1bef504) hB hR hS hA (fun vv h22 H locs hq hEh22 hR hS => ?_)
    obtain ⟨r23, rfl, hw⟩ := hq
    have hw := hw hEh22
    have hE := hE.tr hEh22
    refine W.eq (g2 := F0 m 78 ls [.int r23, .int ((xb_i h18 x0 10) + r19)]) rfl ?_
    refine lv_iadd hx hb (xb_d D_Machine_call 41 rfl) ?_
    obtain ⟨v24, ev24⟩ : ∃ x : Int32, x = (((xb_i h18 x0 10) + r19) + r23) := ⟨_, rfl⟩
    have hw := hw v24 ev24
    refine xt_numi (y := v24) ev24.symm ?_
    refine lv_istore hx hb (xb_d D_Machine_call 42 rfl) hl (by decide) rfl (fun ls hl => ?_)
    have hl : lv_has ls 10 [(8, .int v24), (7, .int r19), (6, .int v15), (5, .int r10), (4, .ref b8), (3, .ref r6), (0, .ref x0), (1, .int x1), (2, .int x2)] := hl
    refine lv_aload_n hx hb (xb_d D_Machine_call 43 rfl) rfl (lv_at hl 6 rfl) ?_
    have hk2 : xb_k h22 x0 = 8 := hEh22.k hk2
    refine xb_getI (C := R_Machine) (T := F_Machine) (N := 18) hx hb 7 4 hts fin_Machine hown hR hk2 (by decide) rfl (by decide) rfl (hts _ m_61f414b6) (fun _ h9 => h9) (xb_d D_Machine_call 44 rfl) ?_
    refine lv_sipush (v := 200) hx hb (xb_d D_Machine_call 45 rfl) (by decide) ?_
    refine lv_icmp_ge (tgt := 99) hx hb (xb_d D_Machine_call 46 rfl) rfl (fun hc25 => ?_) (fun hc25 => ?_)
    · have hw := hw.1 hc25
      exact am_Machine_call_L99 l hfl D A σ MC MS h0 Qr x0 h22 bc bs hw p e s m args below meth c hC H locs ls k n hE (lv_sub hl [6] rfl) hR hS (by omega) (by omega)
    · have hw := hw.2 hc25
      refine lv_iload hx hb (xb_d D_Machine_call 47 rfl) (lv_at hl 0 rfl) ?_
      refine lv_sipush (v := 16384) hx hb (xb_d D_Machine_call 48 rfl) (by decide) ?_
      refine lv_icmp_le (tgt := 106) hx hb (xb_d D_Machine_call 49 rfl) rfl (fun hc26 => ?_) (fun hc26 => ?_)
      · have hw := hw.1 hc26
        refine lv_aload_n hx hb (xb_d D_Machine_call 54 rfl) rfl (lv_at hl 6 rfl) ?_
        refine lv_iload hx hb (xb_d D_Machine_call 55 rfl) (lv_at hl 0 rfl) ?_
        refine xb_call (D := D) (A := A) (σ := σ) (h := h22) (d := 3) (mc := bc) (ms := bs) (maxL := 2) (rest := []) (av := [.ref x0, .int v24]) (fun T hT X => by obtain ⟨cb9, ra9, rb9, rc9⟩ := xb_recv (ci := 7) hR rfl hk2 (by decide); exact xt_invV X hx hown (hts _ m_2051d47a) (hts _ m_6ef13cc2) (hts _ m_5d2c6006) (xt_sigOf (hts _ m_bdd998e7)) nm_Machine_makeRoom (by rw [hT]; exact ra9) rb9 rc9 (g := F0 m 109 ls [.int v24, .ref x0]) rfl (argsL := [.int v24]) (rest := []) rfl rfl (by rw [hb]; exact (xb_d D_Machine_call 56 rfl))) (ok_Machine_makeRoom l hfl D A σ x0 v24 h22 bc bs _ hw) (hml.trans hl.1.symm) (by rw [hb]; exact (xb_d D_Machine_call 56 rfl)) (Nat.le_of_ble_eq_true rfl) (Nat.le_of_ble_eq_true rfl) (Nat.le_of_ble_eq_true rfl) (show k + bc ≤ MC by omega) (show n + bs ≤ MS by omega) (xt_w1 hB.1 m_bdd998e7) (xt_cdOf hB.1 m_bdd998e7) (hts _ m_73451f9b) hB hR hS hA (fun vv h27 bc28 bs28 kk28 nn28 H locs hk28 hn28 hq hEh27 hR hS => ?_) (fun XX ax h27 bc28 bs28 kk28 nn28 H locs hk28 hn28 hq hEh27 hex hR hS => ?_)
        · obtain ⟨rfl, hw⟩ := hq
          have hw := hw hEh27
          have hE := hE.tr hEh27
          refine W.eq (g2 := F0 m 112 ls []) rfl ?_
          refine lv_aload_n hx hb (xb_d D_Machine_call 57 rfl) rfl (lv_at hl 6 rfl) ?_
          have hk2 : xb_k h27 x0 = 8 := hEh27.k hk2
          refine xb_getP (C := R_Machine) (T := F_Machine) (N := 18) hx hb 7 9 hts fin_Machine hown hR hk2 (by decide) rfl (by decide) rfl (hts _ m_6904195b) (fun _ h9 => h9) (xb_d D_Machine_call 58 rfl) ?_
          obtain ⟨b29, eb29, hw⟩ := hw
          refine xb_some eb29 ?_
          refine lv_aload_n hx hb (xb_d D_Machine_call 59 rfl) rfl (lv_at hl 6 rfl) ?_
          refine xb_getI (C := R_Machine) (T := F_Machine) (N := 18) hx hb 7 10 hts fin_Machine hown hR hk2 (by decide) rfl (by decide) rfl (hts _ m_79cf62f6) (fun _ h9 => h9) (xb_d D_Machine_call 60 rfl) ?_
          refine lv_aload_n hx hb (xb_d D_Machine_call 61 rfl) rfl (lv_at hl 6 rfl) ?_
          refine xb_getI (C := R_Machine) (T := F_Machine) (N := 18) hx hb 7 10 hts fin_Machine hown hR hk2 (by decide) rfl (by decide) rfl (hts _ m_79cf62f6) (fun _ h9 => h9) (xb_d D_Machine_call 62 rfl) ?_
          refine lv_iload hx hb (xb_d D_Machine_call 63 rfl) (lv_at hl 1 rfl) ?_
          refine lv_iadd hx hb (xb_d D_Machine_call 64 rfl) ?_
          refine lv_lconst (v := 0) hx hb (xb_d D_Machine_call 65 rfl) (by decide) ?_
          refine xb_call0 (D := D) (A := A) (σ := σ) (h := h27) (d := 3) (maxL := 6) (rest := []) (av := [.ref b29, .int (xb_i h27 x0 10), .int ((xb_i h27 x0 10) + r19), .long 0]) (fun T hT X => xt_invS X hx hown (hts _ m_203d63fb) (hts _ m_4775e2a5) (hts _ m_b999e92a) (xt_sgS (hts _ m_afc58b1e)).1 (xt_sgS (hts _ m_afc58b1e)).2 nm_Arrays_fill1 (g := F0 m 128 ls [.long 0, .int ((xb_i h27 x0 10) + r19), .int (xb_i h27 x0 10), .ref b29]) rfl (argsL := [.ref b29, .int (xb_i h27 x0 10), .int ((xb_i h27 x0 10) + r19), .long 0]) (rest := []) rfl rfl (by rw [hb]; exact (xb_d D_Machine_call 66 rfl))) (ok_Arrays_fill1 l hfl D A σ b29 (xb_i h27 x0 10) ((xb_i h27 x0 10) + r19) 0 h27 _ hw) (hml.trans hl.1.symm) (by rw [hb]; exact (xb_d D_Machine_call 66 rfl)) (Nat.le_of_ble_eq_true rfl) (Nat.le_of_ble_eq_true rfl) (Nat.le_of_ble_eq_true rfl) (show (k + kk28) ≤ MC by omega) (show (n + nn28) ≤ MS by omega) (xt_w1 hB.1 m_afc58b1e) (xt_cdOf hB.1 m_afc58b1e) (hts _ m_b999e92a) hB hR hS hA (fun vv h30 H locs hq hEh30 hR hS => ?_)
          obtain ⟨rfl, hw⟩ := hq
          have hw := hw hEh30
          have hE := hE.tr hEh30
          refine W.eq (g2 := F0 m 131 ls []) rfl ?_
          refine lv_aload_n hx hb (xb_d D_Machine_call 67 rfl) rfl (lv_at hl 6 rfl) ?_
          have hk2 : xb_k h30 x0 = 8 := hEh30.k hk2
          refine xb_getI (C := R_Machine) (T := F_Machine) (N := 18) hx hb 7 4 hts fin_Machine hown hR hk2 (by decide) rfl (by decide) rfl (hts _ m_61f414b6) (fun _ h9 => h9) (xb_d D_Machine_call 68 rfl) ?_
          refine lv_if_le (tgt := 154) hx hb (xb_d D_Machine_call 69 rfl) rfl (fun hc32 => ?_) (fun hc32 => ?_)
          · have hw := hw.1 hc32
            exact am_Machine_call_L154 l hfl D A σ MC MS h0 Qr x0 r6 b8 r10 v15 r19 h30 bc28 bs28 hw p e s m args below meth c hC H locs ls (k + kk28) (n + nn28) hE (lv_sub hl [6, 5, 4, 3, 2, 1] rfl) hR hS (by omega) (by omega)
          · have hw := hw.2 hc32
            refine lv_aload_n hx hb (xb_d D_Machine_call 70 rfl) rfl (lv_at hl 6 rfl) ?_
            refine xb_getP (C := R_Machine) (T := F_Machine) (N := 18) hx hb 7 11 hts fin_Machine hown hR hk2 (by decide) rfl (by decide) rfl (hts _ m_ca1fb183) (fun _ h9 => h9) (xb_d D_Machine_call 71 rfl) ?_
            obtain ⟨b33, eb33, hw⟩ := hw
            refine xb_some eb33 ?_
            refine lv_aload_n hx hb (xb_d D_Machine_call 72 rfl) rfl (lv_at hl 6 rfl) ?_
            refine xb_getI (C := R_Machine) (T := F_Machine) (N := 18) hx hb 7 4 hts fin_Machine hown hR hk2 (by decide) rfl (by decide) rfl (hts _ m_61f414b6) (fun _ h9 => h9) (xb_d D_Machine_call 73 rfl) ?_
            refine lv_iconst (v := 1) hx hb (xb_d D_Machine_call 74 rfl) (by decide) ?_
            refine lv_isub hx hb (xb_d D_Machine_call 75 rfl) ?_
            refine lv_iconst (v := 5) hx hb (xb_d D_Machine_call 76 rfl) (by decide) ?_
            refine lv_imul hx hb (xb_d D_Machine_call 77 rfl) ?_
            refine lv_iconst (v := 2) hx hb (xb_d D_Machine_call 78 rfl) (by decide) ?_
            refine lv_iadd hx hb (xb_d D_Machine_call 79 rfl) ?_
            refine lv_iload_n hx hb (xb_d D_Machine_call 80 rfl) rfl (lv_at hl 8 rfl) ?_
            obtain ⟨hk34, hw⟩ := hw
            obtain ⟨hi35, hw⟩ := hw
            refine xb_iast hx hb hR hS hk34 hi35 (xb_d D_Machine_call 81 rfl) (fun H locs hR hS => ?_)
            obtain ⟨h36, eh36⟩ : ∃ x : xb_H, x = xb_I h30 b33 (Int32.toNatClampNeg ((((xb_i h30 x0 4) - 1) * 5) + 2)) x2 := ⟨_, rfl⟩
            rw [← eh36] at hR
            have hw := hw h36 eh36
            have hE : xb_ext h0 h36 := by rw [eh36]; exact hE
            exact am_Machine_call_L154 l hfl D A σ MC MS h0 Qr x0 r6 b8 r10 v15 r19 h36 bc28 bs28 hw p e s m args below meth c hC H locs ls (k + kk28) (n + nn28) hE (lv_sub hl [6, 5, 4, 3, 2, 1] rfl) hR hS (by omega) (by omega)
        · exact False.elim hq
      · have hw := hw.2 hc26
        exact am_Machine_call_L99 l hfl D A σ MC MS h0 Qr x0 h22 bc bs hw p e s m args below meth c hC H locs ls k n hE (lv_sub hl [6] rfl) hR hS (by omega) (by omega)
  · have hw := hw.2 hc1
    refine lv_aload_n hx hb (xb_d D_Machine_call 3 rfl) rfl (lv_at hl 0 rfl) ?_
    refine lv_iload_n hx hb (xb_d D_Machine_call 4 rfl) rfl (lv_at hl 2 rfl) ?_
    obtain ⟨hk37, hw⟩ := hw
    refine xb_call (D := D) (A := A) (σ := σ) (h := h) (d := 5) (mc := bc) (ms := bs) (maxL := 2) (rest := []) (av := [.ref x0, .int x2]) (fun T hT X => by obtain ⟨cb9, ra9, rb9, rc9⟩ := xb_recv (ci := 7) hR rfl hk37 (by decide); exact xt_invV X hx hown (hts _ m_e14bc95b) (hts _ m_55509cb2) (hts _ m_b8a1c73a) (xt_sigOf (hts _ m_1c382bc9)) nm_Machine_callHost (by rw [hT]; exact ra9) rb9 rc9 (g := F0 m 9 ls [.int x2, .ref x0]) rfl (argsL := [.int x2]) (rest := []) rfl rfl (by rw [hb]; exact (xb_d D_Machine_call 5 rfl))) (ok_Machine_callHost l hfl D A σ x0 x2 h bc bs _ hw) (hml.trans hl.1.symm) (by rw [hb]; exact (xb_d D_Machine_call 5 rfl)) (Nat.le_of_ble_eq_true rfl) (Nat.le_of_ble_eq_true rfl) (Nat.le_of_ble_eq_true rfl) (show k + bc ≤ MC by omega) (show n + bs ≤ MS by omega) (xt_w1 hB.1 m_1c382bc9) (xt_cdOf hB.1 m_1c382bc9) (hts _ m_73451f9b) hB hR hS hA (fun vv h38 bc39 bs39 kk39 nn39 H locs hk39 hn39 hq hEh38 hR hS => ?_) (fun XX ax h38 bc39 bs39 kk39 nn39 H locs hk39 hn39 hq hEh38 hex hR hS => ?_)
    · obtain ⟨rfl, hw⟩ := hq
      have hw := hw hEh38
      have hE := hE.tr hEh38
      refine W.eq (g2 := F0 m 12 ls []) rfl ?_
      exact xb_vret bc39 bs39 hx hb hr hlocks (show (k + kk39) + bc39 ≤ MC by omega) (show (n + nn39) + bs39 ≤ MS by omega) hE hR hS (xb_d D_Machine_call 6 rfl) hw
    · exact False.elim hq

theorem m_b9fbe8ac : (.methodLink "StackHost$Machine" 338 y_Machine_converted : Cond) ∈ xt_tbl := xt_in (xt_t8 (List.mem_of_getElem? (i := 42) (by decide +kernel))) (by decide +kernel)
theorem m_9cfa5b9e : (.instanceMethod y_Machine_converted : Cond) ∈ xt_tbl := xt_in (xt_t8 (List.mem_of_getElem? (i := 44) (by decide +kernel))) (by decide +kernel)
theorem m_56a142af : (.selects "StackHost$Machine" y_Machine_converted y_Machine_converted : Cond) ∈ xt_tbl := xt_in (xt_v7 (q := (⟨"StackHost$Machine", "converted", "(IJ)J"⟩, 18)) (List.mem_of_getElem? (i := 2) (by decide +kernel))) (by decide +kernel)
theorem m_125e82fa : (.code y_Machine_converted b_Machine_converted 4 (some .long) : Cond) ∈ xt_tbl := xt_in (xt_t8 (List.mem_of_getElem? (i := 45) (by decide +kernel))) (by decide +kernel)
theorem m_9e4fc57f : (.methodLink "StackHost$Machine" 334 y_Machine_truncate : Cond) ∈ xt_tbl := xt_in (xt_t8 (List.mem_of_getElem? (i := 16) (by decide +kernel))) (by decide +kernel)
theorem m_6eb19272 : (.instanceMethod y_Machine_truncate : Cond) ∈ xt_tbl := xt_in (xt_t8 (List.mem_of_getElem? (i := 18) (by decide +kernel))) (by decide +kernel)
theorem m_a4413c7f : (.selects "StackHost$Machine" y_Machine_truncate y_Machine_truncate : Cond) ∈ xt_tbl := xt_in (xt_v6 (q := (⟨"StackHost$Machine", "truncate", "(LStackHost$Format;JIZ)V"⟩, 18)) (List.mem_of_getElem? (i := 15) (by decide +kernel))) (by decide +kernel)
theorem m_9d6196c5 : (.code y_Machine_truncate b_Machine_truncate 9 none : Cond) ∈ xt_tbl := xt_in (xt_t8 (List.mem_of_getElem? (i := 19) (by decide +kernel))) (by decide +kernel)
theorem nm_Machine_converted : xt_nm y_Machine_converted 2 := ⟨by decide +kernel, by decide +kernel⟩
theorem nm_Machine_truncate : xt_nm y_Machine_truncate 4 := ⟨by decide +kernel, by decide +kernel⟩
set_option maxRecDepth 100000 in
def T_Machine_convert : List (Nat × Instr × Nat) := [(0, .aload_n 0, 1), (1, .getfield 35, 3), (4, .aload_n 0, 1), (5, .getfield 53, 3), (8, .iconst 1, 1), (9, .isub, 1), (10, .laload, 1), (11, .lstore_n 2, 1), (12, .iload_n 1, 1), (13, .tableswitch 159 168 177 #[55, 55, 81, 81, 159, 159, 107, 107, 133, 133], 55), (68, .aload_n 0, 1), (69, .aload_n 0, 1), (70, .getfield 16, 3), (73, .lload_n 2, 1), (74, .bipush 32, 2), (76, .iload_n 1, 1), (77, .sipush 168, 3), (80, .if_icmp .ne 7, 3), (83, .iconst 1, 1), (84, .goto 4, 3), (87, .iconst 0, 1), (88, .invokevirtual 334, 3), (91, .goto 98, 3), (94, .aload_n 0, 1), (95, .aload_n 0, 1), (96, .getfield 24, 3), (99, .lload_n 2, 1), (100, .bipush 32, 2), (102, .iload_n 1, 1), (103, .sipush 170, 3), (106, .if_icmp .ne 7, 3), (109, .iconst 1, 1), (110, .goto 4, 3), (113, .iconst 0, 1), (114, .invokevirtual 334, 3), (117, .goto 72, 3), (120, .aload_n 0, 1), (121, .aload_n 0, 1), (122, .getfield 16, 3), (125, .lload_n 2, 1), (126, .bipush 64, 2), (128, .iload_n 1, 1), (129, .sipush 174, 3), (132, .if_icmp .ne 7, 3), (135, .iconst 1, 1), (136, .goto 4, 3), (139, .iconst 0, 1), (140, .invokevirtual 334, 3), (143, .goto 46, 3), (146, .aload_n 0, 1), (147, .aload_n 0, 1), (148, .getfield 24, 3), (151, .lload_n 2, 1), (152, .bipush 64, 2), (154, .iload_n 1, 1), (155, .sipush 176, 3), (158, .if_icmp .ne 7, 3), (161, .iconst 1, 1), (162, .goto 4, 3), (165, .iconst 0, 1), (166, .invokevirtual 334, 3), (169, .goto 20, 3), (172, .aload_n 0, 1), (173, .getfield 35, 3), (176, .aload_n 0, 1), (177, .getfield 53, 3), (180, .iconst 1, 1), (181, .isub, 1), (182, .aload_n 0, 1), (183, .iload_n 1, 1), (184, .lload_n 2, 1), (185, .invokevirtual 338, 3), (188, .lastore, 1), (189, .return_, 1)]
theorem D_Machine_convert : ∀ q ∈ T_Machine_convert, decode b_Machine_convert q.1 = .ok (q.2.1, q.2.2) := by decide +kernel

set_option maxHeartbeats 4000000 in
set_option maxRecDepth 100000 in
theorem am_Machine_convert_L189 (l : Launch) (hfl : l.flags = pinnedFlags ++ [noTraceFlag]) (D : va_G) (A : Nat → Prop) (σ MC MS : Nat) (h0 : xb_H) (Qr : xb_H → Prop) (h : xb_H) (hw : w_Machine_convert_L189 Qr h) : xb_am l D A σ 6 MC MS h0 (fun v h _ _ => v = none ∧ Qr h) (fun _ _ _ _ => False) y_Machine_convert.cls y_Machine_convert.name b_Machine_convert 4 ([] : List ExceptionTableEntry) none 189 [] [] h 0 0 := by
  unfold w_Machine_convert_L189 at hw
  intro p e s m args below meth c hC H locs ls k n hE hl hR hS hk hn
  obtain ⟨hx, hb, hown, hlocks, htab, hml, hr, hB, hA, hnm⟩ := id hC
  have hts := hB.1.1.at args
  exact xb_vret 0 0 hx hb hr hlocks (show k + 0 ≤ MC by omega) (show n + 0 ≤ MS by omega) hE hR hS (xb_d D_Machine_convert 73 rfl) hw

set_option maxHeartbeats 4000000 in
set_option maxRecDepth 100000 in
theorem am_Machine_convert_L172 (l : Launch) (hfl : l.flags = pinnedFlags ++ [noTraceFlag]) (D : va_G) (A : Nat → Prop) (σ MC MS : Nat) (h0 : xb_H) (Qr : xb_H → Prop) (x0 : Nat) (x1 : Int32) (x2 : Int64) (h : xb_H) (hw : w_Machine_convert_L172 Qr x0 x1 x2 h) : xb_am l D A σ 6 MC MS h0 (fun v h _ _ => v = none ∧ Qr h) (fun _ _ _ _ => False) y_Machine_convert.cls y_Machine_convert.name b_Machine_convert 4 ([] : List ExceptionTableEntry) none 172 [(0, .ref x0), (1, .int x1), (2, .long x2)] [] h 0 0 := by
  unfold w_Machine_convert_L172 at hw
  intro p e s m args below meth c hC H locs ls k n hE hl hR hS hk hn
  obtain ⟨hx, hb, hown, hlocks, htab, hml, hr, hB, hA, hnm⟩ := id hC
  have hts := hB.1.1.at args
  refine lv_aload_n hx hb (xb_d D_Machine_convert 62 rfl) rfl (lv_at hl 0 rfl) ?_
  obtain ⟨hk1, hw⟩ := hw
  refine xb_getP (C := R_Machine) (T := F_Machine) (N := 18) hx hb 7 9 hts fin_Machine hown hR hk1 (by decide) rfl (by decide) rfl (hts _ m_6904195b) (fun _ h9 => h9) (xb_d D_Machine_convert 63 rfl) ?_
  obtain ⟨b2, eb2, hw⟩ := hw
  refine xb_some eb2 ?_
  refine lv_aload_n hx hb (xb_d D_Machine_convert 64 rfl) rfl (lv_at hl 0 rfl) ?_
  refine xb_getI (C := R_Machine) (T := F_Machine) (N := 18) hx hb 7 10 hts fin_Machine hown hR hk1 (by decide) rfl (by decide) rfl (hts _ m_79cf62f6) (fun _ h9 => h9) (xb_d D_Machine_convert 65 rfl) ?_
  refine lv_iconst (v := 1) hx hb (xb_d D_Machine_convert 66 rfl) (by decide) ?_
  refine lv_isub hx hb (xb_d D_Machine_convert 67 rfl) ?_
  refine lv_aload_n hx hb (xb_d D_Machine_convert 68 rfl) rfl (lv_at hl 0 rfl) ?_
  refine lv_iload_n hx hb (xb_d D_Machine_convert 69 rfl) rfl (lv_at hl 1 rfl) ?_
  refine lv_lload_n hx hb (xb_d D_Machine_convert 70 rfl) rfl (lv_at hl 2 rfl) ?_
  refine xb_call0 (D := D) (A := A) (σ := σ) (h := h) (d := 5) (maxL := 4) (rest := [.int ((xb_i h x0 10) - 1), .ref b2]) (av := [.ref x0, .int x1, .long x2]) (fun T hT X => by obtain ⟨cb9, ra9, rb9, rc9⟩ := xb_recv (ci := 7) hR rfl hk1 (by decide); exact xt_invV X hx hown (hts _ m_b9fbe8ac) (hts _ m_9cfa5b9e) (hts _ m_56a142af) (xt_sigOf (hts _ m_125e82fa)) nm_Machine_converted (by rw [hT]; exact ra9) rb9 rc9 (g := F0 m 185 ls [.long x2, .int x1, .ref x0, .int ((xb_i h x0 10) - 1), .ref b2]) rfl (argsL := [.int x1, .long x2]) (rest := [.int ((xb_i h x0 10) - 1), .ref b2]) rfl rfl (by rw [hb]; exact (xb_d D_Machine_convert 71 rfl))) (ok_Machine_converted l hfl D A σ x0 x1 x2 h _ hw) (hml.trans hl.1.symm) (by rw [hb]; exact (xb_d D_Machine_convert 71 rfl)) (Nat.le_of_ble_eq_true rfl) (Nat.le_of_ble_eq_true rfl) (Nat.le_of_ble_eq_true rfl) (show k ≤ MC by omega) (show n ≤ MS by omega) (xt_w1 hB.1 m_125e82fa) (xt_cdOf hB.1 m_125e82fa) (hts _ m_73451f9b) hB hR hS hA (fun vv h3 H locs hq hEh3 hR hS => ?_)
  obtain ⟨r4, rfl, hw⟩ := hq
  have hw := hw hEh3
  have hE := hE.tr hEh3
  refine W.eq (g2 := F0 m 188 ls [.long r4, .int ((xb_i h x0 10) - 1), .ref b2]) rfl ?_
  obtain ⟨hk5, hw⟩ := hw
  obtain ⟨hi6, hw⟩ := hw
  refine xb_last hx hb hR hS hk5 hi6 (xb_d D_Machine_convert 72 rfl) (fun H locs hR hS => ?_)
  obtain ⟨h7, eh7⟩ : ∃ x : xb_H, x = xb_L h3 b2 (Int32.toNatClampNeg ((xb_i h x0 10) - 1)) r4 := ⟨_, rfl⟩
  rw [← eh7] at hR
  have hw := hw h7 eh7
  have hE : xb_ext h0 h7 := by rw [eh7]; exact hE
  exact am_Machine_convert_L189 l hfl D A σ MC MS h0 Qr h7 hw p e s m args below meth c hC H locs ls k n hE (lv_sub hl [] rfl) hR hS (by omega) (by omega)

set_option maxHeartbeats 4000000 in
set_option maxRecDepth 100000 in
theorem am_Machine_convert_L166 (l : Launch) (hfl : l.flags = pinnedFlags ++ [noTraceFlag]) (D : va_G) (A : Nat → Prop) (σ MC MS : Nat) (h0 : xb_H) (Qr : xb_H → Prop) (y0 : Int32) (y1 : Int32) (y2 : Int64) (y3 : Nat) (y4 : Nat) (h : xb_H) (hw : w_Machine_convert_L166 Qr y0 y1 y2 y3 y4 h) : xb_am l D A σ 6 MC MS h0 (fun v h _ _ => v = none ∧ Qr h) (fun _ _ _ _ => False) y_Machine_convert.cls y_Machine_convert.name b_Machine_convert 4 ([] : List ExceptionTableEntry) none 166 [] [.int y0, .int y1, .long y2, .ref y3, .ref y4] h 0 0 := by
  unfold w_Machine_convert_L166 at hw
  intro p e s m args below meth c hC H locs ls k n hE hl hR hS hk hn
  obtain ⟨hx, hb, hown, hlocks, htab, hml, hr, hB, hA, hnm⟩ := id hC
  have hts := hB.1.1.at args
  obtain ⟨hk1, hw⟩ := hw
  refine xb_call0 (D := D) (A := A) (σ := σ) (h := h) (d := 5) (maxL := 9) (rest := []) (av := [.ref y4, .ref y3, .long y2, .int y1, .int y0]) (fun T hT X => by obtain ⟨cb9, ra9, rb9, rc9⟩ := xb_recv (ci := 7) hR rfl hk1 (by decide); exact xt_invV X hx hown (hts _ m_9e4fc57f) (hts _ m_6eb19272) (hts _ m_a4413c7f) (xt_sigOf (hts _ m_9d6196c5)) nm_Machine_truncate (by rw [hT]; exact ra9) rb9 rc9 (g := F0 m 166 ls [.int y0, .int y1, .long y2, .ref y3, .ref y4]) rfl (argsL := [.ref y3, .long y2, .int y1, .int y0]) (rest := []) rfl rfl (by rw [hb]; exact (xb_d D_Machine_convert 60 rfl))) (ok_Machine_truncate l hfl D A σ y4 y3 y2 y1 y0 h _ hw) (hml.trans hl.1.symm) (by rw [hb]; exact (xb_d D_Machine_convert 60 rfl)) (Nat.le_of_ble_eq_true rfl) (Nat.le_of_ble_eq_true rfl) (Nat.le_of_ble_eq_true rfl) (show k ≤ MC by omega) (show n ≤ MS by omega) (xt_w1 hB.1 m_9d6196c5) (xt_cdOf hB.1 m_9d6196c5) (hts _ m_73451f9b) hB hR hS hA (fun vv h2 H locs hq hEh2 hR hS => ?_)
  obtain ⟨rfl, hw⟩ := hq
  have hw := hw hEh2
  have hE := hE.tr hEh2
  refine W.eq (g2 := F0 m 169 ls []) rfl ?_
  refine lv_goto (tgt := 189) hx hb (xb_d D_Machine_convert 61 rfl) rfl ?_
  exact am_Machine_convert_L189 l hfl D A σ MC MS h0 Qr h2 hw p e s m args below meth c hC H locs ls k n hE (lv_sub hl [] rfl) hR hS (by omega) (by omega)

set_option maxHeartbeats 4000000 in
set_option maxRecDepth 100000 in
theorem am_Machine_convert_L146 (l : Launch) (hfl : l.flags = pinnedFlags ++ [noTraceFlag]) (D : va_G) (A : Nat → Prop) (σ MC MS : Nat) (h0 : xb_H) (Qr : xb_H → Prop) (x0 : Nat) (x1 : Int32) (x2 : Int64) (h : xb_H) (hw : w_Machine_convert_L146 Qr x0 x1 x2 h) : xb_am l D A σ 6 MC MS h0 (fun v h _ _ => v = none ∧ Qr h) (fun _ _ _ _ => False) y_Machine_convert.cls y_Machine_convert.name b_Machine_convert 4 ([] : List ExceptionTableEntry) none 146 [(0, .ref x0), (1, .int x1), (2, .long x2)] [] h 0 0 := by
  unfold w_Machine_convert_L146 at hw
  intro p e s m args below meth c hC H locs ls k n hE hl hR hS hk hn
  obtain ⟨hx, hb, hown, hlocks, htab, hml, hr, hB, hA, hnm⟩ := id hC
  have hts := hB.1.1.at args
  refine lv_aload_n hx hb (xb_d D_Machine_convert 49 rfl) rfl (lv_at hl 0 rfl) ?_
  refine lv_aload_n hx hb (xb_d D_Machine_convert 50 rfl) rfl (lv_at hl 0 rfl) ?_
  obtain ⟨hk1, hw⟩ := hw
  refine xb_getP (C := R_Machine) (T := F_Machine) (N := 18) hx hb 7 2 hts fin_Machine hown hR hk1 (by decide) rfl (by decide) rfl (hts _ m_ba1eb42f) (fun _ h9 => h9) (xb_d D_Machine_convert 51 rfl) ?_
  obtain ⟨b2, eb2, hw⟩ := hw
  refine xb_some eb2 ?_
  refine lv_lload_n hx hb (xb_d D_Machine_convert 52 rfl) rfl (lv_at hl 2 rfl) ?_
  refine lv_bipush (v := 64) hx hb (xb_d D_Machine_convert 53 rfl) (by decide) ?_
  refine lv_iload_n hx hb (xb_d D_Machine_convert 54 rfl) rfl (lv_at hl 1 rfl) ?_
  refine lv_sipush (v := 176) hx hb (xb_d D_Machine_convert 55 rfl) (by decide) ?_
  refine lv_icmp_ne (tgt := 165) hx hb (xb_d D_Machine_convert 56 rfl) rfl (fun hc3 => ?_) (fun hc3 => ?_)
  · have hw := hw.1 hc3
    refine lv_iconst (v := 0) hx hb (xb_d D_Machine_convert 59 rfl) (by decide) ?_
    exact am_Machine_convert_L166 l hfl D A σ MC MS h0 Qr 0 64 x2 b2 x0 h hw p e s m args below meth c hC H locs ls k n hE (lv_sub hl [] rfl) hR hS (by omega) (by omega)
  · have hw := hw.2 hc3
    refine lv_iconst (v := 1) hx hb (xb_d D_Machine_convert 57 rfl) (by decide) ?_
    refine lv_goto (tgt := 166) hx hb (xb_d D_Machine_convert 58 rfl) rfl ?_
    exact am_Machine_convert_L166 l hfl D A σ MC MS h0 Qr 1 64 x2 b2 x0 h hw p e s m args below meth c hC H locs ls k n hE (lv_sub hl [] rfl) hR hS (by omega) (by omega)

set_option maxHeartbeats 4000000 in
set_option maxRecDepth 100000 in
theorem am_Machine_convert_L140 (l : Launch) (hfl : l.flags = pinnedFlags ++ [noTraceFlag]) (D : va_G) (A : Nat → Prop) (σ MC MS : Nat) (h0 : xb_H) (Qr : xb_H → Prop) (y0 : Int32) (y1 : Int32) (y2 : Int64) (y3 : Nat) (y4 : Nat) (h : xb_H) (hw : w_Machine_convert_L140 Qr y0 y1 y2 y3 y4 h) : xb_am l D A σ 6 MC MS h0 (fun v h _ _ => v = none ∧ Qr h) (fun _ _ _ _ => False) y_Machine_convert.cls y_Machine_convert.name b_Machine_convert 4 ([] : List ExceptionTableEntry) none 140 [] [.int y0, .int y1, .long y2, .ref y3, .ref y4] h 0 0 := by
  unfold w_Machine_convert_L140 at hw
  intro p e s m args below meth c hC H locs ls k n hE hl hR hS hk hn
  obtain ⟨hx, hb, hown, hlocks, htab, hml, hr, hB, hA, hnm⟩ := id hC
  have hts := hB.1.1.at args
  obtain ⟨hk1, hw⟩ := hw
  refine xb_call0 (D := D) (A := A) (σ := σ) (h := h) (d := 5) (maxL := 9) (rest := []) (av := [.ref y4, .ref y3, .long y2, .int y1, .int y0]) (fun T hT X => by obtain ⟨cb9, ra9, rb9, rc9⟩ := xb_recv (ci := 7) hR rfl hk1 (by decide); exact xt_invV X hx hown (hts _ m_9e4fc57f) (hts _ m_6eb19272) (hts _ m_a4413c7f) (xt_sigOf (hts _ m_9d6196c5)) nm_Machine_truncate (by rw [hT]; exact ra9) rb9 rc9 (g := F0 m 140 ls [.int y0, .int y1, .long y2, .ref y3, .ref y4]) rfl (argsL := [.ref y3, .long y2, .int y1, .int y0]) (rest := []) rfl rfl (by rw [hb]; exact (xb_d D_Machine_convert 47 rfl))) (ok_Machine_truncate l hfl D A σ y4 y3 y2 y1 y0 h _ hw) (hml.trans hl.1.symm) (by rw [hb]; exact (xb_d D_Machine_convert 47 rfl)) (Nat.le_of_ble_eq_true rfl) (Nat.le_of_ble_eq_true rfl) (Nat.le_of_ble_eq_true rfl) (show k ≤ MC by omega) (show n ≤ MS by omega) (xt_w1 hB.1 m_9d6196c5) (xt_cdOf hB.1 m_9d6196c5) (hts _ m_73451f9b) hB hR hS hA (fun vv h2 H locs hq hEh2 hR hS => ?_)
  obtain ⟨rfl, hw⟩ := hq
  have hw := hw hEh2
  have hE := hE.tr hEh2
  refine W.eq (g2 := F0 m 143 ls []) rfl ?_
  refine lv_goto (tgt := 189) hx hb (xb_d D_Machine_convert 48 rfl) rfl ?_
  exact am_Machine_convert_L189 l hfl D A σ MC MS h0 Qr h2 hw p e s m args below meth c hC H locs ls k n hE (lv_sub hl [] rfl) hR hS (by omega) (by omega)

set_option maxHeartbeats 4000000 in
set_option maxRecDepth 100000 in
theorem am_Machine_convert_L120 (l : Launch) (hfl : l.flags = pinnedFlags ++ [noTraceFlag]) (D : va_G) (A : Nat → Prop) (σ MC MS : Nat) (h0 : xb_H) (Qr : xb_H → Prop) (x0 : Nat) (x1 : Int32) (x2 : Int64) (h : xb_H) (hw : w_Machine_convert_L120 Qr x0 x1 x2 h) : xb_am l D A σ 6 MC MS h0 (fun v h _ _ => v = none ∧ Qr h) (fun _ _ _ _ => False) y_Machine_convert.cls y_Machine_convert.name b_Machine_convert 4 ([] : List ExceptionTableEntry) none 120 [(0, .ref x0), (1, .int x1), (2, .long x2)] [] h 0 0 := by
  unfold w_Machine_convert_L120 at hw
  intro p e s m args below meth c hC H locs ls k n hE hl hR hS hk hn
  obtain ⟨hx, hb, hown, hlocks, htab, hml, hr, hB, hA, hnm⟩ := id hC
  have hts := hB.1.1.at args
  refine lv_aload_n hx hb (xb_d D_Machine_convert 36 rfl) rfl (lv_at hl 0 rfl) ?_
  refine lv_aload_n hx hb (xb_d D_Machine_convert 37 rfl) rfl (lv_at hl 0 rfl) ?_
  obtain ⟨hk1, hw⟩ := hw
  refine xb_getP (C := R_Machine) (T := F_Machine) (N := 18) hx hb 7 1 hts fin_Machine hown hR hk1 (by decide) rfl (by decide) rfl (hts _ m_ae64f9ca) (fun _ h9 => h9) (xb_d D_Machine_convert 38 rfl) ?_
  obtain ⟨b2, eb2, hw⟩ := hw
  refine xb_some eb2 ?_
  refine lv_lload_n hx hb (xb_d D_Machine_convert 39 rfl) rfl (lv_at hl 2 rfl) ?_
  refine lv_bipush (v := 64) hx hb (xb_d D_Machine_convert 40 rfl) (by decide) ?_
  refine lv_iload_n hx hb (xb_d D_Machine_convert 41 rfl) rfl (lv_at hl 1 rfl) ?_
  refine lv_sipush (v := 174) hx hb (xb_d D_Machine_convert 42 rfl) (by decide) ?_
  refine lv_icmp_ne (tgt := 139) hx hb (xb_d D_Machine_convert 43 rfl) rfl (fun hc3 => ?_) (fun hc3 => ?_)
  · have hw := hw.1 hc3
    refine lv_iconst (v := 0) hx hb (xb_d D_Machine_convert 46 rfl) (by decide) ?_
    exact am_Machine_convert_L140 l hfl D A σ MC MS h0 Qr 0 64 x2 b2 x0 h hw p e s m args below meth c hC H locs ls k n hE (lv_sub hl [] rfl) hR hS (by omega) (by omega)
  · have hw := hw.2 hc3
    refine lv_iconst (v := 1) hx hb (xb_d D_Machine_convert 44 rfl) (by decide) ?_
    refine lv_goto (tgt := 140) hx hb (xb_d D_Machine_convert 45 rfl) rfl ?_
    exact am_Machine_convert_L140 l hfl D A σ MC MS h0 Qr 1 64 x2 b2 x0 h hw p e s m args below meth c hC H locs ls k n hE (lv_sub hl [] rfl) hR hS (by omega) (by omega)

set_option maxHeartbeats 4000000 in
set_option maxRecDepth 100000 in
theorem am_Machine_convert_L114 (l : Launch) (hfl : l.flags = pinnedFlags ++ [noTraceFlag]) (D : va_G) (A : Nat → Prop) (σ MC MS : Nat) (h0 : xb_H) (Qr : xb_H → Prop) (y0 : Int32) (y1 : Int32) (y2 : Int64) (y3 : Nat) (y4 : Nat) (h : xb_H) (hw : w_Machine_convert_L114 Qr y0 y1 y2 y3 y4 h) : xb_am l D A σ 6 MC MS h0 (fun v h _ _ => v = none ∧ Qr h) (fun _ _ _ _ => False) y_Machine_convert.cls y_Machine_convert.name b_Machine_convert 4 ([] : List ExceptionTableEntry) none 114 [] [.int y0, .int y1, .long y2, .ref y3, .ref y4] h 0 0 := by
  unfold w_Machine_convert_L114 at hw
  intro p e s m args below meth c hC H locs ls k n hE hl hR hS hk hn
  obtain ⟨hx, hb, hown, hlocks, htab, hml, hr, hB, hA, hnm⟩ := id hC
  have hts := hB.1.1.at args
  obtain ⟨hk1, hw⟩ := hw
  refine xb_call0 (D := D) (A := A) (σ := σ) (h := h) (d := 5) (maxL := 9) (rest := []) (av := [.ref y4, .ref y3, .long y2, .int y1, .int y0]) (fun T hT X => by obtain ⟨cb9, ra9, rb9, rc9⟩ := xb_recv (ci := 7) hR rfl hk1 (by decide); exact xt_invV X hx hown (hts _ m_9e4fc57f) (hts _ m_6eb19272) (hts _ m_a4413c7f) (xt_sigOf (hts _ m_9d6196c5)) nm_Machine_truncate (by rw [hT]; exact ra9) rb9 rc9 (g := F0 m 114 ls [.int y0, .int y1, .long y2, .ref y3, .ref y4]) rfl (argsL := [.ref y3, .long y2, .int y1, .int y0]) (rest := []) rfl rfl (by rw [hb]; exact (xb_d D_Machine_convert 34 rfl))) (ok_Machine_truncate l hfl D A σ y4 y3 y2 y1 y0 h _ hw) (hml.trans hl.1.symm) (by rw [hb]; exact (xb_d D_Machine_convert 34 rfl)) (Nat.le_of_ble_eq_true rfl) (Nat.le_of_ble_eq_true rfl) (Nat.le_of_ble_eq_true rfl) (show k ≤ MC by omega) (show n ≤ MS by omega) (xt_w1 hB.1 m_9d6196c5) (xt_cdOf hB.1 m_9d6196c5) (hts _ m_73451f9b) hB hR hS hA (fun vv h2 H locs hq hEh2 hR hS => ?_)
  obtain ⟨rfl, hw⟩ := hq
  have hw := hw hEh2
  have hE := hE.tr hEh2
  refine W.eq (g2 := F0 m 117 ls []) rfl ?_
  refine lv_goto (tgt := 189) hx hb (xb_d D_Machine_convert 35 rfl) rfl ?_
  exact am_Machine_convert_L189 l hfl D A σ MC MS h0 Qr h2 hw p e s m args below meth c hC H locs ls k n hE (lv_sub hl [] rfl) hR hS (by omega) (by omega)

set_option maxHeartbeats 4000000 in
set_option maxRecDepth 100000 in
theorem am_Machine_convert_L94 (l : Launch) (hfl : l.flags = pinnedFlags ++ [noTraceFlag]) (D : va_G) (A : Nat → Prop) (σ MC MS : Nat) (h0 : xb_H) (Qr : xb_H → Prop) (x0 : Nat) (x1 : Int32) (x2 : Int64) (h : xb_H) (hw : w_Machine_convert_L94 Qr x0 x1 x2 h) : xb_am l D A σ 6 MC MS h0 (fun v h _ _ => v = none ∧ Qr h) (fun _ _ _ _ => False) y_Machine_convert.cls y_Machine_convert.name b_Machine_convert 4 ([] : List ExceptionTableEntry) none 94 [(0, .ref x0), (1, .int x1), (2, .long x2)] [] h 0 0 := by
  unfold w_Machine_convert_L94 at hw
  intro p e s m args below meth c hC H locs ls k n hE hl hR hS hk hn
  obtain ⟨hx, hb, hown, hlocks, htab, hml, hr, hB, hA, hnm⟩ := id hC
  have hts := hB.1.1.at args
  refine lv_aload_n hx hb (xb_d D_Machine_convert 23 rfl) rfl (lv_at hl 0 rfl) ?_
  refine lv_aload_n hx hb (xb_d D_Machine_convert 24 rfl) rfl (lv_at hl 0 rfl) ?_
  obtain ⟨hk1, hw⟩ := hw
  refine xb_getP (C := R_Machine) (T := F_Machine) (N := 18) hx hb 7 2 hts fin_Machine hown hR hk1 (by decide) rfl (by decide) rfl (hts _ m_ba1eb42f) (fun _ h9 => h9) (xb_d D_Machine_convert 25 rfl) ?_
  obtain ⟨b2, eb2, hw⟩ := hw
  refine xb_some eb2 ?_
  refine lv_lload_n hx hb (xb_d D_Machine_convert 26 rfl) rfl (lv_at hl 2 rfl) ?_
  refine lv_bipush (v := 32) hx hb (xb_d D_Machine_convert 27 rfl) (by decide) ?_
  refine lv_iload_n hx hb (xb_d D_Machine_convert 28 rfl) rfl (lv_at hl 1 rfl) ?_
  refine lv_sipush (v := 170) hx hb (xb_d D_Machine_convert 29 rfl) (by decide) ?_
  refine lv_icmp_ne (tgt := 113) hx hb (xb_d D_Machine_convert 30 rfl) rfl (fun hc3 => ?_) (fun hc3 => ?_)
  · have hw := hw.1 hc3
    refine lv_iconst (v := 0) hx hb (xb_d D_Machine_convert 33 rfl) (by decide) ?_
    exact am_Machine_convert_L114 l hfl D A σ MC MS h0 Qr 0 32 x2 b2 x0 h hw p e s m args below meth c hC H locs ls k n hE (lv_sub hl [] rfl) hR hS (by omega) (by omega)
  · have hw := hw.2 hc3
    refine lv_iconst (v := 1) hx hb (xb_d D_Machine_convert 31 rfl) (by decide) ?_
    refine lv_goto (tgt := 114) hx hb (xb_d D_Machine_convert 32 rfl) rfl ?_
    exact am_Machine_convert_L114 l hfl D A σ MC MS h0 Qr 1 32 x2 b2 x0 h hw p e s m args below meth c hC H locs ls k n hE (lv_sub hl [] rfl) hR hS (by omega) (by omega)

set_option maxHeartbeats 4000000 in
set_option maxRecDepth 100000 in
theorem am_Machine_convert_L88 (l : Launch) (hfl : l.flags = pinnedFlags ++ [noTraceFlag]) (D : va_G) (A : Nat → Prop) (σ MC MS : Nat) (h0 : xb_H) (Qr : xb_H → Prop) (y0 : Int32) (y1 : Int32) (y2 : Int64) (y3 : Nat) (y4 : Nat) (h : xb_H) (hw : w_Machine_convert_L88 Qr y0 y1 y2 y3 y4 h) : xb_am l D A σ 6 MC MS h0 (fun v h _ _ => v = none ∧ Qr h) (fun _ _ _ _ => False) y_Machine_convert.cls y_Machine_convert.name b_Machine_convert 4 ([] : List ExceptionTableEntry) none 88 [] [.int y0, .int y1, .long y2, .ref y3, .ref y4] h 0 0 := by
  unfold w_Machine_convert_L88 at hw
  intro p e s m args below meth c hC H locs ls k n hE hl hR hS hk hn
  obtain ⟨hx, hb, hown, hlocks, htab, hml, hr, hB, hA, hnm⟩ := id hC
  have hts := hB.1.1.at args
  obtain ⟨hk1, hw⟩ := hw
  refine xb_call0 (D := D) (A := A) (σ := σ) (h := h) (d := 5) (maxL := 9) (rest := []) (av := [.ref y4, .ref y3, .long y2, .int y1, .int y0]) (fun T hT X => by obtain ⟨cb9, ra9, rb9, rc9⟩ := xb_recv (ci := 7) hR rfl hk1 (by decide); exact xt_invV X hx hown (hts _ m_9e4fc57f) (hts _ m_6eb19272) (hts _ m_a4413c7f) (xt_sigOf (hts _ m_9d6196c5)) nm_Machine_truncate (by rw [hT]; exact ra9) rb9 rc9 (g := F0 m 88 ls [.int y0, .int y1, .long y2, .ref y3, .ref y4]) rfl (argsL := [.ref y3, .long y2, .int y1, .int y0]) (rest := []) rfl rfl (by rw [hb]; exact (xb_d D_Machine_convert 21 rfl))) (ok_Machine_truncate l hfl D A σ y4 y3 y2 y1 y0 h _ hw) (hml.trans hl.1.symm) (by rw [hb]; exact (xb_d D_Machine_convert 21 rfl)) (Nat.le_of_ble_eq_true rfl) (Nat.le_of_ble_eq_true rfl) (Nat.le_of_ble_eq_true rfl) (show k ≤ MC by omega) (show n ≤ MS by omega) (xt_w1 hB.1 m_9d6196c5) (xt_cdOf hB.1 m_9d6196c5) (hts _ m_73451f9b) hB hR hS hA (fun vv h2 H locs hq hEh2 hR hS => ?_)
  obtain ⟨rfl, hw⟩ := hq
  have hw := hw hEh2
  have hE := hE.tr hEh2
  refine W.eq (g2 := F0 m 91 ls []) rfl ?_
  refine lv_goto (tgt := 189) hx hb (xb_d D_Machine_convert 22 rfl) rfl ?_
  exact am_Machine_convert_L189 l hfl D A σ MC MS h0 Qr h2 hw p e s m args below meth c hC H locs ls k n hE (lv_sub hl [] rfl) hR hS (by omega) (by omega)

set_option maxHeartbeats 4000000 in
set_option maxRecDepth 100000 in
theorem am_Machine_convert_L68 (l : Launch) (hfl : l.flags = pinnedFlags ++ [noTraceFlag]) (D : va_G) (A : Nat → Prop) (σ MC MS : Nat) (h0 : xb_H) (Qr : xb_H → Prop) (x0 : Nat) (x1 : Int32) (x2 : Int64) (h : xb_H) (hw : w_Machine_convert_L68 Qr x0 x1 x2 h) : xb_am l D A σ 6 MC MS h0 (fun v h _ _ => v = none ∧ Qr h) (fun _ _ _ _ => False) y_Machine_convert.cls y_Machine_convert.name b_Machine_convert 4 ([] : List ExceptionTableEntry) none 68 [(0, .ref x0), (1, .int x1), (2, .long x2)] [] h 0 0 := by
  unfold w_Machine_convert_L68 at hw
  intro p e s m args below meth c hC H locs ls k n hE hl hR hS hk hn
  obtain ⟨hx, hb, hown, hlocks, htab, hml, hr, hB, hA, hnm⟩ := id hC
  have hts := hB.1.1.at args
  refine lv_aload_n hx hb (xb_d D_Machine_convert 10 rfl) rfl (lv_at hl 0 rfl) ?_
  refine lv_aload_n hx hb (xb_d D_Machine_convert 11 rfl) rfl (lv_at hl 0 rfl) ?_
  obtain ⟨hk1, hw⟩ := hw
  refine xb_getP (C := R_Machine) (T := F_Machine) (N := 18) hx hb 7 1 hts fin_Machine hown hR hk1 (by decide) rfl (by decide) rfl (hts _ m_ae64f9ca) (fun _ h9 => h9) (xb_d D_Machine_convert 12 rfl) ?_
  obtain ⟨b2, eb2, hw⟩ := hw
  refine xb_some eb2 ?_
  refine lv_lload_n hx hb (xb_d D_Machine_convert 13 rfl) rfl (lv_at hl 2 rfl) ?_
  refine lv_bipush (v := 32) hx hb (xb_d D_Machine_convert 14 rfl) (by decide) ?_
  refine lv_iload_n hx hb (xb_d D_Machine_convert 15 rfl) rfl (lv_at hl 1 rfl) ?_
  refine lv_sipush (v := 168) hx hb (xb_d D_Machine_convert 16 rfl) (by decide) ?_
  refine lv_icmp_ne (tgt := 87) hx hb (xb_d D_Machine_convert 17 rfl) rfl (fun hc3 => ?_) (fun hc3 => ?_)
  · have hw := hw.1 hc3
    refine lv_iconst (v := 0) hx hb (xb_d D_Machine_convert 20 rfl) (by decide) ?_
    exact am_Machine_convert_L88 l hfl D A σ MC MS h0 Qr 0 32 x2 b2 x0 h hw p e s m args below meth c hC H locs ls k n hE (lv_sub hl [] rfl) hR hS (by omega) (by omega)
  · have hw := hw.2 hc3
    refine lv_iconst (v := 1) hx hb (xb_d D_Machine_convert 18 rfl) (by decide) ?_
    refine lv_goto (tgt := 88) hx hb (xb_d D_Machine_convert 19 rfl) rfl ?_
    exact am_Machine_convert_L88 l hfl D A σ MC MS h0 Qr 1 32 x2 b2 x0 h hw p e s m args below meth c hC H locs ls k n hE (lv_sub hl [] rfl) hR hS (by omega) (by omega)

set_option maxHeartbeats 4000000 in
set_option maxRecDepth 100000 in
theorem ok_Machine_convert (l : Launch) (hfl : l.flags = pinnedFlags ++ [noTraceFlag]) (D : va_G) (A : Nat → Prop) (σ : Nat) (x0 : Nat) (x1 : Int32) (h : xb_H) (Qr : xb_H → Prop) (hw : w_Machine_convert x0 x1 h Qr) : xb_Met l y_Machine_convert [.code y_Machine_convert b_Machine_convert 4 none] (xb_rm 6 0 0) (xb_Pc D A σ h [.ref x0, .int x1]) (xb_Qc D A h 0 0 (fun v h _ _ => v = none ∧ Qr h) (fun _ _ _ _ => False)) A := by
  refine xb_ofAm (cc := b_Machine_convert) (by decide) (Nat.le_of_ble_eq_true rfl) ?_
  unfold w_Machine_convert at hw
  show xb_am l D A σ 6 0 0 h (fun v h _ _ => v = none ∧ Qr h) (fun _ _ _ _ => False) y_Machine_convert.cls y_Machine_convert.name b_Machine_convert 4 ([] : List ExceptionTableEntry) none 0 [(0, .ref x0), (1, .int x1)] [] h 0 0
  obtain ⟨MC, hMC⟩ : ∃ x, x = 0 := ⟨_, rfl⟩
  obtain ⟨MS, hMS⟩ : ∃ x, x = 0 := ⟨_, rfl⟩
  rw [show xb_am l D A σ 6 0 0 = xb_am l D A σ 6 MC MS by rw [hMC, hMS]]
  obtain ⟨h0, hh0⟩ : ∃ x, x = h := ⟨_, rfl⟩
  rw [show xb_am l D A σ 6 MC MS h = xb_am l D A σ 6 MC MS h0 by rw [hh0]]
  intro p e s m args below meth c hC H locs ls k n hE hl hR hS hk hn
  obtain ⟨hx, hb, hown, hlocks, htab, hml, hr, hB, hA, hnm⟩ := id hC
  have hts := hB.1.1.at args
  refine lv_aload_n hx hb (xb_d D_Machine_convert 0 rfl) rfl (lv_at hl 0 rfl) ?_
  obtain ⟨hk1, hw⟩ := hw
  refine xb_getP (C := R_Machine) (T := F_Machine) (N := 18) hx hb 7 9 hts fin_Machine hown hR hk1 (by decide) rfl (by decide) rfl (hts _ m_6904195b) (fun _ h9 => h9) (xb_d D_Machine_convert 1 rfl) ?_
  obtain ⟨b2, eb2, hw⟩ := hw
  refine xb_some eb2 ?_
  refine lv_aload_n hx hb (xb_d D_Machine_convert 2 rfl) rfl (lv_at hl 0 rfl) ?_
  refine xb_getI (C := R_Machine) (T := F_Machine) (N := 18) hx hb 7 10 hts fin_Machine hown hR hk1 (by decide) rfl (by decide) rfl (hts _ m_79cf62f6) (fun _ h9 => h9) (xb_d D_Machine_convert 3 rfl) ?_
  refine lv_iconst (v := 1) hx hb (xb_d D_Machine_convert 4 rfl) (by decide) ?_
  refine lv_isub hx hb (xb_d D_Machine_convert 5 rfl) ?_
  obtain ⟨hk4, hw⟩ := hw
  obtain ⟨hi3, hw⟩ := hw
  refine xb_lald hx hb hR hk4 hi3 (xb_d D_Machine_convert 6 rfl) ?_
  obtain ⟨v5, ev5⟩ : ∃ x : Int64, x = (xb_l h b2 (Int32.toNatClampNeg ((xb_i h x0 10) - 1))) := ⟨_, rfl⟩
  have hw := hw v5 ev5
  refine xt_numl (y := v5) ev5.symm ?_
  refine lv_lstore_n hx hb (xb_d D_Machine_convert 7 rfl) rfl hl (by decide) rfl (fun ls hl => ?_)
  have hl : lv_has ls 4 [(2, .long v5), (0, .ref x0), (1, .int x1)] := hl
  refine lv_iload_n hx hb (xb_d D_Machine_convert 8 rfl) rfl (lv_at hl 2 rfl) ?_
  by_cases hc6 : x1 = 168
  · have hw := hw.1 hc6
    refine xt_numi hc6 ?_
    refine lv_tableIn (off := 55) (tgt := 68) hx hb (xb_d D_Machine_convert 9 rfl) (by decide +kernel) (by decide +kernel) (by decide +kernel) (by decide) ?_
    exact am_Machine_convert_L68 l hfl D A σ MC MS h0 Qr x0 x1 v5 h hw p e s m args below meth c hC H locs ls k n hE (lv_sub hl [1, 2, 0] rfl) hR hS (by omega) (by omega)
  have hw := hw.2
  by_cases hc7 : x1 = 169
  · have hw := hw.1 hc7
    refine xt_numi hc7 ?_
    refine lv_tableIn (off := 55) (tgt := 68) hx hb (xb_d D_Machine_convert 9 rfl) (by decide +kernel) (by decide +kernel) (by decide +kernel) (by decide) ?_
    exact am_Machine_convert_L68 l hfl D A σ MC MS h0 Qr x0 x1 v5 h hw p e s m args below meth c hC H locs ls k n hE (lv_sub hl [1, 2, 0] rfl) hR hS (by omega) (by omega)
  have hw := hw.2
  by_cases hc8 : x1 = 170
  · have hw := hw.1 hc8
    refine xt_numi hc8 ?_
    refine lv_tableIn (off := 81) (tgt := 94) hx hb (xb_d D_Machine_convert 9 rfl) (by decide +kernel) (by decide +kernel) (by decide +kernel) (by decide) ?_
    exact am_Machine_convert_L94 l hfl D A σ MC MS h0 Qr x0 x1 v5 h hw p e s m args below meth c hC H locs ls k n hE (lv_sub hl [1, 2, 0] rfl) hR hS (by omega) (by omega)
  have hw := hw.2
  by_cases hc9 : x1 = 171
  · have hw := hw.1 hc9
    refine xt_numi hc9 ?_
    refine lv_tableIn (off := 81) (tgt := 94) hx hb (xb_d D_Machine_convert 9 rfl) (by decide +kernel) (by decide +kernel) (by decide +kernel) (by decide) ?_
    exact am_Machine_convert_L94 l hfl D A σ MC MS h0 Qr x0 x1 v5 h hw p e s m args below meth c hC H locs ls k n hE (lv_sub hl [1, 2, 0] rfl) hR hS (by omega) (by omega)
  have hw := hw.2
  by_cases hc10 : x1 = 172
  · have hw := hw.1 hc10
    refine xt_numi hc10 ?_
    refine lv_tableIn (off := 159) (tgt := 172) hx hb (xb_d D_Machine_convert 9 rfl) (by decide +kernel) (by decide +kernel) (by decide +kernel) (by decide) ?_
    exact am_Machine_convert_L172 l hfl D A σ MC MS h0 Qr x0 x1 v5 h hw p e s m args below meth c hC H locs ls k n hE (lv_sub hl [1, 2, 0] rfl) hR hS (by omega) (by omega)
  have hw := hw.2
  by_cases hc11 : x1 = 173
  · have hw := hw.1 hc11
    refine xt_numi hc11 ?_
    refine lv_tableIn (off := 159) (tgt := 172) hx hb (xb_d D_Machine_convert 9 rfl) (by decide +kernel) (by decide +kernel) (by decide +kernel) (by decide) ?_
    exact am_Machine_convert_L172 l hfl D A σ MC MS h0 Qr x0 x1 v5 h hw p e s m args below meth c hC H locs ls k n hE (lv_sub hl [1, 2, 0] rfl) hR hS (by omega) (by omega)
  have hw := hw.2
  by_cases hc12 : x1 = 174
  · have hw := hw.1 hc12
    refine xt_numi hc12 ?_
    refine lv_tableIn (off := 107) (tgt := 120) hx hb (xb_d D_Machine_convert 9 rfl) (by decide +kernel) (by decide +kernel) (by decide +kernel) (by decide) ?_
    exact am_Machine_convert_L120 l hfl D A σ MC MS h0 Qr x0 x1 v5 h hw p e s m args below meth c hC H locs ls k n hE (lv_sub hl [1, 2, 0] rfl) hR hS (by omega) (by omega)
  have hw := hw.2
  by_cases hc13 : x1 = 175
  · have hw := hw.1 hc13
    refine xt_numi hc13 ?_
    refine lv_tableIn (off := 107) (tgt := 120) hx hb (xb_d D_Machine_convert 9 rfl) (by decide +kernel) (by decide +kernel) (by decide +kernel) (by decide) ?_
    exact am_Machine_convert_L120 l hfl D A σ MC MS h0 Qr x0 x1 v5 h hw p e s m args below meth c hC H locs ls k n hE (lv_sub hl [1, 2, 0] rfl) hR hS (by omega) (by omega)
  have hw := hw.2
  by_cases hc14 : x1 = 176
  · have hw := hw.1 hc14
    refine xt_numi hc14 ?_
    refine lv_tableIn (off := 133) (tgt := 146) hx hb (xb_d D_Machine_convert 9 rfl) (by decide +kernel) (by decide +kernel) (by decide +kernel) (by decide) ?_
    exact am_Machine_convert_L146 l hfl D A σ MC MS h0 Qr x0 x1 v5 h hw p e s m args below meth c hC H locs ls k n hE (lv_sub hl [1, 2, 0] rfl) hR hS (by omega) (by omega)
  have hw := hw.2
  by_cases hc15 : x1 = 177
  · have hw := hw.1 hc15
    refine xt_numi hc15 ?_
    refine lv_tableIn (off := 133) (tgt := 146) hx hb (xb_d D_Machine_convert 9 rfl) (by decide +kernel) (by decide +kernel) (by decide +kernel) (by decide) ?_
    exact am_Machine_convert_L146 l hfl D A σ MC MS h0 Qr x0 x1 v5 h hw p e s m args below meth c hC H locs ls k n hE (lv_sub hl [1, 2, 0] rfl) hR hS (by omega) (by omega)
  have hw := hw.2
  have hw := hw hc6 hc7 hc8 hc9 hc10 hc11 hc12 hc13 hc14 hc15
  refine lv_tableOut (tgt := 172) hx hb (xb_d D_Machine_convert 9 rfl) (by have a0 := xb_nl (168) 168 (by decide) hc6; have a1 := xb_nl (169) 169 (by decide) hc7; have a2 := xb_nl (170) 170 (by decide) hc8; have a3 := xb_nl (171) 171 (by decide) hc9; have a4 := xb_nl (172) 172 (by decide) hc10; have a5 := xb_nl (173) 173 (by decide) hc11; have a6 := xb_nl (174) 174 (by decide) hc12; have a7 := xb_nl (175) 175 (by decide) hc13; have a8 := xb_nl (176) 176 (by decide) hc14; have a9 := xb_nl (177) 177 (by decide) hc15; omega) (by decide) ?_
  exact am_Machine_convert_L172 l hfl D A σ MC MS h0 Qr x0 x1 v5 h hw p e s m args below meth c hC H locs ls k n hE (lv_sub hl [1, 2, 0] rfl) hR hS (by omega) (by omega)

