theorem m_4d51455e : (.methodLink "StackHostModel$Exact" 97 y_Exact_isInfinite : Cond) ∈ xt_tbl := xt_in (xt_t12 (List.mem_of_getElem? (i := 231) (by decide +kernel))) (by decide +kernel)
theorem m_6f0f72ed : (.instanceMethod y_Exact_isInfinite : Cond) ∈ xt_tbl := xt_in (xt_t12 (List.mem_of_getElem? (i := 233) (by decide +kernel))) (by decide +kernel)
theorem m_54335684 : (.selects "StackHostModel$Exact" y_Exact_isInfinite y_Exact_isInfinite : Cond) ∈ xt_tbl := xt_in (xt_v15 (q := (⟨"StackHostModel$Exact", "isInfinite", "(J)Z"⟩, 11)) (List.mem_of_getElem? (i := 9) (by decide +kernel))) (by decide +kernel)
theorem m_c0f31264 : (.code y_Exact_isInfinite b_Exact_isInfinite 3 (some .boolean) : Cond) ∈ xt_tbl := xt_in (xt_t12 (List.mem_of_getElem? (i := 234) (by decide +kernel))) (by decide +kernel)
theorem m_26946ca5 : (.methodLink "StackHostModel$Exact" 110 y_Exact_split : Cond) ∈ xt_tbl := xt_in (xt_t12 (List.mem_of_getElem? (i := 235) (by decide +kernel))) (by decide +kernel)
theorem m_c8f41404 : (.instanceMethod y_Exact_split : Cond) ∈ xt_tbl := xt_in (xt_t12 (List.mem_of_getElem? (i := 237) (by decide +kernel))) (by decide +kernel)
theorem m_e3ba6af7 : (.selects "StackHostModel$Exact" y_Exact_split y_Exact_split : Cond) ∈ xt_tbl := xt_in (xt_v15 (q := (⟨"StackHostModel$Exact", "split", "(J)V"⟩, 11)) (List.mem_of_getElem? (i := 10) (by decide +kernel))) (by decide +kernel)
theorem m_921646f3 : (.code y_Exact_split b_Exact_split 7 none : Cond) ∈ xt_tbl := xt_in (xt_t12 (List.mem_of_getElem? (i := 238) (by decide +kernel))) (by decide +kernel)
theorem nm_Exact_isInfinite : xt_nm y_Exact_isInfinite 1 := ⟨by decide +kernel, by decide +kernel⟩
theorem nm_Exact_split : xt_nm y_Exact_split 1 := ⟨by decide +kernel, by decide +kernel⟩
set_option maxRecDepth 100000 in
def T_Exact_cut : List (Nat × Instr × Nat) := [(0, .aload_n 0, 1), (1, .lload_n 1, 1), (2, .invokevirtual 90, 3), (5, .ifCond .eq 10, 3), (8, .aload_n 0, 1), (9, .iconst 4, 1), (10, .putfield 157, 3), (13, .lconst 0, 1), (14, .lreturn, 1), (15, .aload_n 0, 1), (16, .lload_n 1, 1), (17, .invokevirtual 97, 3), (20, .ifCond .eq 10, 3), (23, .aload_n 0, 1), (24, .iconst 3, 1), (25, .putfield 157, 3), (28, .lconst 0, 1), (29, .lreturn, 1), (30, .aload_n 0, 1), (31, .lload_n 1, 1), (32, .invokevirtual 110, 3), (35, .aload_n 0, 1), (36, .getfield 83, 3), (39, .lconst 0, 1), (40, .lcmp, 1), (41, .ifCond .eq 32, 3), (44, .aload_n 0, 1), (45, .getfield 87, 3), (48, .bipush 11, 2), (50, .aload_n 0, 1), (51, .getfield 41, 3), (54, .bipush 32, 2), (56, .if_icmp .ne 8, 3), (59, .bipush 29, 2), (61, .goto 4, 3), (64, .iconst 0, 1), (65, .iadd, 1), (66, .if_icmp .le 7, 3), (69, .iconst 1, 1), (70, .goto 4, 3), (73, .iconst 0, 1), (74, .istore 5, 2), (76, .iload 5, 2), (78, .ifCond .eq 7, 3), (81, .lconst 0, 1), (82, .goto 46, 3), (85, .aload_n 0, 1), (86, .getfield 87, 3), (89, .ifCond .lt 15, 3), (92, .aload_n 0, 1), (93, .getfield 83, 3), (96, .aload_n 0, 1), (97, .getfield 87, 3), (100, .lshl, 1), (101, .goto 27, 3), (104, .aload_n 0, 1), (105, .getfield 87, 3), (108, .ineg, 1), (109, .bipush 62, 2), (111, .if_icmp .le 7, 3), (114, .lconst 0, 1), (115, .goto 13, 3), (118, .aload_n 0, 1), (119, .getfield 83, 3), (122, .aload_n 0, 1), (123, .getfield 87, 3), (126, .ineg, 1), (127, .lshr, 1), (128, .lstore 6, 2), (130, .iload 4, 2), (132, .ifCond .eq 28, 3), (135, .aload_n 0, 1), (136, .getfield 80, 3), (139, .ifCond .eq 11, 3), (142, .lconst 1, 1), (143, .iload_n 3, 1), (144, .iconst 1, 1), (145, .isub, 1), (146, .lshl, 1), (147, .goto 39, 3), (150, .lconst 1, 1), (151, .iload_n 3, 1), (152, .iconst 1, 1), (153, .isub, 1), (154, .lshl, 1), (155, .lconst 1, 1), (156, .lsub, 1), (157, .goto 29, 3), (160, .aload_n 0, 1), (161, .getfield 80, 3), (164, .ifCond .eq 7, 3), (167, .lconst 0, 1), (168, .goto 18, 3), (171, .iload_n 3, 1), (172, .bipush 64, 2), (174, .if_icmp .ne 9, 3), (177, .ldc2_w 149, 3), (180, .goto 6, 3), (183, .ldc2_w 168, 3), (186, .lstore 8, 2), (188, .iload 5, 2), (190, .ifCond .ne 13, 3), (193, .lload 8, 2), (195, .lload 6, 2), (197, .invokestatic 153, 3), (200, .ifCond .eq 10, 3), (203, .aload_n 0, 1), (204, .iconst 3, 1), (205, .putfield 157, 3), (208, .lconst 0, 1), (209, .lreturn, 1), (210, .aload_n 0, 1), (211, .getfield 80, 3), (214, .ifCond .eq 9, 3), (217, .lload 6, 2), (219, .lneg, 1), (220, .goto 5, 3), (223, .lload 6, 2), (225, .lreturn, 1)]
theorem D_Exact_cut : ∀ q ∈ T_Exact_cut, decode b_Exact_cut q.1 = .ok (q.2.1, q.2.2) := by decide +kernel

set_option maxHeartbeats 4000000 in
set_option maxRecDepth 100000 in
theorem am_Exact_cut_L225 (l : Launch) (hfl : l.flags = pinnedFlags ++ [noTraceFlag]) (D : va_G) (A : Nat → Prop) (σ MC MS : Nat) (h0 : xb_H) (Qr : Int64 → xb_H → Prop) (y0 : Int64) (h : xb_H) (hw : w_Exact_cut_L225 Qr y0 h) : xb_am l D A σ 5 MC MS h0 (fun v h _ _ => ∃ r, v = some (.long r) ∧ Qr r h) (fun _ _ _ _ => False) y_Exact_cut.cls y_Exact_cut.name b_Exact_cut 10 ([] : List ExceptionTableEntry) (some .long) 225 [] [.long y0] h 0 0 := by
  unfold w_Exact_cut_L225 at hw
  intro p e s m args below meth c hC H locs ls k n hE hl hR hS hk hn
  obtain ⟨hx, hb, hown, hlocks, htab, hml, hr, hB, hA, hnm⟩ := id hC
  have hts := hB.1.1.at args
  exact xb_lret 0 0 hx hb hr hlocks (show k + 0 ≤ MC by omega) (show n + 0 ≤ MS by omega) hE hR hS (xb_d D_Exact_cut 118 rfl) hw

set_option maxHeartbeats 4000000 in
set_option maxRecDepth 100000 in
theorem am_Exact_cut_L203 (l : Launch) (hfl : l.flags = pinnedFlags ++ [noTraceFlag]) (D : va_G) (A : Nat → Prop) (σ MC MS : Nat) (h0 : xb_H) (Qr : Int64 → xb_H → Prop) (x0 : Nat) (h : xb_H) (hw : w_Exact_cut_L203 Qr x0 h) : xb_am l D A σ 5 MC MS h0 (fun v h _ _ => ∃ r, v = some (.long r) ∧ Qr r h) (fun _ _ _ _ => False) y_Exact_cut.cls y_Exact_cut.name b_Exact_cut 10 ([] : List ExceptionTableEntry) (some .long) 203 [(0, .ref x0)] [] h 0 0 := by
  unfold w_Exact_cut_L203 at hw
  intro p e s m args below meth c hC H locs ls k n hE hl hR hS hk hn
  obtain ⟨hx, hb, hown, hlocks, htab, hml, hr, hB, hA, hnm⟩ := id hC
  have hts := hB.1.1.at args
  refine lv_aload_n hx hb (xb_d D_Exact_cut 106 rfl) rfl (lv_at hl 0 rfl) ?_
  refine lv_iconst (v := 3) hx hb (xb_d D_Exact_cut 107 rfl) (by decide) ?_
  obtain ⟨hk1, hw⟩ := hw
  refine xb_putI (C := R_Exact) (T := F_Exact) (N := 11) (ty := .int) (x := 3) hx hb 9 0 hts fin_Exact t_Exact t_Exact_ok n_Exact hown hR hS hk1 (by decide) rfl (by decide) rfl (hts _ m_3957194a) (fun _ h9 => h9) rfl (by decide +kernel) rfl rfl (xb_d D_Exact_cut 108 rfl) (fun H locs hR hS => ?_)
  obtain ⟨h2, eh2⟩ : ∃ x : xb_H, x = xb_I h x0 0 3 := ⟨_, rfl⟩
  rw [← eh2] at hR
  have hw := hw h2 eh2
  have hE : xb_ext h0 h2 := by rw [eh2]; exact hE
  refine lv_lconst (v := 0) hx hb (xb_d D_Exact_cut 109 rfl) (by decide) ?_
  exact xb_lret 0 0 hx hb hr hlocks (show k + 0 ≤ MC by omega) (show n + 0 ≤ MS by omega) hE hR hS (xb_d D_Exact_cut 110 rfl) hw

set_option maxHeartbeats 4000000 in
set_option maxRecDepth 100000 in
theorem am_Exact_cut_L186 (l : Launch) (hfl : l.flags = pinnedFlags ++ [noTraceFlag]) (D : va_G) (A : Nat → Prop) (σ MC MS : Nat) (h0 : xb_H) (Qr : Int64 → xb_H → Prop) (x0 : Nat) (x5 : Int32) (x6 : Int64) (y0 : Int64) (h : xb_H) (hw : w_Exact_cut_L186 Qr x0 x5 x6 y0 h) : xb_am l D A σ 5 MC MS h0 (fun v h _ _ => ∃ r, v = some (.long r) ∧ Qr r h) (fun _ _ _ _ => False) y_Exact_cut.cls y_Exact_cut.name b_Exact_cut 10 ([] : List ExceptionTableEntry) (some .long) 186 [(0, .ref x0), (5, .int x5), (6, .long x6)] [.long y0] h 0 0 := by
  unfold w_Exact_cut_L186 at hw
  intro p e s m args below meth c hC H locs ls k n hE hl hR hS hk hn
  obtain ⟨hx, hb, hown, hlocks, htab, hml, hr, hB, hA, hnm⟩ := id hC
  have hts := hB.1.1.at args
  refine lv_lstore hx hb (xb_d D_Exact_cut 99 rfl) hl (by decide) rfl (fun ls hl => ?_)
  have hl : lv_has ls 10 [(8, .long y0), (0, .ref x0), (5, .int x5), (6, .long x6)] := hl
  refine lv_iload hx hb (xb_d D_Exact_cut 100 rfl) (lv_at hl 2 rfl) ?_
  refine lv_if_ne (tgt := 203) hx hb (xb_d D_Exact_cut 101 rfl) rfl (fun hc1 => ?_) (fun hc1 => ?_)
  · have hw := hw.1 hc1
    exact am_Exact_cut_L203 l hfl D A σ MC MS h0 Qr x0 h hw p e s m args below meth c hC H locs ls k n hE (lv_sub hl [1] rfl) hR hS (by omega) (by omega)
  · have hw := hw.2 hc1
    refine lv_lload hx hb (xb_d D_Exact_cut 102 rfl) (lv_at hl 0 rfl) ?_
    refine lv_lload hx hb (xb_d D_Exact_cut 103 rfl) (lv_at hl 3 rfl) ?_
    refine xb_call0 (D := D) (A := A) (σ := σ) (h := h) (d := 2) (maxL := 4) (rest := []) (av := [.long y0, .long x6]) (fun T hT X => xt_invS X hx hown (hts _ m_030a6585) (hts _ m_d6ff3ad9) (hts _ m_b807310b) (xt_sgS (hts _ m_22a27095)).1 (xt_sgS (hts _ m_22a27095)).2 nm_Exact_below (g := F0 m 197 ls [.long x6, .long y0]) rfl (argsL := [.long y0, .long x6]) (rest := []) rfl rfl (by rw [hb]; exact (xb_d D_Exact_cut 104 rfl))) (ok_Exact_below l hfl D A σ y0 x6 h _ hw) (hml.trans hl.1.symm) (by rw [hb]; exact (xb_d D_Exact_cut 104 rfl)) (Nat.le_of_ble_eq_true rfl) (Nat.le_of_ble_eq_true rfl) (Nat.le_of_ble_eq_true rfl) (show k ≤ MC by omega) (show n ≤ MS by omega) (xt_w1 hB.1 m_22a27095) (xt_cdOf hB.1 m_22a27095) (hts _ m_b807310b) hB hR hS hA (fun vv h2 H locs hq hEh2 hR hS => ?_)
    obtain ⟨r3, rfl, hw⟩ := hq
    have hw := hw hEh2
    have hE := hE.tr hEh2
    refine W.eq (g2 := F0 m 200 ls [.int r3]) rfl ?_
    refine lv_if_eq (tgt := 210) hx hb (xb_d D_Exact_cut 105 rfl) rfl (fun hc4 => ?_) (fun hc4 => ?_)
    · have hw := hw.1 hc4
      refine lv_aload_n hx hb (xb_d D_Exact_cut 111 rfl) rfl (lv_at hl 1 rfl) ?_
      obtain ⟨hk5, hw⟩ := hw
      refine xb_getI (C := R_Exact) (T := F_Exact) (N := 11) hx hb 9 8 hts fin_Exact hown hR hk5 (by decide) rfl (by decide) rfl (hts _ m_124dafb0) (fun _ h9 => h9) (xb_d D_Exact_cut 112 rfl) ?_
      refine lv_if_eq (tgt := 223) hx hb (xb_d D_Exact_cut 113 rfl) rfl (fun hc6 => ?_) (fun hc6 => ?_)
      · have hw := hw.1 hc6
        refine lv_lload hx hb (xb_d D_Exact_cut 117 rfl) (lv_at hl 3 rfl) ?_
        exact am_Exact_cut_L225 l hfl D A σ MC MS h0 Qr x6 h2 hw p e s m args below meth c hC H locs ls k n hE (lv_sub hl [] rfl) hR hS (by omega) (by omega)
      · have hw := hw.2 hc6
        refine lv_lload hx hb (xb_d D_Exact_cut 114 rfl) (lv_at hl 3 rfl) ?_
        refine lv_lneg hx hb (xb_d D_Exact_cut 115 rfl) ?_
        refine lv_goto (tgt := 225) hx hb (xb_d D_Exact_cut 116 rfl) rfl ?_
        exact am_Exact_cut_L225 l hfl D A σ MC MS h0 Qr (-x6) h2 hw p e s m args below meth c hC H locs ls k n hE (lv_sub hl [] rfl) hR hS (by omega) (by omega)
    · have hw := hw.2 hc4
      exact am_Exact_cut_L203 l hfl D A σ MC MS h0 Qr x0 h2 hw p e s m args below meth c hC H locs ls k n hE (lv_sub hl [1] rfl) hR hS (by omega) (by omega)

set_option maxHeartbeats 4000000 in
set_option maxRecDepth 100000 in
theorem am_Exact_cut_L128 (l : Launch) (hfl : l.flags = pinnedFlags ++ [noTraceFlag]) (D : va_G) (A : Nat → Prop) (σ MC MS : Nat) (h0 : xb_H) (Qr : Int64 → xb_H → Prop) (x0 : Nat) (x3 : Int32) (x4 : Int32) (x5 : Int32) (y0 : Int64) (h : xb_H) (hw : w_Exact_cut_L128 Qr x0 x3 x4 x5 y0 h) : xb_am l D A σ 5 MC MS h0 (fun v h _ _ => ∃ r, v = some (.long r) ∧ Qr r h) (fun _ _ _ _ => False) y_Exact_cut.cls y_Exact_cut.name b_Exact_cut 10 ([] : List ExceptionTableEntry) (some .long) 128 [(0, .ref x0), (3, .int x3), (4, .int x4), (5, .int x5)] [.long y0] h 0 0 := by
  unfold w_Exact_cut_L128 at hw
  intro p e s m args below meth c hC H locs ls k n hE hl hR hS hk hn
  obtain ⟨hx, hb, hown, hlocks, htab, hml, hr, hB, hA, hnm⟩ := id hC
  have hts := hB.1.1.at args
  refine lv_lstore hx hb (xb_d D_Exact_cut 68 rfl) hl (by decide) rfl (fun ls hl => ?_)
  have hl : lv_has ls 10 [(6, .long y0), (0, .ref x0), (3, .int x3), (4, .int x4), (5, .int x5)] := hl
  refine lv_iload hx hb (xb_d D_Exact_cut 69 rfl) (lv_at hl 3 rfl) ?_
  refine lv_if_eq (tgt := 160) hx hb (xb_d D_Exact_cut 70 rfl) rfl (fun hc1 => ?_) (fun hc1 => ?_)
  · have hw := hw.1 hc1
    refine lv_aload_n hx hb (xb_d D_Exact_cut 88 rfl) rfl (lv_at hl 1 rfl) ?_
    obtain ⟨hk2, hw⟩ := hw
    refine xb_getI (C := R_Exact) (T := F_Exact) (N := 11) hx hb 9 8 hts fin_Exact hown hR hk2 (by decide) rfl (by decide) rfl (hts _ m_124dafb0) (fun _ h9 => h9) (xb_d D_Exact_cut 89 rfl) ?_
    refine lv_if_eq (tgt := 171) hx hb (xb_d D_Exact_cut 90 rfl) rfl (fun hc3 => ?_) (fun hc3 => ?_)
    · have hw := hw.1 hc3
      refine lv_iload_n hx hb (xb_d D_Exact_cut 93 rfl) rfl (lv_at hl 2 rfl) ?_
      refine lv_bipush (v := 64) hx hb (xb_d D_Exact_cut 94 rfl) (by decide) ?_
      refine lv_icmp_ne (tgt := 183) hx hb (xb_d D_Exact_cut 95 rfl) rfl (fun hc4 => ?_) (fun hc4 => ?_)
      · have hw := hw.1 hc4
        refine lv_ldc2 (v := 4294967295) hx hb hown (hts _ m_0a075798) (xb_d D_Exact_cut 98 rfl) ?_
        exact am_Exact_cut_L186 l hfl D A σ MC MS h0 Qr x0 x5 y0 4294967295 h hw p e s m args below meth c hC H locs ls k n hE (lv_sub hl [1, 4, 0] rfl) hR hS (by omega) (by omega)
      · have hw := hw.2 hc4
        refine lv_ldc2 (v := (-1)) hx hb hown (hts _ m_b50c695a) (xb_d D_Exact_cut 96 rfl) ?_
        refine lv_goto (tgt := 186) hx hb (xb_d D_Exact_cut 97 rfl) rfl ?_
        exact am_Exact_cut_L186 l hfl D A σ MC MS h0 Qr x0 x5 y0 (-1) h hw p e s m args below meth c hC H locs ls k n hE (lv_sub hl [1, 4, 0] rfl) hR hS (by omega) (by omega)
    · have hw := hw.2 hc3
      refine lv_lconst (v := 0) hx hb (xb_d D_Exact_cut 91 rfl) (by decide) ?_
      refine lv_goto (tgt := 186) hx hb (xb_d D_Exact_cut 92 rfl) rfl ?_
      exact am_Exact_cut_L186 l hfl D A σ MC MS h0 Qr x0 x5 y0 0 h hw p e s m args below meth c hC H locs ls k n hE (lv_sub hl [1, 4, 0] rfl) hR hS (by omega) (by omega)
  · have hw := hw.2 hc1
    refine lv_aload_n hx hb (xb_d D_Exact_cut 71 rfl) rfl (lv_at hl 1 rfl) ?_
    obtain ⟨hk5, hw⟩ := hw
    refine xb_getI (C := R_Exact) (T := F_Exact) (N := 11) hx hb 9 8 hts fin_Exact hown hR hk5 (by decide) rfl (by decide) rfl (hts _ m_124dafb0) (fun _ h9 => h9) (xb_d D_Exact_cut 72 rfl) ?_
    refine lv_if_eq (tgt := 150) hx hb (xb_d D_Exact_cut 73 rfl) rfl (fun hc6 => ?_) (fun hc6 => ?_)
    · have hw := hw.1 hc6
      refine lv_lconst (v := 1) hx hb (xb_d D_Exact_cut 80 rfl) (by decide) ?_
      refine lv_iload_n hx hb (xb_d D_Exact_cut 81 rfl) rfl (lv_at hl 2 rfl) ?_
      refine lv_iconst (v := 1) hx hb (xb_d D_Exact_cut 82 rfl) (by decide) ?_
      refine lv_isub hx hb (xb_d D_Exact_cut 83 rfl) ?_
      refine lv_lshl (v := (xb_lshl 1 (x3 - 1))) hx hb (xb_d D_Exact_cut 84 rfl) rfl ?_
      refine lv_lconst (v := 1) hx hb (xb_d D_Exact_cut 85 rfl) (by decide) ?_
      refine lv_lsub hx hb (xb_d D_Exact_cut 86 rfl) ?_
      refine lv_goto (tgt := 186) hx hb (xb_d D_Exact_cut 87 rfl) rfl ?_
      exact am_Exact_cut_L186 l hfl D A σ MC MS h0 Qr x0 x5 y0 ((xb_lshl 1 (x3 - 1)) - 1) h hw p e s m args below meth c hC H locs ls k n hE (lv_sub hl [1, 4, 0] rfl) hR hS (by omega) (by omega)
    · have hw := hw.2 hc6
      refine lv_lconst (v := 1) hx hb (xb_d D_Exact_cut 74 rfl) (by decide) ?_
      refine lv_iload_n hx hb (xb_d D_Exact_cut 75 rfl) rfl (lv_at hl 2 rfl) ?_
      refine lv_iconst (v := 1) hx hb (xb_d D_Exact_cut 76 rfl) (by decide) ?_
      refine lv_isub hx hb (xb_d D_Exact_cut 77 rfl) ?_
      refine lv_lshl (v := (xb_lshl 1 (x3 - 1))) hx hb (xb_d D_Exact_cut 78 rfl) rfl ?_
      refine lv_goto (tgt := 186) hx hb (xb_d D_Exact_cut 79 rfl) rfl ?_
      exact am_Exact_cut_L186 l hfl D A σ MC MS h0 Qr x0 x5 y0 (xb_lshl 1 (x3 - 1)) h hw p e s m args below meth c hC H locs ls k n hE (lv_sub hl [1, 4, 0] rfl) hR hS (by omega) (by omega)

set_option maxHeartbeats 4000000 in
set_option maxRecDepth 100000 in
theorem am_Exact_cut_L74 (l : Launch) (hfl : l.flags = pinnedFlags ++ [noTraceFlag]) (D : va_G) (A : Nat → Prop) (σ MC MS : Nat) (h0 : xb_H) (Qr : Int64 → xb_H → Prop) (x0 : Nat) (x3 : Int32) (x4 : Int32) (y0 : Int32) (h : xb_H) (hw : w_Exact_cut_L74 Qr x0 x3 x4 y0 h) : xb_am l D A σ 5 MC MS h0 (fun v h _ _ => ∃ r, v = some (.long r) ∧ Qr r h) (fun _ _ _ _ => False) y_Exact_cut.cls y_Exact_cut.name b_Exact_cut 10 ([] : List ExceptionTableEntry) (some .long) 74 [(0, .ref x0), (3, .int x3), (4, .int x4)] [.int y0] h 0 0 := by
  unfold w_Exact_cut_L74 at hw
  intro p e s m args below meth c hC H locs ls k n hE hl hR hS hk hn
  obtain ⟨hx, hb, hown, hlocks, htab, hml, hr, hB, hA, hnm⟩ := id hC
  have hts := hB.1.1.at args
  refine lv_istore hx hb (xb_d D_Exact_cut 41 rfl) hl (by decide) rfl (fun ls hl => ?_)
  have hl : lv_has ls 10 [(5, .int y0), (0, .ref x0), (3, .int x3), (4, .int x4)] := hl
  refine lv_iload hx hb (xb_d D_Exact_cut 42 rfl) (lv_at hl 0 rfl) ?_
  refine lv_if_eq (tgt := 85) hx hb (xb_d D_Exact_cut 43 rfl) rfl (fun hc1 => ?_) (fun hc1 => ?_)
  · have hw := hw.1 hc1
    refine lv_aload_n hx hb (xb_d D_Exact_cut 46 rfl) rfl (lv_at hl 1 rfl) ?_
    obtain ⟨hk2, hw⟩ := hw
    refine xb_getI (C := R_Exact) (T := F_Exact) (N := 11) hx hb 9 10 hts fin_Exact hown hR hk2 (by decide) rfl (by decide) rfl (hts _ m_a62210ac) (fun _ h9 => h9) (xb_d D_Exact_cut 47 rfl) ?_
    refine lv_if_lt (tgt := 104) hx hb (xb_d D_Exact_cut 48 rfl) rfl (fun hc3 => ?_) (fun hc3 => ?_)
    · have hw := hw.1 hc3
      refine lv_aload_n hx hb (xb_d D_Exact_cut 55 rfl) rfl (lv_at hl 1 rfl) ?_
      refine xb_getI (C := R_Exact) (T := F_Exact) (N := 11) hx hb 9 10 hts fin_Exact hown hR hk2 (by decide) rfl (by decide) rfl (hts _ m_a62210ac) (fun _ h9 => h9) (xb_d D_Exact_cut 56 rfl) ?_
      refine lv_ineg hx hb (xb_d D_Exact_cut 57 rfl) ?_
      refine lv_bipush (v := 62) hx hb (xb_d D_Exact_cut 58 rfl) (by decide) ?_
      refine lv_icmp_le (tgt := 118) hx hb (xb_d D_Exact_cut 59 rfl) rfl (fun hc4 => ?_) (fun hc4 => ?_)
      · have hw := hw.1 hc4
        refine lv_aload_n hx hb (xb_d D_Exact_cut 62 rfl) rfl (lv_at hl 1 rfl) ?_
        refine xb_getL (C := R_Exact) (T := F_Exact) (N := 11) hx hb 9 9 hts fin_Exact hown hR hk2 (by decide) rfl (by decide) rfl (hts _ m_183e6a18) (fun _ h9 => h9) (xb_d D_Exact_cut 63 rfl) ?_
        refine lv_aload_n hx hb (xb_d D_Exact_cut 64 rfl) rfl (lv_at hl 1 rfl) ?_
        refine xb_getI (C := R_Exact) (T := F_Exact) (N := 11) hx hb 9 10 hts fin_Exact hown hR hk2 (by decide) rfl (by decide) rfl (hts _ m_a62210ac) (fun _ h9 => h9) (xb_d D_Exact_cut 65 rfl) ?_
        refine lv_ineg hx hb (xb_d D_Exact_cut 66 rfl) ?_
        refine lv_lshr (v := (xb_lshr (xb_l h x0 9) (-(xb_i h x0 10)))) hx hb (xb_d D_Exact_cut 67 rfl) rfl ?_
        exact am_Exact_cut_L128 l hfl D A σ MC MS h0 Qr x0 x3 x4 y0 (xb_lshr (xb_l h x0 9) (-(xb_i h x0 10))) h hw p e s m args below meth c hC H locs ls k n hE (lv_sub hl [1, 2, 3, 0] rfl) hR hS (by omega) (by omega)
      · have hw := hw.2 hc4
        refine lv_lconst (v := 0) hx hb (xb_d D_Exact_cut 60 rfl) (by decide) ?_
        refine lv_goto (tgt := 128) hx hb (xb_d D_Exact_cut 61 rfl) rfl ?_
        exact am_Exact_cut_L128 l hfl D A σ MC MS h0 Qr x0 x3 x4 y0 0 h hw p e s m args below meth c hC H locs ls k n hE (lv_sub hl [1, 2, 3, 0] rfl) hR hS (by omega) (by omega)
    · have hw := hw.2 hc3
      refine lv_aload_n hx hb (xb_d D_Exact_cut 49 rfl) rfl (lv_at hl 1 rfl) ?_
      refine xb_getL (C := R_Exact) (T := F_Exact) (N := 11) hx hb 9 9 hts fin_Exact hown hR hk2 (by decide) rfl (by decide) rfl (hts _ m_183e6a18) (fun _ h9 => h9) (xb_d D_Exact_cut 50 rfl) ?_
      refine lv_aload_n hx hb (xb_d D_Exact_cut 51 rfl) rfl (lv_at hl 1 rfl) ?_
      refine xb_getI (C := R_Exact) (T := F_Exact) (N := 11) hx hb 9 10 hts fin_Exact hown hR hk2 (by decide) rfl (by decide) rfl (hts _ m_a62210ac) (fun _ h9 => h9) (xb_d D_Exact_cut 52 rfl) ?_
      refine lv_lshl (v := (xb_lshl (xb_l h x0 9) (xb_i h x0 10))) hx hb (xb_d D_Exact_cut 53 rfl) rfl ?_
      refine lv_goto (tgt := 128) hx hb (xb_d D_Exact_cut 54 rfl) rfl ?_
      exact am_Exact_cut_L128 l hfl D A σ MC MS h0 Qr x0 x3 x4 y0 (xb_lshl (xb_l h x0 9) (xb_i h x0 10)) h hw p e s m args below meth c hC H locs ls k n hE (lv_sub hl [1, 2, 3, 0] rfl) hR hS (by omega) (by omega)
  · have hw := hw.2 hc1
    refine lv_lconst (v := 0) hx hb (xb_d D_Exact_cut 44 rfl) (by decide) ?_
    refine lv_goto (tgt := 128) hx hb (xb_d D_Exact_cut 45 rfl) rfl ?_
    exact am_Exact_cut_L128 l hfl D A σ MC MS h0 Qr x0 x3 x4 y0 0 h hw p e s m args below meth c hC H locs ls k n hE (lv_sub hl [1, 2, 3, 0] rfl) hR hS (by omega) (by omega)

set_option maxHeartbeats 4000000 in
set_option maxRecDepth 100000 in
theorem am_Exact_cut_L73 (l : Launch) (hfl : l.flags = pinnedFlags ++ [noTraceFlag]) (D : va_G) (A : Nat → Prop) (σ MC MS : Nat) (h0 : xb_H) (Qr : Int64 → xb_H → Prop) (x0 : Nat) (x3 : Int32) (x4 : Int32) (h : xb_H) (hw : w_Exact_cut_L73 Qr x0 x3 x4 h) : xb_am l D A σ 5 MC MS h0 (fun v h _ _ => ∃ r, v = some (.long r) ∧ Qr r h) (fun _ _ _ _ => False) y_Exact_cut.cls y_Exact_cut.name b_Exact_cut 10 ([] : List ExceptionTableEntry) (some .long) 73 [(0, .ref x0), (3, .int x3), (4, .int x4)] [] h 0 0 := by
  unfold w_Exact_cut_L73 at hw
  intro p e s m args below meth c hC H locs ls k n hE hl hR hS hk hn
  obtain ⟨hx, hb, hown, hlocks, htab, hml, hr, hB, hA, hnm⟩ := id hC
  have hts := hB.1.1.at args
  refine lv_iconst (v := 0) hx hb (xb_d D_Exact_cut 40 rfl) (by decide) ?_
  exact am_Exact_cut_L74 l hfl D A σ MC MS h0 Qr x0 x3 x4 0 h hw p e s m args below meth c hC H locs ls k n hE (lv_sub hl [0, 1, 2] rfl) hR hS (by omega) (by omega)

set_option maxHeartbeats 4000000 in
set_option maxRecDepth 100000 in
theorem am_Exact_cut_L65 (l : Launch) (hfl : l.flags = pinnedFlags ++ [noTraceFlag]) (D : va_G) (A : Nat → Prop) (σ MC MS : Nat) (h0 : xb_H) (Qr : Int64 → xb_H → Prop) (x0 : Nat) (x3 : Int32) (x4 : Int32) (y0 : Int32) (y1 : Int32) (y2 : Int32) (h : xb_H) (hw : w_Exact_cut_L65 Qr x0 x3 x4 y0 y1 y2 h) : xb_am l D A σ 5 MC MS h0 (fun v h _ _ => ∃ r, v = some (.long r) ∧ Qr r h) (fun _ _ _ _ => False) y_Exact_cut.cls y_Exact_cut.name b_Exact_cut 10 ([] : List ExceptionTableEntry) (some .long) 65 [(0, .ref x0), (3, .int x3), (4, .int x4)] [.int y0, .int y1, .int y2] h 0 0 := by
  unfold w_Exact_cut_L65 at hw
  intro p e s m args below meth c hC H locs ls k n hE hl hR hS hk hn
  obtain ⟨hx, hb, hown, hlocks, htab, hml, hr, hB, hA, hnm⟩ := id hC
  have hts := hB.1.1.at args
  refine lv_iadd hx hb (xb_d D_Exact_cut 36 rfl) ?_
  refine lv_icmp_le (tgt := 73) hx hb (xb_d D_Exact_cut 37 rfl) rfl (fun hc1 => ?_) (fun hc1 => ?_)
  · have hw := hw.1 hc1
    exact am_Exact_cut_L73 l hfl D A σ MC MS h0 Qr x0 x3 x4 h hw p e s m args below meth c hC H locs ls k n hE (lv_sub hl [0, 1, 2] rfl) hR hS (by omega) (by omega)
  · have hw := hw.2 hc1
    refine lv_iconst (v := 1) hx hb (xb_d D_Exact_cut 38 rfl) (by decide) ?_
    refine lv_goto (tgt := 74) hx hb (xb_d D_Exact_cut 39 rfl) rfl ?_
    exact am_Exact_cut_L74 l hfl D A σ MC MS h0 Qr x0 x3 x4 1 h hw p e s m args below meth c hC H locs ls k n hE (lv_sub hl [0, 1, 2] rfl) hR hS (by omega) (by omega)

set_option maxHeartbeats 4000000 in
set_option maxRecDepth 100000 in
theorem ok_Exact_cut (l : Launch) (hfl : l.flags = pinnedFlags ++ [noTraceFlag]) (D : va_G) (A : Nat → Prop) (σ : Nat) (x0 : Nat) (x1 : Int64) (x3 : Int32) (x4 : Int32) (h : xb_H) (Qr : Int64 → xb_H → Prop) (hw : w_Exact_cut x0 x1 x3 x4 h Qr) : xb_Met l y_Exact_cut [.code y_Exact_cut b_Exact_cut 10 (some .long)] (xb_rm 5 0 0) (xb_Pc D A σ h [.ref x0, .long x1, .int x3, .int x4]) (xb_Qc D A h 0 0 (fun v h _ _ => ∃ r, v = some (.long r) ∧ Qr r h) (fun _ _ _ _ => False)) A := by
  refine xb_ofAm (cc := b_Exact_cut) (by decide) (Nat.le_of_ble_eq_true rfl) ?_
  unfold w_Exact_cut at hw
  show xb_am l D A σ 5 0 0 h (fun v h _ _ => ∃ r, v = some (.long r) ∧ Qr r h) (fun _ _ _ _ => False) y_Exact_cut.cls y_Exact_cut.name b_Exact_cut 10 ([] : List ExceptionTableEntry) (some .long) 0 [(0, .ref x0), (1, .long x1), (3, .int x3), (4, .int x4)] [] h 0 0
  obtain ⟨MC, hMC⟩ : ∃ x, x = 0 := ⟨_, rfl⟩
  obtain ⟨MS, hMS⟩ : ∃ x, x = 0 := ⟨_, rfl⟩
  rw [show xb_am l D A σ 5 0 0 = xb_am l D A σ 5 MC MS by rw [hMC, hMS]]
  obtain ⟨h0, hh0⟩ : ∃ x, x = h := ⟨_, rfl⟩
  rw [show xb_am l D A σ 5 MC MS h = xb_am l D A σ 5 MC MS h0 by rw [hh0]]
  intro p e s m args below meth c hC H locs ls k n hE hl hR hS hk hn
  obtain ⟨hx, hb, hown, hlocks, htab, hml, hr, hB, hA, hnm⟩ := id hC
  have hts := hB.1.1.at args
  refine lv_aload_n hx hb (xb_d D_Exact_cut 0 rfl) rfl (lv_at hl 0 rfl) ?_
  refine lv_lload_n hx hb (xb_d D_Exact_cut 1 rfl) rfl (lv_at hl 1 rfl) ?_
  obtain ⟨hk1, hw⟩ := hw
  refine xb_call0 (D := D) (A := A) (σ := σ) (h := h) (d := 4) (maxL := 3) (rest := []) (av := [.ref x0, .long x1]) (fun T hT X => by obtain ⟨cb9, ra9, rb9, rc9⟩ := xb_recv (ci := 9) hR rfl hk1 (by decide); exact xt_invV X hx hown (hts _ m_e6998383) (hts _ m_c3a6d16d) (hts _ m_67f195fc) (xt_sigOf (hts _ m_e0ca15fb)) nm_Exact_isNone (by rw [hT]; exact ra9) rb9 rc9 (g := F0 m 2 ls [.long x1, .ref x0]) rfl (argsL := [.long x1]) (rest := []) rfl rfl (by rw [hb]; exact (xb_d D_Exact_cut 2 rfl))) (ok_Exact_isNone l hfl D A σ x0 x1 h _ hw) (hml.trans hl.1.symm) (by rw [hb]; exact (xb_d D_Exact_cut 2 rfl)) (Nat.le_of_ble_eq_true rfl) (Nat.le_of_ble_eq_true rfl) (Nat.le_of_ble_eq_true rfl) (show k ≤ MC by omega) (show n ≤ MS by omega) (xt_w1 hB.1 m_e0ca15fb) (xt_cdOf hB.1 m_e0ca15fb) (hts _ m_b807310b) hB hR hS hA (fun vv h2 H locs hq hEh2 hR hS => ?_)
  obtain ⟨r3, rfl, hw⟩ := hq
  have hw := hw hEh2
  have hE := hE.tr hEh2
  refine W.eq (g2 := F0 m 5 ls [.int r3]) rfl ?_
  refine lv_if_eq (tgt := 15) hx hb (xb_d D_Exact_cut 3 rfl) rfl (fun hc4 => ?_) (fun hc4 => ?_)
  · have hw := hw.1 hc4
    refine lv_aload_n hx hb (xb_d D_Exact_cut 9 rfl) rfl (lv_at hl 0 rfl) ?_
    refine lv_lload_n hx hb (xb_d D_Exact_cut 10 rfl) rfl (lv_at hl 1 rfl) ?_
    have hk1 : xb_k h2 x0 = 10 := hEh2.k hk1
    refine xb_call0 (D := D) (A := A) (σ := σ) (h := h2) (d := 4) (maxL := 3) (rest := []) (av := [.ref x0, .long x1]) (fun T hT X => by obtain ⟨cb9, ra9, rb9, rc9⟩ := xb_recv (ci := 9) hR rfl hk1 (by decide); exact xt_invV X hx hown (hts _ m_4d51455e) (hts _ m_6f0f72ed) (hts _ m_54335684) (xt_sigOf (hts _ m_c0f31264)) nm_Exact_isInfinite (by rw [hT]; exact ra9) rb9 rc9 (g := F0 m 17 ls [.long x1, .ref x0]) rfl (argsL := [.long x1]) (rest := []) rfl rfl (by rw [hb]; exact (xb_d D_Exact_cut 11 rfl))) (ok_Exact_isInfinite l hfl D A σ x0 x1 h2 _ hw) (hml.trans hl.1.symm) (by rw [hb]; exact (xb_d D_Exact_cut 11 rfl)) (Nat.le_of_ble_eq_true rfl) (Nat.le_of_ble_eq_true rfl) (Nat.le_of_ble_eq_true rfl) (show k ≤ MC by omega) (show n ≤ MS by omega) (xt_w1 hB.1 m_c0f31264) (xt_cdOf hB.1 m_c0f31264) (hts _ m_b807310b) hB hR hS hA (fun vv h5 H locs hq hEh5 hR hS => ?_)
    obtain ⟨r6, rfl, hw⟩ := hq
    have hw := hw hEh5
    have hE := hE.tr hEh5
    refine W.eq (g2 := F0 m 20 ls [.int r6]) rfl ?_
    refine lv_if_eq (tgt := 30) hx hb (xb_d D_Exact_cut 12 rfl) rfl (fun hc7 => ?_) (fun hc7 => ?_)
    · have hw := hw.1 hc7
      refine lv_aload_n hx hb (xb_d D_Exact_cut 18 rfl) rfl (lv_at hl 0 rfl) ?_
      refine lv_lload_n hx hb (xb_d D_Exact_cut 19 rfl) rfl (lv_at hl 1 rfl) ?_
      have hk1 : xb_k h5 x0 = 10 := hEh5.k hk1
      refine xb_call0 (D := D) (A := A) (σ := σ) (h := h5) (d := 3) (maxL := 7) (rest := []) (av := [.ref x0, .long x1]) (fun T hT X => by obtain ⟨cb9, ra9, rb9, rc9⟩ := xb_recv (ci := 9) hR rfl hk1 (by decide); exact xt_invV X hx hown (hts _ m_26946ca5) (hts _ m_c8f41404) (hts _ m_e3ba6af7) (xt_sigOf (hts _ m_921646f3)) nm_Exact_split (by rw [hT]; exact ra9) rb9 rc9 (g := F0 m 32 ls [.long x1, .ref x0]) rfl (argsL := [.long x1]) (rest := []) rfl rfl (by rw [hb]; exact (xb_d D_Exact_cut 20 rfl))) (ok_Exact_split l hfl D A σ x0 x1 h5 _ hw) (hml.trans hl.1.symm) (by rw [hb]; exact (xb_d D_Exact_cut 20 rfl)) (Nat.le_of_ble_eq_true rfl) (Nat.le_of_ble_eq_true rfl) (Nat.le_of_ble_eq_true rfl) (show k ≤ MC by omega) (show n ≤ MS by omega) (xt_w1 hB.1 m_921646f3) (xt_cdOf hB.1 m_921646f3) (hts _ m_b807310b) hB hR hS hA (fun vv h8 H locs hq hEh8 hR hS => ?_)
      obtain ⟨rfl, hw⟩ := hq
      have hw := hw hEh8
      have hE := hE.tr hEh8
      refine W.eq (g2 := F0 m 35 ls []) rfl ?_
      refine lv_aload_n hx hb (xb_d D_Exact_cut 21 rfl) rfl (lv_at hl 0 rfl) ?_
      have hk1 : xb_k h8 x0 = 10 := hEh8.k hk1
      refine xb_getL (C := R_Exact) (T := F_Exact) (N := 11) hx hb 9 9 hts fin_Exact hown hR hk1 (by decide) rfl (by decide) rfl (hts _ m_183e6a18) (fun _ h9 => h9) (xb_d D_Exact_cut 22 rfl) ?_
      refine lv_lconst (v := 0) hx hb (xb_d D_Exact_cut 23 rfl) (by decide) ?_
      refine xb_lc_eq (tgt := 73) hx hb (xb_d D_Exact_cut 24 rfl) (xb_d D_Exact_cut 25 rfl) rfl (fun hc10 => ?_) (fun hc10 => ?_)
      · have hw := hw.1 hc10
        exact am_Exact_cut_L73 l hfl D A σ MC MS h0 Qr x0 x3 x4 h8 hw p e s m args below meth c hC H locs ls k n hE (lv_sub hl [0, 2, 3] rfl) hR hS (by omega) (by omega)
      · have hw := hw.2 hc10
        refine lv_aload_n hx hb (xb_d D_Exact_cut 26 rfl) rfl (lv_at hl 0 rfl) ?_
        refine xb_getI (C := R_Exact) (T := F_Exact) (N := 11) hx hb 9 10 hts fin_Exact hown hR hk1 (by decide) rfl (by decide) rfl (hts _ m_a62210ac) (fun _ h9 => h9) (xb_d D_Exact_cut 27 rfl) ?_
        refine lv_bipush (v := 11) hx hb (xb_d D_Exact_cut 28 rfl) (by decide) ?_
        refine lv_aload_n hx hb (xb_d D_Exact_cut 29 rfl) rfl (lv_at hl 0 rfl) ?_
        refine xb_getI (C := R_Exact) (T := F_Exact) (N := 11) hx hb 9 5 hts fin_Exact hown hR hk1 (by decide) rfl (by decide) rfl (hts _ m_30b212e4) (fun _ h9 => h9) (xb_d D_Exact_cut 30 rfl) ?_
        refine lv_bipush (v := 32) hx hb (xb_d D_Exact_cut 31 rfl) (by decide) ?_
        refine lv_icmp_ne (tgt := 64) hx hb (xb_d D_Exact_cut 32 rfl) rfl (fun hc11 => ?_) (fun hc11 => ?_)
        · have hw := hw.1 hc11
          refine lv_iconst (v := 0) hx hb (xb_d D_Exact_cut 35 rfl) (by decide) ?_
          exact am_Exact_cut_L65 l hfl D A σ MC MS h0 Qr x0 x3 x4 0 11 (xb_i h8 x0 10) h8 hw p e s m args below meth c hC H locs ls k n hE (lv_sub hl [0, 2, 3] rfl) hR hS (by omega) (by omega)
        · have hw := hw.2 hc11
          refine lv_bipush (v := 29) hx hb (xb_d D_Exact_cut 33 rfl) (by decide) ?_
          refine lv_goto (tgt := 65) hx hb (xb_d D_Exact_cut 34 rfl) rfl ?_
          exact am_Exact_cut_L65 l hfl D A σ MC MS h0 Qr x0 x3 x4 29 11 (xb_i h8 x0 10) h8 hw p e s m args below meth c hC H locs ls k n hE (lv_sub hl [0, 2, 3] rfl) hR hS (by omega) (by omega)
    · have hw := hw.2 hc7
      refine lv_aload_n hx hb (xb_d D_Exact_cut 13 rfl) rfl (lv_at hl 0 rfl) ?_
      refine lv_iconst (v := 3) hx hb (xb_d D_Exact_cut 14 rfl) (by decide) ?_
      have hk1 : xb_k h5 x0 = 10 := hEh5.k hk1
      refine xb_putI (C := R_Exact) (T := F_Exact) (N := 11) (ty := .int) (x := 3) hx hb 9 0 hts fin_Exact t_Exact t_Exact_ok n_Exact hown hR hS hk1 (by decide) rfl (by decide) rfl (hts _ m_3957194a) (fun _ h9 => h9) rfl (by decide +kernel) rfl rfl (xb_d D_Exact_cut 15 rfl) (fun H locs hR hS => ?_)
      obtain ⟨h12, eh12⟩ : ∃ x : xb_H, x = xb_I h5 x0 0 3 := ⟨_, rfl⟩
      rw [← eh12] at hR
      have hw := hw h12 eh12
      have hE : xb_ext h0 h12 := by rw [eh12]; exact hE
      refine lv_lconst (v := 0) hx hb (xb_d D_Exact_cut 16 rfl) (by decide) ?_
      exact xb_lret 0 0 hx hb hr hlocks (show k + 0 ≤ MC by omega) (show n + 0 ≤ MS by omega) hE hR hS (xb_d D_Exact_cut 17 rfl) hw
  · have hw := hw.2 hc4
    refine lv_aload_n hx hb (xb_d D_Exact_cut 4 rfl) rfl (lv_at hl 0 rfl) ?_
    refine lv_iconst (v := 4) hx hb (xb_d D_Exact_cut 5 rfl) (by decide) ?_
    have hk1 : xb_k h2 x0 = 10 := hEh2.k hk1
    refine xb_putI (C := R_Exact) (T := F_Exact) (N := 11) (ty := .int) (x := 4) hx hb 9 0 hts fin_Exact t_Exact t_Exact_ok n_Exact hown hR hS hk1 (by decide) rfl (by decide) rfl (hts _ m_3957194a) (fun _ h9 => h9) rfl (by decide +kernel) rfl rfl (xb_d D_Exact_cut 6 rfl) (fun H locs hR hS => ?_)
    obtain ⟨h13, eh13⟩ : ∃ x : xb_H, x = xb_I h2 x0 0 4 := ⟨_, rfl⟩
    rw [← eh13] at hR
    have hw := hw h13 eh13
    have hE : xb_ext h0 h13 := by rw [eh13]; exact hE
    refine lv_lconst (v := 0) hx hb (xb_d D_Exact_cut 7 rfl) (by decide) ?_
    exact xb_lret 0 0 hx hb hr hlocks (show k + 0 ≤ MC by omega) (show n + 0 ≤ MS by omega) hE hR hS (xb_d D_Exact_cut 8 rfl) hw

theorem m_547afbfb : (.methodLink "StackHostModel$Exact" 114 y_Exact_add : Cond) ∈ xt_tbl := xt_in (xt_t13 (List.mem_of_getElem? (i := 19) (by decide +kernel))) (by decide +kernel)
theorem m_d4b837ea : (.instanceMethod y_Exact_add : Cond) ∈ xt_tbl := xt_in (xt_t13 (List.mem_of_getElem? (i := 21) (by decide +kernel))) (by decide +kernel)
theorem m_b818cb8b : (.selects "StackHostModel$Exact" y_Exact_add y_Exact_add : Cond) ∈ xt_tbl := xt_in (xt_v15 (q := (⟨"StackHostModel$Exact", "add", "(JI)V"⟩, 11)) (List.mem_of_getElem? (i := 14) (by decide +kernel))) (by decide +kernel)
theorem m_59b46d39 : (.code y_Exact_add b_Exact_add 9 none : Cond) ∈ xt_tbl := xt_in (xt_t13 (List.mem_of_getElem? (i := 22) (by decide +kernel))) (by decide +kernel)
theorem m_2aa5d168 : (.methodLink "StackHostModel$Exact" 121 y_Exact_rounded : Cond) ∈ xt_tbl := xt_in (xt_t13 (List.mem_of_getElem? (i := 27) (by decide +kernel))) (by decide +kernel)
theorem m_a9d2c1e2 : (.instanceMethod y_Exact_rounded : Cond) ∈ xt_tbl := xt_in (xt_t13 (List.mem_of_getElem? (i := 29) (by decide +kernel))) (by decide +kernel)
theorem m_665f83d8 : (.selects "StackHostModel$Exact" y_Exact_rounded y_Exact_rounded : Cond) ∈ xt_tbl := xt_in (xt_v16 (q := (⟨"StackHostModel$Exact", "rounded", "(Z)J"⟩, 11)) (List.mem_of_getElem? (i := 0) (by decide +kernel))) (by decide +kernel)
theorem m_bb0adfae : (.code y_Exact_rounded b_Exact_rounded 10 (some .long) : Cond) ∈ xt_tbl := xt_in (xt_t13 (List.mem_of_getElem? (i := 30) (by decide +kernel))) (by decide +kernel)
theorem m_65d93325 : (.methodLink "StackHostModel$Exact" 107 y_Exact_clear : Cond) ∈ xt_tbl := xt_in (xt_t13 (List.mem_of_getElem? (i := 15) (by decide +kernel))) (by decide +kernel)
theorem m_c4de73f8 : (.instanceMethod y_Exact_clear : Cond) ∈ xt_tbl := xt_in (xt_t13 (List.mem_of_getElem? (i := 17) (by decide +kernel))) (by decide +kernel)
theorem m_b3f48cc1 : (.selects "StackHostModel$Exact" y_Exact_clear y_Exact_clear : Cond) ∈ xt_tbl := xt_in (xt_v15 (q := (⟨"StackHostModel$Exact", "clear", "()V"⟩, 11)) (List.mem_of_getElem? (i := 13) (by decide +kernel))) (by decide +kernel)
theorem m_b0daac26 : (.code y_Exact_clear b_Exact_clear 2 none : Cond) ∈ xt_tbl := xt_in (xt_t13 (List.mem_of_getElem? (i := 18) (by decide +kernel))) (by decide +kernel)
theorem nm_Exact_add : xt_nm y_Exact_add 2 := ⟨by decide +kernel, by decide +kernel⟩
theorem nm_Exact_rounded : xt_nm y_Exact_rounded 1 := ⟨by decide +kernel, by decide +kernel⟩
theorem nm_Exact_clear : xt_nm y_Exact_clear 0 := ⟨by decide +kernel, by decide +kernel⟩
set_option maxRecDepth 100000 in
def T_Exact_floating : List (Nat × Instr × Nat) := [(0, .lload_n 1, 1), (1, .lconst 0, 1), (2, .lcmp, 1), (3, .ifCond .ne 5, 3), (6, .lconst 0, 1), (7, .lreturn, 1), (8, .iload_n 3, 1), (9, .ifCond .eq 13, 3), (12, .lload_n 1, 1), (13, .lconst 0, 1), (14, .lcmp, 1), (15, .ifCond .ge 7, 3), (18, .iconst 1, 1), (19, .goto 4, 3), (22, .iconst 0, 1), (23, .istore 4, 2), (25, .aload_n 0, 1), (26, .invokevirtual 107, 3), (29, .aload_n 0, 1), (30, .iload 4, 2), (32, .ifCond .eq 8, 3), (35, .lload_n 1, 1), (36, .lneg, 1), (37, .goto 4, 3), (40, .lload_n 1, 1), (41, .iconst 0, 1), (42, .invokevirtual 114, 3), (45, .aload_n 0, 1), (46, .iload 4, 2), (48, .invokevirtual 121, 3), (51, .lreturn, 1)]
theorem D_Exact_floating : ∀ q ∈ T_Exact_floating, decode b_Exact_floating q.1 = .ok (q.2.1, q.2.2) := by decide +kernel

set_option maxHeartbeats 4000000 in
set_option maxRecDepth 100000 in
theorem am_Exact_floating_L41 (l : Launch) (hfl : l.flags = pinnedFlags ++ [noTraceFlag]) (D : va_G) (A : Nat → Prop) (σ MC MS : Nat) (h0 : xb_H) (Qr : Int64 → xb_H → Prop) (x0 : Nat) (x4 : Int32) (y0 : Int64) (y1 : Nat) (h : xb_H) (hw : w_Exact_floating_L41 Qr x0 x4 y0 y1 h) : xb_am l D A σ 5 MC MS h0 (fun v h _ _ => ∃ r, v = some (.long r) ∧ Qr r h) (fun _ _ _ _ => False) y_Exact_floating.cls y_Exact_floating.name b_Exact_floating 5 ([] : List ExceptionTableEntry) (some .long) 41 [(0, .ref x0), (4, .int x4)] [.long y0, .ref y1] h 0 0 := by
  unfold w_Exact_floating_L41 at hw
  intro p e s m args below meth c hC H locs ls k n hE hl hR hS hk hn
  obtain ⟨hx, hb, hown, hlocks, htab, hml, hr, hB, hA, hnm⟩ := id hC
  have hts := hB.1.1.at args
  refine lv_iconst (v := 0) hx hb (xb_d D_Exact_floating 25 rfl) (by decide) ?_
  obtain ⟨hk1, hw⟩ := hw
  refine xb_call0 (D := D) (A := A) (σ := σ) (h := h) (d := 3) (maxL := 9) (rest := []) (av := [.ref y1, .long y0, .int 0]) (fun T hT X => by obtain ⟨cb9, ra9, rb9, rc9⟩ := xb_recv (ci := 9) hR rfl hk1 (by decide); exact xt_invV X hx hown (hts _ m_547afbfb) (hts _ m_d4b837ea) (hts _ m_b818cb8b) (xt_sigOf (hts _ m_59b46d39)) nm_Exact_add (by rw [hT]; exact ra9) rb9 rc9 (g := F0 m 42 ls [.int 0, .long y0, .ref y1]) rfl (argsL := [.long y0, .int 0]) (rest := []) rfl rfl (by rw [hb]; exact (xb_d D_Exact_floating 26 rfl))) (ok_Exact_add l hfl D A σ y1 y0 0 h _ hw) (hml.trans hl.1.symm) (by rw [hb]; exact (xb_d D_Exact_floating 26 rfl)) (Nat.le_of_ble_eq_true rfl) (Nat.le_of_ble_eq_true rfl) (Nat.le_of_ble_eq_true rfl) (show k ≤ MC by omega) (show n ≤ MS by omega) (xt_w1 hB.1 m_59b46d39) (xt_cdOf hB.1 m_59b46d39) (hts _ m_b807310b) hB hR hS hA (fun vv h2 H locs hq hEh2 hR hS => ?_)
  obtain ⟨rfl, hw⟩ := hq
  have hw := hw hEh2
  have hE := hE.tr hEh2
  refine W.eq (g2 := F0 m 45 ls []) rfl ?_
  refine lv_aload_n hx hb (xb_d D_Exact_floating 27 rfl) rfl (lv_at hl 0 rfl) ?_
  refine lv_iload hx hb (xb_d D_Exact_floating 28 rfl) (lv_at hl 1 rfl) ?_
  obtain ⟨hk4, hw⟩ := hw
  refine xb_call0 (D := D) (A := A) (σ := σ) (h := h2) (d := 4) (maxL := 10) (rest := []) (av := [.ref x0, .int x4]) (fun T hT X => by obtain ⟨cb9, ra9, rb9, rc9⟩ := xb_recv (ci := 9) hR rfl hk4 (by decide); exact xt_invV X hx hown (hts _ m_2aa5d168) (hts _ m_a9d2c1e2) (hts _ m_665f83d8) (xt_sigOf (hts _ m_bb0adfae)) nm_Exact_rounded (by rw [hT]; exact ra9) rb9 rc9 (g := F0 m 48 ls [.int x4, .ref x0]) rfl (argsL := [.int x4]) (rest := []) rfl rfl (by rw [hb]; exact (xb_d D_Exact_floating 29 rfl))) (ok_Exact_rounded l hfl D A σ x0 x4 h2 _ hw) (hml.trans hl.1.symm) (by rw [hb]; exact (xb_d D_Exact_floating 29 rfl)) (Nat.le_of_ble_eq_true rfl) (Nat.le_of_ble_eq_true rfl) (Nat.le_of_ble_eq_true rfl) (show k ≤ MC by omega) (show n ≤ MS by omega) (xt_w1 hB.1 m_bb0adfae) (xt_cdOf hB.1 m_bb0adfae) (hts _ m_b807310b) hB hR hS hA (fun vv h5 H locs hq hEh5 hR hS => ?_)
  obtain ⟨r6, rfl, hw⟩ := hq
  have hw := hw hEh5
  have hE := hE.tr hEh5
  refine W.eq (g2 := F0 m 51 ls [.long r6]) rfl ?_
  exact xb_lret 0 0 hx hb hr hlocks (show k + 0 ≤ MC by omega) (show n + 0 ≤ MS by omega) hE hR hS (xb_d D_Exact_floating 30 rfl) hw

set_option maxHeartbeats 4000000 in
set_option maxRecDepth 100000 in
theorem am_Exact_floating_L23 (l : Launch) (hfl : l.flags = pinnedFlags ++ [noTraceFlag]) (D : va_G) (A : Nat → Prop) (σ MC MS : Nat) (h0 : xb_H) (Qr : Int64 → xb_H → Prop) (x0 : Nat) (x1 : Int64) (y0 : Int32) (h : xb_H) (hw : w_Exact_floating_L23 Qr x0 x1 y0 h) : xb_am l D A σ 5 MC MS h0 (fun v h _ _ => ∃ r, v = some (.long r) ∧ Qr r h) (fun _ _ _ _ => False) y_Exact_floating.cls y_Exact_floating.name b_Exact_floating 5 ([] : List ExceptionTableEntry) (some .long) 23 [(0, .ref x0), (1, .long x1)] [.int y0] h 0 0 := by
  unfold w_Exact_floating_L23 at hw
  intro p e s m args below meth c hC H locs ls k n hE hl hR hS hk hn
  obtain ⟨hx, hb, hown, hlocks, htab, hml, hr, hB, hA, hnm⟩ := id hC
  have hts := hB.1.1.at args
  refine lv_istore hx hb (xb_d D_Exact_floating 15 rfl) hl (by decide) rfl (fun ls hl => ?_)
  have hl : lv_has ls 5 [(4, .int y0), (0, .ref x0), (1, .long x1)] := hl
  refine lv_aload_n hx hb (xb_d D_Exact_floating 16 rfl) rfl (lv_at hl 1 rfl) ?_
  obtain ⟨hk1, hw⟩ := hw
  refine xb_call0 (D := D) (A := A) (σ := σ) (h := h) (d := 2) (maxL := 2) (rest := []) (av := [.ref x0]) (fun T hT X => by obtain ⟨cb9, ra9, rb9, rc9⟩ := xb_recv (ci := 9) hR rfl hk1 (by decide); exact xt_invV X hx hown (hts _ m_65d93325) (hts _ m_c4de73f8) (hts _ m_b3f48cc1) (xt_sigOf (hts _ m_b0daac26)) nm_Exact_clear (by rw [hT]; exact ra9) rb9 rc9 (g := F0 m 26 ls [.ref x0]) rfl (argsL := []) (rest := []) rfl rfl (by rw [hb]; exact (xb_d D_Exact_floating 17 rfl))) (ok_Exact_clear l hfl D A σ x0 h _ hw) (hml.trans hl.1.symm) (by rw [hb]; exact (xb_d D_Exact_floating 17 rfl)) (Nat.le_of_ble_eq_true rfl) (Nat.le_of_ble_eq_true rfl) (Nat.le_of_ble_eq_true rfl) (show k ≤ MC by omega) (show n ≤ MS by omega) (xt_w1 hB.1 m_b0daac26) (xt_cdOf hB.1 m_b0daac26) (hts _ m_b807310b) hB hR hS hA (fun vv h2 H locs hq hEh2 hR hS => ?_)
  obtain ⟨rfl, hw⟩ := hq
  have hw := hw hEh2
  have hE := hE.tr hEh2
  refine W.eq (g2 := F0 m 29 ls []) rfl ?_
  refine lv_aload_n hx hb (xb_d D_Exact_floating 18 rfl) rfl (lv_at hl 1 rfl) ?_
  refine lv_iload hx hb (xb_d D_Exact_floating 19 rfl) (lv_at hl 0 rfl) ?_
  refine lv_if_eq (tgt := 40) hx hb (xb_d D_Exact_floating 20 rfl) rfl (fun hc4 => ?_) (fun hc4 => ?_)
  · have hw := hw.1 hc4
    refine lv_lload_n hx hb (xb_d D_Exact_floating 24 rfl) rfl (lv_at hl 2 rfl) ?_
    exact am_Exact_floating_L41 l hfl D A σ MC MS h0 Qr x0 y0 x1 x0 h2 hw p e s m args below meth c hC H locs ls k n hE (lv_sub hl [1, 0] rfl) hR hS (by omega) (by omega)
  · have hw := hw.2 hc4
    refine lv_lload_n hx hb (xb_d D_Exact_floating 21 rfl) rfl (lv_at hl 2 rfl) ?_
    refine lv_lneg hx hb (xb_d D_Exact_floating 22 rfl) ?_
    refine lv_goto (tgt := 41) hx hb (xb_d D_Exact_floating 23 rfl) rfl ?_
    exact am_Exact_floating_L41 l hfl D A σ MC MS h0 Qr x0 y0 (-x1) x0 h2 hw p e s m args below meth c hC H locs ls k n hE (lv_sub hl [1, 0] rfl) hR hS (by omega) (by omega)

set_option maxHeartbeats 4000000 in
set_option maxRecDepth 100000 in
theorem am_Exact_floating_L22 (l : Launch) (hfl : l.flags = pinnedFlags ++ [noTraceFlag]) (D : va_G) (A : Nat → Prop) (σ MC MS : Nat) (h0 : xb_H) (Qr : Int64 → xb_H → Prop) (x0 : Nat) (x1 : Int64) (h : xb_H) (hw : w_Exact_floating_L22 Qr x0 x1 h) : xb_am l D A σ 5 MC MS h0 (fun v h _ _ => ∃ r, v = some (.long r) ∧ Qr r h) (fun _ _ _ _ => False) y_Exact_floating.cls y_Exact_floating.name b_Exact_floating 5 ([] : List ExceptionTableEntry) (some .long) 22 [(0, .ref x0), (1, .long x1)] [] h 0 0 := by
  unfold w_Exact_floating_L22 at hw
  intro p e s m args below meth c hC H locs ls k n hE hl hR hS hk hn
  obtain ⟨hx, hb, hown, hlocks, htab, hml, hr, hB, hA, hnm⟩ := id hC
  have hts := hB.1.1.at args
  refine lv_iconst (v := 0) hx hb (xb_d D_Exact_floating 14 rfl) (by decide) ?_
  exact am_Exact_floating_L23 l hfl D A σ MC MS h0 Qr x0 x1 0 h hw p e s m args below meth c hC H locs ls k n hE (lv_sub hl [0, 1] rfl) hR hS (by omega) (by omega)

set_option maxHeartbeats 4000000 in
set_option maxRecDepth 100000 in
theorem ok_Exact_floating (l : Launch) (hfl : l.flags = pinnedFlags ++ [noTraceFlag]) (D : va_G) (A : Nat → Prop) (σ : Nat) (x0 : Nat) (x1 : Int64) (x3 : Int32) (h : xb_H) (Qr : Int64 → xb_H → Prop) (hw : w_Exact_floating x0 x1 x3 h Qr) : xb_Met l y_Exact_floating [.code y_Exact_floating b_Exact_floating 5 (some .long)] (xb_rm 5 0 0) (xb_Pc D A σ h [.ref x0, .long x1, .int x3]) (xb_Qc D A h 0 0 (fun v h _ _ => ∃ r, v = some (.long r) ∧ Qr r h) (fun _ _ _ _ => False)) A := by
  refine xb_ofAm (cc := b_Exact_floating) (by decide) (Nat.le_of_ble_eq_true rfl) ?_
  unfold w_Exact_floating at hw
  show xb_am l D A σ 5 0 0 h (fun v h _ _ => ∃ r, v = some (.long r) ∧ Qr r h) (fun _ _ _ _ => False) y_Exact_floating.cls y_Exact_floating.name b_Exact_floating 5 ([] : List ExceptionTableEntry) (some .long) 0 [(0, .ref x0), (1, .long x1), (3, .int x3)] [] h 0 0
  obtain ⟨MC, hMC⟩ : ∃ x, x = 0 := ⟨_, rfl⟩
  obtain ⟨MS, hMS⟩ : ∃ x, x = 0 := ⟨_, rfl⟩
  rw [show xb_am l D A σ 5 0 0 = xb_am l D A σ 5 MC MS by rw [hMC, hMS]]
  obtain ⟨h0, hh0⟩ : ∃ x, x = h := ⟨_, rfl⟩
  rw [show xb_am l D A σ 5 MC MS h = xb_am l D A σ 5 MC MS h0 by rw [hh0]]
  intro p e s m args below meth c hC H locs ls k n hE hl hR hS hk hn
  obtain ⟨hx, hb, hown, hlocks, htab, hml, hr, hB, hA, hnm⟩ := id hC
  have hts := hB.1.1.at args
  refine lv_lload_n hx hb (xb_d D_Exact_floating 0 rfl) rfl (lv_at hl 1 rfl) ?_
  refine lv_lconst (v := 0) hx hb (xb_d D_Exact_floating 1 rfl) (by decide) ?_
  refine xb_lc_ne (tgt := 8) hx hb (xb_d D_Exact_floating 2 rfl) (xb_d D_Exact_floating 3 rfl) rfl (fun hc1 => ?_) (fun hc1 => ?_)
  · have hw := hw.1 hc1
    refine lv_iload_n hx hb (xb_d D_Exact_floating 6 rfl) rfl (lv_at hl 2 rfl) ?_
    refine lv_if_eq (tgt := 22) hx hb (xb_d D_Exact_floating 7 rfl) rfl (fun hc2 => ?_) (fun hc2 => ?_)
    · have hw := hw.1 hc2
      exact am_Exact_floating_L22 l hfl D A σ MC MS h0 Qr x0 x1 h hw p e s m args below meth c hC H locs ls k n hE (lv_sub hl [0, 1] rfl) hR hS (by omega) (by omega)
    · have hw := hw.2 hc2
      refine lv_lload_n hx hb (xb_d D_Exact_floating 8 rfl) rfl (lv_at hl 1 rfl) ?_
      refine lv_lconst (v := 0) hx hb (xb_d D_Exact_floating 9 rfl) (by decide) ?_
      refine xb_lc_ge (tgt := 22) hx hb (xb_d D_Exact_floating 10 rfl) (xb_d D_Exact_floating 11 rfl) rfl (fun hc3 => ?_) (fun hc3 => ?_)
      · have hw := hw.1 hc3
        exact am_Exact_floating_L22 l hfl D A σ MC MS h0 Qr x0 x1 h hw p e s m args below meth c hC H locs ls k n hE (lv_sub hl [0, 1] rfl) hR hS (by omega) (by omega)
      · have hw := hw.2 hc3
        refine lv_iconst (v := 1) hx hb (xb_d D_Exact_floating 12 rfl) (by decide) ?_
        refine lv_goto (tgt := 23) hx hb (xb_d D_Exact_floating 13 rfl) rfl ?_
        exact am_Exact_floating_L23 l hfl D A σ MC MS h0 Qr x0 x1 1 h hw p e s m args below meth c hC H locs ls k n hE (lv_sub hl [0, 1] rfl) hR hS (by omega) (by omega)
  · have hw := hw.2 hc1
    refine lv_lconst (v := 0) hx hb (xb_d D_Exact_floating 4 rfl) (by decide) ?_
    exact xb_lret 0 0 hx hb hr hlocks (show k + 0 ≤ MC by omega) (show n + 0 ≤ MS by omega) hE hR hS (xb_d D_Exact_floating 5 rfl) hw

theorem m_3b77e327 : (.methodLink "StackHostModel$Exact" 100 y_Exact_noNumber : Cond) ∈ xt_tbl := xt_in (xt_t13 (List.mem_of_getElem? (i := 47) (by decide +kernel))) (by decide +kernel)
theorem m_488d5ec7 : (.instanceMethod y_Exact_noNumber : Cond) ∈ xt_tbl := xt_in (xt_t13 (List.mem_of_getElem? (i := 49) (by decide +kernel))) (by decide +kernel)
theorem m_8dd38d5e : (.selects "StackHostModel$Exact" y_Exact_noNumber y_Exact_noNumber : Cond) ∈ xt_tbl := xt_in (xt_v16 (q := (⟨"StackHostModel$Exact", "noNumber", "()J"⟩, 11)) (List.mem_of_getElem? (i := 5) (by decide +kernel))) (by decide +kernel)
theorem m_291300c8 : (.code y_Exact_noNumber b_Exact_noNumber 1 (some .long) : Cond) ∈ xt_tbl := xt_in (xt_t13 (List.mem_of_getElem? (i := 50) (by decide +kernel))) (by decide +kernel)
theorem nm_Exact_noNumber : xt_nm y_Exact_noNumber 0 := ⟨by decide +kernel, by decide +kernel⟩
set_option maxRecDepth 100000 in
def T_Exact_product : List (Nat × Instr × Nat) := [(0, .aload_n 0, 1), (1, .lload_n 1, 1), (2, .invokevirtual 76, 3), (5, .aload_n 0, 1), (6, .lload_n 3, 1), (7, .invokevirtual 76, 3), (10, .if_icmp .eq 7, 3), (13, .iconst 1, 1), (14, .goto 4, 3), (17, .iconst 0, 1), (18, .istore 5, 2), (20, .aload_n 0, 1), (21, .lload_n 1, 1), (22, .invokevirtual 97, 3), (25, .ifCond .ne 11, 3), (28, .aload_n 0, 1), (29, .lload_n 3, 1), (30, .invokevirtual 97, 3), (33, .ifCond .eq 33, 3), (36, .aload_n 0, 1), (37, .lload_n 1, 1), (38, .invokevirtual 104, 3), (41, .ifCond .ne 11, 3), (44, .aload_n 0, 1), (45, .lload_n 3, 1), (46, .invokevirtual 104, 3), (49, .ifCond .eq 10, 3), (52, .aload_n 0, 1), (53, .invokevirtual 100, 3), (56, .goto 9, 3), (59, .aload_n 0, 1), (60, .iload 5, 2), (62, .invokevirtual 64, 3), (65, .lreturn, 1), (66, .aload_n 0, 1), (67, .lload_n 1, 1), (68, .invokevirtual 104, 3), (71, .ifCond .ne 11, 3), (74, .aload_n 0, 1), (75, .lload_n 3, 1), (76, .invokevirtual 104, 3), (79, .ifCond .eq 11, 3), (82, .aload_n 0, 1), (83, .lconst 0, 1), (84, .iload 5, 2), (86, .invokevirtual 52, 3), (89, .lreturn, 1), (90, .aload_n 0, 1), (91, .lload_n 1, 1), (92, .invokevirtual 110, 3), (95, .aload_n 0, 1), (96, .getfield 83, 3), (99, .lstore 6, 2), (101, .aload_n 0, 1), (102, .getfield 87, 3), (105, .istore 8, 2), (107, .aload_n 0, 1), (108, .lload_n 3, 1), (109, .invokevirtual 110, 3), (112, .iload 8, 2), (114, .aload_n 0, 1), (115, .getfield 87, 3), (118, .iadd, 1), (119, .istore 8, 2), (121, .aload_n 0, 1), (122, .invokevirtual 107, 3), (125, .iconst 0, 1), (126, .istore 9, 2), (128, .iload 9, 2), (130, .bipush 53, 2), (132, .if_icmp .ge 34, 3), (135, .lload 6, 2), (137, .iload 9, 2), (139, .lshr, 1), (140, .lconst 1, 1), (141, .land, 1), (142, .lconst 1, 1), (143, .lcmp, 1), (144, .ifCond .ne 16, 3), (147, .aload_n 0, 1), (148, .aload_n 0, 1), (149, .getfield 83, 3), (152, .iload 8, 2), (154, .iload 9, 2), (156, .iadd, 1), (157, .invokevirtual 114, 3), (160, .iinc 9 1, 3), (163, .goto (-35), 3), (166, .aload_n 0, 1), (167, .iload 5, 2), (169, .invokevirtual 121, 3), (172, .lreturn, 1)]
theorem D_Exact_product : ∀ q ∈ T_Exact_product, decode b_Exact_product q.1 = .ok (q.2.1, q.2.2) := by decide +kernel

set_option maxHeartbeats 4000000 in
set_option maxRecDepth 100000 in
theorem am_Exact_product_L160 (l : Launch) (hfl : l.flags = pinnedFlags ++ [noTraceFlag]) (D : va_G) (A : Nat → Prop) (σ MC MS : Nat) (h0 : xb_H) (Qr : Int64 → xb_H → Prop) (K128 : Nat → Int32 → Int64 → Int32 → Int32 → xb_H → Prop) (hK128 : ∀ (x0 : Nat) (x5 : Int32) (x6 : Int64) (x8 : Int32) (x9 : Int32) (h : xb_H), K128 x0 x5 x6 x8 x9 h → xb_am l D A σ 5 MC MS h0 (fun v h _ _ => ∃ r, v = some (.long r) ∧ Qr r h) (fun _ _ _ _ => False) y_Exact_product.cls y_Exact_product.name b_Exact_product 10 ([] : List ExceptionTableEntry) (some .long) 128 [(0, .ref x0), (5, .int x5), (6, .long x6), (8, .int x8), (9, .int x9)] [] h 0 0) (x0 : Nat) (x5 : Int32) (x6 : Int64) (x8 : Int32) (x9 : Int32) (h : xb_H) (hw : w_Exact_product_L160 K128 Qr x0 x5 x6 x8 x9 h) : xb_am l D A σ 5 MC MS h0 (fun v h _ _ => ∃ r, v = some (.long r) ∧ Qr r h) (fun _ _ _ _ => False) y_Exact_product.cls y_Exact_product.name b_Exact_product 10 ([] : List ExceptionTableEntry) (some .long) 160 [(0, .ref x0), (5, .int x5), (6, .long x6), (8, .int x8), (9, .int x9)] [] h 0 0 := by
  unfold w_Exact_product_L160 at hw
  intro p e s m args below meth c hC H locs ls k n hE hl hR hS hk hn
  obtain ⟨hx, hb, hown, hlocks, htab, hml, hr, hB, hA, hnm⟩ := id hC
  have hts := hB.1.1.at args
  refine lv_iinc (v := (x9 + 1)) (k := 4) hx hb (xb_d D_Exact_product 86 rfl) hl rfl (by first | rfl | decide) (by decide) rfl (fun ls hl => ?_)
  have hl : lv_has ls 10 [(9, .int (x9 + 1)), (0, .ref x0), (5, .int x5), (6, .long x6), (8, .int x8)] := hl
  refine lv_goto (tgt := 128) hx hb (xb_d D_Exact_product 87 rfl) rfl ?_
  exact hK128 x0 x5 x6 x8 (x9 + 1) h hw p e s m args below meth c hC H locs ls k n hE (lv_sub hl [1, 2, 3, 4, 0] rfl) hR hS (by omega) (by omega)

set_option maxHeartbeats 4000000 in
set_option maxRecDepth 100000 in
theorem am_Exact_product_L128 (l : Launch) (hfl : l.flags = pinnedFlags ++ [noTraceFlag]) (D : va_G) (A : Nat → Prop) (σ MC MS : Nat) (h0 : xb_H) (Qr : Int64 → xb_H → Prop) (n9 : Nat) : ∀ (x0 : Nat) (x5 : Int32) (x6 : Int64) (x8 : Int32) (x9 : Int32) (h : xb_H), w_Exact_product_L128 Qr n9 x0 x5 x6 x8 x9 h → xb_am l D A σ 5 MC MS h0 (fun v h _ _ => ∃ r, v = some (.long r) ∧ Qr r h) (fun _ _ _ _ => False) y_Exact_product.cls y_Exact_product.name b_Exact_product 10 ([] : List ExceptionTableEntry) (some .long) 128 [(0, .ref x0), (5, .int x5), (6, .long x6), (8, .int x8), (9, .int x9)] [] h 0 0 := by
  induction n9 with
  | zero => intro x0 x5 x6 x8 x9 h hw; exact False.elim hw
  | succ n9 ih =>
    intro x0 x5 x6 x8 x9 h hw
    unfold w_Exact_product_L128 at hw
    intro p e s m args below meth c hC H locs ls k n hE hl hR hS hk hn
    obtain ⟨hx, hb, hown, hlocks, htab, hml, hr, hB, hA, hnm⟩ := id hC
    have hts := hB.1.1.at args
    refine lv_iload hx hb (xb_d D_Exact_product 68 rfl) (lv_at hl 4 rfl) ?_
    refine lv_bipush (v := 53) hx hb (xb_d D_Exact_product 69 rfl) (by decide) ?_
    refine lv_icmp_ge (tgt := 166) hx hb (xb_d D_Exact_product 70 rfl) rfl (fun hc1 => ?_) (fun hc1 => ?_)
    · have hw := hw.1 hc1
      refine lv_aload_n hx hb (xb_d D_Exact_product 88 rfl) rfl (lv_at hl 0 rfl) ?_
      refine lv_iload hx hb (xb_d D_Exact_product 89 rfl) (lv_at hl 1 rfl) ?_
      obtain ⟨hk2, hw⟩ := hw
      refine xb_call0 (D := D) (A := A) (σ := σ) (h := h) (d := 4) (maxL := 10) (rest := []) (av := [.ref x0, .int x5]) (fun T hT X => by obtain ⟨cb9, ra9, rb9, rc9⟩ := xb_recv (ci := 9) hR rfl hk2 (by decide); exact xt_invV X hx hown (hts _ m_2aa5d168) (hts _ m_a9d2c1e2) (hts _ m_665f83d8) (xt_sigOf (hts _ m_bb0adfae)) nm_Exact_rounded (by rw [hT]; exact ra9) rb9 rc9 (g := F0 m 169 ls [.int x5, .ref x0]) rfl (argsL := [.int x5]) (rest := []) rfl rfl (by rw [hb]; exact (xb_d D_Exact_product 90 rfl))) (ok_Exact_rounded l hfl D A σ x0 x5 h _ hw) (hml.trans hl.1.symm) (by rw [hb]; exact (xb_d D_Exact_product 90 rfl)) (Nat.le_of_ble_eq_true rfl) (Nat.le_of_ble_eq_true rfl) (Nat.le_of_ble_eq_true rfl) (show k ≤ MC by omega) (show n ≤ MS by omega) (xt_w1 hB.1 m_bb0adfae) (xt_cdOf hB.1 m_bb0adfae) (hts _ m_b807310b) hB hR hS hA (fun vv h3 H locs hq hEh3 hR hS => ?_)
      obtain ⟨r4, rfl, hw⟩ := hq
      have hw := hw hEh3
      have hE := hE.tr hEh3
      refine W.eq (g2 := F0 m 172 ls [.long r4]) rfl ?_
      exact xb_lret 0 0 hx hb hr hlocks (show k + 0 ≤ MC by omega) (show n + 0 ≤ MS by omega) hE hR hS (xb_d D_Exact_product 91 rfl) hw
    · have hw := hw.2 hc1
      refine lv_lload hx hb (xb_d D_Exact_product 71 rfl) (lv_at hl 2 rfl) ?_
      refine lv_iload hx hb (xb_d D_Exact_product 72 rfl) (lv_at hl 4 rfl) ?_
      refine lv_lshr (v := (xb_lshr x6 x9)) hx hb (xb_d D_Exact_product 73 rfl) rfl ?_
      refine lv_lconst (v := 1) hx hb (xb_d D_Exact_product 74 rfl) (by decide) ?_
      refine lv_land hx hb (xb_d D_Exact_product 75 rfl) ?_
      refine lv_lconst (v := 1) hx hb (xb_d D_Exact_product 76 rfl) (by decide) ?_
      refine xb_lc_ne (tgt := 160) hx hb (xb_d D_Exact_product 77 rfl) (xb_d D_Exact_product 78 rfl) rfl (fun hc5 => ?_) (fun hc5 => ?_)
      · have hw := hw.1 hc5
        exact am_Exact_product_L160 l hfl D A σ MC MS h0 Qr (w_Exact_product_L128 Qr n9) ih x0 x5 x6 x8 x9 h hw p e s m args below meth c hC H locs ls k n hE (lv_sub hl [0, 1, 2, 3, 4] rfl) hR hS (by omega) (by omega)
      · have hw := hw.2 hc5
        refine lv_aload_n hx hb (xb_d D_Exact_product 79 rfl) rfl (lv_at hl 0 rfl) ?_
        refine lv_aload_n hx hb (xb_d D_Exact_product 80 rfl) rfl (lv_at hl 0 rfl) ?_
        obtain ⟨hk6, hw⟩ := hw
        refine xb_getL (C := R_Exact) (T := F_Exact) (N := 11) hx hb 9 9 hts fin_Exact hown hR hk6 (by decide) rfl (by decide) rfl (hts _ m_183e6a18) (fun _ h9 => h9) (xb_d D_Exact_product 81 rfl) ?_
        refine lv_iload hx hb (xb_d D_Exact_product 82 rfl) (lv_at hl 3 rfl) ?_
        refine lv_iload hx hb (xb_d D_Exact_product 83 rfl) (lv_at hl 4 rfl) ?_
        refine lv_iadd hx hb (xb_d D_Exact_product 84 rfl) ?_
        refine xb_call0 (D := D) (A := A) (σ := σ) (h := h) (d := 3) (maxL := 9) (rest := []) (av := [.ref x0, .long (xb_l h x0 9), .int (x8 + x9)]) (fun T hT X => by obtain ⟨cb9, ra9, rb9, rc9⟩ := xb_recv (ci := 9) hR rfl hk6 (by decide); exact xt_invV X hx hown (hts _ m_547afbfb) (hts _ m_d4b837ea) (hts _ m_b818cb8b) (xt_sigOf (hts _ m_59b46d39)) nm_Exact_add (by rw [hT]; exact ra9) rb9 rc9 (g := F0 m 157 ls [.int (x8 + x9), .long (xb_l h x0 9), .ref x0]) rfl (argsL := [.long (xb_l h x0 9), .int (x8 + x9)]) (rest := []) rfl rfl (by rw [hb]; exact (xb_d D_Exact_product 85 rfl))) (ok_Exact_add l hfl D A σ x0 (xb_l h x0 9) (x8 + x9) h _ hw) (hml.trans hl.1.symm) (by rw [hb]; exact (xb_d D_Exact_product 85 rfl)) (Nat.le_of_ble_eq_true rfl) (Nat.le_of_ble_eq_true rfl) (Nat.le_of_ble_eq_true rfl) (show k ≤ MC by omega) (show n ≤ MS by omega) (xt_w1 hB.1 m_59b46d39) (xt_cdOf hB.1 m_59b46d39) (hts _ m_b807310b) hB hR hS hA (fun vv h7 H locs hq hEh7 hR hS => ?_)
        obtain ⟨rfl, hw⟩ := hq
        have hw := hw hEh7
        have hE := hE.tr hEh7
        refine W.eq (g2 := F0 m 160 ls []) rfl ?_
        exact am_Exact_product_L160 l hfl D A σ MC MS h0 Qr (w_Exact_product_L128 Qr n9) ih x0 x5 x6 x8 x9 h7 hw p e s m args below meth c hC H locs ls k n hE (lv_sub hl [0, 1, 2, 3, 4] rfl) hR hS (by omega) (by omega)

set_option maxHeartbeats 4000000 in
set_option maxRecDepth 100000 in
theorem am_Exact_product_L82 (l : Launch) (hfl : l.flags = pinnedFlags ++ [noTraceFlag]) (D : va_G) (A : Nat → Prop) (σ MC MS : Nat) (h0 : xb_H) (Qr : Int64 → xb_H → Prop) (x0 : Nat) (x5 : Int32) (h : xb_H) (hw : w_Exact_product_L82 Qr x0 x5 h) : xb_am l D A σ 5 MC MS h0 (fun v h _ _ => ∃ r, v = some (.long r) ∧ Qr r h) (fun _ _ _ _ => False) y_Exact_product.cls y_Exact_product.name b_Exact_product 10 ([] : List ExceptionTableEntry) (some .long) 82 [(0, .ref x0), (5, .int x5)] [] h 0 0 := by
  unfold w_Exact_product_L82 at hw
  intro p e s m args below meth c hC H locs ls k n hE hl hR hS hk hn
  obtain ⟨hx, hb, hown, hlocks, htab, hml, hr, hB, hA, hnm⟩ := id hC
  have hts := hB.1.1.at args
  refine lv_aload_n hx hb (xb_d D_Exact_product 42 rfl) rfl (lv_at hl 0 rfl) ?_
  refine lv_lconst (v := 0) hx hb (xb_d D_Exact_product 43 rfl) (by decide) ?_
  refine lv_iload hx hb (xb_d D_Exact_product 44 rfl) (lv_at hl 1 rfl) ?_
  obtain ⟨hk1, hw⟩ := hw
  refine xb_call0 (D := D) (A := A) (σ := σ) (h := h) (d := 2) (maxL := 4) (rest := []) (av := [.ref x0, .long 0, .int x5]) (fun T hT X => by obtain ⟨cb9, ra9, rb9, rc9⟩ := xb_recv (ci := 9) hR rfl hk1 (by decide); exact xt_invV X hx hown (hts _ m_7b6c7353) (hts _ m_28babb18) (hts _ m_243e01d5) (xt_sigOf (hts _ m_88c0fc78)) nm_Exact_signed (by rw [hT]; exact ra9) rb9 rc9 (g := F0 m 86 ls [.int x5, .long 0, .ref x0]) rfl (argsL := [.long 0, .int x5]) (rest := []) rfl rfl (by rw [hb]; exact (xb_d D_Exact_product 45 rfl))) (ok_Exact_signed l hfl D A σ x0 0 x5 h _ hw) (hml.trans hl.1.symm) (by rw [hb]; exact (xb_d D_Exact_product 45 rfl)) (Nat.le_of_ble_eq_true rfl) (Nat.le_of_ble_eq_true rfl) (Nat.le_of_ble_eq_true rfl) (show k ≤ MC by omega) (show n ≤ MS by omega) (xt_w1 hB.1 m_88c0fc78) (xt_cdOf hB.1 m_88c0fc78) (hts _ m_b807310b) hB hR hS hA (fun vv h2 H locs hq hEh2 hR hS => ?_)
  obtain ⟨r3, rfl, hw⟩ := hq
  have hw := hw hEh2
  have hE := hE.tr hEh2
  refine W.eq (g2 := F0 m 89 ls [.long r3]) rfl ?_
  exact xb_lret 0 0 hx hb hr hlocks (show k + 0 ≤ MC by omega) (show n + 0 ≤ MS by omega) hE hR hS (xb_d D_Exact_product 46 rfl) hw

set_option maxHeartbeats 4000000 in
set_option maxRecDepth 100000 in
theorem am_Exact_product_L65 (l : Launch) (hfl : l.flags = pinnedFlags ++ [noTraceFlag]) (D : va_G) (A : Nat → Prop) (σ MC MS : Nat) (h0 : xb_H) (Qr : Int64 → xb_H → Prop) (y0 : Int64) (h : xb_H) (hw : w_Exact_product_L65 Qr y0 h) : xb_am l D A σ 5 MC MS h0 (fun v h _ _ => ∃ r, v = some (.long r) ∧ Qr r h) (fun _ _ _ _ => False) y_Exact_product.cls y_Exact_product.name b_Exact_product 10 ([] : List ExceptionTableEntry) (some .long) 65 [] [.long y0] h 0 0 := by
  unfold w_Exact_product_L65 at hw
  intro p e s m args below meth c hC H locs ls k n hE hl hR hS hk hn
  obtain ⟨hx, hb, hown, hlocks, htab, hml, hr, hB, hA, hnm⟩ := id hC
  have hts := hB.1.1.at args
  exact xb_lret 0 0 hx hb hr hlocks (show k + 0 ≤ MC by omega) (show n + 0 ≤ MS by omega) hE hR hS (xb_d D_Exact_product 33 rfl) hw

set_option maxHeartbeats 4000000 in
set_option maxRecDepth 100000 in
theorem am_Exact_product_L52 (l : Launch) (hfl : l.flags = pinnedFlags ++ [noTraceFlag]) (D : va_G) (A : Nat → Prop) (σ MC MS : Nat) (h0 : xb_H) (Qr : Int64 → xb_H → Prop) (x0 : Nat) (h : xb_H) (hw : w_Exact_product_L52 Qr x0 h) : xb_am l D A σ 5 MC MS h0 (fun v h _ _ => ∃ r, v = some (.long r) ∧ Qr r h) (fun _ _ _ _ => False) y_Exact_product.cls y_Exact_product.name b_Exact_product 10 ([] : List ExceptionTableEntry) (some .long) 52 [(0, .ref x0)] [] h 0 0 := by
  unfold w_Exact_product_L52 at hw
  intro p e s m args below meth c hC H locs ls k n hE hl hR hS hk hn
  obtain ⟨hx, hb, hown, hlocks, htab, hml, hr, hB, hA, hnm⟩ := id hC
  have hts := hB.1.1.at args
  refine lv_aload_n hx hb (xb_d D_Exact_product 27 rfl) rfl (lv_at hl 0 rfl) ?_
  obtain ⟨hk1, hw⟩ := hw
  refine xb_call0 (D := D) (A := A) (σ := σ) (h := h) (d := 2) (maxL := 1) (rest := []) (av := [.ref x0]) (fun T hT X => by obtain ⟨cb9, ra9, rb9, rc9⟩ := xb_recv (ci := 9) hR rfl hk1 (by decide); exact xt_invV X hx hown (hts _ m_3b77e327) (hts _ m_488d5ec7) (hts _ m_8dd38d5e) (xt_sigOf (hts _ m_291300c8)) nm_Exact_noNumber (by rw [hT]; exact ra9) rb9 rc9 (g := F0 m 53 ls [.ref x0]) rfl (argsL := []) (rest := []) rfl rfl (by rw [hb]; exact (xb_d D_Exact_product 28 rfl))) (ok_Exact_noNumber l hfl D A σ x0 h _ hw) (hml.trans hl.1.symm) (by rw [hb]; exact (xb_d D_Exact_product 28 rfl)) (Nat.le_of_ble_eq_true rfl) (Nat.le_of_ble_eq_true rfl) (Nat.le_of_ble_eq_true rfl) (show k ≤ MC by omega) (show n ≤ MS by omega) (xt_w1 hB.1 m_291300c8) (xt_cdOf hB.1 m_291300c8) (hts _ m_b807310b) hB hR hS hA (fun vv h2 H locs hq hEh2 hR hS => ?_)
  obtain ⟨r3, rfl, hw⟩ := hq
  have hw := hw hEh2
  have hE := hE.tr hEh2
  refine W.eq (g2 := F0 m 56 ls [.long r3]) rfl ?_
  refine lv_goto (tgt := 65) hx hb (xb_d D_Exact_product 29 rfl) rfl ?_
  exact am_Exact_product_L65 l hfl D A σ MC MS h0 Qr r3 h2 hw p e s m args below meth c hC H locs ls k n hE (lv_sub hl [] rfl) hR hS (by omega) (by omega)

set_option maxHeartbeats 4000000 in
set_option maxRecDepth 100000 in
theorem am_Exact_product_L36 (l : Launch) (hfl : l.flags = pinnedFlags ++ [noTraceFlag]) (D : va_G) (A : Nat → Prop) (σ MC MS : Nat) (h0 : xb_H) (Qr : Int64 → xb_H → Prop) (x0 : Nat) (x1 : Int64) (x3 : Int64) (x5 : Int32) (h : xb_H) (hw : w_Exact_product_L36 Qr x0 x1 x3 x5 h) : xb_am l D A σ 5 MC MS h0 (fun v h _ _ => ∃ r, v = some (.long r) ∧ Qr r h) (fun _ _ _ _ => False) y_Exact_product.cls y_Exact_product.name b_Exact_product 10 ([] : List ExceptionTableEntry) (some .long) 36 [(0, .ref x0), (1, .long x1), (3, .long x3), (5, .int x5)] [] h 0 0 := by
  unfold w_Exact_product_L36 at hw
  intro p e s m args below meth c hC H locs ls k n hE hl hR hS hk hn
  obtain ⟨hx, hb, hown, hlocks, htab, hml, hr, hB, hA, hnm⟩ := id hC
  have hts := hB.1.1.at args
  refine lv_aload_n hx hb (xb_d D_Exact_product 19 rfl) rfl (lv_at hl 0 rfl) ?_
  refine lv_lload_n hx hb (xb_d D_Exact_product 20 rfl) rfl (lv_at hl 1 rfl) ?_
  obtain ⟨hk1, hw⟩ := hw
  refine xb_call0 (D := D) (A := A) (σ := σ) (h := h) (d := 3) (maxL := 3) (rest := []) (av := [.ref x0, .long x1]) (fun T hT X => by obtain ⟨cb9, ra9, rb9, rc9⟩ := xb_recv (ci := 9) hR rfl hk1 (by decide); exact xt_invV X hx hown (hts _ m_f9e5bce2) (hts _ m_d4ccf81e) (hts _ m_870ffa92) (xt_sigOf (hts _ m_b231eb2b)) nm_Exact_isZero (by rw [hT]; exact ra9) rb9 rc9 (g := F0 m 38 ls [.long x1, .ref x0]) rfl (argsL := [.long x1]) (rest := []) rfl rfl (by rw [hb]; exact (xb_d D_Exact_product 21 rfl))) (ok_Exact_isZero l hfl D A σ x0 x1 h _ hw) (hml.trans hl.1.symm) (by rw [hb]; exact (xb_d D_Exact_product 21 rfl)) (Nat.le_of_ble_eq_true rfl) (Nat.le_of_ble_eq_true rfl) (Nat.le_of_ble_eq_true rfl) (show k ≤ MC by omega) (show n ≤ MS by omega) (xt_w1 hB.1 m_b231eb2b) (xt_cdOf hB.1 m_b231eb2b) (hts _ m_b807310b) hB hR hS hA (fun vv h2 H locs hq hEh2 hR hS => ?_)
  obtain ⟨r3, rfl, hw⟩ := hq
  have hw := hw hEh2
  have hE := hE.tr hEh2
  refine W.eq (g2 := F0 m 41 ls [.int r3]) rfl ?_
  refine lv_if_ne (tgt := 52) hx hb (xb_d D_Exact_product 22 rfl) rfl (fun hc4 => ?_) (fun hc4 => ?_)
  · have hw := hw.1 hc4
    exact am_Exact_product_L52 l hfl D A σ MC MS h0 Qr x0 h2 hw p e s m args below meth c hC H locs ls k n hE (lv_sub hl [0] rfl) hR hS (by omega) (by omega)
  · have hw := hw.2 hc4
    refine lv_aload_n hx hb (xb_d D_Exact_product 23 rfl) rfl (lv_at hl 0 rfl) ?_
    refine lv_lload_n hx hb (xb_d D_Exact_product 24 rfl) rfl (lv_at hl 2 rfl) ?_
    have hk1 : xb_k h2 x0 = 10 := hEh2.k hk1
    refine xb_call0 (D := D) (A := A) (σ := σ) (h := h2) (d := 3) (maxL := 3) (rest := []) (av := [.ref x0, .long x3]) (fun T hT X => by obtain ⟨cb9, ra9, rb9, rc9⟩ := xb_recv (ci := 9) hR rfl hk1 (by decide); exact xt_invV X hx hown (hts _ m_f9e5bce2) (hts _ m_d4ccf81e) (hts _ m_870ffa92) (xt_sigOf (hts _ m_b231eb2b)) nm_Exact_isZero (by rw [hT]; exact ra9) rb9 rc9 (g := F0 m 46 ls [.long x3, .ref x0]) rfl (argsL := [.long x3]) (rest := []) rfl rfl (by rw [hb]; exact (xb_d D_Exact_product 25 rfl))) (ok_Exact_isZero l hfl D A σ x0 x3 h2 _ hw) (hml.trans hl.1.symm) (by rw [hb]; exact (xb_d D_Exact_product 25 rfl)) (Nat.le_of_ble_eq_true rfl) (Nat.le_of_ble_eq_true rfl) (Nat.le_of_ble_eq_true rfl) (show k ≤ MC by omega) (show n ≤ MS by omega) (xt_w1 hB.1 m_b231eb2b) (xt_cdOf hB.1 m_b231eb2b) (hts _ m_b807310b) hB hR hS hA (fun vv h5 H locs hq hEh5 hR hS => ?_)
    obtain ⟨r6, rfl, hw⟩ := hq
    have hw := hw hEh5
    have hE := hE.tr hEh5
    refine W.eq (g2 := F0 m 49 ls [.int r6]) rfl ?_
    refine lv_if_eq (tgt := 59) hx hb (xb_d D_Exact_product 26 rfl) rfl (fun hc7 => ?_) (fun hc7 => ?_)
    · have hw := hw.1 hc7
      refine lv_aload_n hx hb (xb_d D_Exact_product 30 rfl) rfl (lv_at hl 0 rfl) ?_
      refine lv_iload hx hb (xb_d D_Exact_product 31 rfl) (lv_at hl 3 rfl) ?_
      have hk1 : xb_k h5 x0 = 10 := hEh5.k hk1
      refine xb_call0 (D := D) (A := A) (σ := σ) (h := h5) (d := 3) (maxL := 2) (rest := []) (av := [.ref x0, .int x5]) (fun T hT X => by obtain ⟨cb9, ra9, rb9, rc9⟩ := xb_recv (ci := 9) hR rfl hk1 (by decide); exact xt_invV X hx hown (hts _ m_c1bdecd7) (hts _ m_3ecdf3c0) (hts _ m_93791b31) (xt_sigOf (hts _ m_99b71483)) nm_Exact_infinite (by rw [hT]; exact ra9) rb9 rc9 (g := F0 m 62 ls [.int x5, .ref x0]) rfl (argsL := [.int x5]) (rest := []) rfl rfl (by rw [hb]; exact (xb_d D_Exact_product 32 rfl))) (ok_Exact_infinite l hfl D A σ x0 x5 h5 _ hw) (hml.trans hl.1.symm) (by rw [hb]; exact (xb_d D_Exact_product 32 rfl)) (Nat.le_of_ble_eq_true rfl) (Nat.le_of_ble_eq_true rfl) (Nat.le_of_ble_eq_true rfl) (show k ≤ MC by omega) (show n ≤ MS by omega) (xt_w1 hB.1 m_99b71483) (xt_cdOf hB.1 m_99b71483) (hts _ m_b807310b) hB hR hS hA (fun vv h8 H locs hq hEh8 hR hS => ?_)
      obtain ⟨r9, rfl, hw⟩ := hq
      have hw := hw hEh8
      have hE := hE.tr hEh8
      refine W.eq (g2 := F0 m 65 ls [.long r9]) rfl ?_
      exact am_Exact_product_L65 l hfl D A σ MC MS h0 Qr r9 h8 hw p e s m args below meth c hC H locs ls k n hE (lv_sub hl [] rfl) hR hS (by omega) (by omega)
    · have hw := hw.2 hc7
      exact am_Exact_product_L52 l hfl D A σ MC MS h0 Qr x0 h5 hw p e s m args below meth c hC H locs ls k n hE (lv_sub hl [0] rfl) hR hS (by omega) (by omega)

set_option maxHeartbeats 4000000 in
set_option maxRecDepth 100000 in
theorem am_Exact_product_L18 (l : Launch) (hfl : l.flags = pinnedFlags ++ [noTraceFlag]) (D : va_G) (A : Nat → Prop) (σ MC MS : Nat) (h0 : xb_H) (Qr : Int64 → xb_H → Prop) (x0 : Nat) (x1 : Int64) (x3 : Int64) (y0 : Int32) (h : xb_H) (hw : w_Exact_product_L18 Qr x0 x1 x3 y0 h) : xb_am l D A σ 5 MC MS h0 (fun v h _ _ => ∃ r, v = some (.long r) ∧ Qr r h) (fun _ _ _ _ => False) y_Exact_product.cls y_Exact_product.name b_Exact_product 10 ([] : List ExceptionTableEntry) (some .long) 18 [(0, .ref x0), (1, .long x1), (3, .long x3)] [.int y0] h 0 0 := by
  unfold w_Exact_product_L18 at hw
  intro p e s m args below meth c hC H locs ls k n hE hl hR hS hk hn
  obtain ⟨hx, hb, hown, hlocks, htab, hml, hr, hB, hA, hnm⟩ := id hC
  have hts := hB.1.1.at args
  refine lv_istore hx hb (xb_d D_Exact_product 10 rfl) hl (by decide) rfl (fun ls hl => ?_)
  have hl : lv_has ls 10 [(5, .int y0), (0, .ref x0), (1, .long x1), (3, .long x3)] := hl
  refine lv_aload_n hx hb (xb_d D_Exact_product 11 rfl) rfl (lv_at hl 1 rfl) ?_
  refine lv_lload_n hx hb (xb_d D_Exact_product 12 rfl) rfl (lv_at hl 2 rfl) ?_
  obtain ⟨hk1, hw⟩ := hw
  refine xb_call0 (D := D) (A := A) (σ := σ) (h := h) (d := 4) (maxL := 3) (rest := []) (av := [.ref x0, .long x1]) (fun T hT X => by obtain ⟨cb9, ra9, rb9, rc9⟩ := xb_recv (ci := 9) hR rfl hk1 (by decide); exact xt_invV X hx hown (hts _ m_4d51455e) (hts _ m_6f0f72ed) (hts _ m_54335684) (xt_sigOf (hts _ m_c0f31264)) nm_Exact_isInfinite (by rw [hT]; exact ra9) rb9 rc9 (g := F0 m 22 ls [.long x1, .ref x0]) rfl (argsL := [.long x1]) (rest := []) rfl rfl (by rw [hb]; exact (xb_d D_Exact_product 13 rfl))) (ok_Exact_isInfinite l hfl D A σ x0 x1 h _ hw) (hml.trans hl.1.symm) (by rw [hb]; exact (xb_d D_Exact_product 13 rfl)) (Nat.le_of_ble_eq_true rfl) (Nat.le_of_ble_eq_true rfl) (Nat.le_of_ble_eq_true rfl) (show k ≤ MC by omega) (show n ≤ MS by omega) (xt_w1 hB.1 m_c0f31264) (xt_cdOf hB.1 m_c0f31264) (hts _ m_b807310b) hB hR hS hA (fun vv h2 H locs hq hEh2 hR hS => ?_)
  obtain ⟨r3, rfl, hw⟩ := hq
  have hw := hw hEh2
  have hE := hE.tr hEh2
  refine W.eq (g2 := F0 m 25 ls [.int r3]) rfl ?_
  refine lv_if_ne (tgt := 36) hx hb (xb_d D_Exact_product 14 rfl) rfl (fun hc4 => ?_) (fun hc4 => ?_)
  · have hw := hw.1 hc4
    exact am_Exact_product_L36 l hfl D A σ MC MS h0 Qr x0 x1 x3 y0 h2 hw p e s m args below meth c hC H locs ls k n hE (lv_sub hl [1, 2, 3, 0] rfl) hR hS (by omega) (by omega)
  · have hw := hw.2 hc4
    refine lv_aload_n hx hb (xb_d D_Exact_product 15 rfl) rfl (lv_at hl 1 rfl) ?_
    refine lv_lload_n hx hb (xb_d D_Exact_product 16 rfl) rfl (lv_at hl 3 rfl) ?_
    have hk1 : xb_k h2 x0 = 10 := hEh2.k hk1
    refine xb_call0 (D := D) (A := A) (σ := σ) (h := h2) (d := 4) (maxL := 3) (rest := []) (av := [.ref x0, .long x3]) (fun T hT X => by obtain ⟨cb9, ra9, rb9, rc9⟩ := xb_recv (ci := 9) hR rfl hk1 (by decide); exact xt_invV X hx hown (hts _ m_4d51455e) (hts _ m_6f0f72ed) (hts _ m_54335684) (xt_sigOf (hts _ m_c0f31264)) nm_Exact_isInfinite (by rw [hT]; exact ra9) rb9 rc9 (g := F0 m 30 ls [.long x3, .ref x0]) rfl (argsL := [.long x3]) (rest := []) rfl rfl (by rw [hb]; exact (xb_d D_Exact_product 17 rfl))) (ok_Exact_isInfinite l hfl D A σ x0 x3 h2 _ hw) (hml.trans hl.1.symm) (by rw [hb]; exact (xb_d D_Exact_product 17 rfl)) (Nat.le_of_ble_eq_true rfl) (Nat.le_of_ble_eq_true rfl) (Nat.le_of_ble_eq_true rfl) (show k ≤ MC by omega) (show n ≤ MS by omega) (xt_w1 hB.1 m_c0f31264) (xt_cdOf hB.1 m_c0f31264) (hts _ m_b807310b) hB hR hS hA (fun vv h5 H locs hq hEh5 hR hS => ?_)
    obtain ⟨r6, rfl, hw⟩ := hq
    have hw := hw hEh5
    have hE := hE.tr hEh5
    refine W.eq (g2 := F0 m 33 ls [.int r6]) rfl ?_
    refine lv_if_eq (tgt := 66) hx hb (xb_d D_Exact_product 18 rfl) rfl (fun hc7 => ?_) (fun hc7 => ?_)
    · have hw := hw.1 hc7
      refine lv_aload_n hx hb (xb_d D_Exact_product 34 rfl) rfl (lv_at hl 1 rfl) ?_
      refine lv_lload_n hx hb (xb_d D_Exact_product 35 rfl) rfl (lv_at hl 2 rfl) ?_
      have hk1 : xb_k h5 x0 = 10 := hEh5.k hk1
      refine xb_call0 (D := D) (A := A) (σ := σ) (h := h5) (d := 3) (maxL := 3) (rest := []) (av := [.ref x0, .long x1]) (fun T hT X => by obtain ⟨cb9, ra9, rb9, rc9⟩ := xb_recv (ci := 9) hR rfl hk1 (by decide); exact xt_invV X hx hown (hts _ m_f9e5bce2) (hts _ m_d4ccf81e) (hts _ m_870ffa92) (xt_sigOf (hts _ m_b231eb2b)) nm_Exact_isZero (by rw [hT]; exact ra9) rb9 rc9 (g := F0 m 68 ls [.long x1, .ref x0]) rfl (argsL := [.long x1]) (rest := []) rfl rfl (by rw [hb]; exact (xb_d D_Exact_product 36 rfl))) (ok_Exact_isZero l hfl D A σ x0 x1 h5 _ hw) (hml.trans hl.1.symm) (by rw [hb]; exact (xb_d D_Exact_product 36 rfl)) (Nat.le_of_ble_eq_true rfl) (Nat.le_of_ble_eq_true rfl) (Nat.le_of_ble_eq_true rfl) (show k ≤ MC by omega) (show n ≤ MS by omega) (xt_w1 hB.1 m_b231eb2b) (xt_cdOf hB.1 m_b231eb2b) (hts _ m_b807310b) hB hR hS hA (fun vv h8 H locs hq hEh8 hR hS => ?_)
      obtain ⟨r9, rfl, hw⟩ := hq
      have hw := hw hEh8
      have hE := hE.tr hEh8
      refine W.eq (g2 := F0 m 71 ls [.int r9]) rfl ?_
      refine lv_if_ne (tgt := 82) hx hb (xb_d D_Exact_product 37 rfl) rfl (fun hc10 => ?_) (fun hc10 => ?_)
      · have hw := hw.1 hc10
        exact am_Exact_product_L82 l hfl D A σ MC MS h0 Qr x0 y0 h8 hw p e s m args below meth c hC H locs ls k n hE (lv_sub hl [1, 0] rfl) hR hS (by omega) (by omega)
      · have hw := hw.2 hc10
        refine lv_aload_n hx hb (xb_d D_Exact_product 38 rfl) rfl (lv_at hl 1 rfl) ?_
        refine lv_lload_n hx hb (xb_d D_Exact_product 39 rfl) rfl (lv_at hl 3 rfl) ?_
        have hk1 : xb_k h8 x0 = 10 := hEh8.k hk1
        refine xb_call0 (D := D) (A := A) (σ := σ) (h := h8) (d := 3) (maxL := 3) (rest := []) (av := [.ref x0, .long x3]) (fun T hT X => by obtain ⟨cb9, ra9, rb9, rc9⟩ := xb_recv (ci := 9) hR rfl hk1 (by decide); exact xt_invV X hx hown (hts _ m_f9e5bce2) (hts _ m_d4ccf81e) (hts _ m_870ffa92) (xt_sigOf (hts _ m_b231eb2b)) nm_Exact_isZero (by rw [hT]; exact ra9) rb9 rc9 (g := F0 m 76 ls [.long x3, .ref x0]) rfl (argsL := [.long x3]) (rest := []) rfl rfl (by rw [hb]; exact (xb_d D_Exact_product 40 rfl))) (ok_Exact_isZero l hfl D A σ x0 x3 h8 _ hw) (hml.trans hl.1.symm) (by rw [hb]; exact (xb_d D_Exact_product 40 rfl)) (Nat.le_of_ble_eq_true rfl) (Nat.le_of_ble_eq_true rfl) (Nat.le_of_ble_eq_true rfl) (show k ≤ MC by omega) (show n ≤ MS by omega) (xt_w1 hB.1 m_b231eb2b) (xt_cdOf hB.1 m_b231eb2b) (hts _ m_b807310b) hB hR hS hA (fun vv h11 H locs hq hEh11 hR hS => ?_)
        obtain ⟨r12, rfl, hw⟩ := hq
        have hw := hw hEh11
        have hE := hE.tr hEh11
        refine W.eq (g2 := F0 m 79 ls [.int r12]) rfl ?_
        refine lv_if_eq (tgt := 90) hx hb (xb_d D_Exact_product 41 rfl) rfl (fun hc13 => ?_) (fun hc13 => ?_)
        · have hw := hw.1 hc13
          refine lv_aload_n hx hb (xb_d D_Exact_product 47 rfl) rfl (lv_at hl 1 rfl) ?_
          refine lv_lload_n hx hb (xb_d D_Exact_product 48 rfl) rfl (lv_at hl 2 rfl) ?_
          have hk1 : xb_k h11 x0 = 10 := hEh11.k hk1
          refine xb_call0 (D := D) (A := A) (σ := σ) (h := h11) (d := 3) (maxL := 7) (rest := []) (av := [.ref x0, .long x1]) (fun T hT X => by obtain ⟨cb9, ra9, rb9, rc9⟩ := xb_recv (ci := 9) hR rfl hk1 (by decide); exact xt_invV X hx hown (hts _ m_26946ca5) (hts _ m_c8f41404) (hts _ m_e3ba6af7) (xt_sigOf (hts _ m_921646f3)) nm_Exact_split (by rw [hT]; exact ra9) rb9 rc9 (g := F0 m 92 ls [.long x1, .ref x0]) rfl (argsL := [.long x1]) (rest := []) rfl rfl (by rw [hb]; exact (xb_d D_Exact_product 49 rfl))) (ok_Exact_split l hfl D A σ x0 x1 h11 _ hw) (hml.trans hl.1.symm) (by rw [hb]; exact (xb_d D_Exact_product 49 rfl)) (Nat.le_of_ble_eq_true rfl) (Nat.le_of_ble_eq_true rfl) (Nat.le_of_ble_eq_true rfl) (show k ≤ MC by omega) (show n ≤ MS by omega) (xt_w1 hB.1 m_921646f3) (xt_cdOf hB.1 m_921646f3) (hts _ m_b807310b) hB hR hS hA (fun vv h14 H locs hq hEh14 hR hS => ?_)
          obtain ⟨rfl, hw⟩ := hq
          have hw := hw hEh14
          have hE := hE.tr hEh14
          refine W.eq (g2 := F0 m 95 ls []) rfl ?_
          refine lv_aload_n hx hb (xb_d D_Exact_product 50 rfl) rfl (lv_at hl 1 rfl) ?_
          have hk1 : xb_k h14 x0 = 10 := hEh14.k hk1
          refine xb_getL (C := R_Exact) (T := F_Exact) (N := 11) hx hb 9 9 hts fin_Exact hown hR hk1 (by decide) rfl (by decide) rfl (hts _ m_183e6a18) (fun _ h9 => h9) (xb_d D_Exact_product 51 rfl) ?_
          obtain ⟨v16, ev16⟩ : ∃ x : Int64, x = (xb_l h14 x0 9) := ⟨_, rfl⟩
          have hw := hw v16 ev16
          refine xt_numl (y := v16) ev16.symm ?_
          refine lv_lstore hx hb (xb_d D_Exact_product 52 rfl) hl (by decide) rfl (fun ls hl => ?_)
          have hl : lv_has ls 10 [(6, .long v16), (5, .int y0), (0, .ref x0), (1, .long x1), (3, .long x3)] := hl
          refine lv_aload_n hx hb (xb_d D_Exact_product 53 rfl) rfl (lv_at hl 2 rfl) ?_
          refine xb_getI (C := R_Exact) (T := F_Exact) (N := 11) hx hb 9 10 hts fin_Exact hown hR hk1 (by decide) rfl (by decide) rfl (hts _ m_a62210ac) (fun _ h9 => h9) (xb_d D_Exact_product 54 rfl) ?_
          obtain ⟨v17, ev17⟩ : ∃ x : Int32, x = (xb_i h14 x0 10) := ⟨_, rfl⟩
          have hw := hw v17 ev17
          refine xt_numi (y := v17) ev17.symm ?_
          refine lv_istore hx hb (xb_d D_Exact_product 55 rfl) hl (by decide) rfl (fun ls hl => ?_)
          have hl : lv_has ls 10 [(8, .int v17), (6, .long v16), (5, .int y0), (0, .ref x0), (1, .long x1), (3, .long x3)] := hl
          refine lv_aload_n hx hb (xb_d D_Exact_product 56 rfl) rfl (lv_at hl 3 rfl) ?_
          refine lv_lload_n hx hb (xb_d D_Exact_product 57 rfl) rfl (lv_at hl 5 rfl) ?_
          refine xb_call0 (D := D) (A := A) (σ := σ) (h := h14) (d := 3) (maxL := 7) (rest := []) (av := [.ref x0, .long x3]) (fun T hT X => by obtain ⟨cb9, ra9, rb9, rc9⟩ := xb_recv (ci := 9) hR rfl hk1 (by decide); exact xt_invV X hx hown (hts _ m_26946ca5) (hts _ m_c8f41404) (hts _ m_e3ba6af7) (xt_sigOf (hts _ m_921646f3)) nm_Exact_split (by rw [hT]; exact ra9) rb9 rc9 (g := F0 m 109 ls [.long x3, .ref x0]) rfl (argsL := [.long x3]) (rest := []) rfl rfl (by rw [hb]; exact (xb_d D_Exact_product 58 rfl))) (ok_Exact_split l hfl D A σ x0 x3 h14 _ hw) (hml.trans hl.1.symm) (by rw [hb]; exact (xb_d D_Exact_product 58 rfl)) (Nat.le_of_ble_eq_true rfl) (Nat.le_of_ble_eq_true rfl) (Nat.le_of_ble_eq_true rfl) (show k ≤ MC by omega) (show n ≤ MS by omega) (xt_w1 hB.1 m_921646f3) (xt_cdOf hB.1 m_921646f3) (hts _ m_b807310b) hB hR hS hA (fun vv h18 H locs hq hEh18 hR hS => ?_)
          obtain ⟨rfl, hw⟩ := hq
          have hw := hw hEh18
          have hE := hE.tr hEh18
          refine W.eq (g2 := F0 m 112 ls []) rfl ?_
          refine lv_iload hx hb (xb_d D_Exact_product 59 rfl) (lv_at hl 0 rfl) ?_
          refine lv_aload_n hx hb (xb_d D_Exact_product 60 rfl) rfl (lv_at hl 3 rfl) ?_
          have hk1 : xb_k h18 x0 = 10 := hEh18.k hk1
          refine xb_getI (C := R_Exact) (T := F_Exact) (N := 11) hx hb 9 10 hts fin_Exact hown hR hk1 (by decide) rfl (by decide) rfl (hts _ m_a62210ac) (fun _ h9 => h9) (xb_d D_Exact_product 61 rfl) ?_
          refine lv_iadd hx hb (xb_d D_Exact_product 62 rfl) ?_
          obtain ⟨v20, ev20⟩ : ∃ x : Int32, x = (v17 + (xb_i h18 x0 10)) := ⟨_, rfl⟩
          have hw := hw v20 ev20
          refine xt_numi (y := v20) ev20.symm ?_
          refine lv_istore hx hb (xb_d D_Exact_product 63 rfl) hl (by decide) rfl (fun ls hl => ?_)
          have hl : lv_has ls 10 [(8, .int v20), (6, .long v16), (5, .int y0), (0, .ref x0), (1, .long x1), (3, .long x3)] := hl
          refine lv_aload_n hx hb (xb_d D_Exact_product 64 rfl) rfl (lv_at hl 3 rfl) ?_
          refine xb_call0 (D := D) (A := A) (σ := σ) (h := h18) (d := 2) (maxL := 2) (rest := []) (av := [.ref x0]) (fun T hT X => by obtain ⟨cb9, ra9, rb9, rc9⟩ := xb_recv (ci := 9) hR rfl hk1 (by decide); exact xt_invV X hx hown (hts _ m_65d93325) (hts _ m_c4de73f8) (hts _ m_b3f48cc1) (xt_sigOf (hts _ m_b0daac26)) nm_Exact_clear (by rw [hT]; exact ra9) rb9 rc9 (g := F0 m 122 ls [.ref x0]) rfl (argsL := []) (rest := []) rfl rfl (by rw [hb]; exact (xb_d D_Exact_product 65 rfl))) (ok_Exact_clear l hfl D A σ x0 h18 _ hw) (hml.trans hl.1.symm) (by rw [hb]; exact (xb_d D_Exact_product 65 rfl)) (Nat.le_of_ble_eq_true rfl) (Nat.le_of_ble_eq_true rfl) (Nat.le_of_ble_eq_true rfl) (show k ≤ MC by omega) (show n ≤ MS by omega) (xt_w1 hB.1 m_b0daac26) (xt_cdOf hB.1 m_b0daac26) (hts _ m_b807310b) hB hR hS hA (fun vv h21 H locs hq hEh21 hR hS => ?_)
          obtain ⟨rfl, hw⟩ := hq
          have hw := hw hEh21
          have hE := hE.tr hEh21
          refine W.eq (g2 := F0 m 125 ls []) rfl ?_
          refine lv_iconst (v := 0) hx hb (xb_d D_Exact_product 66 rfl) (by decide) ?_
          refine lv_istore hx hb (xb_d D_Exact_product 67 rfl) hl (by decide) rfl (fun ls hl => ?_)
          have hl : lv_has ls 10 [(9, .int 0), (8, .int v20), (6, .long v16), (5, .int y0), (0, .ref x0), (1, .long x1), (3, .long x3)] := hl
          obtain ⟨n8, hw⟩ := hw
          exact am_Exact_product_L128 l hfl D A σ MC MS h0 Qr n8 x0 y0 v16 v20 0 h21 hw p e s m args below meth c hC H locs ls k n hE (lv_sub hl [4, 3, 2, 1, 0] rfl) hR hS (by omega) (by omega)
        · have hw := hw.2 hc13
          exact am_Exact_product_L82 l hfl D A σ MC MS h0 Qr x0 y0 h11 hw p e s m args below meth c hC H locs ls k n hE (lv_sub hl [1, 0] rfl) hR hS (by omega) (by omega)
    · have hw := hw.2 hc7
      exact am_Exact_product_L36 l hfl D A σ MC MS h0 Qr x0 x1 x3 y0 h5 hw p e s m args below meth c hC H locs ls k n hE (lv_sub hl [1, 2, 3, 0] rfl) hR hS (by omega) (by omega)

set_option maxHeartbeats 4000000 in
set_option maxRecDepth 100000 in
theorem ok_Exact_product (l : Launch) (hfl : l.flags = pinnedFlags ++ [noTraceFlag]) (D : va_G) (A : Nat → Prop) (σ : Nat) (x0 : Nat) (x1 : Int64) (x3 : Int64) (h : xb_H) (Qr : Int64 → xb_H → Prop) (hw : w_Exact_product x0 x1 x3 h Qr) : xb_Met l y_Exact_product [.code y_Exact_product b_Exact_product 10 (some .long)] (xb_rm 5 0 0) (xb_Pc D A σ h [.ref x0, .long x1, .long x3]) (xb_Qc D A h 0 0 (fun v h _ _ => ∃ r, v = some (.long r) ∧ Qr r h) (fun _ _ _ _ => False)) A := by
  refine xb_ofAm (cc := b_Exact_product) (by decide) (Nat.le_of_ble_eq_true rfl) ?_
  unfold w_Exact_product at hw
  show xb_am l D A σ 5 0 0 h (fun v h _ _ => ∃ r, v = some (.long r) ∧ Qr r h) (fun _ _ _ _ => False) y_Exact_product.cls y_Exact_product.name b_Exact_product 10 ([] : List ExceptionTableEntry) (some .long) 0 [(0, .ref x0), (1, .long x1), (3, .long x3)] [] h 0 0
  obtain ⟨MC, hMC⟩ : ∃ x, x = 0 := ⟨_, rfl⟩
  obtain ⟨MS, hMS⟩ : ∃ x, x = 0 := ⟨_, rfl⟩
  rw [show xb_am l D A σ 5 0 0 = xb_am l D A σ 5 MC MS by rw [hMC, hMS]]
  obtain ⟨h0, hh0⟩ : ∃ x, x = h := ⟨_, rfl⟩
  rw [show xb_am l D A σ 5 MC MS h = xb_am l D A σ 5 MC MS h0 by rw [hh0]]
  intro p e s m args below meth c hC H locs ls k n hE hl hR hS hk hn
  obtain ⟨hx, hb, hown, hlocks, htab, hml, hr, hB, hA, hnm⟩ := id hC
  have hts := hB.1.1.at args
  refine lv_aload_n hx hb (xb_d D_Exact_product 0 rfl) rfl (lv_at hl 0 rfl) ?_
  refine lv_lload_n hx hb (xb_d D_Exact_product 1 rfl) rfl (lv_at hl 1 rfl) ?_
  obtain ⟨hk1, hw⟩ := hw
  refine xb_call0 (D := D) (A := A) (σ := σ) (h := h) (d := 2) (maxL := 3) (rest := []) (av := [.ref x0, .long x1]) (fun T hT X => by obtain ⟨cb9, ra9, rb9, rc9⟩ := xb_recv (ci := 9) hR rfl hk1 (by decide); exact xt_invV X hx hown (hts _ m_de267fc4) (hts _ m_8cf2fba2) (hts _ m_e2188cdf) (xt_sigOf (hts _ m_25d2fde1)) nm_Exact_isMinus (by rw [hT]; exact ra9) rb9 rc9 (g := F0 m 2 ls [.long x1, .ref x0]) rfl (argsL := [.long x1]) (rest := []) rfl rfl (by rw [hb]; exact (xb_d D_Exact_product 2 rfl))) (ok_Exact_isMinus l hfl D A σ x0 x1 h _ hw) (hml.trans hl.1.symm) (by rw [hb]; exact (xb_d D_Exact_product 2 rfl)) (Nat.le_of_ble_eq_true rfl) (Nat.le_of_ble_eq_true rfl) (Nat.le_of_ble_eq_true rfl) (show k ≤ MC by omega) (show n ≤ MS by omega) (xt_w1 hB.1 m_25d2fde1) (xt_cdOf hB.1 m_25d2fde1) (hts _ m_b807310b) hB hR hS hA (fun vv h2 H locs hq hEh2 hR hS => ?_)
  obtain ⟨r3, rfl, hw⟩ := hq
  have hw := hw hEh2
  have hE := hE.tr hEh2
  refine W.eq (g2 := F0 m 5 ls [.int r3]) rfl ?_
  refine lv_aload_n hx hb (xb_d D_Exact_product 3 rfl) rfl (lv_at hl 0 rfl) ?_
  refine lv_lload_n hx hb (xb_d D_Exact_product 4 rfl) rfl (lv_at hl 2 rfl) ?_
  have hk1 : xb_k h2 x0 = 10 := hEh2.k hk1
  refine xb_call0 (D := D) (A := A) (σ := σ) (h := h2) (d := 2) (maxL := 3) (rest := [.int r3]) (av := [.ref x0, .long x3]) (fun T hT X => by obtain ⟨cb9, ra9, rb9, rc9⟩ := xb_recv (ci := 9) hR rfl hk1 (by decide); exact xt_invV X hx hown (hts _ m_de267fc4) (hts _ m_8cf2fba2) (hts _ m_e2188cdf) (xt_sigOf (hts _ m_25d2fde1)) nm_Exact_isMinus (by rw [hT]; exact ra9) rb9 rc9 (g := F0 m 7 ls [.long x3, .ref x0, .int r3]) rfl (argsL := [.long x3]) (rest := [.int r3]) rfl rfl (by rw [hb]; exact (xb_d D_Exact_product 5 rfl))) (ok_Exact_isMinus l hfl D A σ x0 x3 h2 _ hw) (hml.trans hl.1.symm) (by rw [hb]; exact (xb_d D_Exact_product 5 rfl)) (Nat.le_of_ble_eq_true rfl) (Nat.le_of_ble_eq_true rfl) (Nat.le_of_ble_eq_true rfl) (show k ≤ MC by omega) (show n ≤ MS by omega) (xt_w1 hB.1 m_25d2fde1) (xt_cdOf hB.1 m_25d2fde1) (hts _ m_b807310b) hB hR hS hA (fun vv h4 H locs hq hEh4 hR hS => ?_)
  obtain ⟨r5, rfl, hw⟩ := hq
  have hw := hw hEh4
  have hE := hE.tr hEh4
  refine W.eq (g2 := F0 m 10 ls [.int r5, .int r3]) rfl ?_
  refine lv_icmp_eq (tgt := 17) hx hb (xb_d D_Exact_product 6 rfl) rfl (fun hc6 => ?_) (fun hc6 => ?_)
  · have hw := hw.1 hc6
    refine lv_iconst (v := 0) hx hb (xb_d D_Exact_product 9 rfl) (by decide) ?_
    exact am_Exact_product_L18 l hfl D A σ MC MS h0 Qr x0 x1 x3 0 h4 hw p e s m args below meth c hC H locs ls k n hE (lv_sub hl [0, 1, 2] rfl) hR hS (by omega) (by omega)
  · have hw := hw.2 hc6
    refine lv_iconst (v := 1) hx hb (xb_d D_Exact_product 7 rfl) (by decide) ?_
    refine lv_goto (tgt := 18) hx hb (xb_d D_Exact_product 8 rfl) rfl ?_
    exact am_Exact_product_L18 l hfl D A σ MC MS h0 Qr x0 x1 x3 1 h4 hw p e s m args below meth c hC H locs ls k n hE (lv_sub hl [0, 1, 2] rfl) hR hS (by omega) (by omega)

set_option maxRecDepth 100000 in
def T_Exact_quotient : List (Nat × Instr × Nat) := [(0, .aload_n 0, 1), (1, .lload_n 1, 1), (2, .invokevirtual 76, 3), (5, .aload_n 0, 1), (6, .lload_n 3, 1), (7, .invokevirtual 76, 3), (10, .if_icmp .eq 7, 3), (13, .iconst 1, 1), (14, .goto 4, 3), (17, .iconst 0, 1), (18, .istore 5, 2), (20, .aload_n 0, 1), (21, .lload_n 1, 1), (22, .invokevirtual 97, 3), (25, .ifCond .eq 11, 3), (28, .aload_n 0, 1), (29, .lload_n 3, 1), (30, .invokevirtual 97, 3), (33, .ifCond .ne 19, 3), (36, .aload_n 0, 1), (37, .lload_n 1, 1), (38, .invokevirtual 104, 3), (41, .ifCond .eq 16, 3), (44, .aload_n 0, 1), (45, .lload_n 3, 1), (46, .invokevirtual 104, 3), (49, .ifCond .eq 8, 3), (52, .aload_n 0, 1), (53, .invokevirtual 100, 3), (56, .lreturn, 1), (57, .aload_n 0, 1), (58, .lload_n 1, 1), (59, .invokevirtual 97, 3), (62, .ifCond .ne 11, 3), (65, .aload_n 0, 1), (66, .lload_n 3, 1), (67, .invokevirtual 104, 3), (70, .ifCond .eq 10, 3), (73, .aload_n 0, 1), (74, .iload 5, 2), (76, .invokevirtual 64, 3), (79, .lreturn, 1), (80, .aload_n 0, 1), (81, .lload_n 3, 1), (82, .invokevirtual 97, 3), (85, .ifCond .ne 11, 3), (88, .aload_n 0, 1), (89, .lload_n 1, 1), (90, .invokevirtual 104, 3), (93, .ifCond .eq 11, 3), (96, .aload_n 0, 1), (97, .lconst 0, 1), (98, .iload 5, 2), (100, .invokevirtual 52, 3), (103, .lreturn, 1), (104, .aload_n 0, 1), (105, .lload_n 3, 1), (106, .invokevirtual 110, 3), (109, .aload_n 0, 1), (110, .getfield 83, 3), (113, .lstore 6, 2), (115, .aload_n 0, 1), (116, .getfield 87, 3), (119, .ineg, 1), (120, .istore 8, 2), (122, .aload_n 0, 1), (123, .lload_n 1, 1), (124, .invokevirtual 110, 3), (127, .iload 8, 2), (129, .aload_n 0, 1), (130, .getfield 87, 3), (133, .iadd, 1), (134, .istore 8, 2), (136, .aload_n 0, 1), (137, .invokevirtual 107, 3), (140, .lconst 0, 1), (141, .lstore 9, 2), (143, .bipush 52, 2), (145, .istore 11, 2), (147, .iload 11, 2), (149, .bipush (-110), 2), (151, .if_icmp .lt 61, 3), (154, .ldc2_w 50, 3), (157, .lload 9, 2), (159, .lmul, 1), (160, .iload 11, 2), (162, .ifCond .ge 7, 3), (165, .lconst 0, 1), (166, .goto 12, 3), (169, .aload_n 0, 1), (170, .getfield 83, 3), (173, .iload 11, 2), (175, .lshr, 1), (176, .lconst 1, 1), (177, .land, 1), (178, .ladd, 1), (179, .lstore 9, 2), (181, .lload 9, 2), (183, .lload 6, 2), (185, .lcmp, 1), (186, .ifCond .lt 20, 3), (189, .lload 9, 2), (191, .lload 6, 2), (193, .lsub, 1), (194, .lstore 9, 2), (196, .aload_n 0, 1), (197, .lconst 1, 1), (198, .iload 8, 2), (200, .iload 11, 2), (202, .iadd, 1), (203, .invokevirtual 114, 3), (206, .iinc 11 (-1), 3), (209, .goto (-62), 3), (212, .aload_n 0, 1), (213, .lload 9, 2), (215, .lconst 0, 1), (216, .lcmp, 1), (217, .ifCond .eq 7, 3), (220, .iconst 1, 1), (221, .goto 4, 3), (224, .iconst 0, 1), (225, .putfield 33, 3), (228, .aload_n 0, 1), (229, .iload 5, 2), (231, .invokevirtual 121, 3), (234, .lreturn, 1)]
theorem D_Exact_quotient : ∀ q ∈ T_Exact_quotient, decode b_Exact_quotient q.1 = .ok (q.2.1, q.2.2) := by decide +kernel

set_option maxHeartbeats 4000000 in
set_option maxRecDepth 100000 in
theorem am_Exact_quotient_L225 (l : Launch) (hfl : l.flags = pinnedFlags ++ [noTraceFlag]) (D : va_G) (A : Nat → Prop) (σ MC MS : Nat) (h0 : xb_H) (Qr : Int64 → xb_H → Prop) (x0 : Nat) (x5 : Int32) (y0 : Int32) (y1 : Nat) (h : xb_H) (hw : w_Exact_quotient_L225 Qr x0 x5 y0 y1 h) : xb_am l D A σ 5 MC MS h0 (fun v h _ _ => ∃ r, v = some (.long r) ∧ Qr r h) (fun _ _ _ _ => False) y_Exact_quotient.cls y_Exact_quotient.name b_Exact_quotient 12 ([] : List ExceptionTableEntry) (some .long) 225 [(0, .ref x0), (5, .int x5)] [.int y0, .ref y1] h 0 0 := by
  unfold w_Exact_quotient_L225 at hw
  intro p e s m args below meth c hC H locs ls k n hE hl hR hS hk hn
  obtain ⟨hx, hb, hown, hlocks, htab, hml, hr, hB, hA, hnm⟩ := id hC
  have hts := hB.1.1.at args
  obtain ⟨hk1, hw⟩ := hw
  obtain ⟨hz2, hw⟩ := hw
  refine xb_putI (C := R_Exact) (T := F_Exact) (N := 11) (ty := .boolean) (x := y0) hx hb 9 4 hts fin_Exact t_Exact t_Exact_ok n_Exact hown hR hS hk1 (by decide) rfl (by decide) rfl (hts _ m_5c37ff4e) (fun _ h9 => h9) rfl (by decide +kernel) (xb_bn hz2).1 (xb_bn hz2).2 (xb_d D_Exact_quotient 121 rfl) (fun H locs hR hS => ?_)
  obtain ⟨h3, eh3⟩ : ∃ x : xb_H, x = xb_I h y1 4 y0 := ⟨_, rfl⟩
  rw [← eh3] at hR
  have hw := hw h3 eh3
  have hE : xb_ext h0 h3 := by rw [eh3]; exact hE
  refine lv_aload_n hx hb (xb_d D_Exact_quotient 122 rfl) rfl (lv_at hl 0 rfl) ?_
  refine lv_iload hx hb (xb_d D_Exact_quotient 123 rfl) (lv_at hl 1 rfl) ?_
  obtain ⟨hk4, hw⟩ := hw
  refine xb_call0 (D := D) (A := A) (σ := σ) (h := h3) (d := 4) (maxL := 10) (rest := []) (av := [.ref x0, .int x5]) (fun T hT X => by obtain ⟨cb9, ra9, rb9, rc9⟩ := xb_recv (ci := 9) hR rfl hk4 (by decide); exact xt_invV X hx hown (hts _ m_2aa5d168) (hts _ m_a9d2c1e2) (hts _ m_665f83d8) (xt_sigOf (hts _ m_bb0adfae)) nm_Exact_rounded (by rw [hT]; exact ra9) rb9 rc9 (g := F0 m 231 ls [.int x5, .ref x0]) rfl (argsL := [.int x5]) (rest := []) rfl rfl (by rw [hb]; exact (xb_d D_Exact_quotient 124 rfl))) (ok_Exact_rounded l hfl D A σ x0 x5 h3 _ hw) (hml.trans hl.1.symm) (by rw [hb]; exact (xb_d D_Exact_quotient 124 rfl)) (Nat.le_of_ble_eq_true rfl) (Nat.le_of_ble_eq_true rfl) (Nat.le_of_ble_eq_true rfl) (show k ≤ MC by omega) (show n ≤ MS by omega) (xt_w1 hB.1 m_bb0adfae) (xt_cdOf hB.1 m_bb0adfae) (hts _ m_b807310b) hB hR hS hA (fun vv h5 H locs hq hEh5 hR hS => ?_)
  obtain ⟨r6, rfl, hw⟩ := hq
  have hw := hw hEh5
  have hE := hE.tr hEh5
  refine W.eq (g2 := F0 m 234 ls [.long r6]) rfl ?_
  exact xb_lret 0 0 hx hb hr hlocks (show k + 0 ≤ MC by omega) (show n + 0 ≤ MS by omega) hE hR hS (xb_d D_Exact_quotient 125 rfl) hw

set_option maxHeartbeats 4000000 in
set_option maxRecDepth 100000 in
theorem am_Exact_quotient_L206 (l : Launch) (hfl : l.flags = pinnedFlags ++ [noTraceFlag]) (D : va_G) (A : Nat → Prop) (σ MC MS : Nat) (h0 : xb_H) (Qr : Int64 → xb_H → Prop) (K147 : Nat → Int32 → Int64 → Int32 → Int64 → Int32 → xb_H → Prop) (hK147 : ∀ (x0 : Nat) (x5 : Int32) (x6 : Int64) (x8 : Int32) (x9 : Int64) (x11 : Int32) (h : xb_H), K147 x0 x5 x6 x8 x9 x11 h → xb_am l D A σ 5 MC MS h0 (fun v h _ _ => ∃ r, v = some (.long r) ∧ Qr r h) (fun _ _ _ _ => False) y_Exact_quotient.cls y_Exact_quotient.name b_Exact_quotient 12 ([] : List ExceptionTableEntry) (some .long) 147 [(0, .ref x0), (5, .int x5), (6, .long x6), (8, .int x8), (9, .long x9), (11, .int x11)] [] h 0 0) (x0 : Nat) (x5 : Int32) (x6 : Int64) (x8 : Int32) (x9 : Int64) (x11 : Int32) (h : xb_H) (hw : w_Exact_quotient_L206 K147 Qr x0 x5 x6 x8 x9 x11 h) : xb_am l D A σ 5 MC MS h0 (fun v h _ _ => ∃ r, v = some (.long r) ∧ Qr r h) (fun _ _ _ _ => False) y_Exact_quotient.cls y_Exact_quotient.name b_Exact_quotient 12 ([] : List ExceptionTableEntry) (some .long) 206 [(0, .ref x0), (5, .int x5), (6, .long x6), (8, .int x8), (9, .long x9), (11, .int x11)] [] h 0 0 := by
  unfold w_Exact_quotient_L206 at hw
  intro p e s m args below meth c hC H locs ls k n hE hl hR hS hk hn
  obtain ⟨hx, hb, hown, hlocks, htab, hml, hr, hB, hA, hnm⟩ := id hC
  have hts := hB.1.1.at args
  refine lv_iinc (v := (x11 + (-1))) (k := 5) hx hb (xb_d D_Exact_quotient 111 rfl) hl rfl (by first | rfl | decide) (by decide) rfl (fun ls hl => ?_)
  have hl : lv_has ls 12 [(11, .int (x11 + (-1))), (0, .ref x0), (5, .int x5), (6, .long x6), (8, .int x8), (9, .long x9)] := hl
  refine lv_goto (tgt := 147) hx hb (xb_d D_Exact_quotient 112 rfl) rfl ?_
  exact hK147 x0 x5 x6 x8 x9 (x11 + (-1)) h hw p e s m args below meth c hC H locs ls k n hE (lv_sub hl [1, 2, 3, 4, 5, 0] rfl) hR hS (by omega) (by omega)

set_option maxHeartbeats 4000000 in
set_option maxRecDepth 100000 in
theorem am_Exact_quotient_L178 (l : Launch) (hfl : l.flags = pinnedFlags ++ [noTraceFlag]) (D : va_G) (A : Nat → Prop) (σ MC MS : Nat) (h0 : xb_H) (Qr : Int64 → xb_H → Prop) (K147 : Nat → Int32 → Int64 → Int32 → Int64 → Int32 → xb_H → Prop) (hK147 : ∀ (x0 : Nat) (x5 : Int32) (x6 : Int64) (x8 : Int32) (x9 : Int64) (x11 : Int32) (h : xb_H), K147 x0 x5 x6 x8 x9 x11 h → xb_am l D A σ 5 MC MS h0 (fun v h _ _ => ∃ r, v = some (.long r) ∧ Qr r h) (fun _ _ _ _ => False) y_Exact_quotient.cls y_Exact_quotient.name b_Exact_quotient 12 ([] : List ExceptionTableEntry) (some .long) 147 [(0, .ref x0), (5, .int x5), (6, .long x6), (8, .int x8), (9, .long x9), (11, .int x11)] [] h 0 0) (x0 : Nat) (x5 : Int32) (x6 : Int64) (x8 : Int32) (x11 : Int32) (y0 : Int64) (y1 : Int64) (h : xb_H) (hw : w_Exact_quotient_L178 K147 Qr x0 x5 x6 x8 x11 y0 y1 h) : xb_am l D A σ 5 MC MS h0 (fun v h _ _ => ∃ r, v = some (.long r) ∧ Qr r h) (fun _ _ _ _ => False) y_Exact_quotient.cls y_Exact_quotient.name b_Exact_quotient 12 ([] : List ExceptionTableEntry) (some .long) 178 [(0, .ref x0), (5, .int x5), (6, .long x6), (8, .int x8), (11, .int x11)] [.long y0, .long y1] h 0 0 := by
  unfold w_Exact_quotient_L178 at hw
  intro p e s m args below meth c hC H locs ls k n hE hl hR hS hk hn
  obtain ⟨hx, hb, hown, hlocks, htab, hml, hr, hB, hA, hnm⟩ := id hC
  have hts := hB.1.1.at args
  refine lv_ladd hx hb (xb_d D_Exact_quotient 95 rfl) ?_
  obtain ⟨v1, ev1⟩ : ∃ x : Int64, x = (y1 + y0) := ⟨_, rfl⟩
  have hw := hw v1 ev1
  refine xt_numl (y := v1) ev1.symm ?_
  refine lv_lstore hx hb (xb_d D_Exact_quotient 96 rfl) hl (by decide) rfl (fun ls hl => ?_)
  have hl : lv_has ls 12 [(9, .long v1), (0, .ref x0), (5, .int x5), (6, .long x6), (8, .int x8), (11, .int x11)] := hl
  refine lv_lload hx hb (xb_d D_Exact_quotient 97 rfl) (lv_at hl 0 rfl) ?_
  refine lv_lload hx hb (xb_d D_Exact_quotient 98 rfl) (lv_at hl 3 rfl) ?_
  refine xb_lc_lt (tgt := 206) hx hb (xb_d D_Exact_quotient 99 rfl) (xb_d D_Exact_quotient 100 rfl) rfl (fun hc2 => ?_) (fun hc2 => ?_)
  · have hw := hw.1 hc2
    exact am_Exact_quotient_L206 l hfl D A σ MC MS h0 Qr K147 hK147 x0 x5 x6 x8 v1 x11 h hw p e s m args below meth c hC H locs ls k n hE (lv_sub hl [1, 2, 3, 4, 0, 5] rfl) hR hS (by omega) (by omega)
  · have hw := hw.2 hc2
    refine lv_lload hx hb (xb_d D_Exact_quotient 101 rfl) (lv_at hl 0 rfl) ?_
    refine lv_lload hx hb (xb_d D_Exact_quotient 102 rfl) (lv_at hl 3 rfl) ?_
    refine lv_lsub hx hb (xb_d D_Exact_quotient 103 rfl) ?_
    obtain ⟨v3, ev3⟩ : ∃ x : Int64, x = (v1 - x6) := ⟨_, rfl⟩
    have hw := hw v3 ev3
    refine xt_numl (y := v3) ev3.symm ?_
    refine lv_lstore hx hb (xb_d D_Exact_quotient 104 rfl) hl (by decide) rfl (fun ls hl => ?_)
    have hl : lv_has ls 12 [(9, .long v3), (0, .ref x0), (5, .int x5), (6, .long x6), (8, .int x8), (11, .int x11)] := hl
    refine lv_aload_n hx hb (xb_d D_Exact_quotient 105 rfl) rfl (lv_at hl 1 rfl) ?_
    refine lv_lconst (v := 1) hx hb (xb_d D_Exact_quotient 106 rfl) (by decide) ?_
    refine lv_iload hx hb (xb_d D_Exact_quotient 107 rfl) (lv_at hl 4 rfl) ?_
    refine lv_iload hx hb (xb_d D_Exact_quotient 108 rfl) (lv_at hl 5 rfl) ?_
    refine lv_iadd hx hb (xb_d D_Exact_quotient 109 rfl) ?_
    obtain ⟨hk4, hw⟩ := hw
    refine xb_call0 (D := D) (A := A) (σ := σ) (h := h) (d := 3) (maxL := 9) (rest := []) (av := [.ref x0, .long 1, .int (x8 + x11)]) (fun T hT X => by obtain ⟨cb9, ra9, rb9, rc9⟩ := xb_recv (ci := 9) hR rfl hk4 (by decide); exact xt_invV X hx hown (hts _ m_547afbfb) (hts _ m_d4b837ea) (hts _ m_b818cb8b) (xt_sigOf (hts _ m_59b46d39)) nm_Exact_add (by rw [hT]; exact ra9) rb9 rc9 (g := F0 m 203 ls [.int (x8 + x11), .long 1, .ref x0]) rfl (argsL := [.long 1, .int (x8 + x11)]) (rest := []) rfl rfl (by rw [hb]; exact (xb_d D_Exact_quotient 110 rfl))) (ok_Exact_add l hfl D A σ x0 1 (x8 + x11) h _ hw) (hml.trans hl.1.symm) (by rw [hb]; exact (xb_d D_Exact_quotient 110 rfl)) (Nat.le_of_ble_eq_true rfl) (Nat.le_of_ble_eq_true rfl) (Nat.le_of_ble_eq_true rfl) (show k ≤ MC by omega) (show n ≤ MS by omega) (xt_w1 hB.1 m_59b46d39) (xt_cdOf hB.1 m_59b46d39) (hts _ m_b807310b) hB hR hS hA (fun vv h5 H locs hq hEh5 hR hS => ?_)
    obtain ⟨rfl, hw⟩ := hq
    have hw := hw hEh5
    have hE := hE.tr hEh5
    refine W.eq (g2 := F0 m 206 ls []) rfl ?_
    exact am_Exact_quotient_L206 l hfl D A σ MC MS h0 Qr K147 hK147 x0 x5 x6 x8 v3 x11 h5 hw p e s m args below meth c hC H locs ls k n hE (lv_sub hl [1, 2, 3, 4, 0, 5] rfl) hR hS (by omega) (by omega)

set_option maxHeartbeats 4000000 in
set_option maxRecDepth 100000 in
theorem am_Exact_quotient_L147 (l : Launch) (hfl : l.flags = pinnedFlags ++ [noTraceFlag]) (D : va_G) (A : Nat → Prop) (σ MC MS : Nat) (h0 : xb_H) (Qr : Int64 → xb_H → Prop) (n9 : Nat) : ∀ (x0 : Nat) (x5 : Int32) (x6 : Int64) (x8 : Int32) (x9 : Int64) (x11 : Int32) (h : xb_H), w_Exact_quotient_L147 Qr n9 x0 x5 x6 x8 x9 x11 h → xb_am l D A σ 5 MC MS h0 (fun v h _ _ => ∃ r, v = some (.long r) ∧ Qr r h) (fun _ _ _ _ => False) y_Exact_quotient.cls y_Exact_quotient.name b_Exact_quotient 12 ([] : List ExceptionTableEntry) (some .long) 147 [(0, .ref x0), (5, .int x5), (6, .long x6), (8, .int x8), (9, .long x9), (11, .int x11)] [] h 0 0 := by
  induction n9 with
  | zero => intro x0 x5 x6 x8 x9 x11 h hw; exact False.elim hw
  | succ n9 ih =>
    intro x0 x5 x6 x8 x9 x11 h hw
    unfold w_Exact_quotient_L147 at hw
    intro p e s m args below meth c hC H locs ls k n hE hl hR hS hk hn
    obtain ⟨hx, hb, hown, hlocks, htab, hml, hr, hB, hA, hnm⟩ := id hC
    have hts := hB.1.1.at args
    refine lv_iload hx hb (xb_d D_Exact_quotient 79 rfl) (lv_at hl 5 rfl) ?_
    refine lv_bipush (v := (-110)) hx hb (xb_d D_Exact_quotient 80 rfl) (by decide) ?_
    refine lv_icmp_lt (tgt := 212) hx hb (xb_d D_Exact_quotient 81 rfl) rfl (fun hc1 => ?_) (fun hc1 => ?_)
    · have hw := hw.1 hc1
      refine lv_aload_n hx hb (xb_d D_Exact_quotient 113 rfl) rfl (lv_at hl 0 rfl) ?_
      refine lv_lload hx hb (xb_d D_Exact_quotient 114 rfl) (lv_at hl 4 rfl) ?_
      refine lv_lconst (v := 0) hx hb (xb_d D_Exact_quotient 115 rfl) (by decide) ?_
      refine xb_lc_eq (tgt := 224) hx hb (xb_d D_Exact_quotient 116 rfl) (xb_d D_Exact_quotient 117 rfl) rfl (fun hc2 => ?_) (fun hc2 => ?_)
      · have hw := hw.1 hc2
        refine lv_iconst (v := 0) hx hb (xb_d D_Exact_quotient 120 rfl) (by decide) ?_
        exact am_Exact_quotient_L225 l hfl D A σ MC MS h0 Qr x0 x5 0 x0 h hw p e s m args below meth c hC H locs ls k n hE (lv_sub hl [0, 1] rfl) hR hS (by omega) (by omega)
      · have hw := hw.2 hc2
        refine lv_iconst (v := 1) hx hb (xb_d D_Exact_quotient 118 rfl) (by decide) ?_
        refine lv_goto (tgt := 225) hx hb (xb_d D_Exact_quotient 119 rfl) rfl ?_
        exact am_Exact_quotient_L225 l hfl D A σ MC MS h0 Qr x0 x5 1 x0 h hw p e s m args below meth c hC H locs ls k n hE (lv_sub hl [0, 1] rfl) hR hS (by omega) (by omega)
    · have hw := hw.2 hc1
      refine lv_ldc2 (v := 2) hx hb hown (hts _ m_9070420a) (xb_d D_Exact_quotient 82 rfl) ?_
      refine lv_lload hx hb (xb_d D_Exact_quotient 83 rfl) (lv_at hl 4 rfl) ?_
      refine lv_lmul hx hb (xb_d D_Exact_quotient 84 rfl) ?_
      refine lv_iload hx hb (xb_d D_Exact_quotient 85 rfl) (lv_at hl 5 rfl) ?_
      refine lv_if_ge (tgt := 169) hx hb (xb_d D_Exact_quotient 86 rfl) rfl (fun hc3 => ?_) (fun hc3 => ?_)
      · have hw := hw.1 hc3
        refine lv_aload_n hx hb (xb_d D_Exact_quotient 89 rfl) rfl (lv_at hl 0 rfl) ?_
        obtain ⟨hk4, hw⟩ := hw
        refine xb_getL (C := R_Exact) (T := F_Exact) (N := 11) hx hb 9 9 hts fin_Exact hown hR hk4 (by decide) rfl (by decide) rfl (hts _ m_183e6a18) (fun _ h9 => h9) (xb_d D_Exact_quotient 90 rfl) ?_
        refine lv_iload hx hb (xb_d D_Exact_quotient 91 rfl) (lv_at hl 5 rfl) ?_
        refine lv_lshr (v := (xb_lshr (xb_l h x0 9) x11)) hx hb (xb_d D_Exact_quotient 92 rfl) rfl ?_
        refine lv_lconst (v := 1) hx hb (xb_d D_Exact_quotient 93 rfl) (by decide) ?_
        refine lv_land hx hb (xb_d D_Exact_quotient 94 rfl) ?_
        exact am_Exact_quotient_L178 l hfl D A σ MC MS h0 Qr (w_Exact_quotient_L147 Qr n9) ih x0 x5 x6 x8 x11 ((xb_lshr (xb_l h x0 9) x11) &&& 1) (2 * x9) h hw p e s m args below meth c hC H locs ls k n hE (lv_sub hl [0, 1, 2, 3, 5] rfl) hR hS (by omega) (by omega)
      · have hw := hw.2 hc3
        refine lv_lconst (v := 0) hx hb (xb_d D_Exact_quotient 87 rfl) (by decide) ?_
        refine lv_goto (tgt := 178) hx hb (xb_d D_Exact_quotient 88 rfl) rfl ?_
        exact am_Exact_quotient_L178 l hfl D A σ MC MS h0 Qr (w_Exact_quotient_L147 Qr n9) ih x0 x5 x6 x8 x11 0 (2 * x9) h hw p e s m args below meth c hC H locs ls k n hE (lv_sub hl [0, 1, 2, 3, 5] rfl) hR hS (by omega) (by omega)

set_option maxHeartbeats 4000000 in
set_option maxRecDepth 100000 in
theorem am_Exact_quotient_L96 (l : Launch) (hfl : l.flags = pinnedFlags ++ [noTraceFlag]) (D : va_G) (A : Nat → Prop) (σ MC MS : Nat) (h0 : xb_H) (Qr : Int64 → xb_H → Prop) (x0 : Nat) (x5 : Int32) (h : xb_H) (hw : w_Exact_quotient_L96 Qr x0 x5 h) : xb_am l D A σ 5 MC MS h0 (fun v h _ _ => ∃ r, v = some (.long r) ∧ Qr r h) (fun _ _ _ _ => False) y_Exact_quotient.cls y_Exact_quotient.name b_Exact_quotient 12 ([] : List ExceptionTableEntry) (some .long) 96 [(0, .ref x0), (5, .int x5)] [] h 0 0 := by
  unfold w_Exact_quotient_L96 at hw
  intro p e s m args below meth c hC H locs ls k n hE hl hR hS hk hn
  obtain ⟨hx, hb, hown, hlocks, htab, hml, hr, hB, hA, hnm⟩ := id hC
  have hts := hB.1.1.at args
  refine lv_aload_n hx hb (xb_d D_Exact_quotient 50 rfl) rfl (lv_at hl 0 rfl) ?_
  refine lv_lconst (v := 0) hx hb (xb_d D_Exact_quotient 51 rfl) (by decide) ?_
  refine lv_iload hx hb (xb_d D_Exact_quotient 52 rfl) (lv_at hl 1 rfl) ?_
  obtain ⟨hk1, hw⟩ := hw
  refine xb_call0 (D := D) (A := A) (σ := σ) (h := h) (d := 2) (maxL := 4) (rest := []) (av := [.ref x0, .long 0, .int x5]) (fun T hT X => by obtain ⟨cb9, ra9, rb9, rc9⟩ := xb_recv (ci := 9) hR rfl hk1 (by decide); exact xt_invV X hx hown (hts _ m_7b6c7353) (hts _ m_28babb18) (hts _ m_243e01d5) (xt_sigOf (hts _ m_88c0fc78)) nm_Exact_signed (by rw [hT]; exact ra9) rb9 rc9 (g := F0 m 100 ls [.int x5, .long 0, .ref x0]) rfl (argsL := [.long 0, .int x5]) (rest := []) rfl rfl (by rw [hb]; exact (xb_d D_Exact_quotient 53 rfl))) (ok_Exact_signed l hfl D A σ x0 0 x5 h _ hw) (hml.trans hl.1.symm) (by rw [hb]; exact (xb_d D_Exact_quotient 53 rfl)) (Nat.le_of_ble_eq_true rfl) (Nat.le_of_ble_eq_true rfl) (Nat.le_of_ble_eq_true rfl) (show k ≤ MC by omega) (show n ≤ MS by omega) (xt_w1 hB.1 m_88c0fc78) (xt_cdOf hB.1 m_88c0fc78) (hts _ m_b807310b) hB hR hS hA (fun vv h2 H locs hq hEh2 hR hS => ?_)
  obtain ⟨r3, rfl, hw⟩ := hq
  have hw := hw hEh2
  have hE := hE.tr hEh2
  refine W.eq (g2 := F0 m 103 ls [.long r3]) rfl ?_
  exact xb_lret 0 0 hx hb hr hlocks (show k + 0 ≤ MC by omega) (show n + 0 ≤ MS by omega) hE hR hS (xb_d D_Exact_quotient 54 rfl) hw

set_option maxHeartbeats 4000000 in
set_option maxRecDepth 100000 in
theorem am_Exact_quotient_L73 (l : Launch) (hfl : l.flags = pinnedFlags ++ [noTraceFlag]) (D : va_G) (A : Nat → Prop) (σ MC MS : Nat) (h0 : xb_H) (Qr : Int64 → xb_H → Prop) (x0 : Nat) (x5 : Int32) (h : xb_H) (hw : w_Exact_quotient_L73 Qr x0 x5 h) : xb_am l D A σ 5 MC MS h0 (fun v h _ _ => ∃ r, v = some (.long r) ∧ Qr r h) (fun _ _ _ _ => False) y_Exact_quotient.cls y_Exact_quotient.name b_Exact_quotient 12 ([] : List ExceptionTableEntry) (some .long) 73 [(0, .ref x0), (5, .int x5)] [] h 0 0 := by
  unfold w_Exact_quotient_L73 at hw
  intro p e s m args below meth c hC H locs ls k n hE hl hR hS hk hn
  obtain ⟨hx, hb, hown, hlocks, htab, hml, hr, hB, hA, hnm⟩ := id hC
  have hts := hB.1.1.at args
  refine lv_aload_n hx hb (xb_d D_Exact_quotient 38 rfl) rfl (lv_at hl 0 rfl) ?_
  refine lv_iload hx hb (xb_d D_Exact_quotient 39 rfl) (lv_at hl 1 rfl) ?_
  obtain ⟨hk1, hw⟩ := hw
  refine xb_call0 (D := D) (A := A) (σ := σ) (h := h) (d := 3) (maxL := 2) (rest := []) (av := [.ref x0, .int x5]) (fun T hT X => by obtain ⟨cb9, ra9, rb9, rc9⟩ := xb_recv (ci := 9) hR rfl hk1 (by decide); exact xt_invV X hx hown (hts _ m_c1bdecd7) (hts _ m_3ecdf3c0) (hts _ m_93791b31) (xt_sigOf (hts _ m_99b71483)) nm_Exact_infinite (by rw [hT]; exact ra9) rb9 rc9 (g := F0 m 76 ls [.int x5, .ref x0]) rfl (argsL := [.int x5]) (rest := []) rfl rfl (by rw [hb]; exact (xb_d D_Exact_quotient 40 rfl))) (ok_Exact_infinite l hfl D A σ x0 x5 h _ hw) (hml.trans hl.1.symm) (by rw [hb]; exact (xb_d D_Exact_quotient 40 rfl)) (Nat.le_of_ble_eq_true rfl) (Nat.le_of_ble_eq_true rfl) (Nat.le_of_ble_eq_true rfl) (show k ≤ MC by omega) (show n ≤ MS by omega) (xt_w1 hB.1 m_99b71483) (xt_cdOf hB.1 m_99b71483) (hts _ m_b807310b) hB hR hS hA (fun vv h2 H locs hq hEh2 hR hS => ?_)
  obtain ⟨r3, rfl, hw⟩ := hq
  have hw := hw hEh2
  have hE := hE.tr hEh2
  refine W.eq (g2 := F0 m 79 ls [.long r3]) rfl ?_
  exact xb_lret 0 0 hx hb hr hlocks (show k + 0 ≤ MC by omega) (show n + 0 ≤ MS by omega) hE hR hS (xb_d D_Exact_quotient 41 rfl) hw

set_option maxHeartbeats 4000000 in
set_option maxRecDepth 100000 in
theorem am_Exact_quotient_L57 (l : Launch) (hfl : l.flags = pinnedFlags ++ [noTraceFlag]) (D : va_G) (A : Nat → Prop) (σ MC MS : Nat) (h0 : xb_H) (Qr : Int64 → xb_H → Prop) (x0 : Nat) (x1 : Int64) (x3 : Int64) (x5 : Int32) (h : xb_H) (hw : w_Exact_quotient_L57 Qr x0 x1 x3 x5 h) : xb_am l D A σ 5 MC MS h0 (fun v h _ _ => ∃ r, v = some (.long r) ∧ Qr r h) (fun _ _ _ _ => False) y_Exact_quotient.cls y_Exact_quotient.name b_Exact_quotient 12 ([] : List ExceptionTableEntry) (some .long) 57 [(0, .ref x0), (1, .long x1), (3, .long x3), (5, .int x5)] [] h 0 0 := by
  unfold w_Exact_quotient_L57 at hw
  intro p e s m args below meth c hC H locs ls k n hE hl hR hS hk hn
  obtain ⟨hx, hb, hown, hlocks, htab, hml, hr, hB, hA, hnm⟩ := id hC
  have hts := hB.1.1.at args
  refine lv_aload_n hx hb (xb_d D_Exact_quotient 30 rfl) rfl (lv_at hl 0 rfl) ?_
  refine lv_lload_n hx hb (xb_d D_Exact_quotient 31 rfl) rfl (lv_at hl 1 rfl) ?_
  obtain ⟨hk1, hw⟩ := hw
  refine xb_call0 (D := D) (A := A) (σ := σ) (h := h) (d := 4) (maxL := 3) (rest := []) (av := [.ref x0, .long x1]) (fun T hT X => by obtain ⟨cb9, ra9, rb9, rc9⟩ := xb_recv (ci := 9) hR rfl hk1 (by decide); exact xt_invV X hx hown (hts _ m_4d51455e) (hts _ m_6f0f72ed) (hts _ m_54335684) (xt_sigOf (hts _ m_c0f31264)) nm_Exact_isInfinite (by rw [hT]; exact ra9) rb9 rc9 (g := F0 m 59 ls [.long x1, .ref x0]) rfl (argsL := [.long x1]) (rest := []) rfl rfl (by rw [hb]; exact (xb_d D_Exact_quotient 32 rfl))) (ok_Exact_isInfinite l hfl D A σ x0 x1 h _ hw) (hml.trans hl.1.symm) (by rw [hb]; exact (xb_d D_Exact_quotient 32 rfl)) (Nat.le_of_ble_eq_true rfl) (Nat.le_of_ble_eq_true rfl) (Nat.le_of_ble_eq_true rfl) (show k ≤ MC by omega) (show n ≤ MS by omega) (xt_w1 hB.1 m_c0f31264) (xt_cdOf hB.1 m_c0f31264) (hts _ m_b807310b) hB hR hS hA (fun vv h2 H locs hq hEh2 hR hS => ?_)
  obtain ⟨r3, rfl, hw⟩ := hq
  have hw := hw hEh2
  have hE := hE.tr hEh2
  refine W.eq (g2 := F0 m 62 ls [.int r3]) rfl ?_
  refine lv_if_ne (tgt := 73) hx hb (xb_d D_Exact_quotient 33 rfl) rfl (fun hc4 => ?_) (fun hc4 => ?_)
  · have hw := hw.1 hc4
    exact am_Exact_quotient_L73 l hfl D A σ MC MS h0 Qr x0 x5 h2 hw p e s m args below meth c hC H locs ls k n hE (lv_sub hl [0, 3] rfl) hR hS (by omega) (by omega)
  · have hw := hw.2 hc4
    refine lv_aload_n hx hb (xb_d D_Exact_quotient 34 rfl) rfl (lv_at hl 0 rfl) ?_
    refine lv_lload_n hx hb (xb_d D_Exact_quotient 35 rfl) rfl (lv_at hl 2 rfl) ?_
    have hk1 : xb_k h2 x0 = 10 := hEh2.k hk1
    refine xb_call0 (D := D) (A := A) (σ := σ) (h := h2) (d := 3) (maxL := 3) (rest := []) (av := [.ref x0, .long x3]) (fun T hT X => by obtain ⟨cb9, ra9, rb9, rc9⟩ := xb_recv (ci := 9) hR rfl hk1 (by decide); exact xt_invV X hx hown (hts _ m_f9e5bce2) (hts _ m_d4ccf81e) (hts _ m_870ffa92) (xt_sigOf (hts _ m_b231eb2b)) nm_Exact_isZero (by rw [hT]; exact ra9) rb9 rc9 (g := F0 m 67 ls [.long x3, .ref x0]) rfl (argsL := [.long x3]) (rest := []) rfl rfl (by rw [hb]; exact (xb_d D_Exact_quotient 36 rfl))) (ok_Exact_isZero l hfl D A σ x0 x3 h2 _ hw) (hml.trans hl.1.symm) (by rw [hb]; exact (xb_d D_Exact_quotient 36 rfl)) (Nat.le_of_ble_eq_true rfl) (Nat.le_of_ble_eq_true rfl) (Nat.le_of_ble_eq_true rfl) (show k ≤ MC by omega) (show n ≤ MS by omega) (xt_w1 hB.1 m_b231eb2b) (xt_cdOf hB.1 m_b231eb2b) (hts _ m_b807310b) hB hR hS hA (fun vv h5 H locs hq hEh5 hR hS => ?_)
    obtain ⟨r6, rfl, hw⟩ := hq
    have hw := hw hEh5
    have hE := hE.tr hEh5
    refine W.eq (g2 := F0 m 70 ls [.int r6]) rfl ?_
    refine lv_if_eq (tgt := 80) hx hb (xb_d D_Exact_quotient 37 rfl) rfl (fun hc7 => ?_) (fun hc7 => ?_)
    · have hw := hw.1 hc7
      refine lv_aload_n hx hb (xb_d D_Exact_quotient 42 rfl) rfl (lv_at hl 0 rfl) ?_
      refine lv_lload_n hx hb (xb_d D_Exact_quotient 43 rfl) rfl (lv_at hl 2 rfl) ?_
      have hk1 : xb_k h5 x0 = 10 := hEh5.k hk1
      refine xb_call0 (D := D) (A := A) (σ := σ) (h := h5) (d := 4) (maxL := 3) (rest := []) (av := [.ref x0, .long x3]) (fun T hT X => by obtain ⟨cb9, ra9, rb9, rc9⟩ := xb_recv (ci := 9) hR rfl hk1 (by decide); exact xt_invV X hx hown (hts _ m_4d51455e) (hts _ m_6f0f72ed) (hts _ m_54335684) (xt_sigOf (hts _ m_c0f31264)) nm_Exact_isInfinite (by rw [hT]; exact ra9) rb9 rc9 (g := F0 m 82 ls [.long x3, .ref x0]) rfl (argsL := [.long x3]) (rest := []) rfl rfl (by rw [hb]; exact (xb_d D_Exact_quotient 44 rfl))) (ok_Exact_isInfinite l hfl D A σ x0 x3 h5 _ hw) (hml.trans hl.1.symm) (by rw [hb]; exact (xb_d D_Exact_quotient 44 rfl)) (Nat.le_of_ble_eq_true rfl) (Nat.le_of_ble_eq_true rfl) (Nat.le_of_ble_eq_true rfl) (show k ≤ MC by omega) (show n ≤ MS by omega) (xt_w1 hB.1 m_c0f31264) (xt_cdOf hB.1 m_c0f31264) (hts _ m_b807310b) hB hR hS hA (fun vv h8 H locs hq hEh8 hR hS => ?_)
      obtain ⟨r9, rfl, hw⟩ := hq
      have hw := hw hEh8
      have hE := hE.tr hEh8
      refine W.eq (g2 := F0 m 85 ls [.int r9]) rfl ?_
      refine lv_if_ne (tgt := 96) hx hb (xb_d D_Exact_quotient 45 rfl) rfl (fun hc10 => ?_) (fun hc10 => ?_)
      · have hw := hw.1 hc10
        exact am_Exact_quotient_L96 l hfl D A σ MC MS h0 Qr x0 x5 h8 hw p e s m args below meth c hC H locs ls k n hE (lv_sub hl [0, 3] rfl) hR hS (by omega) (by omega)
      · have hw := hw.2 hc10
        refine lv_aload_n hx hb (xb_d D_Exact_quotient 46 rfl) rfl (lv_at hl 0 rfl) ?_
        refine lv_lload_n hx hb (xb_d D_Exact_quotient 47 rfl) rfl (lv_at hl 1 rfl) ?_
        have hk1 : xb_k h8 x0 = 10 := hEh8.k hk1
        refine xb_call0 (D := D) (A := A) (σ := σ) (h := h8) (d := 3) (maxL := 3) (rest := []) (av := [.ref x0, .long x1]) (fun T hT X => by obtain ⟨cb9, ra9, rb9, rc9⟩ := xb_recv (ci := 9) hR rfl hk1 (by decide); exact xt_invV X hx hown (hts _ m_f9e5bce2) (hts _ m_d4ccf81e) (hts _ m_870ffa92) (xt_sigOf (hts _ m_b231eb2b)) nm_Exact_isZero (by rw [hT]; exact ra9) rb9 rc9 (g := F0 m 90 ls [.long x1, .ref x0]) rfl (argsL := [.long x1]) (rest := []) rfl rfl (by rw [hb]; exact (xb_d D_Exact_quotient 48 rfl))) (ok_Exact_isZero l hfl D A σ x0 x1 h8 _ hw) (hml.trans hl.1.symm) (by rw [hb]; exact (xb_d D_Exact_quotient 48 rfl)) (Nat.le_of_ble_eq_true rfl) (Nat.le_of_ble_eq_true rfl) (Nat.le_of_ble_eq_true rfl) (show k ≤ MC by omega) (show n ≤ MS by omega) (xt_w1 hB.1 m_b231eb2b) (xt_cdOf hB.1 m_b231eb2b) (hts _ m_b807310b) hB hR hS hA (fun vv h11 H locs hq hEh11 hR hS => ?_)
        obtain ⟨r12, rfl, hw⟩ := hq
        have hw := hw hEh11
        have hE := hE.tr hEh11
        refine W.eq (g2 := F0 m 93 ls [.int r12]) rfl ?_
        refine lv_if_eq (tgt := 104) hx hb (xb_d D_Exact_quotient 49 rfl) rfl (fun hc13 => ?_) (fun hc13 => ?_)
        · have hw := hw.1 hc13
          refine lv_aload_n hx hb (xb_d D_Exact_quotient 55 rfl) rfl (lv_at hl 0 rfl) ?_
          refine lv_lload_n hx hb (xb_d D_Exact_quotient 56 rfl) rfl (lv_at hl 2 rfl) ?_
          have hk1 : xb_k h11 x0 = 10 := hEh11.k hk1
          refine xb_call0 (D := D) (A := A) (σ := σ) (h := h11) (d := 3) (maxL := 7) (rest := []) (av := [.ref x0, .long x3]) (fun T hT X => by obtain ⟨cb9, ra9, rb9, rc9⟩ := xb_recv (ci := 9) hR rfl hk1 (by decide); exact xt_invV X hx hown (hts _ m_26946ca5) (hts _ m_c8f41404) (hts _ m_e3ba6af7) (xt_sigOf (hts _ m_921646f3)) nm_Exact_split (by rw [hT]; exact ra9) rb9 rc9 (g := F0 m 106 ls [.long x3, .ref x0]) rfl (argsL := [.long x3]) (rest := []) rfl rfl (by rw [hb]; exact (xb_d D_Exact_quotient 57 rfl))) (ok_Exact_split l hfl D A σ x0 x3 h11 _ hw) (hml.trans hl.1.symm) (by rw [hb]; exact (xb_d D_Exact_quotient 57 rfl)) (Nat.le_of_ble_eq_true rfl) (Nat.le_of_ble_eq_true rfl) (Nat.le_of_ble_eq_true rfl) (show k ≤ MC by omega) (show n ≤ MS by omega) (xt_w1 hB.1 m_921646f3) (xt_cdOf hB.1 m_921646f3) (hts _ m_b807310b) hB hR hS hA (fun vv h14 H locs hq hEh14 hR hS => ?_)
          obtain ⟨rfl, hw⟩ := hq
          have hw := hw hEh14
          have hE := hE.tr hEh14
          refine W.eq (g2 := F0 m 109 ls []) rfl ?_
          refine lv_aload_n hx hb (xb_d D_Exact_quotient 58 rfl) rfl (lv_at hl 0 rfl) ?_
          have hk1 : xb_k h14 x0 = 10 := hEh14.k hk1
          refine xb_getL (C := R_Exact) (T := F_Exact) (N := 11) hx hb 9 9 hts fin_Exact hown hR hk1 (by decide) rfl (by decide) rfl (hts _ m_183e6a18) (fun _ h9 => h9) (xb_d D_Exact_quotient 59 rfl) ?_
          obtain ⟨v16, ev16⟩ : ∃ x : Int64, x = (xb_l h14 x0 9) := ⟨_, rfl⟩
          have hw := hw v16 ev16
          refine xt_numl (y := v16) ev16.symm ?_
          refine lv_lstore hx hb (xb_d D_Exact_quotient 60 rfl) hl (by decide) rfl (fun ls hl => ?_)
          have hl : lv_has ls 12 [(6, .long v16), (0, .ref x0), (1, .long x1), (3, .long x3), (5, .int x5)] := hl
          refine lv_aload_n hx hb (xb_d D_Exact_quotient 61 rfl) rfl (lv_at hl 1 rfl) ?_
          refine xb_getI (C := R_Exact) (T := F_Exact) (N := 11) hx hb 9 10 hts fin_Exact hown hR hk1 (by decide) rfl (by decide) rfl (hts _ m_a62210ac) (fun _ h9 => h9) (xb_d D_Exact_quotient 62 rfl) ?_
          refine lv_ineg hx hb (xb_d D_Exact_quotient 63 rfl) ?_
          obtain ⟨v17, ev17⟩ : ∃ x : Int32, x = (-(xb_i h14 x0 10)) := ⟨_, rfl⟩
          have hw := hw v17 ev17
          refine xt_numi (y := v17) ev17.symm ?_
          refine lv_istore hx hb (xb_d D_Exact_quotient 64 rfl) hl (by decide) rfl (fun ls hl => ?_)
          have hl : lv_has ls 12 [(8, .int v17), (6, .long v16), (0, .ref x0), (1, .long x1), (3, .long x3), (5, .int x5)] := hl
          refine lv_aload_n hx hb (xb_d D_Exact_quotient 65 rfl) rfl (lv_at hl 2 rfl) ?_
          refine lv_lload_n hx hb (xb_d D_Exact_quotient 66 rfl) rfl (lv_at hl 3 rfl) ?_
          refine xb_call0 (D := D) (A := A) (σ := σ) (h := h14) (d := 3) (maxL := 7) (rest := []) (av := [.ref x0, .long x1]) (fun T hT X => by obtain ⟨cb9, ra9, rb9, rc9⟩ := xb_recv (ci := 9) hR rfl hk1 (by decide); exact xt_invV X hx hown (hts _ m_26946ca5) (hts _ m_c8f41404) (hts _ m_e3ba6af7) (xt_sigOf (hts _ m_921646f3)) nm_Exact_split (by rw [hT]; exact ra9) rb9 rc9 (g := F0 m 124 ls [.long x1, .ref x0]) rfl (argsL := [.long x1]) (rest := []) rfl rfl (by rw [hb]; exact (xb_d D_Exact_quotient 67 rfl))) (ok_Exact_split l hfl D A σ x0 x1 h14 _ hw) (hml.trans hl.1.symm) (by rw [hb]; exact (xb_d D_Exact_quotient 67 rfl)) (Nat.le_of_ble_eq_true rfl) (Nat.le_of_ble_eq_true rfl) (Nat.le_of_ble_eq_true rfl) (show k ≤ MC by omega) (show n ≤ MS by omega) (xt_w1 hB.1 m_921646f3) (xt_cdOf hB.1 m_921646f3) (hts _ m_b807310b) hB hR hS hA (fun vv h18 H locs hq hEh18 hR hS => ?_)
          obtain ⟨rfl, hw⟩ := hq
          have hw := hw hEh18
          have hE := hE.tr hEh18
          refine W.eq (g2 := F0 m 127 ls []) rfl ?_
          refine lv_iload hx hb (xb_d D_Exact_quotient 68 rfl) (lv_at hl 0 rfl) ?_
          refine lv_aload_n hx hb (xb_d D_Exact_quotient 69 rfl) rfl (lv_at hl 2 rfl) ?_
          have hk1 : xb_k h18 x0 = 10 := hEh18.k hk1
          refine xb_getI (C := R_Exact) (T := F_Exact) (N := 11) hx hb 9 10 hts fin_Exact hown hR hk1 (by decide) rfl (by decide) rfl (hts _ m_a62210ac) (fun _ h9 => h9) (xb_d D_Exact_quotient 70 rfl) ?_
          refine lv_iadd hx hb (xb_d D_Exact_quotient 71 rfl) ?_
          obtain ⟨v20, ev20⟩ : ∃ x : Int32, x = (v17 + (xb_i h18 x0 10)) := ⟨_, rfl⟩
          have hw := hw v20 ev20
          refine xt_numi (y := v20) ev20.symm ?_
          refine lv_istore hx hb (xb_d D_Exact_quotient 72 rfl) hl (by decide) rfl (fun ls hl => ?_)
          have hl : lv_has ls 12 [(8, .int v20), (6, .long v16), (0, .ref x0), (1, .long x1), (3, .long x3), (5, .int x5)] := hl
          refine lv_aload_n hx hb (xb_d D_Exact_quotient 73 rfl) rfl (lv_at hl 2 rfl) ?_
          refine xb_call0 (D := D) (A := A) (σ := σ) (h := h18) (d := 2) (maxL := 2) (rest := []) (av := [.ref x0]) (fun T hT X => by obtain ⟨cb9, ra9, rb9, rc9⟩ := xb_recv (ci := 9) hR rfl hk1 (by decide); exact xt_invV X hx hown (hts _ m_65d93325) (hts _ m_c4de73f8) (hts _ m_b3f48cc1) (xt_sigOf (hts _ m_b0daac26)) nm_Exact_clear (by rw [hT]; exact ra9) rb9 rc9 (g := F0 m 137 ls [.ref x0]) rfl (argsL := []) (rest := []) rfl rfl (by rw [hb]; exact (xb_d D_Exact_quotient 74 rfl))) (ok_Exact_clear l hfl D A σ x0 h18 _ hw) (hml.trans hl.1.symm) (by rw [hb]; exact (xb_d D_Exact_quotient 74 rfl)) (Nat.le_of_ble_eq_true rfl) (Nat.le_of_ble_eq_true rfl) (Nat.le_of_ble_eq_true rfl) (show k ≤ MC by omega) (show n ≤ MS by omega) (xt_w1 hB.1 m_b0daac26) (xt_cdOf hB.1 m_b0daac26) (hts _ m_b807310b) hB hR hS hA (fun vv h21 H locs hq hEh21 hR hS => ?_)
          obtain ⟨rfl, hw⟩ := hq
          have hw := hw hEh21
          have hE := hE.tr hEh21
          refine W.eq (g2 := F0 m 140 ls []) rfl ?_
          refine lv_lconst (v := 0) hx hb (xb_d D_Exact_quotient 75 rfl) (by decide) ?_
          refine lv_lstore hx hb (xb_d D_Exact_quotient 76 rfl) hl (by decide) rfl (fun ls hl => ?_)
          have hl : lv_has ls 12 [(9, .long 0), (8, .int v20), (6, .long v16), (0, .ref x0), (1, .long x1), (3, .long x3), (5, .int x5)] := hl
          refine lv_bipush (v := 52) hx hb (xb_d D_Exact_quotient 77 rfl) (by decide) ?_
          refine lv_istore hx hb (xb_d D_Exact_quotient 78 rfl) hl (by decide) rfl (fun ls hl => ?_)
          have hl : lv_has ls 12 [(11, .int 52), (9, .long 0), (8, .int v20), (6, .long v16), (0, .ref x0), (1, .long x1), (3, .long x3), (5, .int x5)] := hl
          obtain ⟨n8, hw⟩ := hw
          exact am_Exact_quotient_L147 l hfl D A σ MC MS h0 Qr n8 x0 x5 v16 v20 0 52 h21 hw p e s m args below meth c hC H locs ls k n hE (lv_sub hl [4, 7, 3, 2, 1, 0] rfl) hR hS (by omega) (by omega)
        · have hw := hw.2 hc13
          exact am_Exact_quotient_L96 l hfl D A σ MC MS h0 Qr x0 x5 h11 hw p e s m args below meth c hC H locs ls k n hE (lv_sub hl [0, 3] rfl) hR hS (by omega) (by omega)
    · have hw := hw.2 hc7
      exact am_Exact_quotient_L73 l hfl D A σ MC MS h0 Qr x0 x5 h5 hw p e s m args below meth c hC H locs ls k n hE (lv_sub hl [0, 3] rfl) hR hS (by omega) (by omega)

set_option maxHeartbeats 4000000 in
set_option maxRecDepth 100000 in
theorem am_Exact_quotient_L52 (l : Launch) (hfl : l.flags = pinnedFlags ++ [noTraceFlag]) (D : va_G) (A : Nat → Prop) (σ MC MS : Nat) (h0 : xb_H) (Qr : Int64 → xb_H → Prop) (x0 : Nat) (h : xb_H) (hw : w_Exact_quotient_L52 Qr x0 h) : xb_am l D A σ 5 MC MS h0 (fun v h _ _ => ∃ r, v = some (.long r) ∧ Qr r h) (fun _ _ _ _ => False) y_Exact_quotient.cls y_Exact_quotient.name b_Exact_quotient 12 ([] : List ExceptionTableEntry) (some .long) 52 [(0, .ref x0)] [] h 0 0 := by
  unfold w_Exact_quotient_L52 at hw
  intro p e s m args below meth c hC H locs ls k n hE hl hR hS hk hn
  obtain ⟨hx, hb, hown, hlocks, htab, hml, hr, hB, hA, hnm⟩ := id hC
  have hts := hB.1.1.at args
  refine lv_aload_n hx hb (xb_d D_Exact_quotient 27 rfl) rfl (lv_at hl 0 rfl) ?_
  obtain ⟨hk1, hw⟩ := hw
  refine xb_call0 (D := D) (A := A) (σ := σ) (h := h) (d := 2) (maxL := 1) (rest := []) (av := [.ref x0]) (fun T hT X => by obtain ⟨cb9, ra9, rb9, rc9⟩ := xb_recv (ci := 9) hR rfl hk1 (by decide); exact xt_invV X hx hown (hts _ m_3b77e327) (hts _ m_488d5ec7) (hts _ m_8dd38d5e) (xt_sigOf (hts _ m_291300c8)) nm_Exact_noNumber (by rw [hT]; exact ra9) rb9 rc9 (g := F0 m 53 ls [.ref x0]) rfl (argsL := []) (rest := []) rfl rfl (by rw [hb]; exact (xb_d D_Exact_quotient 28 rfl))) (ok_Exact_noNumber l hfl D A σ x0 h _ hw) (hml.trans hl.1.symm) (by rw [hb]; exact (xb_d D_Exact_quotient 28 rfl)) (Nat.le_of_ble_eq_true rfl) (Nat.le_of_ble_eq_true rfl) (Nat.le_of_ble_eq_true rfl) (show k ≤ MC by omega) (show n ≤ MS by omega) (xt_w1 hB.1 m_291300c8) (xt_cdOf hB.1 m_291300c8) (hts _ m_b807310b) hB hR hS hA (fun vv h2 H locs hq hEh2 hR hS => ?_)
  obtain ⟨r3, rfl, hw⟩ := hq
  have hw := hw hEh2
  have hE := hE.tr hEh2
  refine W.eq (g2 := F0 m 56 ls [.long r3]) rfl ?_
  exact xb_lret 0 0 hx hb hr hlocks (show k + 0 ≤ MC by omega) (show n + 0 ≤ MS by omega) hE hR hS (xb_d D_Exact_quotient 29 rfl) hw

set_option maxHeartbeats 4000000 in
set_option maxRecDepth 100000 in
theorem am_Exact_quotient_L36 (l : Launch) (hfl : l.flags = pinnedFlags ++ [noTraceFlag]) (D : va_G) (A : Nat → Prop) (σ MC MS : Nat) (h0 : xb_H) (Qr : Int64 → xb_H → Prop) (x0 : Nat) (x1 : Int64) (x3 : Int64) (x5 : Int32) (h : xb_H) (hw : w_Exact_quotient_L36 Qr x0 x1 x3 x5 h) : xb_am l D A σ 5 MC MS h0 (fun v h _ _ => ∃ r, v = some (.long r) ∧ Qr r h) (fun _ _ _ _ => False) y_Exact_quotient.cls y_Exact_quotient.name b_Exact_quotient 12 ([] : List ExceptionTableEntry) (some .long) 36 [(0, .ref x0), (1, .long x1), (3, .long x3), (5, .int x5)] [] h 0 0 := by
  unfold w_Exact_quotient_L36 at hw
  intro p e s m args below meth c hC H locs ls k n hE hl hR hS hk hn
  obtain ⟨hx, hb, hown, hlocks, htab, hml, hr, hB, hA, hnm⟩ := id hC
  have hts := hB.1.1.at args
  refine lv_aload_n hx hb (xb_d D_Exact_quotient 19 rfl) rfl (lv_at hl 0 rfl) ?_
  refine lv_lload_n hx hb (xb_d D_Exact_quotient 20 rfl) rfl (lv_at hl 1 rfl) ?_
  obtain ⟨hk1, hw⟩ := hw
  refine xb_call0 (D := D) (A := A) (σ := σ) (h := h) (d := 3) (maxL := 3) (rest := []) (av := [.ref x0, .long x1]) (fun T hT X => by obtain ⟨cb9, ra9, rb9, rc9⟩ := xb_recv (ci := 9) hR rfl hk1 (by decide); exact xt_invV X hx hown (hts _ m_f9e5bce2) (hts _ m_d4ccf81e) (hts _ m_870ffa92) (xt_sigOf (hts _ m_b231eb2b)) nm_Exact_isZero (by rw [hT]; exact ra9) rb9 rc9 (g := F0 m 38 ls [.long x1, .ref x0]) rfl (argsL := [.long x1]) (rest := []) rfl rfl (by rw [hb]; exact (xb_d D_Exact_quotient 21 rfl))) (ok_Exact_isZero l hfl D A σ x0 x1 h _ hw) (hml.trans hl.1.symm) (by rw [hb]; exact (xb_d D_Exact_quotient 21 rfl)) (Nat.le_of_ble_eq_true rfl) (Nat.le_of_ble_eq_true rfl) (Nat.le_of_ble_eq_true rfl) (show k ≤ MC by omega) (show n ≤ MS by omega) (xt_w1 hB.1 m_b231eb2b) (xt_cdOf hB.1 m_b231eb2b) (hts _ m_b807310b) hB hR hS hA (fun vv h2 H locs hq hEh2 hR hS => ?_)
  obtain ⟨r3, rfl, hw⟩ := hq
  have hw := hw hEh2
  have hE := hE.tr hEh2
  refine W.eq (g2 := F0 m 41 ls [.int r3]) rfl ?_
  refine lv_if_eq (tgt := 57) hx hb (xb_d D_Exact_quotient 22 rfl) rfl (fun hc4 => ?_) (fun hc4 => ?_)
  · have hw := hw.1 hc4
    exact am_Exact_quotient_L57 l hfl D A σ MC MS h0 Qr x0 x1 x3 x5 h2 hw p e s m args below meth c hC H locs ls k n hE (lv_sub hl [0, 1, 2, 3] rfl) hR hS (by omega) (by omega)
  · have hw := hw.2 hc4
    refine lv_aload_n hx hb (xb_d D_Exact_quotient 23 rfl) rfl (lv_at hl 0 rfl) ?_
    refine lv_lload_n hx hb (xb_d D_Exact_quotient 24 rfl) rfl (lv_at hl 2 rfl) ?_
    have hk1 : xb_k h2 x0 = 10 := hEh2.k hk1
    refine xb_call0 (D := D) (A := A) (σ := σ) (h := h2) (d := 3) (maxL := 3) (rest := []) (av := [.ref x0, .long x3]) (fun T hT X => by obtain ⟨cb9, ra9, rb9, rc9⟩ := xb_recv (ci := 9) hR rfl hk1 (by decide); exact xt_invV X hx hown (hts _ m_f9e5bce2) (hts _ m_d4ccf81e) (hts _ m_870ffa92) (xt_sigOf (hts _ m_b231eb2b)) nm_Exact_isZero (by rw [hT]; exact ra9) rb9 rc9 (g := F0 m 46 ls [.long x3, .ref x0]) rfl (argsL := [.long x3]) (rest := []) rfl rfl (by rw [hb]; exact (xb_d D_Exact_quotient 25 rfl))) (ok_Exact_isZero l hfl D A σ x0 x3 h2 _ hw) (hml.trans hl.1.symm) (by rw [hb]; exact (xb_d D_Exact_quotient 25 rfl)) (Nat.le_of_ble_eq_true rfl) (Nat.le_of_ble_eq_true rfl) (Nat.le_of_ble_eq_true rfl) (show k ≤ MC by omega) (show n ≤ MS by omega) (xt_w1 hB.1 m_b231eb2b) (xt_cdOf hB.1 m_b231eb2b) (hts _ m_b807310b) hB hR hS hA (fun vv h5 H locs hq hEh5 hR hS => ?_)
    obtain ⟨r6, rfl, hw⟩ := hq
    have hw := hw hEh5
    have hE := hE.tr hEh5
    refine W.eq (g2 := F0 m 49 ls [.int r6]) rfl ?_
    refine lv_if_eq (tgt := 57) hx hb (xb_d D_Exact_quotient 26 rfl) rfl (fun hc7 => ?_) (fun hc7 => ?_)
    · have hw := hw.1 hc7
      exact am_Exact_quotient_L57 l hfl D A σ MC MS h0 Qr x0 x1 x3 x5 h5 hw p e s m args below meth c hC H locs ls k n hE (lv_sub hl [0, 1, 2, 3] rfl) hR hS (by omega) (by omega)
    · have hw := hw.2 hc7
      exact am_Exact_quotient_L52 l hfl D A σ MC MS h0 Qr x0 h5 hw p e s m args below meth c hC H locs ls k n hE (lv_sub hl [0] rfl) hR hS (by omega) (by omega)

set_option maxHeartbeats 4000000 in
set_option maxRecDepth 100000 in
theorem am_Exact_quotient_L18 (l : Launch) (hfl : l.flags = pinnedFlags ++ [noTraceFlag]) (D : va_G) (A : Nat → Prop) (σ MC MS : Nat) (h0 : xb_H) (Qr : Int64 → xb_H → Prop) (x0 : Nat) (x1 : Int64) (x3 : Int64) (y0 : Int32) (h : xb_H) (hw : w_Exact_quotient_L18 Qr x0 x1 x3 y0 h) : xb_am l D A σ 5 MC MS h0 (fun v h _ _ => ∃ r, v = some (.long r) ∧ Qr r h) (fun _ _ _ _ => False) y_Exact_quotient.cls y_Exact_quotient.name b_Exact_quotient 12 ([] : List ExceptionTableEntry) (some .long) 18 [(0, .ref x0), (1, .long x1), (3, .long x3)] [.int y0] h 0 0 := by
  unfold w_Exact_quotient_L18 at hw
  intro p e s m args below meth c hC H locs ls k n hE hl hR hS hk hn
  obtain ⟨hx, hb, hown, hlocks, htab, hml, hr, hB, hA, hnm⟩ := id hC
  have hts := hB.1.1.at args
  refine lv_istore hx hb (xb_d D_Exact_quotient 10 rfl) hl (by decide) rfl (fun ls hl => ?_)
  have hl : lv_has ls 12 [(5, .int y0), (0, .ref x0), (1, .long x1), (3, .long x3)] := hl
  refine lv_aload_n hx hb (xb_d D_Exact_quotient 11 rfl) rfl (lv_at hl 1 rfl) ?_
  refine lv_lload_n hx hb (xb_d D_Exact_quotient 12 rfl) rfl (lv_at hl 2 rfl) ?_
  obtain ⟨hk1, hw⟩ := hw
  refine xb_call0 (D := D) (A := A) (σ := σ) (h := h) (d := 4) (maxL := 3) (rest := []) (av := [.ref x0, .long x1]) (fun T hT X => by obtain ⟨cb9, ra9, rb9, rc9⟩ := xb_recv (ci := 9) hR rfl hk1 (by decide); exact xt_invV X hx hown (hts _ m_4d51455e) (hts _ m_6f0f72ed) (hts _ m_54335684) (xt_sigOf (hts _ m_c0f31264)) nm_Exact_isInfinite (by rw [hT]; exact ra9) rb9 rc9 (g := F0 m 22 ls [.long x1, .ref x0]) rfl (argsL := [.long x1]) (rest := []) rfl rfl (by rw [hb]; exact (xb_d D_Exact_quotient 13 rfl))) (ok_Exact_isInfinite l hfl D A σ x0 x1 h _ hw) (hml.trans hl.1.symm) (by rw [hb]; exact (xb_d D_Exact_quotient 13 rfl)) (Nat.le_of_ble_eq_true rfl) (Nat.le_of_ble_eq_true rfl) (Nat.le_of_ble_eq_true rfl) (show k ≤ MC by omega) (show n ≤ MS by omega) (xt_w1 hB.1 m_c0f31264) (xt_cdOf hB.1 m_c0f31264) (hts _ m_b807310b) hB hR hS hA (fun vv h2 H locs hq hEh2 hR hS => ?_)
  obtain ⟨r3, rfl, hw⟩ := hq
  have hw := hw hEh2
  have hE := hE.tr hEh2
  refine W.eq (g2 := F0 m 25 ls [.int r3]) rfl ?_
  refine lv_if_eq (tgt := 36) hx hb (xb_d D_Exact_quotient 14 rfl) rfl (fun hc4 => ?_) (fun hc4 => ?_)
  · have hw := hw.1 hc4
    exact am_Exact_quotient_L36 l hfl D A σ MC MS h0 Qr x0 x1 x3 y0 h2 hw p e s m args below meth c hC H locs ls k n hE (lv_sub hl [1, 2, 3, 0] rfl) hR hS (by omega) (by omega)
  · have hw := hw.2 hc4
    refine lv_aload_n hx hb (xb_d D_Exact_quotient 15 rfl) rfl (lv_at hl 1 rfl) ?_
    refine lv_lload_n hx hb (xb_d D_Exact_quotient 16 rfl) rfl (lv_at hl 3 rfl) ?_
    have hk1 : xb_k h2 x0 = 10 := hEh2.k hk1
    refine xb_call0 (D := D) (A := A) (σ := σ) (h := h2) (d := 4) (maxL := 3) (rest := []) (av := [.ref x0, .long x3]) (fun T hT X => by obtain ⟨cb9, ra9, rb9, rc9⟩ := xb_recv (ci := 9) hR rfl hk1 (by decide); exact xt_invV X hx hown (hts _ m_4d51455e) (hts _ m_6f0f72ed) (hts _ m_54335684) (xt_sigOf (hts _ m_c0f31264)) nm_Exact_isInfinite (by rw [hT]; exact ra9) rb9 rc9 (g := F0 m 30 ls [.long x3, .ref x0]) rfl (argsL := [.long x3]) (rest := []) rfl rfl (by rw [hb]; exact (xb_d D_Exact_quotient 17 rfl))) (ok_Exact_isInfinite l hfl D A σ x0 x3 h2 _ hw) (hml.trans hl.1.symm) (by rw [hb]; exact (xb_d D_Exact_quotient 17 rfl)) (Nat.le_of_ble_eq_true rfl) (Nat.le_of_ble_eq_true rfl) (Nat.le_of_ble_eq_true rfl) (show k ≤ MC by omega) (show n ≤ MS by omega) (xt_w1 hB.1 m_c0f31264) (xt_cdOf hB.1 m_c0f31264) (hts _ m_b807310b) hB hR hS hA (fun vv h5 H locs hq hEh5 hR hS => ?_)
    obtain ⟨r6, rfl, hw⟩ := hq
    have hw := hw hEh5
    have hE := hE.tr hEh5
    refine W.eq (g2 := F0 m 33 ls [.int r6]) rfl ?_
    refine lv_if_ne (tgt := 52) hx hb (xb_d D_Exact_quotient 18 rfl) rfl (fun hc7 => ?_) (fun hc7 => ?_)
    · have hw := hw.1 hc7
      exact am_Exact_quotient_L52 l hfl D A σ MC MS h0 Qr x0 h5 hw p e s m args below meth c hC H locs ls k n hE (lv_sub hl [1] rfl) hR hS (by omega) (by omega)
    · have hw := hw.2 hc7
      exact am_Exact_quotient_L36 l hfl D A σ MC MS h0 Qr x0 x1 x3 y0 h5 hw p e s m args below meth c hC H locs ls k n hE (lv_sub hl [1, 2, 3, 0] rfl) hR hS (by omega) (by omega)

set_option maxHeartbeats 4000000 in
set_option maxRecDepth 100000 in
theorem ok_Exact_quotient (l : Launch) (hfl : l.flags = pinnedFlags ++ [noTraceFlag]) (D : va_G) (A : Nat → Prop) (σ : Nat) (x0 : Nat) (x1 : Int64) (x3 : Int64) (h : xb_H) (Qr : Int64 → xb_H → Prop) (hw : w_Exact_quotient x0 x1 x3 h Qr) : xb_Met l y_Exact_quotient [.code y_Exact_quotient b_Exact_quotient 12 (some .long)] (xb_rm 5 0 0) (xb_Pc D A σ h [.ref x0, .long x1, .long x3]) (xb_Qc D A h 0 0 (fun v h _ _ => ∃ r, v = some (.long r) ∧ Qr r h) (fun _ _ _ _ => False)) A := by
  refine xb_ofAm (cc := b_Exact_quotient) (by decide) (Nat.le_of_ble_eq_true rfl) ?_
  unfold w_Exact_quotient at hw
  show xb_am l D A σ 5 0 0 h (fun v h _ _ => ∃ r, v = some (.long r) ∧ Qr r h) (fun _ _ _ _ => False) y_Exact_quotient.cls y_Exact_quotient.name b_Exact_quotient 12 ([] : List ExceptionTableEntry) (some .long) 0 [(0, .ref x0), (1, .long x1), (3, .long x3)] [] h 0 0
  obtain ⟨MC, hMC⟩ : ∃ x, x = 0 := ⟨_, rfl⟩
  obtain ⟨MS, hMS⟩ : ∃ x, x = 0 := ⟨_, rfl⟩
  rw [show xb_am l D A σ 5 0 0 = xb_am l D A σ 5 MC MS by rw [hMC, hMS]]
  obtain ⟨h0, hh0⟩ : ∃ x, x = h := ⟨_, rfl⟩
  rw [show xb_am l D A σ 5 MC MS h = xb_am l D A σ 5 MC MS h0 by rw [hh0]]
  intro p e s m args below meth c hC H locs ls k n hE hl hR hS hk hn
  obtain ⟨hx, hb, hown, hlocks, htab, hml, hr, hB, hA, hnm⟩ := id hC
  have hts := hB.1.1.at args
  refine lv_aload_n hx hb (xb_d D_Exact_quotient 0 rfl) rfl (lv_at hl 0 rfl) ?_
  refine lv_lload_n hx hb (xb_d D_Exact_quotient 1 rfl) rfl (lv_at hl 1 rfl) ?_
  obtain ⟨hk1, hw⟩ := hw
  refine xb_call0 (D := D) (A := A) (σ := σ) (h := h) (d := 2) (maxL := 3) (rest := []) (av := [.ref x0, .long x1]) (fun T hT X => by obtain ⟨cb9, ra9, rb9, rc9⟩ := xb_recv (ci := 9) hR rfl hk1 (by decide); exact xt_invV X hx hown (hts _ m_de267fc4) (hts _ m_8cf2fba2) (hts _ m_e2188cdf) (xt_sigOf (hts _ m_25d2fde1)) nm_Exact_isMinus (by rw [hT]; exact ra9) rb9 rc9 (g := F0 m 2 ls [.long x1, .ref x0]) rfl (argsL := [.long x1]) (rest := []) rfl rfl (by rw [hb]; exact (xb_d D_Exact_quotient 2 rfl))) (ok_Exact_isMinus l hfl D A σ x0 x1 h _ hw) (hml.trans hl.1.symm) (by rw [hb]; exact (xb_d D_Exact_quotient 2 rfl)) (Nat.le_of_ble_eq_true rfl) (Nat.le_of_ble_eq_true rfl) (Nat.le_of_ble_eq_true rfl) (show k ≤ MC by omega) (show n ≤ MS by omega) (xt_w1 hB.1 m_25d2fde1) (xt_cdOf hB.1 m_25d2fde1) (hts _ m_b807310b) hB hR hS hA (fun vv h2 H locs hq hEh2 hR hS => ?_)
  obtain ⟨r3, rfl, hw⟩ := hq
  have hw := hw hEh2
  have hE := hE.tr hEh2
  refine W.eq (g2 := F0 m 5 ls [.int r3]) rfl ?_
  refine lv_aload_n hx hb (xb_d D_Exact_quotient 3 rfl) rfl (lv_at hl 0 rfl) ?_
  refine lv_lload_n hx hb (xb_d D_Exact_quotient 4 rfl) rfl (lv_at hl 2 rfl) ?_
  have hk1 : xb_k h2 x0 = 10 := hEh2.k hk1
  refine xb_call0 (D := D) (A := A) (σ := σ) (h := h2) (d := 2) (maxL := 3) (rest := [.int r3]) (av := [.ref x0, .long x3]) (fun T hT X => by obtain ⟨cb9, ra9, rb9, rc9⟩ := xb_recv (ci := 9) hR rfl hk1 (by decide); exact xt_invV X hx hown (hts _ m_de267fc4) (hts _ m_8cf2fba2) (hts _ m_e2188cdf) (xt_sigOf (hts _ m_25d2fde1)) nm_Exact_isMinus (by rw [hT]; exact ra9) rb9 rc9 (g := F0 m 7 ls [.long x3, .ref x0, .int r3]) rfl (argsL := [.long x3]) (rest := [.int r3]) rfl rfl (by rw [hb]; exact (xb_d D_Exact_quotient 5 rfl))) (ok_Exact_isMinus l hfl D A σ x0 x3 h2 _ hw) (hml.trans hl.1.symm) (by rw [hb]; exact (xb_d D_Exact_quotient 5 rfl)) (Nat.le_of_ble_eq_true rfl) (Nat.le_of_ble_eq_true rfl) (Nat.le_of_ble_eq_true rfl) (show k ≤ MC by omega) (show n ≤ MS by omega) (xt_w1 hB.1 m_25d2fde1) (xt_cdOf hB.1 m_25d2fde1) (hts _ m_b807310b) hB hR hS hA (fun vv h4 H locs hq hEh4 hR hS => ?_)
  obtain ⟨r5, rfl, hw⟩ := hq
  have hw := hw hEh4
  have hE := hE.tr hEh4
  refine W.eq (g2 := F0 m 10 ls [.int r5, .int r3]) rfl ?_
  refine lv_icmp_eq (tgt := 17) hx hb (xb_d D_Exact_quotient 6 rfl) rfl (fun hc6 => ?_) (fun hc6 => ?_)
  · have hw := hw.1 hc6
    refine lv_iconst (v := 0) hx hb (xb_d D_Exact_quotient 9 rfl) (by decide) ?_
    exact am_Exact_quotient_L18 l hfl D A σ MC MS h0 Qr x0 x1 x3 0 h4 hw p e s m args below meth c hC H locs ls k n hE (lv_sub hl [0, 1, 2] rfl) hR hS (by omega) (by omega)
  · have hw := hw.2 hc6
    refine lv_iconst (v := 1) hx hb (xb_d D_Exact_quotient 7 rfl) (by decide) ?_
    refine lv_goto (tgt := 18) hx hb (xb_d D_Exact_quotient 8 rfl) rfl ?_
    exact am_Exact_quotient_L18 l hfl D A σ MC MS h0 Qr x0 x1 x3 1 h4 hw p e s m args below meth c hC H locs ls k n hE (lv_sub hl [0, 1, 2] rfl) hR hS (by omega) (by omega)

