theorem m_53bf7c26 : (.methodLink "StackHost$Checker" 288 y_Checker_checkCall : Cond) ∈ xt_tbl := xt_in (xt_t6 (List.mem_of_getElem? (i := 39) (by decide +kernel))) (by decide +kernel)
theorem m_a410aa74 : (.instanceMethod y_Checker_checkCall : Cond) ∈ xt_tbl := xt_in (xt_t6 (List.mem_of_getElem? (i := 41) (by decide +kernel))) (by decide +kernel)
theorem m_96023d07 : (.selects "StackHost$Checker" y_Checker_checkCall y_Checker_checkCall : Cond) ∈ xt_tbl := xt_in (xt_v4 (q := (⟨"StackHost$Checker", "checkCall", "(I)V"⟩, 17)) (List.mem_of_getElem? (i := 14) (by decide +kernel))) (by decide +kernel)
theorem m_9846e217 : (.code y_Checker_checkCall b_Checker_checkCall 3 none : Cond) ∈ xt_tbl := xt_in (xt_t6 (List.mem_of_getElem? (i := 42) (by decide +kernel))) (by decide +kernel)
theorem m_ebec0b2b : (.methodLink "StackHost$Checker" 270 y_Checker_checkOpening : Cond) ∈ xt_tbl := xt_in (xt_t6 (List.mem_of_getElem? (i := 15) (by decide +kernel))) (by decide +kernel)
theorem m_db60f69f : (.instanceMethod y_Checker_checkOpening : Cond) ∈ xt_tbl := xt_in (xt_t6 (List.mem_of_getElem? (i := 17) (by decide +kernel))) (by decide +kernel)
theorem m_7a0b68c1 : (.selects "StackHost$Checker" y_Checker_checkOpening y_Checker_checkOpening : Cond) ∈ xt_tbl := xt_in (xt_v4 (q := (⟨"StackHost$Checker", "checkOpening", "(I)V"⟩, 17)) (List.mem_of_getElem? (i := 8) (by decide +kernel))) (by decide +kernel)
theorem m_13d3f185 : (.code y_Checker_checkOpening b_Checker_checkOpening 3 none : Cond) ∈ xt_tbl := xt_in (xt_t6 (List.mem_of_getElem? (i := 18) (by decide +kernel))) (by decide +kernel)
theorem m_102bfd31 : (.methodLink "StackHost$Checker" 273 y_Checker_checkElse : Cond) ∈ xt_tbl := xt_in (xt_t6 (List.mem_of_getElem? (i := 19) (by decide +kernel))) (by decide +kernel)
theorem m_011d9088 : (.instanceMethod y_Checker_checkElse : Cond) ∈ xt_tbl := xt_in (xt_t6 (List.mem_of_getElem? (i := 21) (by decide +kernel))) (by decide +kernel)
theorem m_67c49da1 : (.selects "StackHost$Checker" y_Checker_checkElse y_Checker_checkElse : Cond) ∈ xt_tbl := xt_in (xt_v4 (q := (⟨"StackHost$Checker", "checkElse", "()V"⟩, 17)) (List.mem_of_getElem? (i := 9) (by decide +kernel))) (by decide +kernel)
theorem m_ccfdfad1 : (.code y_Checker_checkElse b_Checker_checkElse 2 none : Cond) ∈ xt_tbl := xt_in (xt_t6 (List.mem_of_getElem? (i := 22) (by decide +kernel))) (by decide +kernel)
theorem m_6283ab69 : (.methodLink "StackHost$Checker" 276 y_Checker_checkEnd : Cond) ∈ xt_tbl := xt_in (xt_t6 (List.mem_of_getElem? (i := 23) (by decide +kernel))) (by decide +kernel)
theorem m_caa07f69 : (.instanceMethod y_Checker_checkEnd : Cond) ∈ xt_tbl := xt_in (xt_t6 (List.mem_of_getElem? (i := 25) (by decide +kernel))) (by decide +kernel)
theorem m_e60b8634 : (.selects "StackHost$Checker" y_Checker_checkEnd y_Checker_checkEnd : Cond) ∈ xt_tbl := xt_in (xt_v4 (q := (⟨"StackHost$Checker", "checkEnd", "()V"⟩, 17)) (List.mem_of_getElem? (i := 10) (by decide +kernel))) (by decide +kernel)
theorem m_31680164 : (.code y_Checker_checkEnd b_Checker_checkEnd 2 none : Cond) ∈ xt_tbl := xt_in (xt_t6 (List.mem_of_getElem? (i := 26) (by decide +kernel))) (by decide +kernel)
theorem m_87752099 : (.methodLink "StackHost$Checker" 282 y_Checker_checkBranchIf : Cond) ∈ xt_tbl := xt_in (xt_t6 (List.mem_of_getElem? (i := 31) (by decide +kernel))) (by decide +kernel)
theorem m_1f86a52a : (.instanceMethod y_Checker_checkBranchIf : Cond) ∈ xt_tbl := xt_in (xt_t6 (List.mem_of_getElem? (i := 33) (by decide +kernel))) (by decide +kernel)
theorem m_1a0dfcd9 : (.selects "StackHost$Checker" y_Checker_checkBranchIf y_Checker_checkBranchIf : Cond) ∈ xt_tbl := xt_in (xt_v4 (q := (⟨"StackHost$Checker", "checkBranchIf", "()V"⟩, 17)) (List.mem_of_getElem? (i := 12) (by decide +kernel))) (by decide +kernel)
theorem m_13cb0be3 : (.code y_Checker_checkBranchIf b_Checker_checkBranchIf 2 none : Cond) ∈ xt_tbl := xt_in (xt_t6 (List.mem_of_getElem? (i := 34) (by decide +kernel))) (by decide +kernel)
theorem m_abe3f354 : (.methodLink "StackHost$Checker" 285 y_Checker_checkLabels : Cond) ∈ xt_tbl := xt_in (xt_t6 (List.mem_of_getElem? (i := 35) (by decide +kernel))) (by decide +kernel)
theorem m_644c3cad : (.instanceMethod y_Checker_checkLabels : Cond) ∈ xt_tbl := xt_in (xt_t6 (List.mem_of_getElem? (i := 37) (by decide +kernel))) (by decide +kernel)
theorem m_bd10a36b : (.selects "StackHost$Checker" y_Checker_checkLabels y_Checker_checkLabels : Cond) ∈ xt_tbl := xt_in (xt_v4 (q := (⟨"StackHost$Checker", "checkLabels", "()V"⟩, 17)) (List.mem_of_getElem? (i := 13) (by decide +kernel))) (by decide +kernel)
theorem m_1cced3c4 : (.code y_Checker_checkLabels b_Checker_checkLabels 4 none : Cond) ∈ xt_tbl := xt_in (xt_t6 (List.mem_of_getElem? (i := 38) (by decide +kernel))) (by decide +kernel)
theorem m_16ce30ef : (.methodLink "StackHost$Checker" 291 y_Checker_checkSelect : Cond) ∈ xt_tbl := xt_in (xt_t6 (List.mem_of_getElem? (i := 43) (by decide +kernel))) (by decide +kernel)
theorem m_a56d2e34 : (.instanceMethod y_Checker_checkSelect : Cond) ∈ xt_tbl := xt_in (xt_t6 (List.mem_of_getElem? (i := 45) (by decide +kernel))) (by decide +kernel)
theorem m_3789701f : (.selects "StackHost$Checker" y_Checker_checkSelect y_Checker_checkSelect : Cond) ∈ xt_tbl := xt_in (xt_v4 (q := (⟨"StackHost$Checker", "checkSelect", "()V"⟩, 17)) (List.mem_of_getElem? (i := 15) (by decide +kernel))) (by decide +kernel)
theorem m_36ed177c : (.code y_Checker_checkSelect b_Checker_checkSelect 3 none : Cond) ∈ xt_tbl := xt_in (xt_t6 (List.mem_of_getElem? (i := 46) (by decide +kernel))) (by decide +kernel)
theorem nm_Checker_checkCall : xt_nm y_Checker_checkCall 1 := ⟨by decide +kernel, by decide +kernel⟩
theorem nm_Checker_checkOpening : xt_nm y_Checker_checkOpening 1 := ⟨by decide +kernel, by decide +kernel⟩
theorem nm_Checker_checkElse : xt_nm y_Checker_checkElse 0 := ⟨by decide +kernel, by decide +kernel⟩
theorem nm_Checker_checkEnd : xt_nm y_Checker_checkEnd 0 := ⟨by decide +kernel, by decide +kernel⟩
theorem nm_Checker_checkBranchIf : xt_nm y_Checker_checkBranchIf 0 := ⟨by decide +kernel, by decide +kernel⟩
theorem nm_Checker_checkLabels : xt_nm y_Checker_checkLabels 0 := ⟨by decide +kernel, by decide +kernel⟩
theorem nm_Checker_checkSelect : xt_nm y_Checker_checkSelect 0 := ⟨by decide +kernel, by decide +kernel⟩
set_option maxRecDepth 100000 in
def T_Checker_checkControl : List (Nat × Instr × Nat) := [(0, .iload_n 1, 1), (1, .tableswitch 372 0 27 #[127, 372, 134, 134, 134, 142, 372, 372, 372, 372, 372, 149, 156, 183, 190, 197, 220, 276, 372, 372, 372, 372, 372, 372, 372, 372, 356, 365], 127), (128, .aload_n 0, 1), (129, .invokevirtual 267, 3), (132, .goto 241, 3), (135, .aload_n 0, 1), (136, .iload_n 1, 1), (137, .invokevirtual 270, 3), (140, .goto 233, 3), (143, .aload_n 0, 1), (144, .invokevirtual 273, 3), (147, .goto 226, 3), (150, .aload_n 0, 1), (151, .invokevirtual 276, 3), (154, .goto 219, 3), (157, .aload_n 0, 1), (158, .aload_n 0, 1), (159, .getfield 25, 3), (162, .aload_n 0, 1), (163, .aload_n 0, 1), (164, .getfield 196, 3), (167, .iconst 1, 1), (168, .iadd, 1), (169, .invokevirtual 279, 3), (172, .iaload, 1), (173, .invokevirtual 251, 3), (176, .pop, 1), (177, .aload_n 0, 1), (178, .invokevirtual 267, 3), (181, .goto 192, 3), (184, .aload_n 0, 1), (185, .invokevirtual 282, 3), (188, .goto 185, 3), (191, .aload_n 0, 1), (192, .invokevirtual 285, 3), (195, .goto 178, 3), (198, .aload_n 0, 1), (199, .aload_n 0, 1), (200, .getfield 38, 3), (203, .aload_n 0, 1), (204, .getfield 181, 3), (207, .invokevirtual 199, 3), (210, .invokevirtual 251, 3), (213, .pop, 1), (214, .aload_n 0, 1), (215, .invokevirtual 267, 3), (218, .goto 155, 3), (221, .aload_n 0, 1), (222, .aload_n 0, 1), (223, .getfield 51, 3), (226, .aload_n 0, 1), (227, .getfield 196, 3), (230, .iconst 1, 1), (231, .iadd, 1), (232, .iaload, 1), (233, .i2l, 1), (234, .aload_n 0, 1), (235, .getfield 38, 3), (238, .getfield 118, 3), (241, .invokevirtual 77, 3), (244, .invokestatic 125, 3), (247, .bipush 20, 2), (249, .invokevirtual 254, 3), (252, .aload_n 0, 1), (253, .aload_n 0, 1), (254, .getfield 38, 3), (257, .aload_n 0, 1), (258, .getfield 51, 3), (261, .aload_n 0, 1), (262, .getfield 196, 3), (265, .iconst 1, 1), (266, .iadd, 1), (267, .iaload, 1), (268, .invokevirtual 158, 3), (271, .invokevirtual 288, 3), (274, .goto 99, 3), (277, .aload_n 0, 1), (278, .aload_n 0, 1), (279, .getfield 38, 3), (282, .getfield 104, 3), (285, .invokevirtual 77, 3), (288, .ifCond .le 7, 3), (291, .iconst 1, 1), (292, .goto 4, 3), (295, .iconst 0, 1), (296, .bipush 20, 2), (298, .invokevirtual 254, 3), (301, .aload_n 0, 1), (302, .aload_n 0, 1), (303, .getfield 51, 3), (306, .aload_n 0, 1), (307, .getfield 196, 3), (310, .iconst 1, 1), (311, .iadd, 1), (312, .iaload, 1), (313, .i2l, 1), (314, .aload_n 0, 1), (315, .getfield 38, 3), (318, .getfield 87, 3), (321, .invokevirtual 77, 3), (324, .invokestatic 125, 3), (327, .bipush 20, 2), (329, .invokevirtual 254, 3), (332, .aload_n 0, 1), (333, .bipush 127, 2), (335, .invokevirtual 251, 3), (338, .pop, 1), (339, .aload_n 0, 1), (340, .aload_n 0, 1), (341, .getfield 51, 3), (344, .aload_n 0, 1), (345, .getfield 196, 3), (348, .iconst 1, 1), (349, .iadd, 1), (350, .iaload, 1), (351, .invokevirtual 288, 3), (354, .goto 19, 3), (357, .aload_n 0, 1), (358, .iconst 0, 1), (359, .invokevirtual 251, 3), (362, .pop, 1), (363, .goto 10, 3), (366, .aload_n 0, 1), (367, .invokevirtual 291, 3), (370, .goto 3, 3), (373, .return_, 1)]
theorem D_Checker_checkControl : ∀ q ∈ T_Checker_checkControl, decode b_Checker_checkControl q.1 = .ok (q.2.1, q.2.2) := by decide +kernel

set_option maxHeartbeats 4000000 in
set_option maxRecDepth 100000 in
theorem am_Checker_checkControl_L373 (l : Launch) (hfl : l.flags = pinnedFlags ++ [noTraceFlag]) (D : va_G) (A : Nat → Prop) (σ MC MS : Nat) (h0 : xb_H) (Qr : xb_H → Nat → Nat → Prop) (Qt : String → xb_H → Nat → Nat → Prop) (h : xb_H) (bc : Nat) (bs : Nat) (hw : w_Checker_checkControl_L373 Qr Qt h bc bs) : xb_am l D A σ 5 MC MS h0 (fun v h bc bs => v = none ∧ Qr h bc bs) Qt y_Checker_checkControl.cls y_Checker_checkControl.name b_Checker_checkControl 2 ([] : List ExceptionTableEntry) none 373 [] [] h bc bs := by
  unfold w_Checker_checkControl_L373 at hw
  intro p e s m args below meth c hC H locs ls k n hE hl hR hS hk hn
  obtain ⟨hx, hb, hown, hlocks, htab, hml, hr, hB, hA, hnm⟩ := id hC
  have hts := hB.1.1.at args
  exact xb_vret bc bs hx hb hr hlocks (show k + bc ≤ MC by omega) (show n + bs ≤ MS by omega) hE hR hS (xb_d D_Checker_checkControl 125 rfl) hw

set_option maxHeartbeats 4000000 in
set_option maxRecDepth 100000 in
theorem am_Checker_checkControl_L296 (l : Launch) (hfl : l.flags = pinnedFlags ++ [noTraceFlag]) (D : va_G) (A : Nat → Prop) (σ MC MS : Nat) (h0 : xb_H) (Qr : xb_H → Nat → Nat → Prop) (Qt : String → xb_H → Nat → Nat → Prop) (x0 : Nat) (y0 : Int32) (y1 : Nat) (h : xb_H) (bc : Nat) (bs : Nat) (hw : w_Checker_checkControl_L296 Qr Qt x0 y0 y1 h bc bs) : xb_am l D A σ 5 MC MS h0 (fun v h bc bs => v = none ∧ Qr h bc bs) Qt y_Checker_checkControl.cls y_Checker_checkControl.name b_Checker_checkControl 2 ([] : List ExceptionTableEntry) none 296 [(0, .ref x0)] [.int y0, .ref y1] h bc bs := by
  unfold w_Checker_checkControl_L296 at hw
  intro p e s m args below meth c hC H locs ls k n hE hl hR hS hk hn
  obtain ⟨hx, hb, hown, hlocks, htab, hml, hr, hB, hA, hnm⟩ := id hC
  have hts := hB.1.1.at args
  refine lv_bipush (v := 20) hx hb (xb_d D_Checker_checkControl 85 rfl) (by decide) ?_
  obtain ⟨hk1, hw⟩ := hw
  refine xb_call (D := D) (A := A) (σ := σ) (h := h) (d := 3) (mc := bc) (ms := bs) (maxL := 3) (rest := []) (av := [.ref y1, .int y0, .int 20]) (fun T hT X => by obtain ⟨cb9, ra9, rb9, rc9⟩ := xb_recv (ci := 4) hR rfl hk1 (by decide); exact xt_invV X hx hown (hts _ m_0a242445) (hts _ m_a99c45f7) (hts _ m_978d7491) (xt_sigOf (hts _ m_01f2fc97)) nm_Checker_require (by rw [hT]; exact ra9) rb9 rc9 (g := F0 m 298 ls [.int 20, .int y0, .ref y1]) rfl (argsL := [.int y0, .int 20]) (rest := []) rfl rfl (by rw [hb]; exact (xb_d D_Checker_checkControl 86 rfl))) (ok_Checker_require l hfl D A σ y1 y0 20 h bc bs _ _ hw) (hml.trans hl.1.symm) (by rw [hb]; exact (xb_d D_Checker_checkControl 86 rfl)) (Nat.le_of_ble_eq_true rfl) (Nat.le_of_ble_eq_true rfl) (Nat.le_of_ble_eq_true rfl) (show k + bc ≤ MC by omega) (show n + bs ≤ MS by omega) (xt_w1 hB.1 m_01f2fc97) (xt_cdOf hB.1 m_01f2fc97) (hts _ m_44748ce5) hB hR hS hA (fun vv h2 bc3 bs3 kk3 nn3 H locs hk3 hn3 hq hEh2 hR hS => ?_) (fun XX ax h2 bc3 bs3 kk3 nn3 H locs hk3 hn3 hq hEh2 hex hR hS => ?_)
  · obtain ⟨rfl, hw⟩ := hq
    have hw := hw hEh2
    have hE := hE.tr hEh2
    refine W.eq (g2 := F0 m 301 ls []) rfl ?_
    refine lv_aload_n hx hb (xb_d D_Checker_checkControl 87 rfl) rfl (lv_at hl 0 rfl) ?_
    refine lv_aload_n hx hb (xb_d D_Checker_checkControl 88 rfl) rfl (lv_at hl 0 rfl) ?_
    obtain ⟨hk4, hw⟩ := hw
    refine xb_getP (C := R_Checker) (T := F_Checker) (N := 17) hx hb 4 2 hts fin_Checker hown hR hk4 (by decide) rfl (by decide) rfl (hts _ m_b5ef1148) (fun _ h9 => h9) (xb_d D_Checker_checkControl 89 rfl) ?_
    obtain ⟨b5, eb5, hw⟩ := hw
    refine xb_some eb5 ?_
    refine lv_aload_n hx hb (xb_d D_Checker_checkControl 90 rfl) rfl (lv_at hl 0 rfl) ?_
    refine xb_getI (C := R_Checker) (T := F_Checker) (N := 17) hx hb 4 9 hts fin_Checker hown hR hk4 (by decide) rfl (by decide) rfl (hts _ m_28193d38) (fun _ h9 => h9) (xb_d D_Checker_checkControl 91 rfl) ?_
    refine lv_iconst (v := 1) hx hb (xb_d D_Checker_checkControl 92 rfl) (by decide) ?_
    refine lv_iadd hx hb (xb_d D_Checker_checkControl 93 rfl) ?_
    obtain ⟨hk7, hw⟩ := hw
    obtain ⟨hi6, hw⟩ := hw
    refine xb_iald hx hb hR hk7 hi6 (xb_d D_Checker_checkControl 94 rfl) ?_
    refine lv_i2l hx hb (xb_d D_Checker_checkControl 95 rfl) rfl ?_
    refine lv_aload_n hx hb (xb_d D_Checker_checkControl 96 rfl) rfl (lv_at hl 0 rfl) ?_
    refine xb_getP (C := R_Checker) (T := F_Checker) (N := 17) hx hb 4 0 hts fin_Checker hown hR hk4 (by decide) rfl (by decide) rfl (hts _ m_070795bc) (fun _ h9 => h9) (xb_d D_Checker_checkControl 97 rfl) ?_
    obtain ⟨b8, eb8, hw⟩ := hw
    refine xb_some eb8 ?_
    obtain ⟨hk9, hw⟩ := hw
    refine xb_getP (C := R_StackModule) (T := F_StackModule) (N := 19) hx hb 2 2 hts fin_StackModule hown hR hk9 (by decide) rfl (by decide) rfl (hts _ m_e7e89823) (fun _ h9 => h9) (xb_d D_Checker_checkControl 98 rfl) ?_
    obtain ⟨b10, eb10, hw⟩ := hw
    refine xb_some eb10 ?_
    obtain ⟨hk11, hw⟩ := hw
    refine xb_call0 (D := D) (A := A) (σ := σ) (h := h2) (d := 2) (maxL := 1) (rest := [.long (Int32.toInt64 (xb_i h2 b5 (Int32.toNatClampNeg ((xb_i h2 x0 9) + 1)))), .ref x0]) (av := [.ref b10]) (fun T hT X => by obtain ⟨cb9, ra9, rb9, rc9⟩ := xb_recv (ci := 1) hR rfl hk11 (by decide); exact xt_invV X hx hown (hts _ m_c8b950b4) (hts _ m_ded65609) (hts _ m_a4161156) (xt_sigOf (hts _ m_83ba3721)) nm_Row_lines (by rw [hT]; exact ra9) rb9 rc9 (g := F0 m 321 ls [.ref b10, .long (Int32.toInt64 (xb_i h2 b5 (Int32.toNatClampNeg ((xb_i h2 x0 9) + 1)))), .ref x0]) rfl (argsL := []) (rest := [.long (Int32.toInt64 (xb_i h2 b5 (Int32.toNatClampNeg ((xb_i h2 x0 9) + 1)))), .ref x0]) rfl rfl (by rw [hb]; exact (xb_d D_Checker_checkControl 99 rfl))) (ok_Row_lines l hfl D A σ b10 h2 _ hw) (hml.trans hl.1.symm) (by rw [hb]; exact (xb_d D_Checker_checkControl 99 rfl)) (Nat.le_of_ble_eq_true rfl) (Nat.le_of_ble_eq_true rfl) (Nat.le_of_ble_eq_true rfl) (show (k + kk3) ≤ MC by omega) (show (n + nn3) ≤ MS by omega) (xt_w1 hB.1 m_83ba3721) (xt_cdOf hB.1 m_83ba3721) (hts _ m_c1bef504) hB hR hS hA (fun vv h12 H locs hq hEh12 hR hS => ?_)
    obtain ⟨r13, rfl, hw⟩ := hq
    have hw := hw hEh12
    have hE := hE.tr hEh12
    refine W.eq (g2 := F0 m 324 ls [.int r13, .long (Int32.toInt64 (xb_i h2 b5 (Int32.toNatClampNeg ((xb_i h2 x0 9) + 1)))), .ref x0]) rfl ?_
    refine xb_call0 (D := D) (A := A) (σ := σ) (h := h12) (d := 2) (maxL := 3) (rest := [.ref x0]) (av := [.long (Int32.toInt64 (xb_i h2 b5 (Int32.toNatClampNeg ((xb_i h2 x0 9) + 1)))), .int r13]) (fun T hT X => xt_invS X hx hown (hts _ m_fe08b245) (hts _ m_9ad1e0af) (hts _ m_44748ce5) (xt_sgS (hts _ m_2237aee6)).1 (xt_sgS (hts _ m_2237aee6)).2 nm_Checker_isThere (g := F0 m 324 ls [.int r13, .long (Int32.toInt64 (xb_i h2 b5 (Int32.toNatClampNeg ((xb_i h2 x0 9) + 1)))), .ref x0]) rfl (argsL := [.long (Int32.toInt64 (xb_i h2 b5 (Int32.toNatClampNeg ((xb_i h2 x0 9) + 1)))), .int r13]) (rest := [.ref x0]) rfl rfl (by rw [hb]; exact (xb_d D_Checker_checkControl 100 rfl))) (ok_Checker_isThere l hfl D A σ (Int32.toInt64 (xb_i h2 b5 (Int32.toNatClampNeg ((xb_i h2 x0 9) + 1)))) r13 h12 _ hw) (hml.trans hl.1.symm) (by rw [hb]; exact (xb_d D_Checker_checkControl 100 rfl)) (Nat.le_of_ble_eq_true rfl) (Nat.le_of_ble_eq_true rfl) (Nat.le_of_ble_eq_true rfl) (show (k + kk3) ≤ MC by omega) (show (n + nn3) ≤ MS by omega) (xt_w1 hB.1 m_2237aee6) (xt_cdOf hB.1 m_2237aee6) (hts _ m_44748ce5) hB hR hS hA (fun vv h14 H locs hq hEh14 hR hS => ?_)
    obtain ⟨r15, rfl, hw⟩ := hq
    have hw := hw hEh14
    have hE := hE.tr hEh14
    refine W.eq (g2 := F0 m 327 ls [.int r15, .ref x0]) rfl ?_
    refine lv_bipush (v := 20) hx hb (xb_d D_Checker_checkControl 101 rfl) (by decide) ?_
    have hk4 : xb_k h12 x0 = 5 := hEh12.k hk4
    have hk4 : xb_k h14 x0 = 5 := hEh14.k hk4
    refine xb_call (D := D) (A := A) (σ := σ) (h := h14) (d := 3) (mc := bc3) (ms := bs3) (maxL := 3) (rest := []) (av := [.ref x0, .int r15, .int 20]) (fun T hT X => by obtain ⟨cb9, ra9, rb9, rc9⟩ := xb_recv (ci := 4) hR rfl hk4 (by decide); exact xt_invV X hx hown (hts _ m_0a242445) (hts _ m_a99c45f7) (hts _ m_978d7491) (xt_sigOf (hts _ m_01f2fc97)) nm_Checker_require (by rw [hT]; exact ra9) rb9 rc9 (g := F0 m 329 ls [.int 20, .int r15, .ref x0]) rfl (argsL := [.int r15, .int 20]) (rest := []) rfl rfl (by rw [hb]; exact (xb_d D_Checker_checkControl 102 rfl))) (ok_Checker_require l hfl D A σ x0 r15 20 h14 bc3 bs3 _ _ hw) (hml.trans hl.1.symm) (by rw [hb]; exact (xb_d D_Checker_checkControl 102 rfl)) (Nat.le_of_ble_eq_true rfl) (Nat.le_of_ble_eq_true rfl) (Nat.le_of_ble_eq_true rfl) (show (k + kk3) + bc3 ≤ MC by omega) (show (n + nn3) + bs3 ≤ MS by omega) (xt_w1 hB.1 m_01f2fc97) (xt_cdOf hB.1 m_01f2fc97) (hts _ m_44748ce5) hB hR hS hA (fun vv h16 bc17 bs17 kk17 nn17 H locs hk17 hn17 hq hEh16 hR hS => ?_) (fun XX ax h16 bc17 bs17 kk17 nn17 H locs hk17 hn17 hq hEh16 hex hR hS => ?_)
    · obtain ⟨rfl, hw⟩ := hq
      have hw := hw hEh16
      have hE := hE.tr hEh16
      refine W.eq (g2 := F0 m 332 ls []) rfl ?_
      refine lv_aload_n hx hb (xb_d D_Checker_checkControl 103 rfl) rfl (lv_at hl 0 rfl) ?_
      refine lv_bipush (v := 127) hx hb (xb_d D_Checker_checkControl 104 rfl) (by decide) ?_
      have hk4 : xb_k h16 x0 = 5 := hEh16.k hk4
      refine xb_call (D := D) (A := A) (σ := σ) (h := h16) (d := 3) (mc := bc17) (ms := bs17) (maxL := 3) (rest := []) (av := [.ref x0, .int 127]) (fun T hT X => by obtain ⟨cb9, ra9, rb9, rc9⟩ := xb_recv (ci := 4) hR rfl hk4 (by decide); exact xt_invV X hx hown (hts _ m_0b33e20f) (hts _ m_338dda25) (hts _ m_d7dc08f9) (xt_sigOf (hts _ m_b71cce2b)) nm_Checker_take (by rw [hT]; exact ra9) rb9 rc9 (g := F0 m 335 ls [.int 127, .ref x0]) rfl (argsL := [.int 127]) (rest := []) rfl rfl (by rw [hb]; exact (xb_d D_Checker_checkControl 105 rfl))) (ok_Checker_take l hfl D A σ x0 127 h16 bc17 bs17 _ _ hw) (hml.trans hl.1.symm) (by rw [hb]; exact (xb_d D_Checker_checkControl 105 rfl)) (Nat.le_of_ble_eq_true rfl) (Nat.le_of_ble_eq_true rfl) (Nat.le_of_ble_eq_true rfl) (show ((k + kk3) + kk17) + bc17 ≤ MC by omega) (show ((n + nn3) + nn17) + bs17 ≤ MS by omega) (xt_w1 hB.1 m_b71cce2b) (xt_cdOf hB.1 m_b71cce2b) (hts _ m_44748ce5) hB hR hS hA (fun vv h18 bc19 bs19 kk19 nn19 H locs hk19 hn19 hq hEh18 hR hS => ?_) (fun XX ax h18 bc19 bs19 kk19 nn19 H locs hk19 hn19 hq hEh18 hex hR hS => ?_)
      · obtain ⟨r19, rfl, hw⟩ := hq
        have hw := hw hEh18
        have hE := hE.tr hEh18
        refine W.eq (g2 := F0 m 338 ls [.int r19]) rfl ?_
        refine lv_pop hx hb (xb_d D_Checker_checkControl 106 rfl) rfl ?_
        refine lv_aload_n hx hb (xb_d D_Checker_checkControl 107 rfl) rfl (lv_at hl 0 rfl) ?_
        refine lv_aload_n hx hb (xb_d D_Checker_checkControl 108 rfl) rfl (lv_at hl 0 rfl) ?_
        have hk4 : xb_k h18 x0 = 5 := hEh18.k hk4
        refine xb_getP (C := R_Checker) (T := F_Checker) (N := 17) hx hb 4 2 hts fin_Checker hown hR hk4 (by decide) rfl (by decide) rfl (hts _ m_b5ef1148) (fun _ h9 => h9) (xb_d D_Checker_checkControl 109 rfl) ?_
        obtain ⟨b20, eb20, hw⟩ := hw
        refine xb_some eb20 ?_
        refine lv_aload_n hx hb (xb_d D_Checker_checkControl 110 rfl) rfl (lv_at hl 0 rfl) ?_
        refine xb_getI (C := R_Checker) (T := F_Checker) (N := 17) hx hb 4 9 hts fin_Checker hown hR hk4 (by decide) rfl (by decide) rfl (hts _ m_28193d38) (fun _ h9 => h9) (xb_d D_Checker_checkControl 111 rfl) ?_
        refine lv_iconst (v := 1) hx hb (xb_d D_Checker_checkControl 112 rfl) (by decide) ?_
        refine lv_iadd hx hb (xb_d D_Checker_checkControl 113 rfl) ?_
        obtain ⟨hk22, hw⟩ := hw
        obtain ⟨hi21, hw⟩ := hw
        refine xb_iald hx hb hR hk22 hi21 (xb_d D_Checker_checkControl 114 rfl) ?_
        refine xb_call (D := D) (A := A) (σ := σ) (h := h18) (d := 4) (mc := bc19) (ms := bs19) (maxL := 3) (rest := []) (av := [.ref x0, .int (xb_i h18 b20 (Int32.toNatClampNeg ((xb_i h18 x0 9) + 1)))]) (fun T hT X => by obtain ⟨cb9, ra9, rb9, rc9⟩ := xb_recv (ci := 4) hR rfl hk4 (by decide); exact xt_invV X hx hown (hts _ m_53bf7c26) (hts _ m_a410aa74) (hts _ m_96023d07) (xt_sigOf (hts _ m_9846e217)) nm_Checker_checkCall (by rw [hT]; exact ra9) rb9 rc9 (g := F0 m 351 ls [.int (xb_i h18 b20 (Int32.toNatClampNeg ((xb_i h18 x0 9) + 1))), .ref x0]) rfl (argsL := [.int (xb_i h18 b20 (Int32.toNatClampNeg ((xb_i h18 x0 9) + 1)))]) (rest := []) rfl rfl (by rw [hb]; exact (xb_d D_Checker_checkControl 115 rfl))) (ok_Checker_checkCall l hfl D A σ x0 (xb_i h18 b20 (Int32.toNatClampNeg ((xb_i h18 x0 9) + 1))) h18 bc19 bs19 _ _ hw) (hml.trans hl.1.symm) (by rw [hb]; exact (xb_d D_Checker_checkControl 115 rfl)) (Nat.le_of_ble_eq_true rfl) (Nat.le_of_ble_eq_true rfl) (Nat.le_of_ble_eq_true rfl) (show (((k + kk3) + kk17) + kk19) + bc19 ≤ MC by omega) (show (((n + nn3) + nn17) + nn19) + bs19 ≤ MS by omega) (xt_w1 hB.1 m_9846e217) (xt_cdOf hB.1 m_9846e217) (hts _ m_44748ce5) hB hR hS hA (fun vv h23 bc24 bs24 kk24 nn24 H locs hk24 hn24 hq hEh23 hR hS => ?_) (fun XX ax h23 bc24 bs24 kk24 nn24 H locs hk24 hn24 hq hEh23 hex hR hS => ?_)
        · obtain ⟨rfl, hw⟩ := hq
          have hw := hw hEh23
          have hE := hE.tr hEh23
          refine W.eq (g2 := F0 m 354 ls []) rfl ?_
          refine lv_goto (tgt := 373) hx hb (xb_d D_Checker_checkControl 116 rfl) rfl ?_
          exact am_Checker_checkControl_L373 l hfl D A σ MC MS h0 Qr Qt h23 bc24 bs24 hw p e s m args below meth c hC H locs ls ((((k + kk3) + kk17) + kk19) + kk24) ((((n + nn3) + nn17) + nn19) + nn24) hE (lv_sub hl [] rfl) hR hS (by omega) (by omega)
        · exact xb_pass hlocks (fun x hx9 => by rw [htab] at hx9; first | (cases hx9; done) | (simp [tableOf] at hx9; subst hx9; decide) | (simp [tableOf] at hx9; rcases hx9 with rfl | rfl <;> decide) | (simp [tableOf] at hx9; rcases hx9 with rfl | rfl | rfl <;> decide)) (show ((((k + kk3) + kk17) + kk19) + kk24) + bc24 ≤ MC by omega) (show ((((n + nn3) + nn17) + nn19) + nn24) + bs24 ≤ MS by omega) (hE.tr hEh23) hR hS hex hq
      · exact xb_pass hlocks (fun x hx9 => by rw [htab] at hx9; first | (cases hx9; done) | (simp [tableOf] at hx9; subst hx9; decide) | (simp [tableOf] at hx9; rcases hx9 with rfl | rfl <;> decide) | (simp [tableOf] at hx9; rcases hx9 with rfl | rfl | rfl <;> decide)) (show (((k + kk3) + kk17) + kk19) + bc19 ≤ MC by omega) (show (((n + nn3) + nn17) + nn19) + bs19 ≤ MS by omega) (hE.tr hEh18) hR hS hex hq
    · exact xb_pass hlocks (fun x hx9 => by rw [htab] at hx9; first | (cases hx9; done) | (simp [tableOf] at hx9; subst hx9; decide) | (simp [tableOf] at hx9; rcases hx9 with rfl | rfl <;> decide) | (simp [tableOf] at hx9; rcases hx9 with rfl | rfl | rfl <;> decide)) (show ((k + kk3) + kk17) + bc17 ≤ MC by omega) (show ((n + nn3) + nn17) + bs17 ≤ MS by omega) (hE.tr hEh16) hR hS hex hq
  · exact xb_pass hlocks (fun x hx9 => by rw [htab] at hx9; first | (cases hx9; done) | (simp [tableOf] at hx9; subst hx9; decide) | (simp [tableOf] at hx9; rcases hx9 with rfl | rfl <;> decide) | (simp [tableOf] at hx9; rcases hx9 with rfl | rfl | rfl <;> decide)) (show (k + kk3) + bc3 ≤ MC by omega) (show (n + nn3) + bs3 ≤ MS by omega) (hE.tr hEh2) hR hS hex hq

set_option maxHeartbeats 4000000 in
set_option maxRecDepth 100000 in
theorem am_Checker_checkControl_L135 (l : Launch) (hfl : l.flags = pinnedFlags ++ [noTraceFlag]) (D : va_G) (A : Nat → Prop) (σ MC MS : Nat) (h0 : xb_H) (Qr : xb_H → Nat → Nat → Prop) (Qt : String → xb_H → Nat → Nat → Prop) (x0 : Nat) (x1 : Int32) (h : xb_H) (bc : Nat) (bs : Nat) (hw : w_Checker_checkControl_L135 Qr Qt x0 x1 h bc bs) : xb_am l D A σ 5 MC MS h0 (fun v h bc bs => v = none ∧ Qr h bc bs) Qt y_Checker_checkControl.cls y_Checker_checkControl.name b_Checker_checkControl 2 ([] : List ExceptionTableEntry) none 135 [(0, .ref x0), (1, .int x1)] [] h bc bs := by
  unfold w_Checker_checkControl_L135 at hw
  intro p e s m args below meth c hC H locs ls k n hE hl hR hS hk hn
  obtain ⟨hx, hb, hown, hlocks, htab, hml, hr, hB, hA, hnm⟩ := id hC
  have hts := hB.1.1.at args
  refine lv_aload_n hx hb (xb_d D_Checker_checkControl 5 rfl) rfl (lv_at hl 0 rfl) ?_
  refine lv_iload_n hx hb (xb_d D_Checker_checkControl 6 rfl) rfl (lv_at hl 1 rfl) ?_
  obtain ⟨hk1, hw⟩ := hw
  refine xb_call (D := D) (A := A) (σ := σ) (h := h) (d := 4) (mc := bc) (ms := bs) (maxL := 3) (rest := []) (av := [.ref x0, .int x1]) (fun T hT X => by obtain ⟨cb9, ra9, rb9, rc9⟩ := xb_recv (ci := 4) hR rfl hk1 (by decide); exact xt_invV X hx hown (hts _ m_ebec0b2b) (hts _ m_db60f69f) (hts _ m_7a0b68c1) (xt_sigOf (hts _ m_13d3f185)) nm_Checker_checkOpening (by rw [hT]; exact ra9) rb9 rc9 (g := F0 m 137 ls [.int x1, .ref x0]) rfl (argsL := [.int x1]) (rest := []) rfl rfl (by rw [hb]; exact (xb_d D_Checker_checkControl 7 rfl))) (ok_Checker_checkOpening l hfl D A σ x0 x1 h bc bs _ _ hw) (hml.trans hl.1.symm) (by rw [hb]; exact (xb_d D_Checker_checkControl 7 rfl)) (Nat.le_of_ble_eq_true rfl) (Nat.le_of_ble_eq_true rfl) (Nat.le_of_ble_eq_true rfl) (show k + bc ≤ MC by omega) (show n + bs ≤ MS by omega) (xt_w1 hB.1 m_13d3f185) (xt_cdOf hB.1 m_13d3f185) (hts _ m_44748ce5) hB hR hS hA (fun vv h2 bc3 bs3 kk3 nn3 H locs hk3 hn3 hq hEh2 hR hS => ?_) (fun XX ax h2 bc3 bs3 kk3 nn3 H locs hk3 hn3 hq hEh2 hex hR hS => ?_)
  · obtain ⟨rfl, hw⟩ := hq
    have hw := hw hEh2
    have hE := hE.tr hEh2
    refine W.eq (g2 := F0 m 140 ls []) rfl ?_
    refine lv_goto (tgt := 373) hx hb (xb_d D_Checker_checkControl 8 rfl) rfl ?_
    exact am_Checker_checkControl_L373 l hfl D A σ MC MS h0 Qr Qt h2 bc3 bs3 hw p e s m args below meth c hC H locs ls (k + kk3) (n + nn3) hE (lv_sub hl [] rfl) hR hS (by omega) (by omega)
  · exact xb_pass hlocks (fun x hx9 => by rw [htab] at hx9; first | (cases hx9; done) | (simp [tableOf] at hx9; subst hx9; decide) | (simp [tableOf] at hx9; rcases hx9 with rfl | rfl <;> decide) | (simp [tableOf] at hx9; rcases hx9 with rfl | rfl | rfl <;> decide)) (show (k + kk3) + bc3 ≤ MC by omega) (show (n + nn3) + bs3 ≤ MS by omega) (hE.tr hEh2) hR hS hex hq

set_option maxHeartbeats 4000000 in
set_option maxRecDepth 100000 in
theorem ok_Checker_checkControl (l : Launch) (hfl : l.flags = pinnedFlags ++ [noTraceFlag]) (D : va_G) (A : Nat → Prop) (σ : Nat) (x0 : Nat) (x1 : Int32) (h : xb_H) (bc : Nat) (bs : Nat) (Qr : xb_H → Nat → Nat → Prop) (Qt : String → xb_H → Nat → Nat → Prop) (hw : w_Checker_checkControl x0 x1 h bc bs Qr Qt) : xb_Met l y_Checker_checkControl [.code y_Checker_checkControl b_Checker_checkControl 2 none] (xb_rm 5 bc bs) (xb_Pc D A σ h [.ref x0, .int x1]) (xb_Qc D A h bc bs (fun v h bc bs => v = none ∧ Qr h bc bs) Qt) A := by
  refine xb_ofAm (cc := b_Checker_checkControl) (by decide) (Nat.le_of_ble_eq_true rfl) ?_
  unfold w_Checker_checkControl at hw
  show xb_am l D A σ 5 bc bs h (fun v h bc bs => v = none ∧ Qr h bc bs) Qt y_Checker_checkControl.cls y_Checker_checkControl.name b_Checker_checkControl 2 ([] : List ExceptionTableEntry) none 0 [(0, .ref x0), (1, .int x1)] [] h bc bs
  obtain ⟨MC, hMC⟩ : ∃ x, x = bc := ⟨_, rfl⟩
  obtain ⟨MS, hMS⟩ : ∃ x, x = bs := ⟨_, rfl⟩
  rw [show xb_am l D A σ 5 bc bs = xb_am l D A σ 5 MC MS by rw [hMC, hMS]]
  obtain ⟨h0, hh0⟩ : ∃ x, x = h := ⟨_, rfl⟩
  rw [show xb_am l D A σ 5 MC MS h = xb_am l D A σ 5 MC MS h0 by rw [hh0]]
  intro p e s m args below meth c hC H locs ls k n hE hl hR hS hk hn
  obtain ⟨hx, hb, hown, hlocks, htab, hml, hr, hB, hA, hnm⟩ := id hC
  have hts := hB.1.1.at args
  refine lv_iload_n hx hb (xb_d D_Checker_checkControl 0 rfl) rfl (lv_at hl 1 rfl) ?_
  by_cases hc1 : x1 = 0
  · have hw := hw.1 hc1
    refine xt_numi hc1 ?_
    refine lv_tableIn (off := 127) (tgt := 128) hx hb (xb_d D_Checker_checkControl 1 rfl) (by decide +kernel) (by decide +kernel) (by decide +kernel) (by decide) ?_
    refine lv_aload_n hx hb (xb_d D_Checker_checkControl 2 rfl) rfl (lv_at hl 0 rfl) ?_
    obtain ⟨hk2, hw⟩ := hw
    refine xb_call0 (D := D) (A := A) (σ := σ) (h := h) (d := 2) (maxL := 1) (rest := []) (av := [.ref x0]) (fun T hT X => by obtain ⟨cb9, ra9, rb9, rc9⟩ := xb_recv (ci := 4) hR rfl hk2 (by decide); exact xt_invV X hx hown (hts _ m_3c20c1e8) (hts _ m_95b7140b) (hts _ m_ecec8718) (xt_sigOf (hts _ m_2825a1fb)) nm_Checker_die (by rw [hT]; exact ra9) rb9 rc9 (g := F0 m 129 ls [.ref x0]) rfl (argsL := []) (rest := []) rfl rfl (by rw [hb]; exact (xb_d D_Checker_checkControl 3 rfl))) (ok_Checker_die l hfl D A σ x0 h _ hw) (hml.trans hl.1.symm) (by rw [hb]; exact (xb_d D_Checker_checkControl 3 rfl)) (Nat.le_of_ble_eq_true rfl) (Nat.le_of_ble_eq_true rfl) (Nat.le_of_ble_eq_true rfl) (show k ≤ MC by omega) (show n ≤ MS by omega) (xt_w1 hB.1 m_2825a1fb) (xt_cdOf hB.1 m_2825a1fb) (hts _ m_44748ce5) hB hR hS hA (fun vv h3 H locs hq hEh3 hR hS => ?_)
    obtain ⟨rfl, hw⟩ := hq
    have hw := hw hEh3
    have hE := hE.tr hEh3
    refine W.eq (g2 := F0 m 132 ls []) rfl ?_
    refine lv_goto (tgt := 373) hx hb (xb_d D_Checker_checkControl 4 rfl) rfl ?_
    exact am_Checker_checkControl_L373 l hfl D A σ MC MS h0 Qr Qt h3 bc bs hw p e s m args below meth c hC H locs ls k n hE (lv_sub hl [] rfl) hR hS (by omega) (by omega)
  have hw := hw.2
  by_cases hc5 : x1 = 1
  · have hw := hw.1 hc5
    refine xt_numi hc5 ?_
    refine lv_tableIn (off := 372) (tgt := 373) hx hb (xb_d D_Checker_checkControl 1 rfl) (by decide +kernel) (by decide +kernel) (by decide +kernel) (by decide) ?_
    exact am_Checker_checkControl_L373 l hfl D A σ MC MS h0 Qr Qt h bc bs hw p e s m args below meth c hC H locs ls k n hE (lv_sub hl [] rfl) hR hS (by omega) (by omega)
  have hw := hw.2
  by_cases hc6 : x1 = 2
  · have hw := hw.1 hc6
    refine xt_numi hc6 ?_
    refine lv_tableIn (off := 134) (tgt := 135) hx hb (xb_d D_Checker_checkControl 1 rfl) (by decide +kernel) (by decide +kernel) (by decide +kernel) (by decide) ?_
    exact am_Checker_checkControl_L135 l hfl D A σ MC MS h0 Qr Qt x0 x1 h bc bs hw p e s m args below meth c hC H locs ls k n hE (lv_sub hl [0, 1] rfl) hR hS (by omega) (by omega)
  have hw := hw.2
  by_cases hc7 : x1 = 3
  · have hw := hw.1 hc7
    refine xt_numi hc7 ?_
    refine lv_tableIn (off := 134) (tgt := 135) hx hb (xb_d D_Checker_checkControl 1 rfl) (by decide +kernel) (by decide +kernel) (by decide +kernel) (by decide) ?_
    exact am_Checker_checkControl_L135 l hfl D A σ MC MS h0 Qr Qt x0 x1 h bc bs hw p e s m args below meth c hC H locs ls k n hE (lv_sub hl [0, 1] rfl) hR hS (by omega) (by omega)
  have hw := hw.2
  by_cases hc8 : x1 = 4
  · have hw := hw.1 hc8
    refine xt_numi hc8 ?_
    refine lv_tableIn (off := 134) (tgt := 135) hx hb (xb_d D_Checker_checkControl 1 rfl) (by decide +kernel) (by decide +kernel) (by decide +kernel) (by decide) ?_
    exact am_Checker_checkControl_L135 l hfl D A σ MC MS h0 Qr Qt x0 x1 h bc bs hw p e s m args below meth c hC H locs ls k n hE (lv_sub hl [0, 1] rfl) hR hS (by omega) (by omega)
  have hw := hw.2
  by_cases hc9 : x1 = 5
  · have hw := hw.1 hc9
    refine xt_numi hc9 ?_
    refine lv_tableIn (off := 142) (tgt := 143) hx hb (xb_d D_Checker_checkControl 1 rfl) (by decide +kernel) (by decide +kernel) (by decide +kernel) (by decide) ?_
    refine lv_aload_n hx hb (xb_d D_Checker_checkControl 9 rfl) rfl (lv_at hl 0 rfl) ?_
    obtain ⟨hk10, hw⟩ := hw
    refine xb_call (D := D) (A := A) (σ := σ) (h := h) (d := 4) (mc := bc) (ms := bs) (maxL := 2) (rest := []) (av := [.ref x0]) (fun T hT X => by obtain ⟨cb9, ra9, rb9, rc9⟩ := xb_recv (ci := 4) hR rfl hk10 (by decide); exact xt_invV X hx hown (hts _ m_102bfd31) (hts _ m_011d9088) (hts _ m_67c49da1) (xt_sigOf (hts _ m_ccfdfad1)) nm_Checker_checkElse (by rw [hT]; exact ra9) rb9 rc9 (g := F0 m 144 ls [.ref x0]) rfl (argsL := []) (rest := []) rfl rfl (by rw [hb]; exact (xb_d D_Checker_checkControl 10 rfl))) (ok_Checker_checkElse l hfl D A σ x0 h bc bs _ _ hw) (hml.trans hl.1.symm) (by rw [hb]; exact (xb_d D_Checker_checkControl 10 rfl)) (Nat.le_of_ble_eq_true rfl) (Nat.le_of_ble_eq_true rfl) (Nat.le_of_ble_eq_true rfl) (show k + bc ≤ MC by omega) (show n + bs ≤ MS by omega) (xt_w1 hB.1 m_ccfdfad1) (xt_cdOf hB.1 m_ccfdfad1) (hts _ m_44748ce5) hB hR hS hA (fun vv h11 bc12 bs12 kk12 nn12 H locs hk12 hn12 hq hEh11 hR hS => ?_) (fun XX ax h11 bc12 bs12 kk12 nn12 H locs hk12 hn12 hq hEh11 hex hR hS => ?_)
    · obtain ⟨rfl, hw⟩ := hq
      have hw := hw hEh11
      have hE := hE.tr hEh11
      refine W.eq (g2 := F0 m 147 ls []) rfl ?_
      refine lv_goto (tgt := 373) hx hb (xb_d D_Checker_checkControl 11 rfl) rfl ?_
      exact am_Checker_checkControl_L373 l hfl D A σ MC MS h0 Qr Qt h11 bc12 bs12 hw p e s m args below meth c hC H locs ls (k + kk12) (n + nn12) hE (lv_sub hl [] rfl) hR hS (by omega) (by omega)
    · exact xb_pass hlocks (fun x hx9 => by rw [htab] at hx9; first | (cases hx9; done) | (simp [tableOf] at hx9; subst hx9; decide) | (simp [tableOf] at hx9; rcases hx9 with rfl | rfl <;> decide) | (simp [tableOf] at hx9; rcases hx9 with rfl | rfl | rfl <;> decide)) (show (k + kk12) + bc12 ≤ MC by omega) (show (n + nn12) + bs12 ≤ MS by omega) (hE.tr hEh11) hR hS hex hq
  have hw := hw.2
  by_cases hc13 : x1 = 6
  · have hw := hw.1 hc13
    refine xt_numi hc13 ?_
    refine lv_tableIn (off := 372) (tgt := 373) hx hb (xb_d D_Checker_checkControl 1 rfl) (by decide +kernel) (by decide +kernel) (by decide +kernel) (by decide) ?_
    exact am_Checker_checkControl_L373 l hfl D A σ MC MS h0 Qr Qt h bc bs hw p e s m args below meth c hC H locs ls k n hE (lv_sub hl [] rfl) hR hS (by omega) (by omega)
  have hw := hw.2
  by_cases hc14 : x1 = 7
  · have hw := hw.1 hc14
    refine xt_numi hc14 ?_
    refine lv_tableIn (off := 372) (tgt := 373) hx hb (xb_d D_Checker_checkControl 1 rfl) (by decide +kernel) (by decide +kernel) (by decide +kernel) (by decide) ?_
    exact am_Checker_checkControl_L373 l hfl D A σ MC MS h0 Qr Qt h bc bs hw p e s m args below meth c hC H locs ls k n hE (lv_sub hl [] rfl) hR hS (by omega) (by omega)
  have hw := hw.2
  by_cases hc15 : x1 = 8
  · have hw := hw.1 hc15
    refine xt_numi hc15 ?_
    refine lv_tableIn (off := 372) (tgt := 373) hx hb (xb_d D_Checker_checkControl 1 rfl) (by decide +kernel) (by decide +kernel) (by decide +kernel) (by decide) ?_
    exact am_Checker_checkControl_L373 l hfl D A σ MC MS h0 Qr Qt h bc bs hw p e s m args below meth c hC H locs ls k n hE (lv_sub hl [] rfl) hR hS (by omega) (by omega)
  have hw := hw.2
  by_cases hc16 : x1 = 9
  · have hw := hw.1 hc16
    refine xt_numi hc16 ?_
    refine lv_tableIn (off := 372) (tgt := 373) hx hb (xb_d D_Checker_checkControl 1 rfl) (by decide +kernel) (by decide +kernel) (by decide +kernel) (by decide) ?_
    exact am_Checker_checkControl_L373 l hfl D A σ MC MS h0 Qr Qt h bc bs hw p e s m args below meth c hC H locs ls k n hE (lv_sub hl [] rfl) hR hS (by omega) (by omega)
  have hw := hw.2
  by_cases hc17 : x1 = 10
  · have hw := hw.1 hc17
    refine xt_numi hc17 ?_
    refine lv_tableIn (off := 372) (tgt := 373) hx hb (xb_d D_Checker_checkControl 1 rfl) (by decide +kernel) (by decide +kernel) (by decide +kernel) (by decide) ?_
    exact am_Checker_checkControl_L373 l hfl D A σ MC MS h0 Qr Qt h bc bs hw p e s m args below meth c hC H locs ls k n hE (lv_sub hl [] rfl) hR hS (by omega) (by omega)
  have hw := hw.2
  by_cases hc18 : x1 = 11
  · have hw := hw.1 hc18
    refine xt_numi hc18 ?_
    refine lv_tableIn (off := 149) (tgt := 150) hx hb (xb_d D_Checker_checkControl 1 rfl) (by decide +kernel) (by decide +kernel) (by decide +kernel) (by decide) ?_
    refine lv_aload_n hx hb (xb_d D_Checker_checkControl 12 rfl) rfl (lv_at hl 0 rfl) ?_
    obtain ⟨hk19, hw⟩ := hw
    refine xb_call (D := D) (A := A) (σ := σ) (h := h) (d := 4) (mc := bc) (ms := bs) (maxL := 2) (rest := []) (av := [.ref x0]) (fun T hT X => by obtain ⟨cb9, ra9, rb9, rc9⟩ := xb_recv (ci := 4) hR rfl hk19 (by decide); exact xt_invV X hx hown (hts _ m_6283ab69) (hts _ m_caa07f69) (hts _ m_e60b8634) (xt_sigOf (hts _ m_31680164)) nm_Checker_checkEnd (by rw [hT]; exact ra9) rb9 rc9 (g := F0 m 151 ls [.ref x0]) rfl (argsL := []) (rest := []) rfl rfl (by rw [hb]; exact (xb_d D_Checker_checkControl 13 rfl))) (ok_Checker_checkEnd l hfl D A σ x0 h bc bs _ _ hw) (hml.trans hl.1.symm) (by rw [hb]; exact (xb_d D_Checker_checkControl 13 rfl)) (Nat.le_of_ble_eq_true rfl) (Nat.le_of_ble_eq_true rfl) (Nat.le_of_ble_eq_true rfl) (show k + bc ≤ MC by omega) (show n + bs ≤ MS by omega) (xt_w1 hB.1 m_31680164) (xt_cdOf hB.1 m_31680164) (hts _ m_44748ce5) hB hR hS hA (fun vv h20 bc21 bs21 kk21 nn21 H locs hk21 hn21 hq hEh20 hR hS => ?_) (fun XX ax h20 bc21 bs21 kk21 nn21 H locs hk21 hn21 hq hEh20 hex hR hS => ?_)
    · obtain ⟨rfl, hw⟩ := hq
      have hw := hw hEh20
      have hE := hE.tr hEh20
      refine W.eq (g2 := F0 m 154 ls []) rfl ?_
      refine lv_goto (tgt := 373) hx hb (xb_d D_Checker_checkControl 14 rfl) rfl ?_
      exact am_Checker_checkControl_L373 l hfl D A σ MC MS h0 Qr Qt h20 bc21 bs21 hw p e s m args below meth c hC H locs ls (k + kk21) (n + nn21) hE (lv_sub hl [] rfl) hR hS (by omega) (by omega)
    · exact xb_pass hlocks (fun x hx9 => by rw [htab] at hx9; first | (cases hx9; done) | (simp [tableOf] at hx9; subst hx9; decide) | (simp [tableOf] at hx9; rcases hx9 with rfl | rfl <;> decide) | (simp [tableOf] at hx9; rcases hx9 with rfl | rfl | rfl <;> decide)) (show (k + kk21) + bc21 ≤ MC by omega) (show (n + nn21) + bs21 ≤ MS by omega) (hE.tr hEh20) hR hS hex hq
  have hw := hw.2
  by_cases hc22 : x1 = 12
  · have hw := hw.1 hc22
    refine xt_numi hc22 ?_
    refine lv_tableIn (off := 156) (tgt := 157) hx hb (xb_d D_Checker_checkControl 1 rfl) (by decide +kernel) (by decide +kernel) (by decide +kernel) (by decide) ?_
    refine lv_aload_n hx hb (xb_d D_Checker_checkControl 15 rfl) rfl (lv_at hl 0 rfl) ?_
    refine lv_aload_n hx hb (xb_d D_Checker_checkControl 16 rfl) rfl (lv_at hl 0 rfl) ?_
    obtain ⟨hk23, hw⟩ := hw
    refine xb_getP (C := R_Checker) (T := F_Checker) (N := 17) hx hb 4 12 hts fin_Checker hown hR hk23 (by decide) rfl (by decide) rfl (hts _ m_8a464e71) (fun _ h9 => h9) (xb_d D_Checker_checkControl 17 rfl) ?_
    obtain ⟨b24, eb24, hw⟩ := hw
    refine xb_some eb24 ?_
    refine lv_aload_n hx hb (xb_d D_Checker_checkControl 18 rfl) rfl (lv_at hl 0 rfl) ?_
    refine lv_aload_n hx hb (xb_d D_Checker_checkControl 19 rfl) rfl (lv_at hl 0 rfl) ?_
    refine xb_getI (C := R_Checker) (T := F_Checker) (N := 17) hx hb 4 9 hts fin_Checker hown hR hk23 (by decide) rfl (by decide) rfl (hts _ m_28193d38) (fun _ h9 => h9) (xb_d D_Checker_checkControl 20 rfl) ?_
    refine lv_iconst (v := 1) hx hb (xb_d D_Checker_checkControl 21 rfl) (by decide) ?_
    refine lv_iadd hx hb (xb_d D_Checker_checkControl 22 rfl) ?_
    refine xb_call (D := D) (A := A) (σ := σ) (h := h) (d := 3) (mc := bc) (ms := bs) (maxL := 3) (rest := [.ref b24, .ref x0]) (av := [.ref x0, .int ((xb_i h x0 9) + 1)]) (fun T hT X => by obtain ⟨cb9, ra9, rb9, rc9⟩ := xb_recv (ci := 4) hR rfl hk23 (by decide); exact xt_invV X hx hown (hts _ m_baf0cde0) (hts _ m_df7367f5) (hts _ m_b8e4b77a) (xt_sigOf (hts _ m_ae5b25e9)) nm_Checker_checkLabel (by rw [hT]; exact ra9) rb9 rc9 (g := F0 m 169 ls [.int ((xb_i h x0 9) + 1), .ref x0, .ref b24, .ref x0]) rfl (argsL := [.int ((xb_i h x0 9) + 1)]) (rest := [.ref b24, .ref x0]) rfl rfl (by rw [hb]; exact (xb_d D_Checker_checkControl 23 rfl))) (ok_Checker_checkLabel l hfl D A σ x0 ((xb_i h x0 9) + 1) h bc bs _ _ hw) (hml.trans hl.1.symm) (by rw [hb]; exact (xb_d D_Checker_checkControl 23 rfl)) (Nat.le_of_ble_eq_true rfl) (Nat.le_of_ble_eq_true rfl) (Nat.le_of_ble_eq_true rfl) (show k + bc ≤ MC by omega) (show n + bs ≤ MS by omega) (xt_w1 hB.1 m_ae5b25e9) (xt_cdOf hB.1 m_ae5b25e9) (hts _ m_44748ce5) hB hR hS hA (fun vv h25 bc26 bs26 kk26 nn26 H locs hk26 hn26 hq hEh25 hR hS => ?_) (fun XX ax h25 bc26 bs26 kk26 nn26 H locs hk26 hn26 hq hEh25 hex hR hS => ?_)
    · obtain ⟨r26, rfl, hw⟩ := hq
      have hw := hw hEh25
      have hE := hE.tr hEh25
      refine W.eq (g2 := F0 m 172 ls [.int r26, .ref b24, .ref x0]) rfl ?_
      obtain ⟨hk28, hw⟩ := hw
      obtain ⟨hi27, hw⟩ := hw
      refine xb_iald hx hb hR hk28 hi27 (xb_d D_Checker_checkControl 24 rfl) ?_
      have hk23 : xb_k h25 x0 = 5 := hEh25.k hk23
      refine xb_call (D := D) (A := A) (σ := σ) (h := h25) (d := 3) (mc := bc26) (ms := bs26) (maxL := 3) (rest := []) (av := [.ref x0, .int (xb_i h25 b24 (Int32.toNatClampNeg r26))]) (fun T hT X => by obtain ⟨cb9, ra9, rb9, rc9⟩ := xb_recv (ci := 4) hR rfl hk23 (by decide); exact xt_invV X hx hown (hts _ m_0b33e20f) (hts _ m_338dda25) (hts _ m_d7dc08f9) (xt_sigOf (hts _ m_b71cce2b)) nm_Checker_take (by rw [hT]; exact ra9) rb9 rc9 (g := F0 m 173 ls [.int (xb_i h25 b24 (Int32.toNatClampNeg r26)), .ref x0]) rfl (argsL := [.int (xb_i h25 b24 (Int32.toNatClampNeg r26))]) (rest := []) rfl rfl (by rw [hb]; exact (xb_d D_Checker_checkControl 25 rfl))) (ok_Checker_take l hfl D A σ x0 (xb_i h25 b24 (Int32.toNatClampNeg r26)) h25 bc26 bs26 _ _ hw) (hml.trans hl.1.symm) (by rw [hb]; exact (xb_d D_Checker_checkControl 25 rfl)) (Nat.le_of_ble_eq_true rfl) (Nat.le_of_ble_eq_true rfl) (Nat.le_of_ble_eq_true rfl) (show (k + kk26) + bc26 ≤ MC by omega) (show (n + nn26) + bs26 ≤ MS by omega) (xt_w1 hB.1 m_b71cce2b) (xt_cdOf hB.1 m_b71cce2b) (hts _ m_44748ce5) hB hR hS hA (fun vv h29 bc30 bs30 kk30 nn30 H locs hk30 hn30 hq hEh29 hR hS => ?_) (fun XX ax h29 bc30 bs30 kk30 nn30 H locs hk30 hn30 hq hEh29 hex hR hS => ?_)
      · obtain ⟨r30, rfl, hw⟩ := hq
        have hw := hw hEh29
        have hE := hE.tr hEh29
        refine W.eq (g2 := F0 m 176 ls [.int r30]) rfl ?_
        refine lv_pop hx hb (xb_d D_Checker_checkControl 26 rfl) rfl ?_
        refine lv_aload_n hx hb (xb_d D_Checker_checkControl 27 rfl) rfl (lv_at hl 0 rfl) ?_
        have hk23 : xb_k h29 x0 = 5 := hEh29.k hk23
        refine xb_call0 (D := D) (A := A) (σ := σ) (h := h29) (d := 2) (maxL := 1) (rest := []) (av := [.ref x0]) (fun T hT X => by obtain ⟨cb9, ra9, rb9, rc9⟩ := xb_recv (ci := 4) hR rfl hk23 (by decide); exact xt_invV X hx hown (hts _ m_3c20c1e8) (hts _ m_95b7140b) (hts _ m_ecec8718) (xt_sigOf (hts _ m_2825a1fb)) nm_Checker_die (by rw [hT]; exact ra9) rb9 rc9 (g := F0 m 178 ls [.ref x0]) rfl (argsL := []) (rest := []) rfl rfl (by rw [hb]; exact (xb_d D_Checker_checkControl 28 rfl))) (ok_Checker_die l hfl D A σ x0 h29 _ hw) (hml.trans hl.1.symm) (by rw [hb]; exact (xb_d D_Checker_checkControl 28 rfl)) (Nat.le_of_ble_eq_true rfl) (Nat.le_of_ble_eq_true rfl) (Nat.le_of_ble_eq_true rfl) (show ((k + kk26) + kk30) ≤ MC by omega) (show ((n + nn26) + nn30) ≤ MS by omega) (xt_w1 hB.1 m_2825a1fb) (xt_cdOf hB.1 m_2825a1fb) (hts _ m_44748ce5) hB hR hS hA (fun vv h31 H locs hq hEh31 hR hS => ?_)
        obtain ⟨rfl, hw⟩ := hq
        have hw := hw hEh31
        have hE := hE.tr hEh31
        refine W.eq (g2 := F0 m 181 ls []) rfl ?_
        refine lv_goto (tgt := 373) hx hb (xb_d D_Checker_checkControl 29 rfl) rfl ?_
        exact am_Checker_checkControl_L373 l hfl D A σ MC MS h0 Qr Qt h31 bc30 bs30 hw p e s m args below meth c hC H locs ls ((k + kk26) + kk30) ((n + nn26) + nn30) hE (lv_sub hl [] rfl) hR hS (by omega) (by omega)
      · exact xb_pass hlocks (fun x hx9 => by rw [htab] at hx9; first | (cases hx9; done) | (simp [tableOf] at hx9; subst hx9; decide) | (simp [tableOf] at hx9; rcases hx9 with rfl | rfl <;> decide) | (simp [tableOf] at hx9; rcases hx9 with rfl | rfl | rfl <;> decide)) (show ((k + kk26) + kk30) + bc30 ≤ MC by omega) (show ((n + nn26) + nn30) + bs30 ≤ MS by omega) (hE.tr hEh29) hR hS hex hq
    · exact xb_pass hlocks (fun x hx9 => by rw [htab] at hx9; first | (cases hx9; done) | (simp [tableOf] at hx9; subst hx9; decide) | (simp [tableOf] at hx9; rcases hx9 with rfl | rfl <;> decide) | (simp [tableOf] at hx9; rcases hx9 with rfl | rfl | rfl <;> decide)) (show (k + kk26) + bc26 ≤ MC by omega) (show (n + nn26) + bs26 ≤ MS by omega) (hE.tr hEh25) hR hS hex hq
  have hw := hw.2
  by_cases hc33 : x1 = 13
  · have hw := hw.1 hc33
    refine xt_numi hc33 ?_
    refine lv_tableIn (off := 183) (tgt := 184) hx hb (xb_d D_Checker_checkControl 1 rfl) (by decide +kernel) (by decide +kernel) (by decide +kernel) (by decide) ?_
    refine lv_aload_n hx hb (xb_d D_Checker_checkControl 30 rfl) rfl (lv_at hl 0 rfl) ?_
    obtain ⟨hk34, hw⟩ := hw
    refine xb_call (D := D) (A := A) (σ := σ) (h := h) (d := 4) (mc := bc) (ms := bs) (maxL := 2) (rest := []) (av := [.ref x0]) (fun T hT X => by obtain ⟨cb9, ra9, rb9, rc9⟩ := xb_recv (ci := 4) hR rfl hk34 (by decide); exact xt_invV X hx hown (hts _ m_87752099) (hts _ m_1f86a52a) (hts _ m_1a0dfcd9) (xt_sigOf (hts _ m_13cb0be3)) nm_Checker_checkBranchIf (by rw [hT]; exact ra9) rb9 rc9 (g := F0 m 185 ls [.ref x0]) rfl (argsL := []) (rest := []) rfl rfl (by rw [hb]; exact (xb_d D_Checker_checkControl 31 rfl))) (ok_Checker_checkBranchIf l hfl D A σ x0 h bc bs _ _ hw) (hml.trans hl.1.symm) (by rw [hb]; exact (xb_d D_Checker_checkControl 31 rfl)) (Nat.le_of_ble_eq_true rfl) (Nat.le_of_ble_eq_true rfl) (Nat.le_of_ble_eq_true rfl) (show k + bc ≤ MC by omega) (show n + bs ≤ MS by omega) (xt_w1 hB.1 m_13cb0be3) (xt_cdOf hB.1 m_13cb0be3) (hts _ m_44748ce5) hB hR hS hA (fun vv h35 bc36 bs36 kk36 nn36 H locs hk36 hn36 hq hEh35 hR hS => ?_) (fun XX ax h35 bc36 bs36 kk36 nn36 H locs hk36 hn36 hq hEh35 hex hR hS => ?_)
    · obtain ⟨rfl, hw⟩ := hq
      have hw := hw hEh35
      have hE := hE.tr hEh35
      refine W.eq (g2 := F0 m 188 ls []) rfl ?_
      refine lv_goto (tgt := 373) hx hb (xb_d D_Checker_checkControl 32 rfl) rfl ?_
      exact am_Checker_checkControl_L373 l hfl D A σ MC MS h0 Qr Qt h35 bc36 bs36 hw p e s m args below meth c hC H locs ls (k + kk36) (n + nn36) hE (lv_sub hl [] rfl) hR hS (by omega) (by omega)
    · exact xb_pass hlocks (fun x hx9 => by rw [htab] at hx9; first | (cases hx9; done) | (simp [tableOf] at hx9; subst hx9; decide) | (simp [tableOf] at hx9; rcases hx9 with rfl | rfl <;> decide) | (simp [tableOf] at hx9; rcases hx9 with rfl | rfl | rfl <;> decide)) (show (k + kk36) + bc36 ≤ MC by omega) (show (n + nn36) + bs36 ≤ MS by omega) (hE.tr hEh35) hR hS hex hq
  have hw := hw.2
  by_cases hc37 : x1 = 14
  · have hw := hw.1 hc37
    refine xt_numi hc37 ?_
    refine lv_tableIn (off := 190) (tgt := 191) hx hb (xb_d D_Checker_checkControl 1 rfl) (by decide +kernel) (by decide +kernel) (by decide +kernel) (by decide) ?_
    refine lv_aload_n hx hb (xb_d D_Checker_checkControl 33 rfl) rfl (lv_at hl 0 rfl) ?_
    obtain ⟨hk38, hw⟩ := hw
    refine xb_call (D := D) (A := A) (σ := σ) (h := h) (d := 4) (mc := bc) (ms := bs) (maxL := 4) (rest := []) (av := [.ref x0]) (fun T hT X => by obtain ⟨cb9, ra9, rb9, rc9⟩ := xb_recv (ci := 4) hR rfl hk38 (by decide); exact xt_invV X hx hown (hts _ m_abe3f354) (hts _ m_644c3cad) (hts _ m_bd10a36b) (xt_sigOf (hts _ m_1cced3c4)) nm_Checker_checkLabels (by rw [hT]; exact ra9) rb9 rc9 (g := F0 m 192 ls [.ref x0]) rfl (argsL := []) (rest := []) rfl rfl (by rw [hb]; exact (xb_d D_Checker_checkControl 34 rfl))) (ok_Checker_checkLabels l hfl D A σ x0 h bc bs _ _ hw) (hml.trans hl.1.symm) (by rw [hb]; exact (xb_d D_Checker_checkControl 34 rfl)) (Nat.le_of_ble_eq_true rfl) (Nat.le_of_ble_eq_true rfl) (Nat.le_of_ble_eq_true rfl) (show k + bc ≤ MC by omega) (show n + bs ≤ MS by omega) (xt_w1 hB.1 m_1cced3c4) (xt_cdOf hB.1 m_1cced3c4) (hts _ m_44748ce5) hB hR hS hA (fun vv h39 bc40 bs40 kk40 nn40 H locs hk40 hn40 hq hEh39 hR hS => ?_) (fun XX ax h39 bc40 bs40 kk40 nn40 H locs hk40 hn40 hq hEh39 hex hR hS => ?_)
    · obtain ⟨rfl, hw⟩ := hq
      have hw := hw hEh39
      have hE := hE.tr hEh39
      refine W.eq (g2 := F0 m 195 ls []) rfl ?_
      refine lv_goto (tgt := 373) hx hb (xb_d D_Checker_checkControl 35 rfl) rfl ?_
      exact am_Checker_checkControl_L373 l hfl D A σ MC MS h0 Qr Qt h39 bc40 bs40 hw p e s m args below meth c hC H locs ls (k + kk40) (n + nn40) hE (lv_sub hl [] rfl) hR hS (by omega) (by omega)
    · exact xb_pass hlocks (fun x hx9 => by rw [htab] at hx9; first | (cases hx9; done) | (simp [tableOf] at hx9; subst hx9; decide) | (simp [tableOf] at hx9; rcases hx9 with rfl | rfl <;> decide) | (simp [tableOf] at hx9; rcases hx9 with rfl | rfl | rfl <;> decide)) (show (k + kk40) + bc40 ≤ MC by omega) (show (n + nn40) + bs40 ≤ MS by omega) (hE.tr hEh39) hR hS hex hq
  have hw := hw.2
  by_cases hc41 : x1 = 15
  · have hw := hw.1 hc41
    refine xt_numi hc41 ?_
    refine lv_tableIn (off := 197) (tgt := 198) hx hb (xb_d D_Checker_checkControl 1 rfl) (by decide +kernel) (by decide +kernel) (by decide +kernel) (by decide) ?_
    refine lv_aload_n hx hb (xb_d D_Checker_checkControl 36 rfl) rfl (lv_at hl 0 rfl) ?_
    refine lv_aload_n hx hb (xb_d D_Checker_checkControl 37 rfl) rfl (lv_at hl 0 rfl) ?_
    obtain ⟨hk42, hw⟩ := hw
    refine xb_getP (C := R_Checker) (T := F_Checker) (N := 17) hx hb 4 0 hts fin_Checker hown hR hk42 (by decide) rfl (by decide) rfl (hts _ m_070795bc) (fun _ h9 => h9) (xb_d D_Checker_checkControl 38 rfl) ?_
    obtain ⟨b43, eb43, hw⟩ := hw
    refine xb_some eb43 ?_
    refine lv_aload_n hx hb (xb_d D_Checker_checkControl 39 rfl) rfl (lv_at hl 0 rfl) ?_
    refine xb_getI (C := R_Checker) (T := F_Checker) (N := 17) hx hb 4 8 hts fin_Checker hown hR hk42 (by decide) rfl (by decide) rfl (hts _ m_f84c9de3) (fun _ h9 => h9) (xb_d D_Checker_checkControl 40 rfl) ?_
    obtain ⟨hk44, hw⟩ := hw
    refine xb_call0 (D := D) (A := A) (σ := σ) (h := h) (d := 3) (maxL := 2) (rest := [.ref x0]) (av := [.ref b43, .int (xb_i h x0 8)]) (fun T hT X => by obtain ⟨cb9, ra9, rb9, rc9⟩ := xb_recv (ci := 2) hR rfl hk44 (by decide); exact xt_invV X hx hown (hts _ m_ea77f79f) (hts _ m_1d164a26) (hts _ m_57f47ef8) (xt_sigOf (hts _ m_fa540915)) nm_StackModule_resultType (by rw [hT]; exact ra9) rb9 rc9 (g := F0 m 207 ls [.int (xb_i h x0 8), .ref b43, .ref x0]) rfl (argsL := [.int (xb_i h x0 8)]) (rest := [.ref x0]) rfl rfl (by rw [hb]; exact (xb_d D_Checker_checkControl 41 rfl))) (ok_StackModule_resultType l hfl D A σ b43 (xb_i h x0 8) h _ hw) (hml.trans hl.1.symm) (by rw [hb]; exact (xb_d D_Checker_checkControl 41 rfl)) (Nat.le_of_ble_eq_true rfl) (Nat.le_of_ble_eq_true rfl) (Nat.le_of_ble_eq_true rfl) (show k ≤ MC by omega) (show n ≤ MS by omega) (xt_w1 hB.1 m_fa540915) (xt_cdOf hB.1 m_fa540915) (hts _ m_9c375545) hB hR hS hA (fun vv h45 H locs hq hEh45 hR hS => ?_)
    obtain ⟨r46, rfl, hw⟩ := hq
    have hw := hw hEh45
    have hE := hE.tr hEh45
    refine W.eq (g2 := F0 m 210 ls [.int r46, .ref x0]) rfl ?_
    have hk42 : xb_k h45 x0 = 5 := hEh45.k hk42
    refine xb_call (D := D) (A := A) (σ := σ) (h := h45) (d := 3) (mc := bc) (ms := bs) (maxL := 3) (rest := []) (av := [.ref x0, .int r46]) (fun T hT X => by obtain ⟨cb9, ra9, rb9, rc9⟩ := xb_recv (ci := 4) hR rfl hk42 (by decide); exact xt_invV X hx hown (hts _ m_0b33e20f) (hts _ m_338dda25) (hts _ m_d7dc08f9) (xt_sigOf (hts _ m_b71cce2b)) nm_Checker_take (by rw [hT]; exact ra9) rb9 rc9 (g := F0 m 210 ls [.int r46, .ref x0]) rfl (argsL := [.int r46]) (rest := []) rfl rfl (by rw [hb]; exact (xb_d D_Checker_checkControl 42 rfl))) (ok_Checker_take l hfl D A σ x0 r46 h45 bc bs _ _ hw) (hml.trans hl.1.symm) (by rw [hb]; exact (xb_d D_Checker_checkControl 42 rfl)) (Nat.le_of_ble_eq_true rfl) (Nat.le_of_ble_eq_true rfl) (Nat.le_of_ble_eq_true rfl) (show k + bc ≤ MC by omega) (show n + bs ≤ MS by omega) (xt_w1 hB.1 m_b71cce2b) (xt_cdOf hB.1 m_b71cce2b) (hts _ m_44748ce5) hB hR hS hA (fun vv h47 bc48 bs48 kk48 nn48 H locs hk48 hn48 hq hEh47 hR hS => ?_) (fun XX ax h47 bc48 bs48 kk48 nn48 H locs hk48 hn48 hq hEh47 hex hR hS => ?_)
    · obtain ⟨r48, rfl, hw⟩ := hq
      have hw := hw hEh47
      have hE := hE.tr hEh47
      refine W.eq (g2 := F0 m 213 ls [.int r48]) rfl ?_
      refine lv_pop hx hb (xb_d D_Checker_checkControl 43 rfl) rfl ?_
      refine lv_aload_n hx hb (xb_d D_Checker_checkControl 44 rfl) rfl (lv_at hl 0 rfl) ?_
      have hk42 : xb_k h47 x0 = 5 := hEh47.k hk42
      refine xb_call0 (D := D) (A := A) (σ := σ) (h := h47) (d := 2) (maxL := 1) (rest := []) (av := [.ref x0]) (fun T hT X => by obtain ⟨cb9, ra9, rb9, rc9⟩ := xb_recv (ci := 4) hR rfl hk42 (by decide); exact xt_invV X hx hown (hts _ m_3c20c1e8) (hts _ m_95b7140b) (hts _ m_ecec8718) (xt_sigOf (hts _ m_2825a1fb)) nm_Checker_die (by rw [hT]; exact ra9) rb9 rc9 (g := F0 m 215 ls [.ref x0]) rfl (argsL := []) (rest := []) rfl rfl (by rw [hb]; exact (xb_d D_Checker_checkControl 45 rfl))) (ok_Checker_die l hfl D A σ x0 h47 _ hw) (hml.trans hl.1.symm) (by rw [hb]; exact (xb_d D_Checker_checkControl 45 rfl)) (Nat.le_of_ble_eq_true rfl) (Nat.le_of_ble_eq_true rfl) (Nat.le_of_ble_eq_true rfl) (show (k + kk48) ≤ MC by omega) (show (n + nn48) ≤ MS by omega) (xt_w1 hB.1 m_2825a1fb) (xt_cdOf hB.1 m_2825a1fb) (hts _ m_44748ce5) hB hR hS hA (fun vv h49 H locs hq hEh49 hR hS => ?_)
      obtain ⟨rfl, hw⟩ := hq
      have hw := hw hEh49
      have hE := hE.tr hEh49
      refine W.eq (g2 := F0 m 218 ls []) rfl ?_
      refine lv_goto (tgt := 373) hx hb (xb_d D_Checker_checkControl 46 rfl) rfl ?_
      exact am_Checker_checkControl_L373 l hfl D A σ MC MS h0 Qr Qt h49 bc48 bs48 hw p e s m args below meth c hC H locs ls (k + kk48) (n + nn48) hE (lv_sub hl [] rfl) hR hS (by omega) (by omega)
    · exact xb_pass hlocks (fun x hx9 => by rw [htab] at hx9; first | (cases hx9; done) | (simp [tableOf] at hx9; subst hx9; decide) | (simp [tableOf] at hx9; rcases hx9 with rfl | rfl <;> decide) | (simp [tableOf] at hx9; rcases hx9 with rfl | rfl | rfl <;> decide)) (show (k + kk48) + bc48 ≤ MC by omega) (show (n + nn48) + bs48 ≤ MS by omega) (hE.tr hEh47) hR hS hex hq
  have hw := hw.2
  by_cases hc51 : x1 = 16
  · have hw := hw.1 hc51
    refine xt_numi hc51 ?_
    refine lv_tableIn (off := 220) (tgt := 221) hx hb (xb_d D_Checker_checkControl 1 rfl) (by decide +kernel) (by decide +kernel) (by decide +kernel) (by decide) ?_
    refine lv_aload_n hx hb (xb_d D_Checker_checkControl 47 rfl) rfl (lv_at hl 0 rfl) ?_
    refine lv_aload_n hx hb (xb_d D_Checker_checkControl 48 rfl) rfl (lv_at hl 0 rfl) ?_
    obtain ⟨hk52, hw⟩ := hw
    refine xb_getP (C := R_Checker) (T := F_Checker) (N := 17) hx hb 4 2 hts fin_Checker hown hR hk52 (by decide) rfl (by decide) rfl (hts _ m_b5ef1148) (fun _ h9 => h9) (xb_d D_Checker_checkControl 49 rfl) ?_
    obtain ⟨b53, eb53, hw⟩ := hw
    refine xb_some eb53 ?_
    refine lv_aload_n hx hb (xb_d D_Checker_checkControl 50 rfl) rfl (lv_at hl 0 rfl) ?_
    refine xb_getI (C := R_Checker) (T := F_Checker) (N := 17) hx hb 4 9 hts fin_Checker hown hR hk52 (by decide) rfl (by decide) rfl (hts _ m_28193d38) (fun _ h9 => h9) (xb_d D_Checker_checkControl 51 rfl) ?_
    refine lv_iconst (v := 1) hx hb (xb_d D_Checker_checkControl 52 rfl) (by decide) ?_
    refine lv_iadd hx hb (xb_d D_Checker_checkControl 53 rfl) ?_
    obtain ⟨hk55, hw⟩ := hw
    obtain ⟨hi54, hw⟩ := hw
    refine xb_iald hx hb hR hk55 hi54 (xb_d D_Checker_checkControl 54 rfl) ?_
    refine lv_i2l hx hb (xb_d D_Checker_checkControl 55 rfl) rfl ?_
    refine lv_aload_n hx hb (xb_d D_Checker_checkControl 56 rfl) rfl (lv_at hl 0 rfl) ?_
    refine xb_getP (C := R_Checker) (T := F_Checker) (N := 17) hx hb 4 0 hts fin_Checker hown hR hk52 (by decide) rfl (by decide) rfl (hts _ m_070795bc) (fun _ h9 => h9) (xb_d D_Checker_checkControl 57 rfl) ?_
    obtain ⟨b56, eb56, hw⟩ := hw
    refine xb_some eb56 ?_
    obtain ⟨hk57, hw⟩ := hw
    refine xb_getP (C := R_StackModule) (T := F_StackModule) (N := 19) hx hb 2 4 hts fin_StackModule hown hR hk57 (by decide) rfl (by decide) rfl (hts _ m_74009c24) (fun _ h9 => h9) (xb_d D_Checker_checkControl 58 rfl) ?_
    obtain ⟨b58, eb58, hw⟩ := hw
    refine xb_some eb58 ?_
    obtain ⟨hk59, hw⟩ := hw
    refine xb_call0 (D := D) (A := A) (σ := σ) (h := h) (d := 2) (maxL := 1) (rest := [.long (Int32.toInt64 (xb_i h b53 (Int32.toNatClampNeg ((xb_i h x0 9) + 1)))), .ref x0]) (av := [.ref b58]) (fun T hT X => by obtain ⟨cb9, ra9, rb9, rc9⟩ := xb_recv (ci := 1) hR rfl hk59 (by decide); exact xt_invV X hx hown (hts _ m_c8b950b4) (hts _ m_ded65609) (hts _ m_a4161156) (xt_sigOf (hts _ m_83ba3721)) nm_Row_lines (by rw [hT]; exact ra9) rb9 rc9 (g := F0 m 241 ls [.ref b58, .long (Int32.toInt64 (xb_i h b53 (Int32.toNatClampNeg ((xb_i h x0 9) + 1)))), .ref x0]) rfl (argsL := []) (rest := [.long (Int32.toInt64 (xb_i h b53 (Int32.toNatClampNeg ((xb_i h x0 9) + 1)))), .ref x0]) rfl rfl (by rw [hb]; exact (xb_d D_Checker_checkControl 59 rfl))) (ok_Row_lines l hfl D A σ b58 h _ hw) (hml.trans hl.1.symm) (by rw [hb]; exact (xb_d D_Checker_checkControl 59 rfl)) (Nat.le_of_ble_eq_true rfl) (Nat.le_of_ble_eq_true rfl) (Nat.le_of_ble_eq_true rfl) (show k ≤ MC by omega) (show n ≤ MS by omega) (xt_w1 hB.1 m_83ba3721) (xt_cdOf hB.1 m_83ba3721) (hts _ m_c1bef504) hB hR hS hA (fun vv h60 H locs hq hEh60 hR hS => ?_)
    obtain ⟨r61, rfl, hw⟩ := hq
    have hw := hw hEh60
    have hE := hE.tr hEh60
    refine W.eq (g2 := F0 m 244 ls [.int r61, .long (Int32.toInt64 (xb_i h b53 (Int32.toNatClampNeg ((xb_i h x0 9) + 1)))), .ref x0]) rfl ?_
    refine xb_call0 (D := D) (A := A) (σ := σ) (h := h60) (d := 2) (maxL := 3) (rest := [.ref x0]) (av := [.long (Int32.toInt64 (xb_i h b53 (Int32.toNatClampNeg ((xb_i h x0 9) + 1)))), .int r61]) (fun T hT X => xt_invS X hx hown (hts _ m_fe08b245) (hts _ m_9ad1e0af) (hts _ m_44748ce5) (xt_sgS (hts _ m_2237aee6)).1 (xt_sgS (hts _ m_2237aee6)).2 nm_Checker_isThere (g := F0 m 244 ls [.int r61, .long (Int32.toInt64 (xb_i h b53 (Int32.toNatClampNeg ((xb_i h x0 9) + 1)))), .ref x0]) rfl (argsL := [.long (Int32.toInt64 (xb_i h b53 (Int32.toNatClampNeg ((xb_i h x0 9) + 1)))), .int r61]) (rest := [.ref x0]) rfl rfl (by rw [hb]; exact (xb_d D_Checker_checkControl 60 rfl))) (ok_Checker_isThere l hfl D A σ (Int32.toInt64 (xb_i h b53 (Int32.toNatClampNeg ((xb_i h x0 9) + 1)))) r61 h60 _ hw) (hml.trans hl.1.symm) (by rw [hb]; exact (xb_d D_Checker_checkControl 60 rfl)) (Nat.le_of_ble_eq_true rfl) (Nat.le_of_ble_eq_true rfl) (Nat.le_of_ble_eq_true rfl) (show k ≤ MC by omega) (show n ≤ MS by omega) (xt_w1 hB.1 m_2237aee6) (xt_cdOf hB.1 m_2237aee6) (hts _ m_44748ce5) hB hR hS hA (fun vv h62 H locs hq hEh62 hR hS => ?_)
    obtain ⟨r63, rfl, hw⟩ := hq
    have hw := hw hEh62
    have hE := hE.tr hEh62
    refine W.eq (g2 := F0 m 247 ls [.int r63, .ref x0]) rfl ?_
    refine lv_bipush (v := 20) hx hb (xb_d D_Checker_checkControl 61 rfl) (by decide) ?_
    have hk52 : xb_k h60 x0 = 5 := hEh60.k hk52
    have hk52 : xb_k h62 x0 = 5 := hEh62.k hk52
    refine xb_call (D := D) (A := A) (σ := σ) (h := h62) (d := 3) (mc := bc) (ms := bs) (maxL := 3) (rest := []) (av := [.ref x0, .int r63, .int 20]) (fun T hT X => by obtain ⟨cb9, ra9, rb9, rc9⟩ := xb_recv (ci := 4) hR rfl hk52 (by decide); exact xt_invV X hx hown (hts _ m_0a242445) (hts _ m_a99c45f7) (hts _ m_978d7491) (xt_sigOf (hts _ m_01f2fc97)) nm_Checker_require (by rw [hT]; exact ra9) rb9 rc9 (g := F0 m 249 ls [.int 20, .int r63, .ref x0]) rfl (argsL := [.int r63, .int 20]) (rest := []) rfl rfl (by rw [hb]; exact (xb_d D_Checker_checkControl 62 rfl))) (ok_Checker_require l hfl D A σ x0 r63 20 h62 bc bs _ _ hw) (hml.trans hl.1.symm) (by rw [hb]; exact (xb_d D_Checker_checkControl 62 rfl)) (Nat.le_of_ble_eq_true rfl) (Nat.le_of_ble_eq_true rfl) (Nat.le_of_ble_eq_true rfl) (show k + bc ≤ MC by omega) (show n + bs ≤ MS by omega) (xt_w1 hB.1 m_01f2fc97) (xt_cdOf hB.1 m_01f2fc97) (hts _ m_44748ce5) hB hR hS hA (fun vv h64 bc65 bs65 kk65 nn65 H locs hk65 hn65 hq hEh64 hR hS => ?_) (fun XX ax h64 bc65 bs65 kk65 nn65 H locs hk65 hn65 hq hEh64 hex hR hS => ?_)
    · obtain ⟨rfl, hw⟩ := hq
      have hw := hw hEh64
      have hE := hE.tr hEh64
      refine W.eq (g2 := F0 m 252 ls []) rfl ?_
      refine lv_aload_n hx hb (xb_d D_Checker_checkControl 63 rfl) rfl (lv_at hl 0 rfl) ?_
      refine lv_aload_n hx hb (xb_d D_Checker_checkControl 64 rfl) rfl (lv_at hl 0 rfl) ?_
      have hk52 : xb_k h64 x0 = 5 := hEh64.k hk52
      refine xb_getP (C := R_Checker) (T := F_Checker) (N := 17) hx hb 4 0 hts fin_Checker hown hR hk52 (by decide) rfl (by decide) rfl (hts _ m_070795bc) (fun _ h9 => h9) (xb_d D_Checker_checkControl 65 rfl) ?_
      obtain ⟨b66, eb66, hw⟩ := hw
      refine xb_some eb66 ?_
      refine lv_aload_n hx hb (xb_d D_Checker_checkControl 66 rfl) rfl (lv_at hl 0 rfl) ?_
      refine xb_getP (C := R_Checker) (T := F_Checker) (N := 17) hx hb 4 2 hts fin_Checker hown hR hk52 (by decide) rfl (by decide) rfl (hts _ m_b5ef1148) (fun _ h9 => h9) (xb_d D_Checker_checkControl 67 rfl) ?_
      obtain ⟨b67, eb67, hw⟩ := hw
      refine xb_some eb67 ?_
      refine lv_aload_n hx hb (xb_d D_Checker_checkControl 68 rfl) rfl (lv_at hl 0 rfl) ?_
      refine xb_getI (C := R_Checker) (T := F_Checker) (N := 17) hx hb 4 9 hts fin_Checker hown hR hk52 (by decide) rfl (by decide) rfl (hts _ m_28193d38) (fun _ h9 => h9) (xb_d D_Checker_checkControl 69 rfl) ?_
      refine lv_iconst (v := 1) hx hb (xb_d D_Checker_checkControl 70 rfl) (by decide) ?_
      refine lv_iadd hx hb (xb_d D_Checker_checkControl 71 rfl) ?_
      obtain ⟨hk69, hw⟩ := hw
      obtain ⟨hi68, hw⟩ := hw
      refine xb_iald hx hb hR hk69 hi68 (xb_d D_Checker_checkControl 72 rfl) ?_
      obtain ⟨hk70, hw⟩ := hw
      refine xb_call0 (D := D) (A := A) (σ := σ) (h := h64) (d := 3) (maxL := 2) (rest := [.ref x0]) (av := [.ref b66, .int (xb_i h64 b67 (Int32.toNatClampNeg ((xb_i h64 x0 9) + 1)))]) (fun T hT X => by obtain ⟨cb9, ra9, rb9, rc9⟩ := xb_recv (ci := 2) hR rfl hk70 (by decide); exact xt_invV X hx hown (hts _ m_ad67eca9) (hts _ m_eb5729e5) (hts _ m_9cf0d8be) (xt_sigOf (hts _ m_42e2443a)) nm_StackModule_typeOf (by rw [hT]; exact ra9) rb9 rc9 (g := F0 m 268 ls [.int (xb_i h64 b67 (Int32.toNatClampNeg ((xb_i h64 x0 9) + 1))), .ref b66, .ref x0]) rfl (argsL := [.int (xb_i h64 b67 (Int32.toNatClampNeg ((xb_i h64 x0 9) + 1)))]) (rest := [.ref x0]) rfl rfl (by rw [hb]; exact (xb_d D_Checker_checkControl 73 rfl))) (ok_StackModule_typeOf l hfl D A σ b66 (xb_i h64 b67 (Int32.toNatClampNeg ((xb_i h64 x0 9) + 1))) h64 _ hw) (hml.trans hl.1.symm) (by rw [hb]; exact (xb_d D_Checker_checkControl 73 rfl)) (Nat.le_of_ble_eq_true rfl) (Nat.le_of_ble_eq_true rfl) (Nat.le_of_ble_eq_true rfl) (show (k + kk65) ≤ MC by omega) (show (n + nn65) ≤ MS by omega) (xt_w1 hB.1 m_42e2443a) (xt_cdOf hB.1 m_42e2443a) (hts _ m_9c375545) hB hR hS hA (fun vv h71 H locs hq hEh71 hR hS => ?_)
      obtain ⟨r72, rfl, hw⟩ := hq
      have hw := hw hEh71
      have hE := hE.tr hEh71
      refine W.eq (g2 := F0 m 271 ls [.int r72, .ref x0]) rfl ?_
      have hk52 : xb_k h71 x0 = 5 := hEh71.k hk52
      refine xb_call (D := D) (A := A) (σ := σ) (h := h71) (d := 4) (mc := bc65) (ms := bs65) (maxL := 3) (rest := []) (av := [.ref x0, .int r72]) (fun T hT X => by obtain ⟨cb9, ra9, rb9, rc9⟩ := xb_recv (ci := 4) hR rfl hk52 (by decide); exact xt_invV X hx hown (hts _ m_53bf7c26) (hts _ m_a410aa74) (hts _ m_96023d07) (xt_sigOf (hts _ m_9846e217)) nm_Checker_checkCall (by rw [hT]; exact ra9) rb9 rc9 (g := F0 m 271 ls [.int r72, .ref x0]) rfl (argsL := [.int r72]) (rest := []) rfl rfl (by rw [hb]; exact (xb_d D_Checker_checkControl 74 rfl))) (ok_Checker_checkCall l hfl D A σ x0 r72 h71 bc65 bs65 _ _ hw) (hml.trans hl.1.symm) (by rw [hb]; exact (xb_d D_Checker_checkControl 74 rfl)) (Nat.le_of_ble_eq_true rfl) (Nat.le_of_ble_eq_true rfl) (Nat.le_of_ble_eq_true rfl) (show (k + kk65) + bc65 ≤ MC by omega) (show (n + nn65) + bs65 ≤ MS by omega) (xt_w1 hB.1 m_9846e217) (xt_cdOf hB.1 m_9846e217) (hts _ m_44748ce5) hB hR hS hA (fun vv h73 bc74 bs74 kk74 nn74 H locs hk74 hn74 hq hEh73 hR hS => ?_) (fun XX ax h73 bc74 bs74 kk74 nn74 H locs hk74 hn74 hq hEh73 hex hR hS => ?_)
      · obtain ⟨rfl, hw⟩ := hq
        have hw := hw hEh73
        have hE := hE.tr hEh73
        refine W.eq (g2 := F0 m 274 ls []) rfl ?_
        refine lv_goto (tgt := 373) hx hb (xb_d D_Checker_checkControl 75 rfl) rfl ?_
        exact am_Checker_checkControl_L373 l hfl D A σ MC MS h0 Qr Qt h73 bc74 bs74 hw p e s m args below meth c hC H locs ls ((k + kk65) + kk74) ((n + nn65) + nn74) hE (lv_sub hl [] rfl) hR hS (by omega) (by omega)
      · exact xb_pass hlocks (fun x hx9 => by rw [htab] at hx9; first | (cases hx9; done) | (simp [tableOf] at hx9; subst hx9; decide) | (simp [tableOf] at hx9; rcases hx9 with rfl | rfl <;> decide) | (simp [tableOf] at hx9; rcases hx9 with rfl | rfl | rfl <;> decide)) (show ((k + kk65) + kk74) + bc74 ≤ MC by omega) (show ((n + nn65) + nn74) + bs74 ≤ MS by omega) (hE.tr hEh73) hR hS hex hq
    · exact xb_pass hlocks (fun x hx9 => by rw [htab] at hx9; first | (cases hx9; done) | (simp [tableOf] at hx9; subst hx9; decide) | (simp [tableOf] at hx9; rcases hx9 with rfl | rfl <;> decide) | (simp [tableOf] at hx9; rcases hx9 with rfl | rfl | rfl <;> decide)) (show (k + kk65) + bc65 ≤ MC by omega) (show (n + nn65) + bs65 ≤ MS by omega) (hE.tr hEh64) hR hS hex hq
  have hw := hw.2
  by_cases hc75 : x1 = 17
  · have hw := hw.1 hc75
    refine xt_numi hc75 ?_
    refine lv_tableIn (off := 276) (tgt := 277) hx hb (xb_d D_Checker_checkControl 1 rfl) (by decide +kernel) (by decide +kernel) (by decide +kernel) (by decide) ?_
    refine lv_aload_n hx hb (xb_d D_Checker_checkControl 76 rfl) rfl (lv_at hl 0 rfl) ?_
    refine lv_aload_n hx hb (xb_d D_Checker_checkControl 77 rfl) rfl (lv_at hl 0 rfl) ?_
    obtain ⟨hk76, hw⟩ := hw
    refine xb_getP (C := R_Checker) (T := F_Checker) (N := 17) hx hb 4 0 hts fin_Checker hown hR hk76 (by decide) rfl (by decide) rfl (hts _ m_070795bc) (fun _ h9 => h9) (xb_d D_Checker_checkControl 78 rfl) ?_
    obtain ⟨b77, eb77, hw⟩ := hw
    refine xb_some eb77 ?_
    obtain ⟨hk78, hw⟩ := hw
    refine xb_getP (C := R_StackModule) (T := F_StackModule) (N := 19) hx hb 2 5 hts fin_StackModule hown hR hk78 (by decide) rfl (by decide) rfl (hts _ m_81589b2f) (fun _ h9 => h9) (xb_d D_Checker_checkControl 79 rfl) ?_
    obtain ⟨b79, eb79, hw⟩ := hw
    refine xb_some eb79 ?_
    obtain ⟨hk80, hw⟩ := hw
    refine xb_call0 (D := D) (A := A) (σ := σ) (h := h) (d := 2) (maxL := 1) (rest := [.ref x0]) (av := [.ref b79]) (fun T hT X => by obtain ⟨cb9, ra9, rb9, rc9⟩ := xb_recv (ci := 1) hR rfl hk80 (by decide); exact xt_invV X hx hown (hts _ m_c8b950b4) (hts _ m_ded65609) (hts _ m_a4161156) (xt_sigOf (hts _ m_83ba3721)) nm_Row_lines (by rw [hT]; exact ra9) rb9 rc9 (g := F0 m 285 ls [.ref b79, .ref x0]) rfl (argsL := []) (rest := [.ref x0]) rfl rfl (by rw [hb]; exact (xb_d D_Checker_checkControl 80 rfl))) (ok_Row_lines l hfl D A σ b79 h _ hw) (hml.trans hl.1.symm) (by rw [hb]; exact (xb_d D_Checker_checkControl 80 rfl)) (Nat.le_of_ble_eq_true rfl) (Nat.le_of_ble_eq_true rfl) (Nat.le_of_ble_eq_true rfl) (show k ≤ MC by omega) (show n ≤ MS by omega) (xt_w1 hB.1 m_83ba3721) (xt_cdOf hB.1 m_83ba3721) (hts _ m_c1bef504) hB hR hS hA (fun vv h81 H locs hq hEh81 hR hS => ?_)
    obtain ⟨r82, rfl, hw⟩ := hq
    have hw := hw hEh81
    have hE := hE.tr hEh81
    refine W.eq (g2 := F0 m 288 ls [.int r82, .ref x0]) rfl ?_
    refine lv_if_le (tgt := 295) hx hb (xb_d D_Checker_checkControl 81 rfl) rfl (fun hc83 => ?_) (fun hc83 => ?_)
    · have hw := hw.1 hc83
      refine lv_iconst (v := 0) hx hb (xb_d D_Checker_checkControl 84 rfl) (by decide) ?_
      exact am_Checker_checkControl_L296 l hfl D A σ MC MS h0 Qr Qt x0 0 x0 h81 bc bs hw p e s m args below meth c hC H locs ls k n hE (lv_sub hl [0] rfl) hR hS (by omega) (by omega)
    · have hw := hw.2 hc83
      refine lv_iconst (v := 1) hx hb (xb_d D_Checker_checkControl 82 rfl) (by decide) ?_
      refine lv_goto (tgt := 296) hx hb (xb_d D_Checker_checkControl 83 rfl) rfl ?_
      exact am_Checker_checkControl_L296 l hfl D A σ MC MS h0 Qr Qt x0 1 x0 h81 bc bs hw p e s m args below meth c hC H locs ls k n hE (lv_sub hl [0] rfl) hR hS (by omega) (by omega)
  have hw := hw.2
  by_cases hc84 : x1 = 18
  · have hw := hw.1 hc84
    refine xt_numi hc84 ?_
    refine lv_tableIn (off := 372) (tgt := 373) hx hb (xb_d D_Checker_checkControl 1 rfl) (by decide +kernel) (by decide +kernel) (by decide +kernel) (by decide) ?_
    exact am_Checker_checkControl_L373 l hfl D A σ MC MS h0 Qr Qt h bc bs hw p e s m args below meth c hC H locs ls k n hE (lv_sub hl [] rfl) hR hS (by omega) (by omega)
  have hw := hw.2
  by_cases hc85 : x1 = 19
  · have hw := hw.1 hc85
    refine xt_numi hc85 ?_
    refine lv_tableIn (off := 372) (tgt := 373) hx hb (xb_d D_Checker_checkControl 1 rfl) (by decide +kernel) (by decide +kernel) (by decide +kernel) (by decide) ?_
    exact am_Checker_checkControl_L373 l hfl D A σ MC MS h0 Qr Qt h bc bs hw p e s m args below meth c hC H locs ls k n hE (lv_sub hl [] rfl) hR hS (by omega) (by omega)
  have hw := hw.2
  by_cases hc86 : x1 = 20
  · have hw := hw.1 hc86
    refine xt_numi hc86 ?_
    refine lv_tableIn (off := 372) (tgt := 373) hx hb (xb_d D_Checker_checkControl 1 rfl) (by decide +kernel) (by decide +kernel) (by decide +kernel) (by decide) ?_
    exact am_Checker_checkControl_L373 l hfl D A σ MC MS h0 Qr Qt h bc bs hw p e s m args below meth c hC H locs ls k n hE (lv_sub hl [] rfl) hR hS (by omega) (by omega)
  have hw := hw.2
  by_cases hc87 : x1 = 21
  · have hw := hw.1 hc87
    refine xt_numi hc87 ?_
    refine lv_tableIn (off := 372) (tgt := 373) hx hb (xb_d D_Checker_checkControl 1 rfl) (by decide +kernel) (by decide +kernel) (by decide +kernel) (by decide) ?_
    exact am_Checker_checkControl_L373 l hfl D A σ MC MS h0 Qr Qt h bc bs hw p e s m args below meth c hC H locs ls k n hE (lv_sub hl [] rfl) hR hS (by omega) (by omega)
  have hw := hw.2
  by_cases hc88 : x1 = 22
  · have hw := hw.1 hc88
    refine xt_numi hc88 ?_
    refine lv_tableIn (off := 372) (tgt := 373) hx hb (xb_d D_Checker_checkControl 1 rfl) (by decide +kernel) (by decide +kernel) (by decide +kernel) (by decide) ?_
    exact am_Checker_checkControl_L373 l hfl D A σ MC MS h0 Qr Qt h bc bs hw p e s m args below meth c hC H locs ls k n hE (lv_sub hl [] rfl) hR hS (by omega) (by omega)
  have hw := hw.2
  by_cases hc89 : x1 = 23
  · have hw := hw.1 hc89
    refine xt_numi hc89 ?_
    refine lv_tableIn (off := 372) (tgt := 373) hx hb (xb_d D_Checker_checkControl 1 rfl) (by decide +kernel) (by decide +kernel) (by decide +kernel) (by decide) ?_
    exact am_Checker_checkControl_L373 l hfl D A σ MC MS h0 Qr Qt h bc bs hw p e s m args below meth c hC H locs ls k n hE (lv_sub hl [] rfl) hR hS (by omega) (by omega)
  have hw := hw.2
  by_cases hc90 : x1 = 24
  · have hw := hw.1 hc90
    refine xt_numi hc90 ?_
    refine lv_tableIn (off := 372) (tgt := 373) hx hb (xb_d D_Checker_checkControl 1 rfl) (by decide +kernel) (by decide +kernel) (by decide +kernel) (by decide) ?_
    exact am_Checker_checkControl_L373 l hfl D A σ MC MS h0 Qr Qt h bc bs hw p e s m args below meth c hC H locs ls k n hE (lv_sub hl [] rfl) hR hS (by omega) (by omega)
  have hw := hw.2
  by_cases hc91 : x1 = 25
  · have hw := hw.1 hc91
    refine xt_numi hc91 ?_
    refine lv_tableIn (off := 372) (tgt := 373) hx hb (xb_d D_Checker_checkControl 1 rfl) (by decide +kernel) (by decide +kernel) (by decide +kernel) (by decide) ?_
    exact am_Checker_checkControl_L373 l hfl D A σ MC MS h0 Qr Qt h bc bs hw p e s m args below meth c hC H locs ls k n hE (lv_sub hl [] rfl) hR hS (by omega) (by omega)
  have hw := hw.2
  by_cases hc92 : x1 = 26
  · have hw := hw.1 hc92
    refine xt_numi hc92 ?_
    refine lv_tableIn (off := 356) (tgt := 357) hx hb (xb_d D_Checker_checkControl 1 rfl) (by decide +kernel) (by decide +kernel) (by decide +kernel) (by decide) ?_
    refine lv_aload_n hx hb (xb_d D_Checker_checkControl 117 rfl) rfl (lv_at hl 0 rfl) ?_
    refine lv_iconst (v := 0) hx hb (xb_d D_Checker_checkControl 118 rfl) (by decide) ?_
    obtain ⟨hk93, hw⟩ := hw
    refine xb_call (D := D) (A := A) (σ := σ) (h := h) (d := 3) (mc := bc) (ms := bs) (maxL := 3) (rest := []) (av := [.ref x0, .int 0]) (fun T hT X => by obtain ⟨cb9, ra9, rb9, rc9⟩ := xb_recv (ci := 4) hR rfl hk93 (by decide); exact xt_invV X hx hown (hts _ m_0b33e20f) (hts _ m_338dda25) (hts _ m_d7dc08f9) (xt_sigOf (hts _ m_b71cce2b)) nm_Checker_take (by rw [hT]; exact ra9) rb9 rc9 (g := F0 m 359 ls [.int 0, .ref x0]) rfl (argsL := [.int 0]) (rest := []) rfl rfl (by rw [hb]; exact (xb_d D_Checker_checkControl 119 rfl))) (ok_Checker_take l hfl D A σ x0 0 h bc bs _ _ hw) (hml.trans hl.1.symm) (by rw [hb]; exact (xb_d D_Checker_checkControl 119 rfl)) (Nat.le_of_ble_eq_true rfl) (Nat.le_of_ble_eq_true rfl) (Nat.le_of_ble_eq_true rfl) (show k + bc ≤ MC by omega) (show n + bs ≤ MS by omega) (xt_w1 hB.1 m_b71cce2b) (xt_cdOf hB.1 m_b71cce2b) (hts _ m_44748ce5) hB hR hS hA (fun vv h94 bc95 bs95 kk95 nn95 H locs hk95 hn95 hq hEh94 hR hS => ?_) (fun XX ax h94 bc95 bs95 kk95 nn95 H locs hk95 hn95 hq hEh94 hex hR hS => ?_)
    · obtain ⟨r95, rfl, hw⟩ := hq
      have hw := hw hEh94
      have hE := hE.tr hEh94
      refine W.eq (g2 := F0 m 362 ls [.int r95]) rfl ?_
      refine lv_pop hx hb (xb_d D_Checker_checkControl 120 rfl) rfl ?_
      refine lv_goto (tgt := 373) hx hb (xb_d D_Checker_checkControl 121 rfl) rfl ?_
      exact am_Checker_checkControl_L373 l hfl D A σ MC MS h0 Qr Qt h94 bc95 bs95 hw p e s m args below meth c hC H locs ls (k + kk95) (n + nn95) hE (lv_sub hl [] rfl) hR hS (by omega) (by omega)
    · exact xb_pass hlocks (fun x hx9 => by rw [htab] at hx9; first | (cases hx9; done) | (simp [tableOf] at hx9; subst hx9; decide) | (simp [tableOf] at hx9; rcases hx9 with rfl | rfl <;> decide) | (simp [tableOf] at hx9; rcases hx9 with rfl | rfl | rfl <;> decide)) (show (k + kk95) + bc95 ≤ MC by omega) (show (n + nn95) + bs95 ≤ MS by omega) (hE.tr hEh94) hR hS hex hq
  have hw := hw.2
  by_cases hc96 : x1 = 27
  · have hw := hw.1 hc96
    refine xt_numi hc96 ?_
    refine lv_tableIn (off := 365) (tgt := 366) hx hb (xb_d D_Checker_checkControl 1 rfl) (by decide +kernel) (by decide +kernel) (by decide +kernel) (by decide) ?_
    refine lv_aload_n hx hb (xb_d D_Checker_checkControl 122 rfl) rfl (lv_at hl 0 rfl) ?_
    obtain ⟨hk97, hw⟩ := hw
    refine xb_call (D := D) (A := A) (σ := σ) (h := h) (d := 4) (mc := bc) (ms := bs) (maxL := 3) (rest := []) (av := [.ref x0]) (fun T hT X => by obtain ⟨cb9, ra9, rb9, rc9⟩ := xb_recv (ci := 4) hR rfl hk97 (by decide); exact xt_invV X hx hown (hts _ m_16ce30ef) (hts _ m_a56d2e34) (hts _ m_3789701f) (xt_sigOf (hts _ m_36ed177c)) nm_Checker_checkSelect (by rw [hT]; exact ra9) rb9 rc9 (g := F0 m 367 ls [.ref x0]) rfl (argsL := []) (rest := []) rfl rfl (by rw [hb]; exact (xb_d D_Checker_checkControl 123 rfl))) (ok_Checker_checkSelect l hfl D A σ x0 h bc bs _ _ hw) (hml.trans hl.1.symm) (by rw [hb]; exact (xb_d D_Checker_checkControl 123 rfl)) (Nat.le_of_ble_eq_true rfl) (Nat.le_of_ble_eq_true rfl) (Nat.le_of_ble_eq_true rfl) (show k + bc ≤ MC by omega) (show n + bs ≤ MS by omega) (xt_w1 hB.1 m_36ed177c) (xt_cdOf hB.1 m_36ed177c) (hts _ m_44748ce5) hB hR hS hA (fun vv h98 bc99 bs99 kk99 nn99 H locs hk99 hn99 hq hEh98 hR hS => ?_) (fun XX ax h98 bc99 bs99 kk99 nn99 H locs hk99 hn99 hq hEh98 hex hR hS => ?_)
    · obtain ⟨rfl, hw⟩ := hq
      have hw := hw hEh98
      have hE := hE.tr hEh98
      refine W.eq (g2 := F0 m 370 ls []) rfl ?_
      refine lv_goto (tgt := 373) hx hb (xb_d D_Checker_checkControl 124 rfl) rfl ?_
      exact am_Checker_checkControl_L373 l hfl D A σ MC MS h0 Qr Qt h98 bc99 bs99 hw p e s m args below meth c hC H locs ls (k + kk99) (n + nn99) hE (lv_sub hl [] rfl) hR hS (by omega) (by omega)
    · exact xb_pass hlocks (fun x hx9 => by rw [htab] at hx9; first | (cases hx9; done) | (simp [tableOf] at hx9; subst hx9; decide) | (simp [tableOf] at hx9; rcases hx9 with rfl | rfl <;> decide) | (simp [tableOf] at hx9; rcases hx9 with rfl | rfl | rfl <;> decide)) (show (k + kk99) + bc99 ≤ MC by omega) (show (n + nn99) + bs99 ≤ MS by omega) (hE.tr hEh98) hR hS hex hq
  have hw := hw.2
  have hw := hw hc1 hc5 hc6 hc7 hc8 hc9 hc13 hc14 hc15 hc16 hc17 hc18 hc22 hc33 hc37 hc41 hc51 hc75 hc84 hc85 hc86 hc87 hc88 hc89 hc90 hc91 hc92 hc96
  refine lv_tableOut (tgt := 373) hx hb (xb_d D_Checker_checkControl 1 rfl) (by have a0 := xb_nl (0) 0 (by decide) hc1; have a1 := xb_nl (1) 1 (by decide) hc5; have a2 := xb_nl (2) 2 (by decide) hc6; have a3 := xb_nl (3) 3 (by decide) hc7; have a4 := xb_nl (4) 4 (by decide) hc8; have a5 := xb_nl (5) 5 (by decide) hc9; have a6 := xb_nl (6) 6 (by decide) hc13; have a7 := xb_nl (7) 7 (by decide) hc14; have a8 := xb_nl (8) 8 (by decide) hc15; have a9 := xb_nl (9) 9 (by decide) hc16; have a10 := xb_nl (10) 10 (by decide) hc17; have a11 := xb_nl (11) 11 (by decide) hc18; have a12 := xb_nl (12) 12 (by decide) hc22; have a13 := xb_nl (13) 13 (by decide) hc33; have a14 := xb_nl (14) 14 (by decide) hc37; have a15 := xb_nl (15) 15 (by decide) hc41; have a16 := xb_nl (16) 16 (by decide) hc51; have a17 := xb_nl (17) 17 (by decide) hc75; have a18 := xb_nl (18) 18 (by decide) hc84; have a19 := xb_nl (19) 19 (by decide) hc85; have a20 := xb_nl (20) 20 (by decide) hc86; have a21 := xb_nl (21) 21 (by decide) hc87; have a22 := xb_nl (22) 22 (by decide) hc88; have a23 := xb_nl (23) 23 (by decide) hc89; have a24 := xb_nl (24) 24 (by decide) hc90; have a25 := xb_nl (25) 25 (by decide) hc91; have a26 := xb_nl (26) 26 (by decide) hc92; have a27 := xb_nl (27) 27 (by decide) hc96; omega) (by decide) ?_
  exact am_Checker_checkControl_L373 l hfl D A σ MC MS h0 Qr Qt h bc bs hw p e s m args below meth c hC H locs ls k n hE (lv_sub hl [] rfl) hR hS (by omega) (by omega)

theorem m_be643505 : (.fieldLink "StackHost$Checker" 178 "StackHost$StackModule" "data" "LStackHost$Row;" : Cond) ∈ xt_tbl := xt_in (xt_t3 (List.mem_of_getElem? (i := 110) (by decide +kernel))) (by decide +kernel)
theorem m_0ca8f09c : (.methodLink "StackHost$Checker" 171 y_Checker_checkOffset : Cond) ∈ xt_tbl := xt_in (xt_t4 (List.mem_of_getElem? (i := 171) (by decide +kernel))) (by decide +kernel)
theorem m_08a9bc84 : (.instanceMethod y_Checker_checkOffset : Cond) ∈ xt_tbl := xt_in (xt_t4 (List.mem_of_getElem? (i := 173) (by decide +kernel))) (by decide +kernel)
theorem m_d0965882 : (.selects "StackHost$Checker" y_Checker_checkOffset y_Checker_checkOffset : Cond) ∈ xt_tbl := xt_in (xt_v3 (q := (⟨"StackHost$Checker", "checkOffset", "(LStackHost$Row;II)V"⟩, 17)) (List.mem_of_getElem? (i := 10) (by decide +kernel))) (by decide +kernel)
theorem m_707441d7 : (.code y_Checker_checkOffset b_Checker_checkOffset 4 none : Cond) ∈ xt_tbl := xt_in (xt_t4 (List.mem_of_getElem? (i := 174) (by decide +kernel))) (by decide +kernel)
theorem nm_Checker_checkOffset : xt_nm y_Checker_checkOffset 3 := ⟨by decide +kernel, by decide +kernel⟩
set_option maxRecDepth 100000 in
def T_Checker_checkData : List (Nat × Instr × Nat) := [(0, .iconst 0, 1), (1, .istore_n 1, 1), (2, .iload_n 1, 1), (3, .aload_n 0, 1), (4, .getfield 38, 3), (7, .getfield 178, 3), (10, .invokevirtual 77, 3), (13, .if_icmp .ge 31, 3), (16, .aload_n 0, 1), (17, .aload_n 0, 1), (18, .getfield 38, 3), (21, .getfield 178, 3), (24, .iload_n 1, 1), (25, .aload_n 0, 1), (26, .getfield 38, 3), (29, .getfield 113, 3), (32, .invokevirtual 77, 3), (35, .invokevirtual 171, 3), (38, .iinc 1 1, 3), (41, .goto (-39), 3), (44, .return_, 1)]
theorem D_Checker_checkData : ∀ q ∈ T_Checker_checkData, decode b_Checker_checkData q.1 = .ok (q.2.1, q.2.2) := by decide +kernel

set_option maxHeartbeats 4000000 in
set_option maxRecDepth 100000 in
theorem am_Checker_checkData_L2 (l : Launch) (hfl : l.flags = pinnedFlags ++ [noTraceFlag]) (D : va_G) (A : Nat → Prop) (σ MC MS : Nat) (h0 : xb_H) (Qr : xb_H → Nat → Nat → Prop) (Qt : String → xb_H → Nat → Nat → Prop) (n9 : Nat) : ∀ (x0 : Nat) (x1 : Int32) (h : xb_H) (bc : Nat) (bs : Nat), w_Checker_checkData_L2 Qr Qt n9 x0 x1 h bc bs → xb_am l D A σ 5 MC MS h0 (fun v h bc bs => v = none ∧ Qr h bc bs) Qt y_Checker_checkData.cls y_Checker_checkData.name b_Checker_checkData 2 ([] : List ExceptionTableEntry) none 2 [(0, .ref x0), (1, .int x1)] [] h bc bs := by
  induction n9 with
  | zero => intro x0 x1 h bc bs hw; exact False.elim hw
  | succ n9 ih =>
    intro x0 x1 h bc bs hw
    unfold w_Checker_checkData_L2 at hw
    intro p e s m args below meth c hC H locs ls k n hE hl hR hS hk hn
    obtain ⟨hx, hb, hown, hlocks, htab, hml, hr, hB, hA, hnm⟩ := id hC
    have hts := hB.1.1.at args
    refine lv_iload_n hx hb (xb_d D_Checker_checkData 2 rfl) rfl (lv_at hl 1 rfl) ?_
    refine lv_aload_n hx hb (xb_d D_Checker_checkData 3 rfl) rfl (lv_at hl 0 rfl) ?_
    obtain ⟨hk1, hw⟩ := hw
    refine xb_getP (C := R_Checker) (T := F_Checker) (N := 17) hx hb 4 0 hts fin_Checker hown hR hk1 (by decide) rfl (by decide) rfl (hts _ m_070795bc) (fun _ h9 => h9) (xb_d D_Checker_checkData 4 rfl) ?_
    obtain ⟨b2, eb2, hw⟩ := hw
    refine xb_some eb2 ?_
    obtain ⟨hk3, hw⟩ := hw
    refine xb_getP (C := R_StackModule) (T := F_StackModule) (N := 19) hx hb 2 13 hts fin_StackModule hown hR hk3 (by decide) rfl (by decide) rfl (hts _ m_be643505) (fun _ h9 => h9) (xb_d D_Checker_checkData 5 rfl) ?_
    obtain ⟨b4, eb4, hw⟩ := hw
    refine xb_some eb4 ?_
    obtain ⟨hk5, hw⟩ := hw
    refine xb_call0 (D := D) (A := A) (σ := σ) (h := h) (d := 2) (maxL := 1) (rest := [.int x1]) (av := [.ref b4]) (fun T hT X => by obtain ⟨cb9, ra9, rb9, rc9⟩ := xb_recv (ci := 1) hR rfl hk5 (by decide); exact xt_invV X hx hown (hts _ m_c8b950b4) (hts _ m_ded65609) (hts _ m_a4161156) (xt_sigOf (hts _ m_83ba3721)) nm_Row_lines (by rw [hT]; exact ra9) rb9 rc9 (g := F0 m 10 ls [.ref b4, .int x1]) rfl (argsL := []) (rest := [.int x1]) rfl rfl (by rw [hb]; exact (xb_d D_Checker_checkData 6 rfl))) (ok_Row_lines l hfl D A σ b4 h _ hw) (hml.trans hl.1.symm) (by rw [hb]; exact (xb_d D_Checker_checkData 6 rfl)) (Nat.le_of_ble_eq_true rfl) (Nat.le_of_ble_eq_true rfl) (Nat.le_of_ble_eq_true rfl) (show k ≤ MC by omega) (show n ≤ MS by omega) (xt_w1 hB.1 m_83ba3721) (xt_cdOf hB.1 m_83ba3721) (hts _ m_c1bef504) hB hR hS hA (fun vv h6 H locs hq hEh6 hR hS => ?_)
    obtain ⟨r7, rfl, hw⟩ := hq
    have hw := hw hEh6
    have hE := hE.tr hEh6
    refine W.eq (g2 := F0 m 13 ls [.int r7, .int x1]) rfl ?_
    refine lv_icmp_ge (tgt := 44) hx hb (xb_d D_Checker_checkData 7 rfl) rfl (fun hc8 => ?_) (fun hc8 => ?_)
    · have hw := hw.1 hc8
      exact xb_vret bc bs hx hb hr hlocks (show k + bc ≤ MC by omega) (show n + bs ≤ MS by omega) hE hR hS (xb_d D_Checker_checkData 20 rfl) hw
    · have hw := hw.2 hc8
      refine lv_aload_n hx hb (xb_d D_Checker_checkData 8 rfl) rfl (lv_at hl 0 rfl) ?_
      refine lv_aload_n hx hb (xb_d D_Checker_checkData 9 rfl) rfl (lv_at hl 0 rfl) ?_
      have hk1 : xb_k h6 x0 = 5 := hEh6.k hk1
      refine xb_getP (C := R_Checker) (T := F_Checker) (N := 17) hx hb 4 0 hts fin_Checker hown hR hk1 (by decide) rfl (by decide) rfl (hts _ m_070795bc) (fun _ h9 => h9) (xb_d D_Checker_checkData 10 rfl) ?_
      obtain ⟨b9, eb9, hw⟩ := hw
      refine xb_some eb9 ?_
      obtain ⟨hk10, hw⟩ := hw
      refine xb_getP (C := R_StackModule) (T := F_StackModule) (N := 19) hx hb 2 13 hts fin_StackModule hown hR hk10 (by decide) rfl (by decide) rfl (hts _ m_be643505) (fun _ h9 => h9) (xb_d D_Checker_checkData 11 rfl) ?_
      obtain ⟨b11, eb11, hw⟩ := hw
      refine xb_some eb11 ?_
      refine lv_iload_n hx hb (xb_d D_Checker_checkData 12 rfl) rfl (lv_at hl 1 rfl) ?_
      refine lv_aload_n hx hb (xb_d D_Checker_checkData 13 rfl) rfl (lv_at hl 0 rfl) ?_
      refine xb_getP (C := R_Checker) (T := F_Checker) (N := 17) hx hb 4 0 hts fin_Checker hown hR hk1 (by decide) rfl (by decide) rfl (hts _ m_070795bc) (fun _ h9 => h9) (xb_d D_Checker_checkData 14 rfl) ?_
      obtain ⟨b12, eb12, hw⟩ := hw
      refine xb_some eb12 ?_
      obtain ⟨hk13, hw⟩ := hw
      refine xb_getP (C := R_StackModule) (T := F_StackModule) (N := 19) hx hb 2 6 hts fin_StackModule hown hR hk13 (by decide) rfl (by decide) rfl (hts _ m_f104cb1a) (fun _ h9 => h9) (xb_d D_Checker_checkData 15 rfl) ?_
      obtain ⟨b14, eb14, hw⟩ := hw
      refine xb_some eb14 ?_
      obtain ⟨hk15, hw⟩ := hw
      refine xb_call0 (D := D) (A := A) (σ := σ) (h := h6) (d := 2) (maxL := 1) (rest := [.int x1, .ref b11, .ref x0]) (av := [.ref b14]) (fun T hT X => by obtain ⟨cb9, ra9, rb9, rc9⟩ := xb_recv (ci := 1) hR rfl hk15 (by decide); exact xt_invV X hx hown (hts _ m_c8b950b4) (hts _ m_ded65609) (hts _ m_a4161156) (xt_sigOf (hts _ m_83ba3721)) nm_Row_lines (by rw [hT]; exact ra9) rb9 rc9 (g := F0 m 32 ls [.ref b14, .int x1, .ref b11, .ref x0]) rfl (argsL := []) (rest := [.int x1, .ref b11, .ref x0]) rfl rfl (by rw [hb]; exact (xb_d D_Checker_checkData 16 rfl))) (ok_Row_lines l hfl D A σ b14 h6 _ hw) (hml.trans hl.1.symm) (by rw [hb]; exact (xb_d D_Checker_checkData 16 rfl)) (Nat.le_of_ble_eq_true rfl) (Nat.le_of_ble_eq_true rfl) (Nat.le_of_ble_eq_true rfl) (show k ≤ MC by omega) (show n ≤ MS by omega) (xt_w1 hB.1 m_83ba3721) (xt_cdOf hB.1 m_83ba3721) (hts _ m_c1bef504) hB hR hS hA (fun vv h16 H locs hq hEh16 hR hS => ?_)
      obtain ⟨r17, rfl, hw⟩ := hq
      have hw := hw hEh16
      have hE := hE.tr hEh16
      refine W.eq (g2 := F0 m 35 ls [.int r17, .int x1, .ref b11, .ref x0]) rfl ?_
      have hk1 : xb_k h16 x0 = 5 := hEh16.k hk1
      refine xb_call (D := D) (A := A) (σ := σ) (h := h16) (d := 4) (mc := bc) (ms := bs) (maxL := 4) (rest := []) (av := [.ref x0, .ref b11, .int x1, .int r17]) (fun T hT X => by obtain ⟨cb9, ra9, rb9, rc9⟩ := xb_recv (ci := 4) hR rfl hk1 (by decide); exact xt_invV X hx hown (hts _ m_0ca8f09c) (hts _ m_08a9bc84) (hts _ m_d0965882) (xt_sigOf (hts _ m_707441d7)) nm_Checker_checkOffset (by rw [hT]; exact ra9) rb9 rc9 (g := F0 m 35 ls [.int r17, .int x1, .ref b11, .ref x0]) rfl (argsL := [.ref b11, .int x1, .int r17]) (rest := []) rfl rfl (by rw [hb]; exact (xb_d D_Checker_checkData 17 rfl))) (ok_Checker_checkOffset l hfl D A σ x0 b11 x1 r17 h16 bc bs _ _ hw) (hml.trans hl.1.symm) (by rw [hb]; exact (xb_d D_Checker_checkData 17 rfl)) (Nat.le_of_ble_eq_true rfl) (Nat.le_of_ble_eq_true rfl) (Nat.le_of_ble_eq_true rfl) (show k + bc ≤ MC by omega) (show n + bs ≤ MS by omega) (xt_w1 hB.1 m_707441d7) (xt_cdOf hB.1 m_707441d7) (hts _ m_44748ce5) hB hR hS hA (fun vv h18 bc19 bs19 kk19 nn19 H locs hk19 hn19 hq hEh18 hR hS => ?_) (fun XX ax h18 bc19 bs19 kk19 nn19 H locs hk19 hn19 hq hEh18 hex hR hS => ?_)
      · obtain ⟨rfl, hw⟩ := hq
        have hw := hw hEh18
        have hE := hE.tr hEh18
        refine W.eq (g2 := F0 m 38 ls []) rfl ?_
        refine lv_iinc (v := (x1 + 1)) (k := 1) hx hb (xb_d D_Checker_checkData 18 rfl) hl rfl (by first | rfl | decide) (by decide) rfl (fun ls hl => ?_)
        have hl : lv_has ls 2 [(1, .int (x1 + 1)), (0, .ref x0)] := hl
        refine lv_goto (tgt := 2) hx hb (xb_d D_Checker_checkData 19 rfl) rfl ?_
        exact ih x0 (x1 + 1) h18 bc19 bs19 hw p e s m args below meth c hC H locs ls (k + kk19) (n + nn19) hE (lv_sub hl [1, 0] rfl) hR hS (by omega) (by omega)
      · exact xb_pass hlocks (fun x hx9 => by rw [htab] at hx9; first | (cases hx9; done) | (simp [tableOf] at hx9; subst hx9; decide) | (simp [tableOf] at hx9; rcases hx9 with rfl | rfl <;> decide) | (simp [tableOf] at hx9; rcases hx9 with rfl | rfl | rfl <;> decide)) (show (k + kk19) + bc19 ≤ MC by omega) (show (n + nn19) + bs19 ≤ MS by omega) (hE.tr hEh18) hR hS hex hq

set_option maxHeartbeats 4000000 in
set_option maxRecDepth 100000 in
theorem ok_Checker_checkData (l : Launch) (hfl : l.flags = pinnedFlags ++ [noTraceFlag]) (D : va_G) (A : Nat → Prop) (σ : Nat) (x0 : Nat) (h : xb_H) (bc : Nat) (bs : Nat) (Qr : xb_H → Nat → Nat → Prop) (Qt : String → xb_H → Nat → Nat → Prop) (hw : w_Checker_checkData x0 h bc bs Qr Qt) : xb_Met l y_Checker_checkData [.code y_Checker_checkData b_Checker_checkData 2 none] (xb_rm 5 bc bs) (xb_Pc D A σ h [.ref x0]) (xb_Qc D A h bc bs (fun v h bc bs => v = none ∧ Qr h bc bs) Qt) A := by
  refine xb_ofAm (cc := b_Checker_checkData) (by decide) (Nat.le_of_ble_eq_true rfl) ?_
  unfold w_Checker_checkData at hw
  show xb_am l D A σ 5 bc bs h (fun v h bc bs => v = none ∧ Qr h bc bs) Qt y_Checker_checkData.cls y_Checker_checkData.name b_Checker_checkData 2 ([] : List ExceptionTableEntry) none 0 [(0, .ref x0)] [] h bc bs
  obtain ⟨MC, hMC⟩ : ∃ x, x = bc := ⟨_, rfl⟩
  obtain ⟨MS, hMS⟩ : ∃ x, x = bs := ⟨_, rfl⟩
  rw [show xb_am l D A σ 5 bc bs = xb_am l D A σ 5 MC MS by rw [hMC, hMS]]
  obtain ⟨h0, hh0⟩ : ∃ x, x = h := ⟨_, rfl⟩
  rw [show xb_am l D A σ 5 MC MS h = xb_am l D A σ 5 MC MS h0 by rw [hh0]]
  intro p e s m args below meth c hC H locs ls k n hE hl hR hS hk hn
  obtain ⟨hx, hb, hown, hlocks, htab, hml, hr, hB, hA, hnm⟩ := id hC
  have hts := hB.1.1.at args
  refine lv_iconst (v := 0) hx hb (xb_d D_Checker_checkData 0 rfl) (by decide) ?_
  refine lv_istore_n hx hb (xb_d D_Checker_checkData 1 rfl) rfl hl (by decide) rfl (fun ls hl => ?_)
  have hl : lv_has ls 2 [(1, .int 0), (0, .ref x0)] := hl
  obtain ⟨n8, hw⟩ := hw
  exact am_Checker_checkData_L2 l hfl D A σ MC MS h0 Qr Qt n8 x0 0 h bc bs hw p e s m args below meth c hC H locs ls k n hE (lv_sub hl [1, 0] rfl) hR hS (by omega) (by omega)

theorem m_2aee5408 : (.fieldLink "StackHost$Checker" 175 "StackHost$StackModule" "listed" "LStackHost$Row;" : Cond) ∈ xt_tbl := xt_in (xt_t3 (List.mem_of_getElem? (i := 96) (by decide +kernel))) (by decide +kernel)
theorem m_61dca033 : (.fieldLink "StackHost$Checker" 168 "StackHost$StackModule" "elements" "LStackHost$Row;" : Cond) ∈ xt_tbl := xt_in (xt_t3 (List.mem_of_getElem? (i := 93) (by decide +kernel))) (by decide +kernel)
set_option maxRecDepth 100000 in
def T_Checker_checkElements : List (Nat × Instr × Nat) := [(0, .aload_n 0, 1), (1, .getfield 38, 3), (4, .getfield 168, 3), (7, .astore_n 1, 1), (8, .iconst 0, 1), (9, .istore_n 2, 1), (10, .iload_n 2, 1), (11, .aload_n 1, 1), (12, .invokevirtual 77, 3), (15, .if_icmp .ge 107, 3), (18, .aload_n 0, 1), (19, .aload_n 1, 1), (20, .iload_n 2, 1), (21, .aload_n 0, 1), (22, .getfield 38, 3), (25, .getfield 104, 3), (28, .invokevirtual 77, 3), (31, .invokevirtual 171, 3), (34, .aload_n 1, 1), (35, .iload_n 2, 1), (36, .iconst 3, 1), (37, .invokevirtual 90, 3), (40, .istore_n 3, 1), (41, .iconst 0, 1), (42, .istore 4, 2), (44, .iload 4, 2), (46, .aload_n 1, 1), (47, .iload_n 2, 1), (48, .iconst 4, 1), (49, .invokevirtual 90, 3), (52, .if_icmp .ge 64, 3), (55, .aload_n 0, 1), (56, .getfield 38, 3), (59, .getfield 175, 3), (62, .iload_n 3, 1), (63, .iload 4, 2), (65, .iadd, 1), (66, .iconst 1, 1), (67, .invokevirtual 121, 3), (70, .aload_n 0, 1), (71, .getfield 38, 3), (74, .getfield 118, 3), (77, .invokevirtual 77, 3), (80, .invokestatic 125, 3), (83, .ifCond .ne 27, 3), (86, .aload_n 0, 1), (87, .getfield 38, 3), (90, .bipush 20, 2), (92, .aload_n 0, 1), (93, .getfield 38, 3), (96, .getfield 175, 3), (99, .iload_n 3, 1), (100, .iload 4, 2), (102, .iadd, 1), (103, .iconst 0, 1), (104, .invokevirtual 90, 3), (107, .invokevirtual 94, 3), (110, .iinc 4 1, 3), (113, .goto (-69), 3), (116, .iinc 2 1, 3), (119, .goto (-109), 3), (122, .return_, 1)]
theorem D_Checker_checkElements : ∀ q ∈ T_Checker_checkElements, decode b_Checker_checkElements q.1 = .ok (q.2.1, q.2.2) := by decide +kernel

set_option maxHeartbeats 4000000 in
set_option maxRecDepth 100000 in
theorem am_Checker_checkElements_L110 (l : Launch) (hfl : l.flags = pinnedFlags ++ [noTraceFlag]) (D : va_G) (A : Nat → Prop) (σ MC MS : Nat) (h0 : xb_H) (Qr : xb_H → Nat → Nat → Prop) (Qt : String → xb_H → Nat → Nat → Prop) (K10 : Nat → Nat → Int32 → xb_H → Nat → Nat → Prop) (hK10 : ∀ (x0 : Nat) (x1 : Nat) (x2 : Int32) (h : xb_H) (bc : Nat) (bs : Nat), K10 x0 x1 x2 h bc bs → xb_am l D A σ 5 MC MS h0 (fun v h bc bs => v = none ∧ Qr h bc bs) Qt y_Checker_checkElements.cls y_Checker_checkElements.name b_Checker_checkElements 5 ([] : List ExceptionTableEntry) none 10 [(0, .ref x0), (1, .ref x1), (2, .int x2)] [] h bc bs) (K44 : Nat → Nat → Int32 → Int32 → Int32 → xb_H → Nat → Nat → Prop) (hK44 : ∀ (x0 : Nat) (x1 : Nat) (x2 : Int32) (x3 : Int32) (x4 : Int32) (h : xb_H) (bc : Nat) (bs : Nat), K44 x0 x1 x2 x3 x4 h bc bs → xb_am l D A σ 5 MC MS h0 (fun v h bc bs => v = none ∧ Qr h bc bs) Qt y_Checker_checkElements.cls y_Checker_checkElements.name b_Checker_checkElements 5 ([] : List ExceptionTableEntry) none 44 [(0, .ref x0), (1, .ref x1), (2, .int x2), (3, .int x3), (4, .int x4)] [] h bc bs) (x0 : Nat) (x1 : Nat) (x2 : Int32) (x3 : Int32) (x4 : Int32) (h : xb_H) (bc : Nat) (bs : Nat) (hw : w_Checker_checkElements_L110 K10 K44 Qr Qt x0 x1 x2 x3 x4 h bc bs) : xb_am l D A σ 5 MC MS h0 (fun v h bc bs => v = none ∧ Qr h bc bs) Qt y_Checker_checkElements.cls y_Checker_checkElements.name b_Checker_checkElements 5 ([] : List ExceptionTableEntry) none 110 [(0, .ref x0), (1, .ref x1), (2, .int x2), (3, .int x3), (4, .int x4)] [] h bc bs := by
  unfold w_Checker_checkElements_L110 at hw
  intro p e s m args below meth c hC H locs ls k n hE hl hR hS hk hn
  obtain ⟨hx, hb, hown, hlocks, htab, hml, hr, hB, hA, hnm⟩ := id hC
  have hts := hB.1.1.at args
  refine lv_iinc (v := (x4 + 1)) (k := 4) hx hb (xb_d D_Checker_checkElements 57 rfl) hl rfl (by first | rfl | decide) (by decide) rfl (fun ls hl => ?_)
  have hl : lv_has ls 5 [(4, .int (x4 + 1)), (0, .ref x0), (1, .ref x1), (2, .int x2), (3, .int x3)] := hl
  refine lv_goto (tgt := 44) hx hb (xb_d D_Checker_checkElements 58 rfl) rfl ?_
  exact hK44 x0 x1 x2 x3 (x4 + 1) h bc bs hw p e s m args below meth c hC H locs ls k n hE (lv_sub hl [1, 2, 3, 4, 0] rfl) hR hS (by omega) (by omega)

set_option maxHeartbeats 4000000 in
set_option maxRecDepth 100000 in
theorem am_Checker_checkElements_L44 (l : Launch) (hfl : l.flags = pinnedFlags ++ [noTraceFlag]) (D : va_G) (A : Nat → Prop) (σ MC MS : Nat) (h0 : xb_H) (Qr : xb_H → Nat → Nat → Prop) (Qt : String → xb_H → Nat → Nat → Prop) (K10 : Nat → Nat → Int32 → xb_H → Nat → Nat → Prop) (hK10 : ∀ (x0 : Nat) (x1 : Nat) (x2 : Int32) (h : xb_H) (bc : Nat) (bs : Nat), K10 x0 x1 x2 h bc bs → xb_am l D A σ 5 MC MS h0 (fun v h bc bs => v = none ∧ Qr h bc bs) Qt y_Checker_checkElements.cls y_Checker_checkElements.name b_Checker_checkElements 5 ([] : List ExceptionTableEntry) none 10 [(0, .ref x0), (1, .ref x1), (2, .int x2)] [] h bc bs) (n9 : Nat) : ∀ (x0 : Nat) (x1 : Nat) (x2 : Int32) (x3 : Int32) (x4 : Int32) (h : xb_H) (bc : Nat) (bs : Nat), w_Checker_checkElements_L44 K10 Qr Qt n9 x0 x1 x2 x3 x4 h bc bs → xb_am l D A σ 5 MC MS h0 (fun v h bc bs => v = none ∧ Qr h bc bs) Qt y_Checker_checkElements.cls y_Checker_checkElements.name b_Checker_checkElements 5 ([] : List ExceptionTableEntry) none 44 [(0, .ref x0), (1, .ref x1), (2, .int x2), (3, .int x3), (4, .int x4)] [] h bc bs := by
  induction n9 with
  | zero => intro x0 x1 x2 x3 x4 h bc bs hw; exact False.elim hw
  | succ n9 ih =>
    intro x0 x1 x2 x3 x4 h bc bs hw
    unfold w_Checker_checkElements_L44 at hw
    intro p e s m args below meth c hC H locs ls k n hE hl hR hS hk hn
    obtain ⟨hx, hb, hown, hlocks, htab, hml, hr, hB, hA, hnm⟩ := id hC
    have hts := hB.1.1.at args
    refine lv_iload hx hb (xb_d D_Checker_checkElements 25 rfl) (lv_at hl 4 rfl) ?_
    refine lv_aload_n hx hb (xb_d D_Checker_checkElements 26 rfl) rfl (lv_at hl 1 rfl) ?_
    refine lv_iload_n hx hb (xb_d D_Checker_checkElements 27 rfl) rfl (lv_at hl 2 rfl) ?_
    refine lv_iconst (v := 4) hx hb (xb_d D_Checker_checkElements 28 rfl) (by decide) ?_
    obtain ⟨hk1, hw⟩ := hw
    refine xb_call0 (D := D) (A := A) (σ := σ) (h := h) (d := 2) (maxL := 3) (rest := [.int x4]) (av := [.ref x1, .int x2, .int 4]) (fun T hT X => by obtain ⟨cb9, ra9, rb9, rc9⟩ := xb_recv (ci := 1) hR rfl hk1 (by decide); exact xt_invV X hx hown (hts _ m_068feb96) (hts _ m_8e233096) (hts _ m_27eed10c) (xt_sigOf (hts _ m_ff1c70ae)) nm_Row_at (by rw [hT]; exact ra9) rb9 rc9 (g := F0 m 49 ls [.int 4, .int x2, .ref x1, .int x4]) rfl (argsL := [.int x2, .int 4]) (rest := [.int x4]) rfl rfl (by rw [hb]; exact (xb_d D_Checker_checkElements 29 rfl))) (ok_Row_at l hfl D A σ x1 x2 4 h _ hw) (hml.trans hl.1.symm) (by rw [hb]; exact (xb_d D_Checker_checkElements 29 rfl)) (Nat.le_of_ble_eq_true rfl) (Nat.le_of_ble_eq_true rfl) (Nat.le_of_ble_eq_true rfl) (show k ≤ MC by omega) (show n ≤ MS by omega) (xt_w1 hB.1 m_ff1c70ae) (xt_cdOf hB.1 m_ff1c70ae) (hts _ m_c1bef504) hB hR hS hA (fun vv h2 H locs hq hEh2 hR hS => ?_)
    obtain ⟨r3, rfl, hw⟩ := hq
    have hw := hw hEh2
    have hE := hE.tr hEh2
    refine W.eq (g2 := F0 m 52 ls [.int r3, .int x4]) rfl ?_
    refine lv_icmp_ge (tgt := 116) hx hb (xb_d D_Checker_checkElements 30 rfl) rfl (fun hc4 => ?_) (fun hc4 => ?_)
    · have hw := hw.1 hc4
      refine lv_iinc (v := (x2 + 1)) (k := 2) hx hb (xb_d D_Checker_checkElements 59 rfl) hl rfl (by first | rfl | decide) (by decide) rfl (fun ls hl => ?_)
      have hl : lv_has ls 5 [(2, .int (x2 + 1)), (0, .ref x0), (1, .ref x1), (3, .int x3), (4, .int x4)] := hl
      refine lv_goto (tgt := 10) hx hb (xb_d D_Checker_checkElements 60 rfl) rfl ?_
      exact hK10 x0 x1 (x2 + 1) h2 bc bs hw p e s m args below meth c hC H locs ls k n hE (lv_sub hl [1, 2, 0] rfl) hR hS (by omega) (by omega)
    · have hw := hw.2 hc4
      refine lv_aload_n hx hb (xb_d D_Checker_checkElements 31 rfl) rfl (lv_at hl 0 rfl) ?_
      obtain ⟨hk5, hw⟩ := hw
      refine xb_getP (C := R_Checker) (T := F_Checker) (N := 17) hx hb 4 0 hts fin_Checker hown hR hk5 (by decide) rfl (by decide) rfl (hts _ m_070795bc) (fun _ h9 => h9) (xb_d D_Checker_checkElements 32 rfl) ?_
      obtain ⟨b6, eb6, hw⟩ := hw
      refine xb_some eb6 ?_
      obtain ⟨hk7, hw⟩ := hw
      refine xb_getP (C := R_StackModule) (T := F_StackModule) (N := 19) hx hb 2 10 hts fin_StackModule hown hR hk7 (by decide) rfl (by decide) rfl (hts _ m_2aee5408) (fun _ h9 => h9) (xb_d D_Checker_checkElements 33 rfl) ?_
      obtain ⟨b8, eb8, hw⟩ := hw
      refine xb_some eb8 ?_
      refine lv_iload_n hx hb (xb_d D_Checker_checkElements 34 rfl) rfl (lv_at hl 3 rfl) ?_
      refine lv_iload hx hb (xb_d D_Checker_checkElements 35 rfl) (lv_at hl 4 rfl) ?_
      refine lv_iadd hx hb (xb_d D_Checker_checkElements 36 rfl) ?_
      refine lv_iconst (v := 1) hx hb (xb_d D_Checker_checkElements 37 rfl) (by decide) ?_
      obtain ⟨hk9, hw⟩ := hw
      refine xb_call0 (D := D) (A := A) (σ := σ) (h := h2) (d := 2) (maxL := 3) (rest := []) (av := [.ref b8, .int (x3 + x4), .int 1]) (fun T hT X => by obtain ⟨cb9, ra9, rb9, rc9⟩ := xb_recv (ci := 1) hR rfl hk9 (by decide); exact xt_invV X hx hown (hts _ m_e00feb7e) (hts _ m_8db3b24f) (hts _ m_78dc30a4) (xt_sigOf (hts _ m_a4177401)) nm_Row_longAt (by rw [hT]; exact ra9) rb9 rc9 (g := F0 m 67 ls [.int 1, .int (x3 + x4), .ref b8]) rfl (argsL := [.int (x3 + x4), .int 1]) (rest := []) rfl rfl (by rw [hb]; exact (xb_d D_Checker_checkElements 38 rfl))) (ok_Row_longAt l hfl D A σ b8 (x3 + x4) 1 h2 _ hw) (hml.trans hl.1.symm) (by rw [hb]; exact (xb_d D_Checker_checkElements 38 rfl)) (Nat.le_of_ble_eq_true rfl) (Nat.le_of_ble_eq_true rfl) (Nat.le_of_ble_eq_true rfl) (show k ≤ MC by omega) (show n ≤ MS by omega) (xt_w1 hB.1 m_a4177401) (xt_cdOf hB.1 m_a4177401) (hts _ m_c1bef504) hB hR hS hA (fun vv h10 H locs hq hEh10 hR hS => ?_)
      obtain ⟨r11, rfl, hw⟩ := hq
      have hw := hw hEh10
      have hE := hE.tr hEh10
      refine W.eq (g2 := F0 m 70 ls [.long r11]) rfl ?_
      refine lv_aload_n hx hb (xb_d D_Checker_checkElements 39 rfl) rfl (lv_at hl 0 rfl) ?_
      have hk5 : xb_k h10 x0 = 5 := hEh10.k hk5
      refine xb_getP (C := R_Checker) (T := F_Checker) (N := 17) hx hb 4 0 hts fin_Checker hown hR hk5 (by decide) rfl (by decide) rfl (hts _ m_070795bc) (fun _ h9 => h9) (xb_d D_Checker_checkElements 40 rfl) ?_
      obtain ⟨b12, eb12, hw⟩ := hw
      refine xb_some eb12 ?_
      obtain ⟨hk13, hw⟩ := hw
      refine xb_getP (C := R_StackModule) (T := F_StackModule) (N := 19) hx hb 2 4 hts fin_StackModule hown hR hk13 (by decide) rfl (by decide) rfl (hts _ m_74009c24) (fun _ h9 => h9) (xb_d D_Checker_checkElements 41 rfl) ?_
      obtain ⟨b14, eb14, hw⟩ := hw
      refine xb_some eb14 ?_
      obtain ⟨hk15, hw⟩ := hw
      refine xb_call0 (D := D) (A := A) (σ := σ) (h := h10) (d := 2) (maxL := 1) (rest := [.long r11]) (av := [.ref b14]) (fun T hT X => by obtain ⟨cb9, ra9, rb9, rc9⟩ := xb_recv (ci := 1) hR rfl hk15 (by decide); exact xt_invV X hx hown (hts _ m_c8b950b4) (hts _ m_ded65609) (hts _ m_a4161156) (xt_sigOf (hts _ m_83ba3721)) nm_Row_lines (by rw [hT]; exact ra9) rb9 rc9 (g := F0 m 77 ls [.ref b14, .long r11]) rfl (argsL := []) (rest := [.long r11]) rfl rfl (by rw [hb]; exact (xb_d D_Checker_checkElements 42 rfl))) (ok_Row_lines l hfl D A σ b14 h10 _ hw) (hml.trans hl.1.symm) (by rw [hb]; exact (xb_d D_Checker_checkElements 42 rfl)) (Nat.le_of_ble_eq_true rfl) (Nat.le_of_ble_eq_true rfl) (Nat.le_of_ble_eq_true rfl) (show k ≤ MC by omega) (show n ≤ MS by omega) (xt_w1 hB.1 m_83ba3721) (xt_cdOf hB.1 m_83ba3721) (hts _ m_c1bef504) hB hR hS hA (fun vv h16 H locs hq hEh16 hR hS => ?_)
      obtain ⟨r17, rfl, hw⟩ := hq
      have hw := hw hEh16
      have hE := hE.tr hEh16
      refine W.eq (g2 := F0 m 80 ls [.int r17, .long r11]) rfl ?_
      refine xb_call0 (D := D) (A := A) (σ := σ) (h := h16) (d := 2) (maxL := 3) (rest := []) (av := [.long r11, .int r17]) (fun T hT X => xt_invS X hx hown (hts _ m_fe08b245) (hts _ m_9ad1e0af) (hts _ m_44748ce5) (xt_sgS (hts _ m_2237aee6)).1 (xt_sgS (hts _ m_2237aee6)).2 nm_Checker_isThere (g := F0 m 80 ls [.int r17, .long r11]) rfl (argsL := [.long r11, .int r17]) (rest := []) rfl rfl (by rw [hb]; exact (xb_d D_Checker_checkElements 43 rfl))) (ok_Checker_isThere l hfl D A σ r11 r17 h16 _ hw) (hml.trans hl.1.symm) (by rw [hb]; exact (xb_d D_Checker_checkElements 43 rfl)) (Nat.le_of_ble_eq_true rfl) (Nat.le_of_ble_eq_true rfl) (Nat.le_of_ble_eq_true rfl) (show k ≤ MC by omega) (show n ≤ MS by omega) (xt_w1 hB.1 m_2237aee6) (xt_cdOf hB.1 m_2237aee6) (hts _ m_44748ce5) hB hR hS hA (fun vv h18 H locs hq hEh18 hR hS => ?_)
      obtain ⟨r19, rfl, hw⟩ := hq
      have hw := hw hEh18
      have hE := hE.tr hEh18
      refine W.eq (g2 := F0 m 83 ls [.int r19]) rfl ?_
      refine lv_if_ne (tgt := 110) hx hb (xb_d D_Checker_checkElements 44 rfl) rfl (fun hc20 => ?_) (fun hc20 => ?_)
      · have hw := hw.1 hc20
        exact am_Checker_checkElements_L110 l hfl D A σ MC MS h0 Qr Qt K10 hK10 (w_Checker_checkElements_L44 K10 Qr Qt n9) ih x0 x1 x2 x3 x4 h18 bc bs hw p e s m args below meth c hC H locs ls k n hE (lv_sub hl [0, 1, 2, 3, 4] rfl) hR hS (by omega) (by omega)
      · have hw := hw.2 hc20
        refine lv_aload_n hx hb (xb_d D_Checker_checkElements 45 rfl) rfl (lv_at hl 0 rfl) ?_
        have hk5 : xb_k h16 x0 = 5 := hEh16.k hk5
        have hk5 : xb_k h18 x0 = 5 := hEh18.k hk5
        refine xb_getP (C := R_Checker) (T := F_Checker) (N := 17) hx hb 4 0 hts fin_Checker hown hR hk5 (by decide) rfl (by decide) rfl (hts _ m_070795bc) (fun _ h9 => h9) (xb_d D_Checker_checkElements 46 rfl) ?_
        obtain ⟨b21, eb21, hw⟩ := hw
        refine xb_some eb21 ?_
        refine lv_bipush (v := 20) hx hb (xb_d D_Checker_checkElements 47 rfl) (by decide) ?_
        refine lv_aload_n hx hb (xb_d D_Checker_checkElements 48 rfl) rfl (lv_at hl 0 rfl) ?_
        refine xb_getP (C := R_Checker) (T := F_Checker) (N := 17) hx hb 4 0 hts fin_Checker hown hR hk5 (by decide) rfl (by decide) rfl (hts _ m_070795bc) (fun _ h9 => h9) (xb_d D_Checker_checkElements 49 rfl) ?_
        obtain ⟨b22, eb22, hw⟩ := hw
        refine xb_some eb22 ?_
        obtain ⟨hk23, hw⟩ := hw
        refine xb_getP (C := R_StackModule) (T := F_StackModule) (N := 19) hx hb 2 10 hts fin_StackModule hown hR hk23 (by decide) rfl (by decide) rfl (hts _ m_2aee5408) (fun _ h9 => h9) (xb_d D_Checker_checkElements 50 rfl) ?_
        obtain ⟨b24, eb24, hw⟩ := hw
        refine xb_some eb24 ?_
        refine lv_iload_n hx hb (xb_d D_Checker_checkElements 51 rfl) rfl (lv_at hl 3 rfl) ?_
        refine lv_iload hx hb (xb_d D_Checker_checkElements 52 rfl) (lv_at hl 4 rfl) ?_
        refine lv_iadd hx hb (xb_d D_Checker_checkElements 53 rfl) ?_
        refine lv_iconst (v := 0) hx hb (xb_d D_Checker_checkElements 54 rfl) (by decide) ?_
        obtain ⟨hk25, hw⟩ := hw
        refine xb_call0 (D := D) (A := A) (σ := σ) (h := h18) (d := 2) (maxL := 3) (rest := [.int 20, .ref b21]) (av := [.ref b24, .int (x3 + x4), .int 0]) (fun T hT X => by obtain ⟨cb9, ra9, rb9, rc9⟩ := xb_recv (ci := 1) hR rfl hk25 (by decide); exact xt_invV X hx hown (hts _ m_068feb96) (hts _ m_8e233096) (hts _ m_27eed10c) (xt_sigOf (hts _ m_ff1c70ae)) nm_Row_at (by rw [hT]; exact ra9) rb9 rc9 (g := F0 m 104 ls [.int 0, .int (x3 + x4), .ref b24, .int 20, .ref b21]) rfl (argsL := [.int (x3 + x4), .int 0]) (rest := [.int 20, .ref b21]) rfl rfl (by rw [hb]; exact (xb_d D_Checker_checkElements 55 rfl))) (ok_Row_at l hfl D A σ b24 (x3 + x4) 0 h18 _ hw) (hml.trans hl.1.symm) (by rw [hb]; exact (xb_d D_Checker_checkElements 55 rfl)) (Nat.le_of_ble_eq_true rfl) (Nat.le_of_ble_eq_true rfl) (Nat.le_of_ble_eq_true rfl) (show k ≤ MC by omega) (show n ≤ MS by omega) (xt_w1 hB.1 m_ff1c70ae) (xt_cdOf hB.1 m_ff1c70ae) (hts _ m_c1bef504) hB hR hS hA (fun vv h26 H locs hq hEh26 hR hS => ?_)
        obtain ⟨r27, rfl, hw⟩ := hq
        have hw := hw hEh26
        have hE := hE.tr hEh26
        refine W.eq (g2 := F0 m 107 ls [.int r27, .int 20, .ref b21]) rfl ?_
        obtain ⟨hk28, hw⟩ := hw
        refine xb_call (D := D) (A := A) (σ := σ) (h := h26) (d := 2) (mc := bc) (ms := bs) (maxL := 3) (rest := []) (av := [.ref b21, .int 20, .int r27]) (fun T hT X => by obtain ⟨cb9, ra9, rb9, rc9⟩ := xb_recv (ci := 2) hR rfl hk28 (by decide); exact xt_invV X hx hown (hts _ m_1d37521a) (hts _ m_865d5b07) (hts _ m_113f8f75) (xt_sigOf (hts _ m_73e65e5f)) nm_StackModule_fail (by rw [hT]; exact ra9) rb9 rc9 (g := F0 m 107 ls [.int r27, .int 20, .ref b21]) rfl (argsL := [.int 20, .int r27]) (rest := []) rfl rfl (by rw [hb]; exact (xb_d D_Checker_checkElements 56 rfl))) (ok_StackModule_fail l hfl D A σ b21 20 r27 h26 bc bs _ _ hw) (hml.trans hl.1.symm) (by rw [hb]; exact (xb_d D_Checker_checkElements 56 rfl)) (Nat.le_of_ble_eq_true rfl) (Nat.le_of_ble_eq_true rfl) (Nat.le_of_ble_eq_true rfl) (show k + bc ≤ MC by omega) (show n + bs ≤ MS by omega) (xt_w1 hB.1 m_73e65e5f) (xt_cdOf hB.1 m_73e65e5f) (hts _ m_9c375545) hB hR hS hA (fun vv h29 bc30 bs30 kk30 nn30 H locs hk30 hn30 hq hEh29 hR hS => ?_) (fun XX ax h29 bc30 bs30 kk30 nn30 H locs hk30 hn30 hq hEh29 hex hR hS => ?_)
        · obtain ⟨rfl, hw⟩ := hq
          have hw := hw hEh29
          have hE := hE.tr hEh29
          refine W.eq (g2 := F0 m 110 ls []) rfl ?_
          exact am_Checker_checkElements_L110 l hfl D A σ MC MS h0 Qr Qt K10 hK10 (w_Checker_checkElements_L44 K10 Qr Qt n9) ih x0 x1 x2 x3 x4 h29 bc30 bs30 hw p e s m args below meth c hC H locs ls (k + kk30) (n + nn30) hE (lv_sub hl [0, 1, 2, 3, 4] rfl) hR hS (by omega) (by omega)
        · exact xb_pass hlocks (fun x hx9 => by rw [htab] at hx9; first | (cases hx9; done) | (simp [tableOf] at hx9; subst hx9; decide) | (simp [tableOf] at hx9; rcases hx9 with rfl | rfl <;> decide) | (simp [tableOf] at hx9; rcases hx9 with rfl | rfl | rfl <;> decide)) (show (k + kk30) + bc30 ≤ MC by omega) (show (n + nn30) + bs30 ≤ MS by omega) (hE.tr hEh29) hR hS hex hq

set_option maxHeartbeats 4000000 in
set_option maxRecDepth 100000 in
theorem am_Checker_checkElements_L10 (l : Launch) (hfl : l.flags = pinnedFlags ++ [noTraceFlag]) (D : va_G) (A : Nat → Prop) (σ MC MS : Nat) (h0 : xb_H) (Qr : xb_H → Nat → Nat → Prop) (Qt : String → xb_H → Nat → Nat → Prop) (n9 : Nat) : ∀ (x0 : Nat) (x1 : Nat) (x2 : Int32) (h : xb_H) (bc : Nat) (bs : Nat), w_Checker_checkElements_L10 Qr Qt n9 x0 x1 x2 h bc bs → xb_am l D A σ 5 MC MS h0 (fun v h bc bs => v = none ∧ Qr h bc bs) Qt y_Checker_checkElements.cls y_Checker_checkElements.name b_Checker_checkElements 5 ([] : List ExceptionTableEntry) none 10 [(0, .ref x0), (1, .ref x1), (2, .int x2)] [] h bc bs := by
  induction n9 with
  | zero => intro x0 x1 x2 h bc bs hw; exact False.elim hw
  | succ n9 ih =>
    intro x0 x1 x2 h bc bs hw
    unfold w_Checker_checkElements_L10 at hw
    intro p e s m args below meth c hC H locs ls k n hE hl hR hS hk hn
    obtain ⟨hx, hb, hown, hlocks, htab, hml, hr, hB, hA, hnm⟩ := id hC
    have hts := hB.1.1.at args
    refine lv_iload_n hx hb (xb_d D_Checker_checkElements 6 rfl) rfl (lv_at hl 2 rfl) ?_
    refine lv_aload_n hx hb (xb_d D_Checker_checkElements 7 rfl) rfl (lv_at hl 1 rfl) ?_
    obtain ⟨hk1, hw⟩ := hw
    refine xb_call0 (D := D) (A := A) (σ := σ) (h := h) (d := 2) (maxL := 1) (rest := [.int x2]) (av := [.ref x1]) (fun T hT X => by obtain ⟨cb9, ra9, rb9, rc9⟩ := xb_recv (ci := 1) hR rfl hk1 (by decide); exact xt_invV X hx hown (hts _ m_c8b950b4) (hts _ m_ded65609) (hts _ m_a4161156) (xt_sigOf (hts _ m_83ba3721)) nm_Row_lines (by rw [hT]; exact ra9) rb9 rc9 (g := F0 m 12 ls [.ref x1, .int x2]) rfl (argsL := []) (rest := [.int x2]) rfl rfl (by rw [hb]; exact (xb_d D_Checker_checkElements 8 rfl))) (ok_Row_lines l hfl D A σ x1 h _ hw) (hml.trans hl.1.symm) (by rw [hb]; exact (xb_d D_Checker_checkElements 8 rfl)) (Nat.le_of_ble_eq_true rfl) (Nat.le_of_ble_eq_true rfl) (Nat.le_of_ble_eq_true rfl) (show k ≤ MC by omega) (show n ≤ MS by omega) (xt_w1 hB.1 m_83ba3721) (xt_cdOf hB.1 m_83ba3721) (hts _ m_c1bef504) hB hR hS hA (fun vv h2 H locs hq hEh2 hR hS => ?_)
    obtain ⟨r3, rfl, hw⟩ := hq
    have hw := hw hEh2
    have hE := hE.tr hEh2
    refine W.eq (g2 := F0 m 15 ls [.int r3, .int x2]) rfl ?_
    refine lv_icmp_ge (tgt := 122) hx hb (xb_d D_Checker_checkElements 9 rfl) rfl (fun hc4 => ?_) (fun hc4 => ?_)
    · have hw := hw.1 hc4
      exact xb_vret bc bs hx hb hr hlocks (show k + bc ≤ MC by omega) (show n + bs ≤ MS by omega) hE hR hS (xb_d D_Checker_checkElements 61 rfl) hw
    · have hw := hw.2 hc4
      refine lv_aload_n hx hb (xb_d D_Checker_checkElements 10 rfl) rfl (lv_at hl 0 rfl) ?_
      refine lv_aload_n hx hb (xb_d D_Checker_checkElements 11 rfl) rfl (lv_at hl 1 rfl) ?_
      refine lv_iload_n hx hb (xb_d D_Checker_checkElements 12 rfl) rfl (lv_at hl 2 rfl) ?_
      refine lv_aload_n hx hb (xb_d D_Checker_checkElements 13 rfl) rfl (lv_at hl 0 rfl) ?_
      obtain ⟨hk5, hw⟩ := hw
      refine xb_getP (C := R_Checker) (T := F_Checker) (N := 17) hx hb 4 0 hts fin_Checker hown hR hk5 (by decide) rfl (by decide) rfl (hts _ m_070795bc) (fun _ h9 => h9) (xb_d D_Checker_checkElements 14 rfl) ?_
      obtain ⟨b6, eb6, hw⟩ := hw
      refine xb_some eb6 ?_
      obtain ⟨hk7, hw⟩ := hw
      refine xb_getP (C := R_StackModule) (T := F_StackModule) (N := 19) hx hb 2 5 hts fin_StackModule hown hR hk7 (by decide) rfl (by decide) rfl (hts _ m_81589b2f) (fun _ h9 => h9) (xb_d D_Checker_checkElements 15 rfl) ?_
      obtain ⟨b8, eb8, hw⟩ := hw
      refine xb_some eb8 ?_
      obtain ⟨hk9, hw⟩ := hw
      refine xb_call0 (D := D) (A := A) (σ := σ) (h := h2) (d := 2) (maxL := 1) (rest := [.int x2, .ref x1, .ref x0]) (av := [.ref b8]) (fun T hT X => by obtain ⟨cb9, ra9, rb9, rc9⟩ := xb_recv (ci := 1) hR rfl hk9 (by decide); exact xt_invV X hx hown (hts _ m_c8b950b4) (hts _ m_ded65609) (hts _ m_a4161156) (xt_sigOf (hts _ m_83ba3721)) nm_Row_lines (by rw [hT]; exact ra9) rb9 rc9 (g := F0 m 28 ls [.ref b8, .int x2, .ref x1, .ref x0]) rfl (argsL := []) (rest := [.int x2, .ref x1, .ref x0]) rfl rfl (by rw [hb]; exact (xb_d D_Checker_checkElements 16 rfl))) (ok_Row_lines l hfl D A σ b8 h2 _ hw) (hml.trans hl.1.symm) (by rw [hb]; exact (xb_d D_Checker_checkElements 16 rfl)) (Nat.le_of_ble_eq_true rfl) (Nat.le_of_ble_eq_true rfl) (Nat.le_of_ble_eq_true rfl) (show k ≤ MC by omega) (show n ≤ MS by omega) (xt_w1 hB.1 m_83ba3721) (xt_cdOf hB.1 m_83ba3721) (hts _ m_c1bef504) hB hR hS hA (fun vv h10 H locs hq hEh10 hR hS => ?_)
      obtain ⟨r11, rfl, hw⟩ := hq
      have hw := hw hEh10
      have hE := hE.tr hEh10
      refine W.eq (g2 := F0 m 31 ls [.int r11, .int x2, .ref x1, .ref x0]) rfl ?_
      have hk5 : xb_k h10 x0 = 5 := hEh10.k hk5
      refine xb_call (D := D) (A := A) (σ := σ) (h := h10) (d := 4) (mc := bc) (ms := bs) (maxL := 4) (rest := []) (av := [.ref x0, .ref x1, .int x2, .int r11]) (fun T hT X => by obtain ⟨cb9, ra9, rb9, rc9⟩ := xb_recv (ci := 4) hR rfl hk5 (by decide); exact xt_invV X hx hown (hts _ m_0ca8f09c) (hts _ m_08a9bc84) (hts _ m_d0965882) (xt_sigOf (hts _ m_707441d7)) nm_Checker_checkOffset (by rw [hT]; exact ra9) rb9 rc9 (g := F0 m 31 ls [.int r11, .int x2, .ref x1, .ref x0]) rfl (argsL := [.ref x1, .int x2, .int r11]) (rest := []) rfl rfl (by rw [hb]; exact (xb_d D_Checker_checkElements 17 rfl))) (ok_Checker_checkOffset l hfl D A σ x0 x1 x2 r11 h10 bc bs _ _ hw) (hml.trans hl.1.symm) (by rw [hb]; exact (xb_d D_Checker_checkElements 17 rfl)) (Nat.le_of_ble_eq_true rfl) (Nat.le_of_ble_eq_true rfl) (Nat.le_of_ble_eq_true rfl) (show k + bc ≤ MC by omega) (show n + bs ≤ MS by omega) (xt_w1 hB.1 m_707441d7) (xt_cdOf hB.1 m_707441d7) (hts _ m_44748ce5) hB hR hS hA (fun vv h12 bc13 bs13 kk13 nn13 H locs hk13 hn13 hq hEh12 hR hS => ?_) (fun XX ax h12 bc13 bs13 kk13 nn13 H locs hk13 hn13 hq hEh12 hex hR hS => ?_)
      · obtain ⟨rfl, hw⟩ := hq
        have hw := hw hEh12
        have hE := hE.tr hEh12
        refine W.eq (g2 := F0 m 34 ls []) rfl ?_
        refine lv_aload_n hx hb (xb_d D_Checker_checkElements 18 rfl) rfl (lv_at hl 1 rfl) ?_
        refine lv_iload_n hx hb (xb_d D_Checker_checkElements 19 rfl) rfl (lv_at hl 2 rfl) ?_
        refine lv_iconst (v := 3) hx hb (xb_d D_Checker_checkElements 20 rfl) (by decide) ?_
        have hk1 : xb_k h2 x1 = 2 := hEh2.k hk1
        have hk1 : xb_k h10 x1 = 2 := hEh10.k hk1
        have hk1 : xb_k h12 x1 = 2 := hEh12.k hk1
        refine xb_call0 (D := D) (A := A) (σ := σ) (h := h12) (d := 2) (maxL := 3) (rest := []) (av := [.ref x1, .int x2, .int 3]) (fun T hT X => by obtain ⟨cb9, ra9, rb9, rc9⟩ := xb_recv (ci := 1) hR rfl hk1 (by decide); exact xt_invV X hx hown (hts _ m_068feb96) (hts _ m_8e233096) (hts _ m_27eed10c) (xt_sigOf (hts _ m_ff1c70ae)) nm_Row_at (by rw [hT]; exact ra9) rb9 rc9 (g := F0 m 37 ls [.int 3, .int x2, .ref x1]) rfl (argsL := [.int x2, .int 3]) (rest := []) rfl rfl (by rw [hb]; exact (xb_d D_Checker_checkElements 21 rfl))) (ok_Row_at l hfl D A σ x1 x2 3 h12 _ hw) (hml.trans hl.1.symm) (by rw [hb]; exact (xb_d D_Checker_checkElements 21 rfl)) (Nat.le_of_ble_eq_true rfl) (Nat.le_of_ble_eq_true rfl) (Nat.le_of_ble_eq_true rfl) (show (k + kk13) ≤ MC by omega) (show (n + nn13) ≤ MS by omega) (xt_w1 hB.1 m_ff1c70ae) (xt_cdOf hB.1 m_ff1c70ae) (hts _ m_c1bef504) hB hR hS hA (fun vv h14 H locs hq hEh14 hR hS => ?_)
        obtain ⟨r15, rfl, hw⟩ := hq
        have hw := hw hEh14
        have hE := hE.tr hEh14
        refine W.eq (g2 := F0 m 40 ls [.int r15]) rfl ?_
        refine lv_istore_n hx hb (xb_d D_Checker_checkElements 22 rfl) rfl hl (by decide) rfl (fun ls hl => ?_)
        have hl : lv_has ls 5 [(3, .int r15), (0, .ref x0), (1, .ref x1), (2, .int x2)] := hl
        refine lv_iconst (v := 0) hx hb (xb_d D_Checker_checkElements 23 rfl) (by decide) ?_
        refine lv_istore hx hb (xb_d D_Checker_checkElements 24 rfl) hl (by decide) rfl (fun ls hl => ?_)
        have hl : lv_has ls 5 [(4, .int 0), (3, .int r15), (0, .ref x0), (1, .ref x1), (2, .int x2)] := hl
        obtain ⟨n8, hw⟩ := hw
        exact am_Checker_checkElements_L44 l hfl D A σ MC MS h0 Qr Qt (w_Checker_checkElements_L10 Qr Qt n9) ih n8 x0 x1 x2 r15 0 h14 bc13 bs13 hw p e s m args below meth c hC H locs ls (k + kk13) (n + nn13) hE (lv_sub hl [2, 3, 4, 1, 0] rfl) hR hS (by omega) (by omega)
      · exact xb_pass hlocks (fun x hx9 => by rw [htab] at hx9; first | (cases hx9; done) | (simp [tableOf] at hx9; subst hx9; decide) | (simp [tableOf] at hx9; rcases hx9 with rfl | rfl <;> decide) | (simp [tableOf] at hx9; rcases hx9 with rfl | rfl | rfl <;> decide)) (show (k + kk13) + bc13 ≤ MC by omega) (show (n + nn13) + bs13 ≤ MS by omega) (hE.tr hEh12) hR hS hex hq

set_option maxHeartbeats 4000000 in
set_option maxRecDepth 100000 in
theorem ok_Checker_checkElements (l : Launch) (hfl : l.flags = pinnedFlags ++ [noTraceFlag]) (D : va_G) (A : Nat → Prop) (σ : Nat) (x0 : Nat) (h : xb_H) (bc : Nat) (bs : Nat) (Qr : xb_H → Nat → Nat → Prop) (Qt : String → xb_H → Nat → Nat → Prop) (hw : w_Checker_checkElements x0 h bc bs Qr Qt) : xb_Met l y_Checker_checkElements [.code y_Checker_checkElements b_Checker_checkElements 5 none] (xb_rm 5 bc bs) (xb_Pc D A σ h [.ref x0]) (xb_Qc D A h bc bs (fun v h bc bs => v = none ∧ Qr h bc bs) Qt) A := by
  refine xb_ofAm (cc := b_Checker_checkElements) (by decide) (Nat.le_of_ble_eq_true rfl) ?_
  unfold w_Checker_checkElements at hw
  show xb_am l D A σ 5 bc bs h (fun v h bc bs => v = none ∧ Qr h bc bs) Qt y_Checker_checkElements.cls y_Checker_checkElements.name b_Checker_checkElements 5 ([] : List ExceptionTableEntry) none 0 [(0, .ref x0)] [] h bc bs
  obtain ⟨MC, hMC⟩ : ∃ x, x = bc := ⟨_, rfl⟩
  obtain ⟨MS, hMS⟩ : ∃ x, x = bs := ⟨_, rfl⟩
  rw [show xb_am l D A σ 5 bc bs = xb_am l D A σ 5 MC MS by rw [hMC, hMS]]
  obtain ⟨h0, hh0⟩ : ∃ x, x = h := ⟨_, rfl⟩
  rw [show xb_am l D A σ 5 MC MS h = xb_am l D A σ 5 MC MS h0 by rw [hh0]]
  intro p e s m args below meth c hC H locs ls k n hE hl hR hS hk hn
  obtain ⟨hx, hb, hown, hlocks, htab, hml, hr, hB, hA, hnm⟩ := id hC
  have hts := hB.1.1.at args
  refine lv_aload_n hx hb (xb_d D_Checker_checkElements 0 rfl) rfl (lv_at hl 0 rfl) ?_
  obtain ⟨hk1, hw⟩ := hw
  refine xb_getP (C := R_Checker) (T := F_Checker) (N := 17) hx hb 4 0 hts fin_Checker hown hR hk1 (by decide) rfl (by decide) rfl (hts _ m_070795bc) (fun _ h9 => h9) (xb_d D_Checker_checkElements 1 rfl) ?_
  obtain ⟨b2, eb2, hw⟩ := hw
  refine xb_some eb2 ?_
  obtain ⟨hk3, hw⟩ := hw
  refine xb_getP (C := R_StackModule) (T := F_StackModule) (N := 19) hx hb 2 9 hts fin_StackModule hown hR hk3 (by decide) rfl (by decide) rfl (hts _ m_61dca033) (fun _ h9 => h9) (xb_d D_Checker_checkElements 2 rfl) ?_
  obtain ⟨b4, eb4, hw⟩ := hw
  refine xb_some eb4 ?_
  refine lv_astore_n hx hb (xb_d D_Checker_checkElements 3 rfl) rfl hl (by decide) rfl (fun ls hl => ?_)
  have hl : lv_has ls 5 [(1, .ref b4), (0, .ref x0)] := hl
  refine lv_iconst (v := 0) hx hb (xb_d D_Checker_checkElements 4 rfl) (by decide) ?_
  refine lv_istore_n hx hb (xb_d D_Checker_checkElements 5 rfl) rfl hl (by decide) rfl (fun ls hl => ?_)
  have hl : lv_has ls 5 [(2, .int 0), (1, .ref b4), (0, .ref x0)] := hl
  obtain ⟨n8, hw⟩ := hw
  exact am_Checker_checkElements_L10 l hfl D A σ MC MS h0 Qr Qt n8 x0 b4 0 h bc bs hw p e s m args below meth c hC H locs ls k n hE (lv_sub hl [2, 1, 0] rfl) hR hS (by omega) (by omega)

theorem m_40119955 : (.methodLink "StackHost$Format" 56 y_Format_root : Cond) ∈ xt_tbl := xt_in (xt_t8 (List.mem_of_getElem? (i := 94) (by decide +kernel))) (by decide +kernel)
theorem m_b3504f0f : (.instanceMethod y_Format_root : Cond) ∈ xt_tbl := xt_in (xt_t8 (List.mem_of_getElem? (i := 96) (by decide +kernel))) (by decide +kernel)
theorem m_ac885d41 : (.selects "StackHost$Format" y_Format_root y_Format_root : Cond) ∈ xt_tbl := xt_in (xt_v7 (q := (⟨"StackHost$Format", "root", "(J)J"⟩, 5)) (List.mem_of_getElem? (i := 11) (by decide +kernel))) (by decide +kernel)
theorem m_907d0fde : (.code y_Format_root b_Format_root 13 (some .long) : Cond) ∈ xt_tbl := xt_in (xt_t8 (List.mem_of_getElem? (i := 97) (by decide +kernel))) (by decide +kernel)
theorem m_2aab6dc4 : (.methodLink "StackHost$Format" 59 y_Format_rounded : Cond) ∈ xt_tbl := xt_in (xt_t8 (List.mem_of_getElem? (i := 98) (by decide +kernel))) (by decide +kernel)
theorem m_bf2824a5 : (.instanceMethod y_Format_rounded : Cond) ∈ xt_tbl := xt_in (xt_t8 (List.mem_of_getElem? (i := 100) (by decide +kernel))) (by decide +kernel)
theorem m_a2fad9e7 : (.selects "StackHost$Format" y_Format_rounded y_Format_rounded : Cond) ∈ xt_tbl := xt_in (xt_v7 (q := (⟨"StackHost$Format", "rounded", "(IJ)J"⟩, 5)) (List.mem_of_getElem? (i := 12) (by decide +kernel))) (by decide +kernel)
theorem m_c8735f22 : (.code y_Format_rounded b_Format_rounded 17 (some .long) : Cond) ∈ xt_tbl := xt_in (xt_t8 (List.mem_of_getElem? (i := 101) (by decide +kernel))) (by decide +kernel)
theorem nm_Format_root : xt_nm y_Format_root 1 := ⟨by decide +kernel, by decide +kernel⟩
theorem nm_Format_rounded : xt_nm y_Format_rounded 2 := ⟨by decide +kernel, by decide +kernel⟩
set_option maxRecDepth 100000 in
def T_Format_reckonOne : List (Nat × Instr × Nat) := [(0, .iload_n 1, 1), (1, .lookupswitch 54 #[(0, 35), (1, 41), (6, 48)], 35), (36, .aload_n 0, 1), (37, .lload_n 2, 1), (38, .invokevirtual 53, 3), (41, .lreturn, 1), (42, .lload_n 2, 1), (43, .aload_n 0, 1), (44, .getfield 18, 3), (47, .lxor, 1), (48, .lreturn, 1), (49, .aload_n 0, 1), (50, .lload_n 2, 1), (51, .invokevirtual 56, 3), (54, .lreturn, 1), (55, .aload_n 0, 1), (56, .lload_n 2, 1), (57, .invokevirtual 42, 3), (60, .ifCond .eq 10, 3), (63, .aload_n 0, 1), (64, .getfield 27, 3), (67, .goto 9, 3), (70, .aload_n 0, 1), (71, .iload_n 1, 1), (72, .lload_n 2, 1), (73, .invokevirtual 59, 3), (76, .lreturn, 1)]
theorem D_Format_reckonOne : ∀ q ∈ T_Format_reckonOne, decode b_Format_reckonOne q.1 = .ok (q.2.1, q.2.2) := by decide +kernel

set_option maxHeartbeats 4000000 in
set_option maxRecDepth 100000 in
theorem am_Format_reckonOne_L76 (l : Launch) (hfl : l.flags = pinnedFlags ++ [noTraceFlag]) (D : va_G) (A : Nat → Prop) (σ MC MS : Nat) (h0 : xb_H) (Qr : Int64 → xb_H → Prop) (y0 : Int64) (h : xb_H) (hw : w_Format_reckonOne_L76 Qr y0 h) : xb_am l D A σ 5 MC MS h0 (fun v h _ _ => ∃ r, v = some (.long r) ∧ Qr r h) (fun _ _ _ _ => False) y_Format_reckonOne.cls y_Format_reckonOne.name b_Format_reckonOne 4 ([] : List ExceptionTableEntry) (some .long) 76 [] [.long y0] h 0 0 := by
  unfold w_Format_reckonOne_L76 at hw
  intro p e s m args below meth c hC H locs ls k n hE hl hR hS hk hn
  obtain ⟨hx, hb, hown, hlocks, htab, hml, hr, hB, hA, hnm⟩ := id hC
  have hts := hB.1.1.at args
  exact xb_lret 0 0 hx hb hr hlocks (show k + 0 ≤ MC by omega) (show n + 0 ≤ MS by omega) hE hR hS (xb_d D_Format_reckonOne 26 rfl) hw

set_option maxHeartbeats 4000000 in
set_option maxRecDepth 100000 in
theorem ok_Format_reckonOne (l : Launch) (hfl : l.flags = pinnedFlags ++ [noTraceFlag]) (D : va_G) (A : Nat → Prop) (σ : Nat) (x0 : Nat) (x1 : Int32) (x2 : Int64) (h : xb_H) (Qr : Int64 → xb_H → Prop) (hw : w_Format_reckonOne x0 x1 x2 h Qr) : xb_Met l y_Format_reckonOne [.code y_Format_reckonOne b_Format_reckonOne 4 (some .long)] (xb_rm 5 0 0) (xb_Pc D A σ h [.ref x0, .int x1, .long x2]) (xb_Qc D A h 0 0 (fun v h _ _ => ∃ r, v = some (.long r) ∧ Qr r h) (fun _ _ _ _ => False)) A := by
  refine xb_ofAm (cc := b_Format_reckonOne) (by decide) (Nat.le_of_ble_eq_true rfl) ?_
  unfold w_Format_reckonOne at hw
  show xb_am l D A σ 5 0 0 h (fun v h _ _ => ∃ r, v = some (.long r) ∧ Qr r h) (fun _ _ _ _ => False) y_Format_reckonOne.cls y_Format_reckonOne.name b_Format_reckonOne 4 ([] : List ExceptionTableEntry) (some .long) 0 [(0, .ref x0), (1, .int x1), (2, .long x2)] [] h 0 0
  obtain ⟨MC, hMC⟩ : ∃ x, x = 0 := ⟨_, rfl⟩
  obtain ⟨MS, hMS⟩ : ∃ x, x = 0 := ⟨_, rfl⟩
  rw [show xb_am l D A σ 5 0 0 = xb_am l D A σ 5 MC MS by rw [hMC, hMS]]
  obtain ⟨h0, hh0⟩ : ∃ x, x = h := ⟨_, rfl⟩
  rw [show xb_am l D A σ 5 MC MS h = xb_am l D A σ 5 MC MS h0 by rw [hh0]]
  intro p e s m args below meth c hC H locs ls k n hE hl hR hS hk hn
  obtain ⟨hx, hb, hown, hlocks, htab, hml, hr, hB, hA, hnm⟩ := id hC
  have hts := hB.1.1.at args
  refine lv_iload_n hx hb (xb_d D_Format_reckonOne 0 rfl) rfl (lv_at hl 1 rfl) ?_
  by_cases hc1 : x1 = 0
  · have hw := hw.1 hc1
    refine xt_numi hc1 ?_
    refine lv_lookup (off := 35) (tgt := 36) hx hb (xb_d D_Format_reckonOne 1 rfl) (by decide +kernel) (by decide +kernel) (by decide) ?_
    refine lv_aload_n hx hb (xb_d D_Format_reckonOne 2 rfl) rfl (lv_at hl 0 rfl) ?_
    refine lv_lload_n hx hb (xb_d D_Format_reckonOne 3 rfl) rfl (lv_at hl 2 rfl) ?_
    obtain ⟨hk2, hw⟩ := hw
    refine xb_call0 (D := D) (A := A) (σ := σ) (h := h) (d := 2) (maxL := 3) (rest := []) (av := [.ref x0, .long x2]) (fun T hT X => by obtain ⟨cb9, ra9, rb9, rc9⟩ := xb_recv (ci := 5) hR rfl hk2 (by decide); exact xt_invV X hx hown (hts _ m_d2fcf5e9) (hts _ m_9ed8050f) (hts _ m_945e3e7d) (xt_sigOf (hts _ m_08158875)) nm_Format_magnitude (by rw [hT]; exact ra9) rb9 rc9 (g := F0 m 38 ls [.long x2, .ref x0]) rfl (argsL := [.long x2]) (rest := []) rfl rfl (by rw [hb]; exact (xb_d D_Format_reckonOne 4 rfl))) (ok_Format_magnitude l hfl D A σ x0 x2 h _ hw) (hml.trans hl.1.symm) (by rw [hb]; exact (xb_d D_Format_reckonOne 4 rfl)) (Nat.le_of_ble_eq_true rfl) (Nat.le_of_ble_eq_true rfl) (Nat.le_of_ble_eq_true rfl) (show k ≤ MC by omega) (show n ≤ MS by omega) (xt_w1 hB.1 m_08158875) (xt_cdOf hB.1 m_08158875) (hts _ m_64857de5) hB hR hS hA (fun vv h3 H locs hq hEh3 hR hS => ?_)
    obtain ⟨r4, rfl, hw⟩ := hq
    have hw := hw hEh3
    have hE := hE.tr hEh3
    refine W.eq (g2 := F0 m 41 ls [.long r4]) rfl ?_
    exact xb_lret 0 0 hx hb hr hlocks (show k + 0 ≤ MC by omega) (show n + 0 ≤ MS by omega) hE hR hS (xb_d D_Format_reckonOne 5 rfl) hw
  have hw := hw.2
  by_cases hc5 : x1 = 1
  · have hw := hw.1 hc5
    refine xt_numi hc5 ?_
    refine lv_lookup (off := 41) (tgt := 42) hx hb (xb_d D_Format_reckonOne 1 rfl) (by decide +kernel) (by decide +kernel) (by decide) ?_
    refine lv_lload_n hx hb (xb_d D_Format_reckonOne 6 rfl) rfl (lv_at hl 2 rfl) ?_
    refine lv_aload_n hx hb (xb_d D_Format_reckonOne 7 rfl) rfl (lv_at hl 0 rfl) ?_
    obtain ⟨hk6, hw⟩ := hw
    refine xb_getL (C := R_Format) (T := F_Format) (N := 5) hx hb 5 2 hts fin_Format hown hR hk6 (by decide) rfl (by decide) rfl (hts _ m_e3160854) (fun _ h9 => h9) (xb_d D_Format_reckonOne 8 rfl) ?_
    refine lv_lxor hx hb (xb_d D_Format_reckonOne 9 rfl) ?_
    exact xb_lret 0 0 hx hb hr hlocks (show k + 0 ≤ MC by omega) (show n + 0 ≤ MS by omega) hE hR hS (xb_d D_Format_reckonOne 10 rfl) hw
  have hw := hw.2
  by_cases hc7 : x1 = 6
  · have hw := hw.1 hc7
    refine xt_numi hc7 ?_
    refine lv_lookup (off := 48) (tgt := 49) hx hb (xb_d D_Format_reckonOne 1 rfl) (by decide +kernel) (by decide +kernel) (by decide) ?_
    refine lv_aload_n hx hb (xb_d D_Format_reckonOne 11 rfl) rfl (lv_at hl 0 rfl) ?_
    refine lv_lload_n hx hb (xb_d D_Format_reckonOne 12 rfl) rfl (lv_at hl 2 rfl) ?_
    obtain ⟨hk8, hw⟩ := hw
    refine xb_call0 (D := D) (A := A) (σ := σ) (h := h) (d := 4) (maxL := 13) (rest := []) (av := [.ref x0, .long x2]) (fun T hT X => by obtain ⟨cb9, ra9, rb9, rc9⟩ := xb_recv (ci := 5) hR rfl hk8 (by decide); exact xt_invV X hx hown (hts _ m_40119955) (hts _ m_b3504f0f) (hts _ m_ac885d41) (xt_sigOf (hts _ m_907d0fde)) nm_Format_root (by rw [hT]; exact ra9) rb9 rc9 (g := F0 m 51 ls [.long x2, .ref x0]) rfl (argsL := [.long x2]) (rest := []) rfl rfl (by rw [hb]; exact (xb_d D_Format_reckonOne 13 rfl))) (ok_Format_root l hfl D A σ x0 x2 h _ hw) (hml.trans hl.1.symm) (by rw [hb]; exact (xb_d D_Format_reckonOne 13 rfl)) (Nat.le_of_ble_eq_true rfl) (Nat.le_of_ble_eq_true rfl) (Nat.le_of_ble_eq_true rfl) (show k ≤ MC by omega) (show n ≤ MS by omega) (xt_w1 hB.1 m_907d0fde) (xt_cdOf hB.1 m_907d0fde) (hts _ m_64857de5) hB hR hS hA (fun vv h9 H locs hq hEh9 hR hS => ?_)
    obtain ⟨r10, rfl, hw⟩ := hq
    have hw := hw hEh9
    have hE := hE.tr hEh9
    refine W.eq (g2 := F0 m 54 ls [.long r10]) rfl ?_
    exact xb_lret 0 0 hx hb hr hlocks (show k + 0 ≤ MC by omega) (show n + 0 ≤ MS by omega) hE hR hS (xb_d D_Format_reckonOne 14 rfl) hw
  have hw := hw.2
  have hw := hw hc1 hc5 hc7
  refine lv_lookup (off := 54) (tgt := 55) hx hb (xb_d D_Format_reckonOne 1 rfl) (by decide +kernel) (by simp only [List.toList_toArray, Op.lookupswitch.offset_cons, Op.lookupswitch.offset_nil]; rw [if_neg (fun h9 => xb_nl (0) 0 (by decide) hc1 h9.symm), if_neg (fun h9 => xb_nl (1) 1 (by decide) hc5 h9.symm), if_neg (fun h9 => xb_nl (6) 6 (by decide) hc7 h9.symm)]) (by decide) ?_
  refine lv_aload_n hx hb (xb_d D_Format_reckonOne 15 rfl) rfl (lv_at hl 0 rfl) ?_
  refine lv_lload_n hx hb (xb_d D_Format_reckonOne 16 rfl) rfl (lv_at hl 2 rfl) ?_
  obtain ⟨hk11, hw⟩ := hw
  refine xb_call0 (D := D) (A := A) (σ := σ) (h := h) (d := 2) (maxL := 3) (rest := []) (av := [.ref x0, .long x2]) (fun T hT X => by obtain ⟨cb9, ra9, rb9, rc9⟩ := xb_recv (ci := 5) hR rfl hk11 (by decide); exact xt_invV X hx hown (hts _ m_e7d6b62e) (hts _ m_28f89ecd) (hts _ m_79f90d13) (xt_sigOf (hts _ m_2f81ed74)) nm_Format_isNan (by rw [hT]; exact ra9) rb9 rc9 (g := F0 m 57 ls [.long x2, .ref x0]) rfl (argsL := [.long x2]) (rest := []) rfl rfl (by rw [hb]; exact (xb_d D_Format_reckonOne 17 rfl))) (ok_Format_isNan l hfl D A σ x0 x2 h _ hw) (hml.trans hl.1.symm) (by rw [hb]; exact (xb_d D_Format_reckonOne 17 rfl)) (Nat.le_of_ble_eq_true rfl) (Nat.le_of_ble_eq_true rfl) (Nat.le_of_ble_eq_true rfl) (show k ≤ MC by omega) (show n ≤ MS by omega) (xt_w1 hB.1 m_2f81ed74) (xt_cdOf hB.1 m_2f81ed74) (hts _ m_64857de5) hB hR hS hA (fun vv h12 H locs hq hEh12 hR hS => ?_)
  obtain ⟨r13, rfl, hw⟩ := hq
  have hw := hw hEh12
  have hE := hE.tr hEh12
  refine W.eq (g2 := F0 m 60 ls [.int r13]) rfl ?_
  refine lv_if_eq (tgt := 70) hx hb (xb_d D_Format_reckonOne 18 rfl) rfl (fun hc14 => ?_) (fun hc14 => ?_)
  · have hw := hw.1 hc14
    refine lv_aload_n hx hb (xb_d D_Format_reckonOne 22 rfl) rfl (lv_at hl 0 rfl) ?_
    refine lv_iload_n hx hb (xb_d D_Format_reckonOne 23 rfl) rfl (lv_at hl 1 rfl) ?_
    refine lv_lload_n hx hb (xb_d D_Format_reckonOne 24 rfl) rfl (lv_at hl 2 rfl) ?_
    have hk11 : xb_k h12 x0 = 6 := hEh12.k hk11
    refine xb_call0 (D := D) (A := A) (σ := σ) (h := h12) (d := 3) (maxL := 17) (rest := []) (av := [.ref x0, .int x1, .long x2]) (fun T hT X => by obtain ⟨cb9, ra9, rb9, rc9⟩ := xb_recv (ci := 5) hR rfl hk11 (by decide); exact xt_invV X hx hown (hts _ m_2aab6dc4) (hts _ m_bf2824a5) (hts _ m_a2fad9e7) (xt_sigOf (hts _ m_c8735f22)) nm_Format_rounded (by rw [hT]; exact ra9) rb9 rc9 (g := F0 m 73 ls [.long x2, .int x1, .ref x0]) rfl (argsL := [.int x1, .long x2]) (rest := []) rfl rfl (by rw [hb]; exact (xb_d D_Format_reckonOne 25 rfl))) (ok_Format_rounded l hfl D A σ x0 x1 x2 h12 _ hw) (hml.trans hl.1.symm) (by rw [hb]; exact (xb_d D_Format_reckonOne 25 rfl)) (Nat.le_of_ble_eq_true rfl) (Nat.le_of_ble_eq_true rfl) (Nat.le_of_ble_eq_true rfl) (show k ≤ MC by omega) (show n ≤ MS by omega) (xt_w1 hB.1 m_c8735f22) (xt_cdOf hB.1 m_c8735f22) (hts _ m_64857de5) hB hR hS hA (fun vv h15 H locs hq hEh15 hR hS => ?_)
    obtain ⟨r16, rfl, hw⟩ := hq
    have hw := hw hEh15
    have hE := hE.tr hEh15
    refine W.eq (g2 := F0 m 76 ls [.long r16]) rfl ?_
    exact am_Format_reckonOne_L76 l hfl D A σ MC MS h0 Qr r16 h15 hw p e s m args below meth c hC H locs ls k n hE (lv_sub hl [] rfl) hR hS (by omega) (by omega)
  · have hw := hw.2 hc14
    refine lv_aload_n hx hb (xb_d D_Format_reckonOne 19 rfl) rfl (lv_at hl 0 rfl) ?_
    have hk11 : xb_k h12 x0 = 6 := hEh12.k hk11
    refine xb_getL (C := R_Format) (T := F_Format) (N := 5) hx hb 5 4 hts fin_Format hown hR hk11 (by decide) rfl (by decide) rfl (hts _ m_291a6679) (fun _ h9 => h9) (xb_d D_Format_reckonOne 20 rfl) ?_
    refine lv_goto (tgt := 76) hx hb (xb_d D_Format_reckonOne 21 rfl) rfl ?_
    exact am_Format_reckonOne_L76 l hfl D A σ MC MS h0 Qr (xb_l h12 x0 4) h12 hw p e s m args below meth c hC H locs ls k n hE (lv_sub hl [] rfl) hR hS (by omega) (by omega)

theorem m_ded25aeb : (.methodLink "StackHost$Format" 90 y_Format_sum : Cond) ∈ xt_tbl := xt_in (xt_t8 (List.mem_of_getElem? (i := 109) (by decide +kernel))) (by decide +kernel)
theorem m_8097a839 : (.instanceMethod y_Format_sum : Cond) ∈ xt_tbl := xt_in (xt_t8 (List.mem_of_getElem? (i := 111) (by decide +kernel))) (by decide +kernel)
theorem m_3fa0fe8b : (.selects "StackHost$Format" y_Format_sum y_Format_sum : Cond) ∈ xt_tbl := xt_in (xt_v7 (q := (⟨"StackHost$Format", "sum", "(JJ)J"⟩, 5)) (List.mem_of_getElem? (i := 13) (by decide +kernel))) (by decide +kernel)
theorem m_6dce137b : (.code y_Format_sum b_Format_sum 14 (some .long) : Cond) ∈ xt_tbl := xt_in (xt_t8 (List.mem_of_getElem? (i := 112) (by decide +kernel))) (by decide +kernel)
theorem m_b24dfaa2 : (.methodLink "StackHost$Format" 94 y_Format_product : Cond) ∈ xt_tbl := xt_in (xt_t8 (List.mem_of_getElem? (i := 120) (by decide +kernel))) (by decide +kernel)
theorem m_1a11e817 : (.instanceMethod y_Format_product : Cond) ∈ xt_tbl := xt_in (xt_t8 (List.mem_of_getElem? (i := 122) (by decide +kernel))) (by decide +kernel)
theorem m_21557c18 : (.selects "StackHost$Format" y_Format_product y_Format_product : Cond) ∈ xt_tbl := xt_in (xt_v7 (q := (⟨"StackHost$Format", "product", "(JJ)J"⟩, 5)) (List.mem_of_getElem? (i := 15) (by decide +kernel))) (by decide +kernel)
theorem m_c8fc43d7 : (.code y_Format_product b_Format_product 8 (some .long) : Cond) ∈ xt_tbl := xt_in (xt_t8 (List.mem_of_getElem? (i := 123) (by decide +kernel))) (by decide +kernel)
theorem m_edb2dfd6 : (.methodLink "StackHost$Format" 97 y_Format_quotient : Cond) ∈ xt_tbl := xt_in (xt_t8 (List.mem_of_getElem? (i := 128) (by decide +kernel))) (by decide +kernel)
theorem m_6d5522f0 : (.instanceMethod y_Format_quotient : Cond) ∈ xt_tbl := xt_in (xt_t8 (List.mem_of_getElem? (i := 130) (by decide +kernel))) (by decide +kernel)
theorem m_119e0a2c : (.selects "StackHost$Format" y_Format_quotient y_Format_quotient : Cond) ∈ xt_tbl := xt_in (xt_v8 (q := (⟨"StackHost$Format", "quotient", "(JJ)J"⟩, 5)) (List.mem_of_getElem? (i := 0) (by decide +kernel))) (by decide +kernel)
theorem m_a0ccade9 : (.code y_Format_quotient b_Format_quotient 13 (some .long) : Cond) ∈ xt_tbl := xt_in (xt_t8 (List.mem_of_getElem? (i := 131) (by decide +kernel))) (by decide +kernel)
theorem m_0afc78d6 : (.methodLink "StackHost$Format" 100 y_Format_lesser : Cond) ∈ xt_tbl := xt_in (xt_t8 (List.mem_of_getElem? (i := 132) (by decide +kernel))) (by decide +kernel)
theorem m_c57f952a : (.instanceMethod y_Format_lesser : Cond) ∈ xt_tbl := xt_in (xt_t8 (List.mem_of_getElem? (i := 134) (by decide +kernel))) (by decide +kernel)
theorem m_2d40ac3b : (.selects "StackHost$Format" y_Format_lesser y_Format_lesser : Cond) ∈ xt_tbl := xt_in (xt_v8 (q := (⟨"StackHost$Format", "lesser", "(JJ)J"⟩, 5)) (List.mem_of_getElem? (i := 1) (by decide +kernel))) (by decide +kernel)
theorem m_1d3bab40 : (.code y_Format_lesser b_Format_lesser 5 (some .long) : Cond) ∈ xt_tbl := xt_in (xt_t8 (List.mem_of_getElem? (i := 135) (by decide +kernel))) (by decide +kernel)
theorem m_86bdf6e5 : (.methodLink "StackHost$Format" 103 y_Format_greater : Cond) ∈ xt_tbl := xt_in (xt_t8 (List.mem_of_getElem? (i := 140) (by decide +kernel))) (by decide +kernel)
theorem m_b9510508 : (.instanceMethod y_Format_greater : Cond) ∈ xt_tbl := xt_in (xt_t8 (List.mem_of_getElem? (i := 142) (by decide +kernel))) (by decide +kernel)
theorem m_19603baa : (.selects "StackHost$Format" y_Format_greater y_Format_greater : Cond) ∈ xt_tbl := xt_in (xt_v8 (q := (⟨"StackHost$Format", "greater", "(JJ)J"⟩, 5)) (List.mem_of_getElem? (i := 3) (by decide +kernel))) (by decide +kernel)
theorem m_c4a9dc90 : (.code y_Format_greater b_Format_greater 5 (some .long) : Cond) ∈ xt_tbl := xt_in (xt_t8 (List.mem_of_getElem? (i := 143) (by decide +kernel))) (by decide +kernel)
theorem nm_Format_sum : xt_nm y_Format_sum 2 := ⟨by decide +kernel, by decide +kernel⟩
theorem nm_Format_product : xt_nm y_Format_product 2 := ⟨by decide +kernel, by decide +kernel⟩
theorem nm_Format_quotient : xt_nm y_Format_quotient 2 := ⟨by decide +kernel, by decide +kernel⟩
theorem nm_Format_lesser : xt_nm y_Format_lesser 2 := ⟨by decide +kernel, by decide +kernel⟩
theorem nm_Format_greater : xt_nm y_Format_greater 2 := ⟨by decide +kernel, by decide +kernel⟩
set_option maxRecDepth 100000 in
def T_Format_reckonTwo : List (Nat × Instr × Nat) := [(0, .iload_n 1, 1), (1, .bipush 6, 2), (3, .if_icmp .ne 17, 3), (6, .aload_n 0, 1), (7, .lload_n 2, 1), (8, .invokevirtual 53, 3), (11, .lload 4, 2), (13, .aload_n 0, 1), (14, .getfield 18, 3), (17, .land, 1), (18, .lor, 1), (19, .lreturn, 1), (20, .aload_n 0, 1), (21, .lload_n 2, 1), (22, .invokevirtual 42, 3), (25, .ifCond .ne 12, 3), (28, .aload_n 0, 1), (29, .lload 4, 2), (31, .invokevirtual 42, 3), (34, .ifCond .eq 8, 3), (37, .aload_n 0, 1), (38, .getfield 27, 3), (41, .lreturn, 1), (42, .iload_n 1, 1), (43, .tableswitch 78 0 4 #[33, 41, 54, 62, 70], 33), (76, .aload_n 0, 1), (77, .lload_n 2, 1), (78, .lload 4, 2), (80, .invokevirtual 90, 3), (83, .lreturn, 1), (84, .aload_n 0, 1), (85, .lload_n 2, 1), (86, .lload 4, 2), (88, .aload_n 0, 1), (89, .getfield 18, 3), (92, .lxor, 1), (93, .invokevirtual 90, 3), (96, .lreturn, 1), (97, .aload_n 0, 1), (98, .lload_n 2, 1), (99, .lload 4, 2), (101, .invokevirtual 94, 3), (104, .lreturn, 1), (105, .aload_n 0, 1), (106, .lload_n 2, 1), (107, .lload 4, 2), (109, .invokevirtual 97, 3), (112, .lreturn, 1), (113, .aload_n 0, 1), (114, .lload_n 2, 1), (115, .lload 4, 2), (117, .invokevirtual 100, 3), (120, .lreturn, 1), (121, .aload_n 0, 1), (122, .lload_n 2, 1), (123, .lload 4, 2), (125, .invokevirtual 103, 3), (128, .lreturn, 1)]
theorem D_Format_reckonTwo : ∀ q ∈ T_Format_reckonTwo, decode b_Format_reckonTwo q.1 = .ok (q.2.1, q.2.2) := by decide +kernel

set_option maxHeartbeats 4000000 in
set_option maxRecDepth 100000 in
theorem am_Format_reckonTwo_L37 (l : Launch) (hfl : l.flags = pinnedFlags ++ [noTraceFlag]) (D : va_G) (A : Nat → Prop) (σ MC MS : Nat) (h0 : xb_H) (Qr : Int64 → xb_H → Prop) (x0 : Nat) (h : xb_H) (hw : w_Format_reckonTwo_L37 Qr x0 h) : xb_am l D A σ 5 MC MS h0 (fun v h _ _ => ∃ r, v = some (.long r) ∧ Qr r h) (fun _ _ _ _ => False) y_Format_reckonTwo.cls y_Format_reckonTwo.name b_Format_reckonTwo 6 ([] : List ExceptionTableEntry) (some .long) 37 [(0, .ref x0)] [] h 0 0 := by
  unfold w_Format_reckonTwo_L37 at hw
  intro p e s m args below meth c hC H locs ls k n hE hl hR hS hk hn
  obtain ⟨hx, hb, hown, hlocks, htab, hml, hr, hB, hA, hnm⟩ := id hC
  have hts := hB.1.1.at args
  refine lv_aload_n hx hb (xb_d D_Format_reckonTwo 20 rfl) rfl (lv_at hl 0 rfl) ?_
  obtain ⟨hk1, hw⟩ := hw
  refine xb_getL (C := R_Format) (T := F_Format) (N := 5) hx hb 5 4 hts fin_Format hown hR hk1 (by decide) rfl (by decide) rfl (hts _ m_291a6679) (fun _ h9 => h9) (xb_d D_Format_reckonTwo 21 rfl) ?_
  exact xb_lret 0 0 hx hb hr hlocks (show k + 0 ≤ MC by omega) (show n + 0 ≤ MS by omega) hE hR hS (xb_d D_Format_reckonTwo 22 rfl) hw

set_option maxHeartbeats 4000000 in
set_option maxRecDepth 100000 in
theorem ok_Format_reckonTwo (l : Launch) (hfl : l.flags = pinnedFlags ++ [noTraceFlag]) (D : va_G) (A : Nat → Prop) (σ : Nat) (x0 : Nat) (x1 : Int32) (x2 : Int64) (x4 : Int64) (h : xb_H) (Qr : Int64 → xb_H → Prop) (hw : w_Format_reckonTwo x0 x1 x2 x4 h Qr) : xb_Met l y_Format_reckonTwo [.code y_Format_reckonTwo b_Format_reckonTwo 6 (some .long)] (xb_rm 5 0 0) (xb_Pc D A σ h [.ref x0, .int x1, .long x2, .long x4]) (xb_Qc D A h 0 0 (fun v h _ _ => ∃ r, v = some (.long r) ∧ Qr r h) (fun _ _ _ _ => False)) A := by
  refine xb_ofAm (cc := b_Format_reckonTwo) (by decide) (Nat.le_of_ble_eq_true rfl) ?_
  unfold w_Format_reckonTwo at hw
  show xb_am l D A σ 5 0 0 h (fun v h _ _ => ∃ r, v = some (.long r) ∧ Qr r h) (fun _ _ _ _ => False) y_Format_reckonTwo.cls y_Format_reckonTwo.name b_Format_reckonTwo 6 ([] : List ExceptionTableEntry) (some .long) 0 [(0, .ref x0), (1, .int x1), (2, .long x2), (4, .long x4)] [] h 0 0
  obtain ⟨MC, hMC⟩ : ∃ x, x = 0 := ⟨_, rfl⟩
  obtain ⟨MS, hMS⟩ : ∃ x, x = 0 := ⟨_, rfl⟩
  rw [show xb_am l D A σ 5 0 0 = xb_am l D A σ 5 MC MS by rw [hMC, hMS]]
  obtain ⟨h0, hh0⟩ : ∃ x, x = h := ⟨_, rfl⟩
  rw [show xb_am l D A σ 5 MC MS h = xb_am l D A σ 5 MC MS h0 by rw [hh0]]
  intro p e s m args below meth c hC H locs ls k n hE hl hR hS hk hn
  obtain ⟨hx, hb, hown, hlocks, htab, hml, hr, hB, hA, hnm⟩ := id hC
  have hts := hB.1.1.at args
  refine lv_iload_n hx hb (xb_d D_Format_reckonTwo 0 rfl) rfl (lv_at hl 1 rfl) ?_
  refine lv_bipush (v := 6) hx hb (xb_d D_Format_reckonTwo 1 rfl) (by decide) ?_
  refine lv_icmp_ne (tgt := 20) hx hb (xb_d D_Format_reckonTwo 2 rfl) rfl (fun hc1 => ?_) (fun hc1 => ?_)
  · have hw := hw.1 hc1
    refine lv_aload_n hx hb (xb_d D_Format_reckonTwo 12 rfl) rfl (lv_at hl 0 rfl) ?_
    refine lv_lload_n hx hb (xb_d D_Format_reckonTwo 13 rfl) rfl (lv_at hl 2 rfl) ?_
    obtain ⟨hk2, hw⟩ := hw
    refine xb_call0 (D := D) (A := A) (σ := σ) (h := h) (d := 2) (maxL := 3) (rest := []) (av := [.ref x0, .long x2]) (fun T hT X => by obtain ⟨cb9, ra9, rb9, rc9⟩ := xb_recv (ci := 5) hR rfl hk2 (by decide); exact xt_invV X hx hown (hts _ m_e7d6b62e) (hts _ m_28f89ecd) (hts _ m_79f90d13) (xt_sigOf (hts _ m_2f81ed74)) nm_Format_isNan (by rw [hT]; exact ra9) rb9 rc9 (g := F0 m 22 ls [.long x2, .ref x0]) rfl (argsL := [.long x2]) (rest := []) rfl rfl (by rw [hb]; exact (xb_d D_Format_reckonTwo 14 rfl))) (ok_Format_isNan l hfl D A σ x0 x2 h _ hw) (hml.trans hl.1.symm) (by rw [hb]; exact (xb_d D_Format_reckonTwo 14 rfl)) (Nat.le_of_ble_eq_true rfl) (Nat.le_of_ble_eq_true rfl) (Nat.le_of_ble_eq_true rfl) (show k ≤ MC by omega) (show n ≤ MS by omega) (xt_w1 hB.1 m_2f81ed74) (xt_cdOf hB.1 m_2f81ed74) (hts _ m_64857de5) hB hR hS hA (fun vv h3 H locs hq hEh3 hR hS => ?_)
    obtain ⟨r4, rfl, hw⟩ := hq
    have hw := hw hEh3
    have hE := hE.tr hEh3
    refine W.eq (g2 := F0 m 25 ls [.int r4]) rfl ?_
    refine lv_if_ne (tgt := 37) hx hb (xb_d D_Format_reckonTwo 15 rfl) rfl (fun hc5 => ?_) (fun hc5 => ?_)
    · have hw := hw.1 hc5
      exact am_Format_reckonTwo_L37 l hfl D A σ MC MS h0 Qr x0 h3 hw p e s m args below meth c hC H locs ls k n hE (lv_sub hl [0] rfl) hR hS (by omega) (by omega)
    · have hw := hw.2 hc5
      refine lv_aload_n hx hb (xb_d D_Format_reckonTwo 16 rfl) rfl (lv_at hl 0 rfl) ?_
      refine lv_lload hx hb (xb_d D_Format_reckonTwo 17 rfl) (lv_at hl 3 rfl) ?_
      have hk2 : xb_k h3 x0 = 6 := hEh3.k hk2
      refine xb_call0 (D := D) (A := A) (σ := σ) (h := h3) (d := 2) (maxL := 3) (rest := []) (av := [.ref x0, .long x4]) (fun T hT X => by obtain ⟨cb9, ra9, rb9, rc9⟩ := xb_recv (ci := 5) hR rfl hk2 (by decide); exact xt_invV X hx hown (hts _ m_e7d6b62e) (hts _ m_28f89ecd) (hts _ m_79f90d13) (xt_sigOf (hts _ m_2f81ed74)) nm_Format_isNan (by rw [hT]; exact ra9) rb9 rc9 (g := F0 m 31 ls [.long x4, .ref x0]) rfl (argsL := [.long x4]) (rest := []) rfl rfl (by rw [hb]; exact (xb_d D_Format_reckonTwo 18 rfl))) (ok_Format_isNan l hfl D A σ x0 x4 h3 _ hw) (hml.trans hl.1.symm) (by rw [hb]; exact (xb_d D_Format_reckonTwo 18 rfl)) (Nat.le_of_ble_eq_true rfl) (Nat.le_of_ble_eq_true rfl) (Nat.le_of_ble_eq_true rfl) (show k ≤ MC by omega) (show n ≤ MS by omega) (xt_w1 hB.1 m_2f81ed74) (xt_cdOf hB.1 m_2f81ed74) (hts _ m_64857de5) hB hR hS hA (fun vv h6 H locs hq hEh6 hR hS => ?_)
      obtain ⟨r7, rfl, hw⟩ := hq
      have hw := hw hEh6
      have hE := hE.tr hEh6
      refine W.eq (g2 := F0 m 34 ls [.int r7]) rfl ?_
      refine lv_if_eq (tgt := 42) hx hb (xb_d D_Format_reckonTwo 19 rfl) rfl (fun hc8 => ?_) (fun hc8 => ?_)
      · have hw := hw.1 hc8
        refine lv_iload_n hx hb (xb_d D_Format_reckonTwo 23 rfl) rfl (lv_at hl 1 rfl) ?_
        by_cases hc9 : x1 = 0
        · have hw := hw.1 hc9
          refine xt_numi hc9 ?_
          refine lv_tableIn (off := 33) (tgt := 76) hx hb (xb_d D_Format_reckonTwo 24 rfl) (by decide +kernel) (by decide +kernel) (by decide +kernel) (by decide) ?_
          refine lv_aload_n hx hb (xb_d D_Format_reckonTwo 25 rfl) rfl (lv_at hl 0 rfl) ?_
          refine lv_lload_n hx hb (xb_d D_Format_reckonTwo 26 rfl) rfl (lv_at hl 2 rfl) ?_
          refine lv_lload hx hb (xb_d D_Format_reckonTwo 27 rfl) (lv_at hl 3 rfl) ?_
          have hk2 : xb_k h6 x0 = 6 := hEh6.k hk2
          refine xb_call0 (D := D) (A := A) (σ := σ) (h := h6) (d := 4) (maxL := 14) (rest := []) (av := [.ref x0, .long x2, .long x4]) (fun T hT X => by obtain ⟨cb9, ra9, rb9, rc9⟩ := xb_recv (ci := 5) hR rfl hk2 (by decide); exact xt_invV X hx hown (hts _ m_ded25aeb) (hts _ m_8097a839) (hts _ m_3fa0fe8b) (xt_sigOf (hts _ m_6dce137b)) nm_Format_sum (by rw [hT]; exact ra9) rb9 rc9 (g := F0 m 80 ls [.long x4, .long x2, .ref x0]) rfl (argsL := [.long x2, .long x4]) (rest := []) rfl rfl (by rw [hb]; exact (xb_d D_Format_reckonTwo 28 rfl))) (ok_Format_sum l hfl D A σ x0 x2 x4 h6 _ hw) (hml.trans hl.1.symm) (by rw [hb]; exact (xb_d D_Format_reckonTwo 28 rfl)) (Nat.le_of_ble_eq_true rfl) (Nat.le_of_ble_eq_true rfl) (Nat.le_of_ble_eq_true rfl) (show k ≤ MC by omega) (show n ≤ MS by omega) (xt_w1 hB.1 m_6dce137b) (xt_cdOf hB.1 m_6dce137b) (hts _ m_64857de5) hB hR hS hA (fun vv h10 H locs hq hEh10 hR hS => ?_)
          obtain ⟨r11, rfl, hw⟩ := hq
          have hw := hw hEh10
          have hE := hE.tr hEh10
          refine W.eq (g2 := F0 m 83 ls [.long r11]) rfl ?_
          exact xb_lret 0 0 hx hb hr hlocks (show k + 0 ≤ MC by omega) (show n + 0 ≤ MS by omega) hE hR hS (xb_d D_Format_reckonTwo 29 rfl) hw
        have hw := hw.2
        by_cases hc12 : x1 = 1
        · have hw := hw.1 hc12
          refine xt_numi hc12 ?_
          refine lv_tableIn (off := 41) (tgt := 84) hx hb (xb_d D_Format_reckonTwo 24 rfl) (by decide +kernel) (by decide +kernel) (by decide +kernel) (by decide) ?_
          refine lv_aload_n hx hb (xb_d D_Format_reckonTwo 30 rfl) rfl (lv_at hl 0 rfl) ?_
          refine lv_lload_n hx hb (xb_d D_Format_reckonTwo 31 rfl) rfl (lv_at hl 2 rfl) ?_
          refine lv_lload hx hb (xb_d D_Format_reckonTwo 32 rfl) (lv_at hl 3 rfl) ?_
          refine lv_aload_n hx hb (xb_d D_Format_reckonTwo 33 rfl) rfl (lv_at hl 0 rfl) ?_
          have hk2 : xb_k h6 x0 = 6 := hEh6.k hk2
          refine xb_getL (C := R_Format) (T := F_Format) (N := 5) hx hb 5 2 hts fin_Format hown hR hk2 (by decide) rfl (by decide) rfl (hts _ m_e3160854) (fun _ h9 => h9) (xb_d D_Format_reckonTwo 34 rfl) ?_
          refine lv_lxor hx hb (xb_d D_Format_reckonTwo 35 rfl) ?_
          refine xb_call0 (D := D) (A := A) (σ := σ) (h := h6) (d := 4) (maxL := 14) (rest := []) (av := [.ref x0, .long x2, .long (x4 ^^^ (xb_l h6 x0 2))]) (fun T hT X => by obtain ⟨cb9, ra9, rb9, rc9⟩ := xb_recv (ci := 5) hR rfl hk2 (by decide); exact xt_invV X hx hown (hts _ m_ded25aeb) (hts _ m_8097a839) (hts _ m_3fa0fe8b) (xt_sigOf (hts _ m_6dce137b)) nm_Format_sum (by rw [hT]; exact ra9) rb9 rc9 (g := F0 m 93 ls [.long (x4 ^^^ (xb_l h6 x0 2)), .long x2, .ref x0]) rfl (argsL := [.long x2, .long (x4 ^^^ (xb_l h6 x0 2))]) (rest := []) rfl rfl (by rw [hb]; exact (xb_d D_Format_reckonTwo 36 rfl))) (ok_Format_sum l hfl D A σ x0 x2 (x4 ^^^ (xb_l h6 x0 2)) h6 _ hw) (hml.trans hl.1.symm) (by rw [hb]; exact (xb_d D_Format_reckonTwo 36 rfl)) (Nat.le_of_ble_eq_true rfl) (Nat.le_of_ble_eq_true rfl) (Nat.le_of_ble_eq_true rfl) (show k ≤ MC by omega) (show n ≤ MS by omega) (xt_w1 hB.1 m_6dce137b) (xt_cdOf hB.1 m_6dce137b) (hts _ m_64857de5) hB hR hS hA (fun vv h13 H locs hq hEh13 hR hS => ?_)
          obtain ⟨r14, rfl, hw⟩ := hq
          have hw := hw hEh13
          have hE := hE.tr hEh13
          refine W.eq (g2 := F0 m 96 ls [.long r14]) rfl ?_
          exact xb_lret 0 0 hx hb hr hlocks (show k + 0 ≤ MC by omega) (show n + 0 ≤ MS by omega) hE hR hS (xb_d D_Format_reckonTwo 37 rfl) hw
        have hw := hw.2
        by_cases hc15 : x1 = 2
        · have hw := hw.1 hc15
          refine xt_numi hc15 ?_
          refine lv_tableIn (off := 54) (tgt := 97) hx hb (xb_d D_Format_reckonTwo 24 rfl) (by decide +kernel) (by decide +kernel) (by decide +kernel) (by decide) ?_
          refine lv_aload_n hx hb (xb_d D_Format_reckonTwo 38 rfl) rfl (lv_at hl 0 rfl) ?_
          refine lv_lload_n hx hb (xb_d D_Format_reckonTwo 39 rfl) rfl (lv_at hl 2 rfl) ?_
          refine lv_lload hx hb (xb_d D_Format_reckonTwo 40 rfl) (lv_at hl 3 rfl) ?_
          have hk2 : xb_k h6 x0 = 6 := hEh6.k hk2
          refine xb_call0 (D := D) (A := A) (σ := σ) (h := h6) (d := 4) (maxL := 8) (rest := []) (av := [.ref x0, .long x2, .long x4]) (fun T hT X => by obtain ⟨cb9, ra9, rb9, rc9⟩ := xb_recv (ci := 5) hR rfl hk2 (by decide); exact xt_invV X hx hown (hts _ m_b24dfaa2) (hts _ m_1a11e817) (hts _ m_21557c18) (xt_sigOf (hts _ m_c8fc43d7)) nm_Format_product (by rw [hT]; exact ra9) rb9 rc9 (g := F0 m 101 ls [.long x4, .long x2, .ref x0]) rfl (argsL := [.long x2, .long x4]) (rest := []) rfl rfl (by rw [hb]; exact (xb_d D_Format_reckonTwo 41 rfl))) (ok_Format_product l hfl D A σ x0 x2 x4 h6 _ hw) (hml.trans hl.1.symm) (by rw [hb]; exact (xb_d D_Format_reckonTwo 41 rfl)) (Nat.le_of_ble_eq_true rfl) (Nat.le_of_ble_eq_true rfl) (Nat.le_of_ble_eq_true rfl) (show k ≤ MC by omega) (show n ≤ MS by omega) (xt_w1 hB.1 m_c8fc43d7) (xt_cdOf hB.1 m_c8fc43d7) (hts _ m_64857de5) hB hR hS hA (fun vv h16 H locs hq hEh16 hR hS => ?_)
          obtain ⟨r17, rfl, hw⟩ := hq
          have hw := hw hEh16
          have hE := hE.tr hEh16
          refine W.eq (g2 := F0 m 104 ls [.long r17]) rfl ?_
          exact xb_lret 0 0 hx hb hr hlocks (show k + 0 ≤ MC by omega) (show n + 0 ≤ MS by omega) hE hR hS (xb_d D_Format_reckonTwo 42 rfl) hw
        have hw := hw.2
        by_cases hc18 : x1 = 3
        · have hw := hw.1 hc18
          refine xt_numi hc18 ?_
          refine lv_tableIn (off := 62) (tgt := 105) hx hb (xb_d D_Format_reckonTwo 24 rfl) (by decide +kernel) (by decide +kernel) (by decide +kernel) (by decide) ?_
          refine lv_aload_n hx hb (xb_d D_Format_reckonTwo 43 rfl) rfl (lv_at hl 0 rfl) ?_
          refine lv_lload_n hx hb (xb_d D_Format_reckonTwo 44 rfl) rfl (lv_at hl 2 rfl) ?_
          refine lv_lload hx hb (xb_d D_Format_reckonTwo 45 rfl) (lv_at hl 3 rfl) ?_
          have hk2 : xb_k h6 x0 = 6 := hEh6.k hk2
          refine xb_call0 (D := D) (A := A) (σ := σ) (h := h6) (d := 4) (maxL := 13) (rest := []) (av := [.ref x0, .long x2, .long x4]) (fun T hT X => by obtain ⟨cb9, ra9, rb9, rc9⟩ := xb_recv (ci := 5) hR rfl hk2 (by decide); exact xt_invV X hx hown (hts _ m_edb2dfd6) (hts _ m_6d5522f0) (hts _ m_119e0a2c) (xt_sigOf (hts _ m_a0ccade9)) nm_Format_quotient (by rw [hT]; exact ra9) rb9 rc9 (g := F0 m 109 ls [.long x4, .long x2, .ref x0]) rfl (argsL := [.long x2, .long x4]) (rest := []) rfl rfl (by rw [hb]; exact (xb_d D_Format_reckonTwo 46 rfl))) (ok_Format_quotient l hfl D A σ x0 x2 x4 h6 _ hw) (hml.trans hl.1.symm) (by rw [hb]; exact (xb_d D_Format_reckonTwo 46 rfl)) (Nat.le_of_ble_eq_true rfl) (Nat.le_of_ble_eq_true rfl) (Nat.le_of_ble_eq_true rfl) (show k ≤ MC by omega) (show n ≤ MS by omega) (xt_w1 hB.1 m_a0ccade9) (xt_cdOf hB.1 m_a0ccade9) (hts _ m_64857de5) hB hR hS hA (fun vv h19 H locs hq hEh19 hR hS => ?_)
          obtain ⟨r20, rfl, hw⟩ := hq
          have hw := hw hEh19
          have hE := hE.tr hEh19
          refine W.eq (g2 := F0 m 112 ls [.long r20]) rfl ?_
          exact xb_lret 0 0 hx hb hr hlocks (show k + 0 ≤ MC by omega) (show n + 0 ≤ MS by omega) hE hR hS (xb_d D_Format_reckonTwo 47 rfl) hw
        have hw := hw.2
        by_cases hc21 : x1 = 4
        · have hw := hw.1 hc21
          refine xt_numi hc21 ?_
          refine lv_tableIn (off := 70) (tgt := 113) hx hb (xb_d D_Format_reckonTwo 24 rfl) (by decide +kernel) (by decide +kernel) (by decide +kernel) (by decide) ?_
          refine lv_aload_n hx hb (xb_d D_Format_reckonTwo 48 rfl) rfl (lv_at hl 0 rfl) ?_
          refine lv_lload_n hx hb (xb_d D_Format_reckonTwo 49 rfl) rfl (lv_at hl 2 rfl) ?_
          refine lv_lload hx hb (xb_d D_Format_reckonTwo 50 rfl) (lv_at hl 3 rfl) ?_
          have hk2 : xb_k h6 x0 = 6 := hEh6.k hk2
          refine xb_call0 (D := D) (A := A) (σ := σ) (h := h6) (d := 4) (maxL := 5) (rest := []) (av := [.ref x0, .long x2, .long x4]) (fun T hT X => by obtain ⟨cb9, ra9, rb9, rc9⟩ := xb_recv (ci := 5) hR rfl hk2 (by decide); exact xt_invV X hx hown (hts _ m_0afc78d6) (hts _ m_c57f952a) (hts _ m_2d40ac3b) (xt_sigOf (hts _ m_1d3bab40)) nm_Format_lesser (by rw [hT]; exact ra9) rb9 rc9 (g := F0 m 117 ls [.long x4, .long x2, .ref x0]) rfl (argsL := [.long x2, .long x4]) (rest := []) rfl rfl (by rw [hb]; exact (xb_d D_Format_reckonTwo 51 rfl))) (ok_Format_lesser l hfl D A σ x0 x2 x4 h6 _ hw) (hml.trans hl.1.symm) (by rw [hb]; exact (xb_d D_Format_reckonTwo 51 rfl)) (Nat.le_of_ble_eq_true rfl) (Nat.le_of_ble_eq_true rfl) (Nat.le_of_ble_eq_true rfl) (show k ≤ MC by omega) (show n ≤ MS by omega) (xt_w1 hB.1 m_1d3bab40) (xt_cdOf hB.1 m_1d3bab40) (hts _ m_64857de5) hB hR hS hA (fun vv h22 H locs hq hEh22 hR hS => ?_)
          obtain ⟨r23, rfl, hw⟩ := hq
          have hw := hw hEh22
          have hE := hE.tr hEh22
          refine W.eq (g2 := F0 m 120 ls [.long r23]) rfl ?_
          exact xb_lret 0 0 hx hb hr hlocks (show k + 0 ≤ MC by omega) (show n + 0 ≤ MS by omega) hE hR hS (xb_d D_Format_reckonTwo 52 rfl) hw
        have hw := hw.2
        have hw := hw hc9 hc12 hc15 hc18 hc21
        refine lv_tableOut (tgt := 121) hx hb (xb_d D_Format_reckonTwo 24 rfl) (by have a0 := xb_nl (0) 0 (by decide) hc9; have a1 := xb_nl (1) 1 (by decide) hc12; have a2 := xb_nl (2) 2 (by decide) hc15; have a3 := xb_nl (3) 3 (by decide) hc18; have a4 := xb_nl (4) 4 (by decide) hc21; omega) (by decide) ?_
        refine lv_aload_n hx hb (xb_d D_Format_reckonTwo 53 rfl) rfl (lv_at hl 0 rfl) ?_
        refine lv_lload_n hx hb (xb_d D_Format_reckonTwo 54 rfl) rfl (lv_at hl 2 rfl) ?_
        refine lv_lload hx hb (xb_d D_Format_reckonTwo 55 rfl) (lv_at hl 3 rfl) ?_
        have hk2 : xb_k h6 x0 = 6 := hEh6.k hk2
        refine xb_call0 (D := D) (A := A) (σ := σ) (h := h6) (d := 4) (maxL := 5) (rest := []) (av := [.ref x0, .long x2, .long x4]) (fun T hT X => by obtain ⟨cb9, ra9, rb9, rc9⟩ := xb_recv (ci := 5) hR rfl hk2 (by decide); exact xt_invV X hx hown (hts _ m_86bdf6e5) (hts _ m_b9510508) (hts _ m_19603baa) (xt_sigOf (hts _ m_c4a9dc90)) nm_Format_greater (by rw [hT]; exact ra9) rb9 rc9 (g := F0 m 125 ls [.long x4, .long x2, .ref x0]) rfl (argsL := [.long x2, .long x4]) (rest := []) rfl rfl (by rw [hb]; exact (xb_d D_Format_reckonTwo 56 rfl))) (ok_Format_greater l hfl D A σ x0 x2 x4 h6 _ hw) (hml.trans hl.1.symm) (by rw [hb]; exact (xb_d D_Format_reckonTwo 56 rfl)) (Nat.le_of_ble_eq_true rfl) (Nat.le_of_ble_eq_true rfl) (Nat.le_of_ble_eq_true rfl) (show k ≤ MC by omega) (show n ≤ MS by omega) (xt_w1 hB.1 m_c4a9dc90) (xt_cdOf hB.1 m_c4a9dc90) (hts _ m_64857de5) hB hR hS hA (fun vv h24 H locs hq hEh24 hR hS => ?_)
        obtain ⟨r25, rfl, hw⟩ := hq
        have hw := hw hEh24
        have hE := hE.tr hEh24
        refine W.eq (g2 := F0 m 128 ls [.long r25]) rfl ?_
        exact xb_lret 0 0 hx hb hr hlocks (show k + 0 ≤ MC by omega) (show n + 0 ≤ MS by omega) hE hR hS (xb_d D_Format_reckonTwo 57 rfl) hw
      · have hw := hw.2 hc8
        exact am_Format_reckonTwo_L37 l hfl D A σ MC MS h0 Qr x0 h6 hw p e s m args below meth c hC H locs ls k n hE (lv_sub hl [0] rfl) hR hS (by omega) (by omega)
  · have hw := hw.2 hc1
    refine lv_aload_n hx hb (xb_d D_Format_reckonTwo 3 rfl) rfl (lv_at hl 0 rfl) ?_
    refine lv_lload_n hx hb (xb_d D_Format_reckonTwo 4 rfl) rfl (lv_at hl 2 rfl) ?_
    obtain ⟨hk26, hw⟩ := hw
    refine xb_call0 (D := D) (A := A) (σ := σ) (h := h) (d := 2) (maxL := 3) (rest := []) (av := [.ref x0, .long x2]) (fun T hT X => by obtain ⟨cb9, ra9, rb9, rc9⟩ := xb_recv (ci := 5) hR rfl hk26 (by decide); exact xt_invV X hx hown (hts _ m_d2fcf5e9) (hts _ m_9ed8050f) (hts _ m_945e3e7d) (xt_sigOf (hts _ m_08158875)) nm_Format_magnitude (by rw [hT]; exact ra9) rb9 rc9 (g := F0 m 8 ls [.long x2, .ref x0]) rfl (argsL := [.long x2]) (rest := []) rfl rfl (by rw [hb]; exact (xb_d D_Format_reckonTwo 5 rfl))) (ok_Format_magnitude l hfl D A σ x0 x2 h _ hw) (hml.trans hl.1.symm) (by rw [hb]; exact (xb_d D_Format_reckonTwo 5 rfl)) (Nat.le_of_ble_eq_true rfl) (Nat.le_of_ble_eq_true rfl) (Nat.le_of_ble_eq_true rfl) (show k ≤ MC by omega) (show n ≤ MS by omega) (xt_w1 hB.1 m_08158875) (xt_cdOf hB.1 m_08158875) (hts _ m_64857de5) hB hR hS hA (fun vv h27 H locs hq hEh27 hR hS => ?_)
    obtain ⟨r28, rfl, hw⟩ := hq
    have hw := hw hEh27
    have hE := hE.tr hEh27
    refine W.eq (g2 := F0 m 11 ls [.long r28]) rfl ?_
    refine lv_lload hx hb (xb_d D_Format_reckonTwo 6 rfl) (lv_at hl 3 rfl) ?_
    refine lv_aload_n hx hb (xb_d D_Format_reckonTwo 7 rfl) rfl (lv_at hl 0 rfl) ?_
    have hk26 : xb_k h27 x0 = 6 := hEh27.k hk26
    refine xb_getL (C := R_Format) (T := F_Format) (N := 5) hx hb 5 2 hts fin_Format hown hR hk26 (by decide) rfl (by decide) rfl (hts _ m_e3160854) (fun _ h9 => h9) (xb_d D_Format_reckonTwo 8 rfl) ?_
    refine lv_land hx hb (xb_d D_Format_reckonTwo 9 rfl) ?_
    refine lv_lor hx hb (xb_d D_Format_reckonTwo 10 rfl) ?_
    exact xb_lret 0 0 hx hb hr hlocks (show k + 0 ≤ MC by omega) (show n + 0 ≤ MS by omega) hE hR hS (xb_d D_Format_reckonTwo 11 rfl) hw

