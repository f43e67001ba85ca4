theorem m_0cd6cac2 : (.methodLink "StackHostModel$Exact" 145 y_Exact_lesser : Cond) ∈ xt_tbl := xt_in (xt_t13 (List.mem_of_getElem? (i := 83) (by decide +kernel))) (by decide +kernel)
theorem m_021a8f14 : (.instanceMethod y_Exact_lesser : Cond) ∈ xt_tbl := xt_in (xt_t13 (List.mem_of_getElem? (i := 85) (by decide +kernel))) (by decide +kernel)
theorem m_49c0ac42 : (.selects "StackHostModel$Exact" y_Exact_lesser y_Exact_lesser : Cond) ∈ xt_tbl := xt_in (xt_v16 (q := (⟨"StackHostModel$Exact", "lesser", "(ZJJ)J"⟩, 11)) (List.mem_of_getElem? (i := 13) (by decide +kernel))) (by decide +kernel)
theorem m_b97738bf : (.code y_Exact_lesser b_Exact_lesser 6 (some .long) : Cond) ∈ xt_tbl := xt_in (xt_t13 (List.mem_of_getElem? (i := 86) (by decide +kernel))) (by decide +kernel)
theorem m_c7492856 : (.methodLink "StackHostModel$Exact" 128 y_Exact_whole : Cond) ∈ xt_tbl := xt_in (xt_t13 (List.mem_of_getElem? (i := 57) (by decide +kernel))) (by decide +kernel)
theorem m_3ecf0ada : (.instanceMethod y_Exact_whole : Cond) ∈ xt_tbl := xt_in (xt_t13 (List.mem_of_getElem? (i := 59) (by decide +kernel))) (by decide +kernel)
theorem m_c590a018 : (.selects "StackHostModel$Exact" y_Exact_whole y_Exact_whole : Cond) ∈ xt_tbl := xt_in (xt_v16 (q := (⟨"StackHostModel$Exact", "whole", "(IJ)J"⟩, 11)) (List.mem_of_getElem? (i := 7) (by decide +kernel))) (by decide +kernel)
theorem m_f81a71ea : (.code y_Exact_whole b_Exact_whole 11 (some .long) : Cond) ∈ xt_tbl := xt_in (xt_t13 (List.mem_of_getElem? (i := 60) (by decide +kernel))) (by decide +kernel)
theorem m_d320a9bc : (.methodLink "StackHostModel$Exact" 132 y_Exact_root : Cond) ∈ xt_tbl := xt_in (xt_t13 (List.mem_of_getElem? (i := 61) (by decide +kernel))) (by decide +kernel)
theorem m_dc3f9b3d : (.instanceMethod y_Exact_root : Cond) ∈ xt_tbl := xt_in (xt_t13 (List.mem_of_getElem? (i := 63) (by decide +kernel))) (by decide +kernel)
theorem m_db3c8401 : (.selects "StackHostModel$Exact" y_Exact_root y_Exact_root : Cond) ∈ xt_tbl := xt_in (xt_v16 (q := (⟨"StackHostModel$Exact", "root", "(J)J"⟩, 11)) (List.mem_of_getElem? (i := 8) (by decide +kernel))) (by decide +kernel)
theorem m_e2b508b5 : (.code y_Exact_root b_Exact_root 10 (some .long) : Cond) ∈ xt_tbl := xt_in (xt_t13 (List.mem_of_getElem? (i := 64) (by decide +kernel))) (by decide +kernel)
theorem m_08a4a9a4 : (.methodLink "StackHostModel$Exact" 135 y_Exact_sum : Cond) ∈ xt_tbl := xt_in (xt_t13 (List.mem_of_getElem? (i := 67) (by decide +kernel))) (by decide +kernel)
theorem m_1a175cfd : (.instanceMethod y_Exact_sum : Cond) ∈ xt_tbl := xt_in (xt_t13 (List.mem_of_getElem? (i := 69) (by decide +kernel))) (by decide +kernel)
theorem m_c8b0175c : (.selects "StackHostModel$Exact" y_Exact_sum y_Exact_sum : Cond) ∈ xt_tbl := xt_in (xt_v16 (q := (⟨"StackHostModel$Exact", "sum", "(JJ)J"⟩, 11)) (List.mem_of_getElem? (i := 9) (by decide +kernel))) (by decide +kernel)
theorem m_74e5bfdd : (.code y_Exact_sum b_Exact_sum 12 (some .long) : Cond) ∈ xt_tbl := xt_in (xt_t13 (List.mem_of_getElem? (i := 70) (by decide +kernel))) (by decide +kernel)
theorem m_884c8582 : (.methodLink "StackHostModel$Exact" 139 y_Exact_product : Cond) ∈ xt_tbl := xt_in (xt_t13 (List.mem_of_getElem? (i := 75) (by decide +kernel))) (by decide +kernel)
theorem m_e2dd6a52 : (.instanceMethod y_Exact_product : Cond) ∈ xt_tbl := xt_in (xt_t13 (List.mem_of_getElem? (i := 77) (by decide +kernel))) (by decide +kernel)
theorem m_21590c82 : (.selects "StackHostModel$Exact" y_Exact_product y_Exact_product : Cond) ∈ xt_tbl := xt_in (xt_v16 (q := (⟨"StackHostModel$Exact", "product", "(JJ)J"⟩, 11)) (List.mem_of_getElem? (i := 11) (by decide +kernel))) (by decide +kernel)
theorem m_3d45fc93 : (.code y_Exact_product b_Exact_product 10 (some .long) : Cond) ∈ xt_tbl := xt_in (xt_t13 (List.mem_of_getElem? (i := 78) (by decide +kernel))) (by decide +kernel)
theorem m_8658db1c : (.methodLink "StackHostModel$Exact" 142 y_Exact_quotient : Cond) ∈ xt_tbl := xt_in (xt_t13 (List.mem_of_getElem? (i := 79) (by decide +kernel))) (by decide +kernel)
theorem m_72c1259d : (.instanceMethod y_Exact_quotient : Cond) ∈ xt_tbl := xt_in (xt_t13 (List.mem_of_getElem? (i := 81) (by decide +kernel))) (by decide +kernel)
theorem m_1727c3e7 : (.selects "StackHostModel$Exact" y_Exact_quotient y_Exact_quotient : Cond) ∈ xt_tbl := xt_in (xt_v16 (q := (⟨"StackHostModel$Exact", "quotient", "(JJ)J"⟩, 11)) (List.mem_of_getElem? (i := 12) (by decide +kernel))) (by decide +kernel)
theorem m_df22da4d : (.code y_Exact_quotient b_Exact_quotient 12 (some .long) : Cond) ∈ xt_tbl := xt_in (xt_t13 (List.mem_of_getElem? (i := 82) (by decide +kernel))) (by decide +kernel)
theorem nm_Exact_lesser : xt_nm y_Exact_lesser 3 := ⟨by decide +kernel, by decide +kernel⟩
theorem nm_Exact_whole : xt_nm y_Exact_whole 2 := ⟨by decide +kernel, by decide +kernel⟩
theorem nm_Exact_root : xt_nm y_Exact_root 1 := ⟨by decide +kernel, by decide +kernel⟩
theorem nm_Exact_sum : xt_nm y_Exact_sum 2 := ⟨by decide +kernel, by decide +kernel⟩
theorem nm_Exact_product : xt_nm y_Exact_product 2 := ⟨by decide +kernel, by decide +kernel⟩
theorem nm_Exact_quotient : xt_nm y_Exact_quotient 2 := ⟨by decide +kernel, by decide +kernel⟩
set_option maxRecDepth 100000 in
def T_Exact_floated : List (Nat × Instr × Nat) := [(0, .iload_n 1, 1), (1, .lookupswitch 68 #[(0, 35), (1, 41), (13, 52)], 35), (36, .aload_n 0, 1), (37, .lload_n 2, 1), (38, .invokevirtual 72, 3), (41, .lreturn, 1), (42, .lload_n 2, 1), (43, .lconst 1, 1), (44, .aload_n 0, 1), (45, .getfield 41, 3), (48, .iconst 1, 1), (49, .isub, 1), (50, .lshl, 1), (51, .lxor, 1), (52, .lreturn, 1), (53, .aload_n 0, 1), (54, .aload_n 0, 1), (55, .lload_n 2, 1), (56, .invokevirtual 72, 3), (59, .aload_n 0, 1), (60, .lload 4, 2), (62, .invokevirtual 76, 3), (65, .invokevirtual 52, 3), (68, .lreturn, 1), (69, .aload_n 0, 1), (70, .lload_n 2, 1), (71, .invokevirtual 90, 3), (74, .ifCond .ne 18, 3), (77, .iload_n 1, 1), (78, .bipush 6, 2), (80, .if_icmp .le 17, 3), (83, .aload_n 0, 1), (84, .lload 4, 2), (86, .invokevirtual 90, 3), (89, .ifCond .eq 8, 3), (92, .aload_n 0, 1), (93, .invokevirtual 100, 3), (96, .lreturn, 1), (97, .iload_n 1, 1), (98, .tableswitch 126 2 10 #[50, 57, 64, 71, 79, 85, 93, 110, 118], 50), (148, .aload_n 0, 1), (149, .iconst 3, 1), (150, .lload_n 2, 1), (151, .invokevirtual 128, 3), (154, .lreturn, 1), (155, .aload_n 0, 1), (156, .iconst 4, 1), (157, .lload_n 2, 1), (158, .invokevirtual 128, 3), (161, .lreturn, 1), (162, .aload_n 0, 1), (163, .iconst 5, 1), (164, .lload_n 2, 1), (165, .invokevirtual 128, 3), (168, .lreturn, 1), (169, .aload_n 0, 1), (170, .bipush 6, 2), (172, .lload_n 2, 1), (173, .invokevirtual 128, 3), (176, .lreturn, 1), (177, .aload_n 0, 1), (178, .lload_n 2, 1), (179, .invokevirtual 132, 3), (182, .lreturn, 1), (183, .aload_n 0, 1), (184, .lload_n 2, 1), (185, .lload 4, 2), (187, .invokevirtual 135, 3), (190, .lreturn, 1), (191, .aload_n 0, 1), (192, .lload_n 2, 1), (193, .lload 4, 2), (195, .lconst 1, 1), (196, .aload_n 0, 1), (197, .getfield 41, 3), (200, .iconst 1, 1), (201, .isub, 1), (202, .lshl, 1), (203, .lxor, 1), (204, .invokevirtual 135, 3), (207, .lreturn, 1), (208, .aload_n 0, 1), (209, .lload_n 2, 1), (210, .lload 4, 2), (212, .invokevirtual 139, 3), (215, .lreturn, 1), (216, .aload_n 0, 1), (217, .lload_n 2, 1), (218, .lload 4, 2), (220, .invokevirtual 142, 3), (223, .lreturn, 1), (224, .aload_n 0, 1), (225, .iload_n 1, 1), (226, .bipush 12, 2), (228, .if_icmp .ne 7, 3), (231, .iconst 1, 1), (232, .goto 4, 3), (235, .iconst 0, 1), (236, .lload_n 2, 1), (237, .lload 4, 2), (239, .invokevirtual 145, 3), (242, .lreturn, 1)]
theorem D_Exact_floated : ∀ q ∈ T_Exact_floated, decode b_Exact_floated q.1 = .ok (q.2.1, q.2.2) := by decide +kernel

set_option maxHeartbeats 4000000 in
set_option maxRecDepth 100000 in
theorem am_Exact_floated_L236 (l : Launch) (hfl : l.flags = pinnedFlags ++ [noTraceFlag]) (D : va_G) (A : Nat → Prop) (σ MC MS : Nat) (h0 : xb_H) (Qr : Int64 → xb_H → Prop) (x2 : Int64) (x4 : Int64) (y0 : Int32) (y1 : Nat) (h : xb_H) (hw : w_Exact_floated_L236 Qr x2 x4 y0 y1 h) : xb_am l D A σ 6 MC MS h0 (fun v h _ _ => ∃ r, v = some (.long r) ∧ Qr r h) (fun _ _ _ _ => False) y_Exact_floated.cls y_Exact_floated.name b_Exact_floated 6 ([] : List ExceptionTableEntry) (some .long) 236 [(2, .long x2), (4, .long x4)] [.int y0, .ref y1] h 0 0 := by
  unfold w_Exact_floated_L236 at hw
  intro p e s m args below meth c hC H locs ls k n hE hl hR hS hk hn
  obtain ⟨hx, hb, hown, hlocks, htab, hml, hr, hB, hA, hnm⟩ := id hC
  have hts := hB.1.1.at args
  refine lv_lload_n hx hb (xb_d D_Exact_floated 98 rfl) rfl (lv_at hl 0 rfl) ?_
  refine lv_lload hx hb (xb_d D_Exact_floated 99 rfl) (lv_at hl 1 rfl) ?_
  obtain ⟨hk1, hw⟩ := hw
  refine xb_call0 (D := D) (A := A) (σ := σ) (h := h) (d := 4) (maxL := 6) (rest := []) (av := [.ref y1, .int y0, .long x2, .long x4]) (fun T hT X => by obtain ⟨cb9, ra9, rb9, rc9⟩ := xb_recv (ci := 9) hR rfl hk1 (by decide); exact xt_invV X hx hown (hts _ m_0cd6cac2) (hts _ m_021a8f14) (hts _ m_49c0ac42) (xt_sigOf (hts _ m_b97738bf)) nm_Exact_lesser (by rw [hT]; exact ra9) rb9 rc9 (g := F0 m 239 ls [.long x4, .long x2, .int y0, .ref y1]) rfl (argsL := [.int y0, .long x2, .long x4]) (rest := []) rfl rfl (by rw [hb]; exact (xb_d D_Exact_floated 100 rfl))) (ok_Exact_lesser l hfl D A σ y1 y0 x2 x4 h _ hw) (hml.trans hl.1.symm) (by rw [hb]; exact (xb_d D_Exact_floated 100 rfl)) (Nat.le_of_ble_eq_true rfl) (Nat.le_of_ble_eq_true rfl) (Nat.le_of_ble_eq_true rfl) (show k ≤ MC by omega) (show n ≤ MS by omega) (xt_w1 hB.1 m_b97738bf) (xt_cdOf hB.1 m_b97738bf) (hts _ m_b807310b) hB hR hS hA (fun vv h2 H locs hq hEh2 hR hS => ?_)
  obtain ⟨r3, rfl, hw⟩ := hq
  have hw := hw hEh2
  have hE := hE.tr hEh2
  refine W.eq (g2 := F0 m 242 ls [.long r3]) rfl ?_
  exact xb_lret 0 0 hx hb hr hlocks (show k + 0 ≤ MC by omega) (show n + 0 ≤ MS by omega) hE hR hS (xb_d D_Exact_floated 101 rfl) hw

set_option maxHeartbeats 4000000 in
set_option maxRecDepth 100000 in
theorem am_Exact_floated_L97 (l : Launch) (hfl : l.flags = pinnedFlags ++ [noTraceFlag]) (D : va_G) (A : Nat → Prop) (σ MC MS : Nat) (h0 : xb_H) (Qr : Int64 → xb_H → Prop) (x0 : Nat) (x1 : Int32) (x2 : Int64) (x4 : Int64) (h : xb_H) (hw : w_Exact_floated_L97 Qr x0 x1 x2 x4 h) : xb_am l D A σ 6 MC MS h0 (fun v h _ _ => ∃ r, v = some (.long r) ∧ Qr r h) (fun _ _ _ _ => False) y_Exact_floated.cls y_Exact_floated.name b_Exact_floated 6 ([] : List ExceptionTableEntry) (some .long) 97 [(0, .ref x0), (1, .int x1), (2, .long x2), (4, .long x4)] [] h 0 0 := by
  unfold w_Exact_floated_L97 at hw
  intro p e s m args below meth c hC H locs ls k n hE hl hR hS hk hn
  obtain ⟨hx, hb, hown, hlocks, htab, hml, hr, hB, hA, hnm⟩ := id hC
  have hts := hB.1.1.at args
  refine lv_iload_n hx hb (xb_d D_Exact_floated 38 rfl) rfl (lv_at hl 1 rfl) ?_
  by_cases hc1 : x1 = 2
  · have hw := hw.1 hc1
    refine xt_numi hc1 ?_
    refine lv_tableIn (off := 50) (tgt := 148) hx hb (xb_d D_Exact_floated 39 rfl) (by decide +kernel) (by decide +kernel) (by decide +kernel) (by decide) ?_
    refine lv_aload_n hx hb (xb_d D_Exact_floated 40 rfl) rfl (lv_at hl 0 rfl) ?_
    refine lv_iconst (v := 3) hx hb (xb_d D_Exact_floated 41 rfl) (by decide) ?_
    refine lv_lload_n hx hb (xb_d D_Exact_floated 42 rfl) rfl (lv_at hl 2 rfl) ?_
    obtain ⟨hk2, hw⟩ := hw
    refine xb_call0 (D := D) (A := A) (σ := σ) (h := h) (d := 5) (maxL := 11) (rest := []) (av := [.ref x0, .int 3, .long x2]) (fun T hT X => by obtain ⟨cb9, ra9, rb9, rc9⟩ := xb_recv (ci := 9) hR rfl hk2 (by decide); exact xt_invV X hx hown (hts _ m_c7492856) (hts _ m_3ecf0ada) (hts _ m_c590a018) (xt_sigOf (hts _ m_f81a71ea)) nm_Exact_whole (by rw [hT]; exact ra9) rb9 rc9 (g := F0 m 151 ls [.long x2, .int 3, .ref x0]) rfl (argsL := [.int 3, .long x2]) (rest := []) rfl rfl (by rw [hb]; exact (xb_d D_Exact_floated 43 rfl))) (ok_Exact_whole l hfl D A σ x0 3 x2 h _ hw) (hml.trans hl.1.symm) (by rw [hb]; exact (xb_d D_Exact_floated 43 rfl)) (Nat.le_of_ble_eq_true rfl) (Nat.le_of_ble_eq_true rfl) (Nat.le_of_ble_eq_true rfl) (show k ≤ MC by omega) (show n ≤ MS by omega) (xt_w1 hB.1 m_f81a71ea) (xt_cdOf hB.1 m_f81a71ea) (hts _ m_b807310b) hB hR hS hA (fun vv h3 H locs hq hEh3 hR hS => ?_)
    obtain ⟨r4, rfl, hw⟩ := hq
    have hw := hw hEh3
    have hE := hE.tr hEh3
    refine W.eq (g2 := F0 m 154 ls [.long r4]) rfl ?_
    exact xb_lret 0 0 hx hb hr hlocks (show k + 0 ≤ MC by omega) (show n + 0 ≤ MS by omega) hE hR hS (xb_d D_Exact_floated 44 rfl) hw
  have hw := hw.2
  by_cases hc5 : x1 = 3
  · have hw := hw.1 hc5
    refine xt_numi hc5 ?_
    refine lv_tableIn (off := 57) (tgt := 155) hx hb (xb_d D_Exact_floated 39 rfl) (by decide +kernel) (by decide +kernel) (by decide +kernel) (by decide) ?_
    refine lv_aload_n hx hb (xb_d D_Exact_floated 45 rfl) rfl (lv_at hl 0 rfl) ?_
    refine lv_iconst (v := 4) hx hb (xb_d D_Exact_floated 46 rfl) (by decide) ?_
    refine lv_lload_n hx hb (xb_d D_Exact_floated 47 rfl) rfl (lv_at hl 2 rfl) ?_
    obtain ⟨hk6, hw⟩ := hw
    refine xb_call0 (D := D) (A := A) (σ := σ) (h := h) (d := 5) (maxL := 11) (rest := []) (av := [.ref x0, .int 4, .long x2]) (fun T hT X => by obtain ⟨cb9, ra9, rb9, rc9⟩ := xb_recv (ci := 9) hR rfl hk6 (by decide); exact xt_invV X hx hown (hts _ m_c7492856) (hts _ m_3ecf0ada) (hts _ m_c590a018) (xt_sigOf (hts _ m_f81a71ea)) nm_Exact_whole (by rw [hT]; exact ra9) rb9 rc9 (g := F0 m 158 ls [.long x2, .int 4, .ref x0]) rfl (argsL := [.int 4, .long x2]) (rest := []) rfl rfl (by rw [hb]; exact (xb_d D_Exact_floated 48 rfl))) (ok_Exact_whole l hfl D A σ x0 4 x2 h _ hw) (hml.trans hl.1.symm) (by rw [hb]; exact (xb_d D_Exact_floated 48 rfl)) (Nat.le_of_ble_eq_true rfl) (Nat.le_of_ble_eq_true rfl) (Nat.le_of_ble_eq_true rfl) (show k ≤ MC by omega) (show n ≤ MS by omega) (xt_w1 hB.1 m_f81a71ea) (xt_cdOf hB.1 m_f81a71ea) (hts _ m_b807310b) hB hR hS hA (fun vv h7 H locs hq hEh7 hR hS => ?_)
    obtain ⟨r8, rfl, hw⟩ := hq
    have hw := hw hEh7
    have hE := hE.tr hEh7
    refine W.eq (g2 := F0 m 161 ls [.long r8]) rfl ?_
    exact xb_lret 0 0 hx hb hr hlocks (show k + 0 ≤ MC by omega) (show n + 0 ≤ MS by omega) hE hR hS (xb_d D_Exact_floated 49 rfl) hw
  have hw := hw.2
  by_cases hc9 : x1 = 4
  · have hw := hw.1 hc9
    refine xt_numi hc9 ?_
    refine lv_tableIn (off := 64) (tgt := 162) hx hb (xb_d D_Exact_floated 39 rfl) (by decide +kernel) (by decide +kernel) (by decide +kernel) (by decide) ?_
    refine lv_aload_n hx hb (xb_d D_Exact_floated 50 rfl) rfl (lv_at hl 0 rfl) ?_
    refine lv_iconst (v := 5) hx hb (xb_d D_Exact_floated 51 rfl) (by decide) ?_
    refine lv_lload_n hx hb (xb_d D_Exact_floated 52 rfl) rfl (lv_at hl 2 rfl) ?_
    obtain ⟨hk10, hw⟩ := hw
    refine xb_call0 (D := D) (A := A) (σ := σ) (h := h) (d := 5) (maxL := 11) (rest := []) (av := [.ref x0, .int 5, .long x2]) (fun T hT X => by obtain ⟨cb9, ra9, rb9, rc9⟩ := xb_recv (ci := 9) hR rfl hk10 (by decide); exact xt_invV X hx hown (hts _ m_c7492856) (hts _ m_3ecf0ada) (hts _ m_c590a018) (xt_sigOf (hts _ m_f81a71ea)) nm_Exact_whole (by rw [hT]; exact ra9) rb9 rc9 (g := F0 m 165 ls [.long x2, .int 5, .ref x0]) rfl (argsL := [.int 5, .long x2]) (rest := []) rfl rfl (by rw [hb]; exact (xb_d D_Exact_floated 53 rfl))) (ok_Exact_whole l hfl D A σ x0 5 x2 h _ hw) (hml.trans hl.1.symm) (by rw [hb]; exact (xb_d D_Exact_floated 53 rfl)) (Nat.le_of_ble_eq_true rfl) (Nat.le_of_ble_eq_true rfl) (Nat.le_of_ble_eq_true rfl) (show k ≤ MC by omega) (show n ≤ MS by omega) (xt_w1 hB.1 m_f81a71ea) (xt_cdOf hB.1 m_f81a71ea) (hts _ m_b807310b) hB hR hS hA (fun vv h11 H locs hq hEh11 hR hS => ?_)
    obtain ⟨r12, rfl, hw⟩ := hq
    have hw := hw hEh11
    have hE := hE.tr hEh11
    refine W.eq (g2 := F0 m 168 ls [.long r12]) rfl ?_
    exact xb_lret 0 0 hx hb hr hlocks (show k + 0 ≤ MC by omega) (show n + 0 ≤ MS by omega) hE hR hS (xb_d D_Exact_floated 54 rfl) hw
  have hw := hw.2
  by_cases hc13 : x1 = 5
  · have hw := hw.1 hc13
    refine xt_numi hc13 ?_
    refine lv_tableIn (off := 71) (tgt := 169) hx hb (xb_d D_Exact_floated 39 rfl) (by decide +kernel) (by decide +kernel) (by decide +kernel) (by decide) ?_
    refine lv_aload_n hx hb (xb_d D_Exact_floated 55 rfl) rfl (lv_at hl 0 rfl) ?_
    refine lv_bipush (v := 6) hx hb (xb_d D_Exact_floated 56 rfl) (by decide) ?_
    refine lv_lload_n hx hb (xb_d D_Exact_floated 57 rfl) rfl (lv_at hl 2 rfl) ?_
    obtain ⟨hk14, hw⟩ := hw
    refine xb_call0 (D := D) (A := A) (σ := σ) (h := h) (d := 5) (maxL := 11) (rest := []) (av := [.ref x0, .int 6, .long x2]) (fun T hT X => by obtain ⟨cb9, ra9, rb9, rc9⟩ := xb_recv (ci := 9) hR rfl hk14 (by decide); exact xt_invV X hx hown (hts _ m_c7492856) (hts _ m_3ecf0ada) (hts _ m_c590a018) (xt_sigOf (hts _ m_f81a71ea)) nm_Exact_whole (by rw [hT]; exact ra9) rb9 rc9 (g := F0 m 173 ls [.long x2, .int 6, .ref x0]) rfl (argsL := [.int 6, .long x2]) (rest := []) rfl rfl (by rw [hb]; exact (xb_d D_Exact_floated 58 rfl))) (ok_Exact_whole l hfl D A σ x0 6 x2 h _ hw) (hml.trans hl.1.symm) (by rw [hb]; exact (xb_d D_Exact_floated 58 rfl)) (Nat.le_of_ble_eq_true rfl) (Nat.le_of_ble_eq_true rfl) (Nat.le_of_ble_eq_true rfl) (show k ≤ MC by omega) (show n ≤ MS by omega) (xt_w1 hB.1 m_f81a71ea) (xt_cdOf hB.1 m_f81a71ea) (hts _ m_b807310b) hB hR hS hA (fun vv h15 H locs hq hEh15 hR hS => ?_)
    obtain ⟨r16, rfl, hw⟩ := hq
    have hw := hw hEh15
    have hE := hE.tr hEh15
    refine W.eq (g2 := F0 m 176 ls [.long r16]) rfl ?_
    exact xb_lret 0 0 hx hb hr hlocks (show k + 0 ≤ MC by omega) (show n + 0 ≤ MS by omega) hE hR hS (xb_d D_Exact_floated 59 rfl) hw
  have hw := hw.2
  by_cases hc17 : x1 = 6
  · have hw := hw.1 hc17
    refine xt_numi hc17 ?_
    refine lv_tableIn (off := 79) (tgt := 177) hx hb (xb_d D_Exact_floated 39 rfl) (by decide +kernel) (by decide +kernel) (by decide +kernel) (by decide) ?_
    refine lv_aload_n hx hb (xb_d D_Exact_floated 60 rfl) rfl (lv_at hl 0 rfl) ?_
    refine lv_lload_n hx hb (xb_d D_Exact_floated 61 rfl) rfl (lv_at hl 2 rfl) ?_
    obtain ⟨hk18, hw⟩ := hw
    refine xb_call0 (D := D) (A := A) (σ := σ) (h := h) (d := 5) (maxL := 10) (rest := []) (av := [.ref x0, .long x2]) (fun T hT X => by obtain ⟨cb9, ra9, rb9, rc9⟩ := xb_recv (ci := 9) hR rfl hk18 (by decide); exact xt_invV X hx hown (hts _ m_d320a9bc) (hts _ m_dc3f9b3d) (hts _ m_db3c8401) (xt_sigOf (hts _ m_e2b508b5)) nm_Exact_root (by rw [hT]; exact ra9) rb9 rc9 (g := F0 m 179 ls [.long x2, .ref x0]) rfl (argsL := [.long x2]) (rest := []) rfl rfl (by rw [hb]; exact (xb_d D_Exact_floated 62 rfl))) (ok_Exact_root l hfl D A σ x0 x2 h _ hw) (hml.trans hl.1.symm) (by rw [hb]; exact (xb_d D_Exact_floated 62 rfl)) (Nat.le_of_ble_eq_true rfl) (Nat.le_of_ble_eq_true rfl) (Nat.le_of_ble_eq_true rfl) (show k ≤ MC by omega) (show n ≤ MS by omega) (xt_w1 hB.1 m_e2b508b5) (xt_cdOf hB.1 m_e2b508b5) (hts _ m_b807310b) hB hR hS hA (fun vv h19 H locs hq hEh19 hR hS => ?_)
    obtain ⟨r20, rfl, hw⟩ := hq
    have hw := hw hEh19
    have hE := hE.tr hEh19
    refine W.eq (g2 := F0 m 182 ls [.long r20]) rfl ?_
    exact xb_lret 0 0 hx hb hr hlocks (show k + 0 ≤ MC by omega) (show n + 0 ≤ MS by omega) hE hR hS (xb_d D_Exact_floated 63 rfl) hw
  have hw := hw.2
  by_cases hc21 : x1 = 7
  · have hw := hw.1 hc21
    refine xt_numi hc21 ?_
    refine lv_tableIn (off := 85) (tgt := 183) hx hb (xb_d D_Exact_floated 39 rfl) (by decide +kernel) (by decide +kernel) (by decide +kernel) (by decide) ?_
    refine lv_aload_n hx hb (xb_d D_Exact_floated 64 rfl) rfl (lv_at hl 0 rfl) ?_
    refine lv_lload_n hx hb (xb_d D_Exact_floated 65 rfl) rfl (lv_at hl 2 rfl) ?_
    refine lv_lload hx hb (xb_d D_Exact_floated 66 rfl) (lv_at hl 3 rfl) ?_
    obtain ⟨hk22, hw⟩ := hw
    refine xb_call0 (D := D) (A := A) (σ := σ) (h := h) (d := 5) (maxL := 12) (rest := []) (av := [.ref x0, .long x2, .long x4]) (fun T hT X => by obtain ⟨cb9, ra9, rb9, rc9⟩ := xb_recv (ci := 9) hR rfl hk22 (by decide); exact xt_invV X hx hown (hts _ m_08a4a9a4) (hts _ m_1a175cfd) (hts _ m_c8b0175c) (xt_sigOf (hts _ m_74e5bfdd)) nm_Exact_sum (by rw [hT]; exact ra9) rb9 rc9 (g := F0 m 187 ls [.long x4, .long x2, .ref x0]) rfl (argsL := [.long x2, .long x4]) (rest := []) rfl rfl (by rw [hb]; exact (xb_d D_Exact_floated 67 rfl))) (ok_Exact_sum l hfl D A σ x0 x2 x4 h _ hw) (hml.trans hl.1.symm) (by rw [hb]; exact (xb_d D_Exact_floated 67 rfl)) (Nat.le_of_ble_eq_true rfl) (Nat.le_of_ble_eq_true rfl) (Nat.le_of_ble_eq_true rfl) (show k ≤ MC by omega) (show n ≤ MS by omega) (xt_w1 hB.1 m_74e5bfdd) (xt_cdOf hB.1 m_74e5bfdd) (hts _ m_b807310b) hB hR hS hA (fun vv h23 H locs hq hEh23 hR hS => ?_)
    obtain ⟨r24, rfl, hw⟩ := hq
    have hw := hw hEh23
    have hE := hE.tr hEh23
    refine W.eq (g2 := F0 m 190 ls [.long r24]) rfl ?_
    exact xb_lret 0 0 hx hb hr hlocks (show k + 0 ≤ MC by omega) (show n + 0 ≤ MS by omega) hE hR hS (xb_d D_Exact_floated 68 rfl) hw
  have hw := hw.2
  by_cases hc25 : x1 = 8
  · have hw := hw.1 hc25
    refine xt_numi hc25 ?_
    refine lv_tableIn (off := 93) (tgt := 191) hx hb (xb_d D_Exact_floated 39 rfl) (by decide +kernel) (by decide +kernel) (by decide +kernel) (by decide) ?_
    refine lv_aload_n hx hb (xb_d D_Exact_floated 69 rfl) rfl (lv_at hl 0 rfl) ?_
    refine lv_lload_n hx hb (xb_d D_Exact_floated 70 rfl) rfl (lv_at hl 2 rfl) ?_
    refine lv_lload hx hb (xb_d D_Exact_floated 71 rfl) (lv_at hl 3 rfl) ?_
    refine lv_lconst (v := 1) hx hb (xb_d D_Exact_floated 72 rfl) (by decide) ?_
    refine lv_aload_n hx hb (xb_d D_Exact_floated 73 rfl) rfl (lv_at hl 0 rfl) ?_
    obtain ⟨hk26, hw⟩ := hw
    refine xb_getI (C := R_Exact) (T := F_Exact) (N := 11) hx hb 9 5 hts fin_Exact hown hR hk26 (by decide) rfl (by decide) rfl (hts _ m_30b212e4) (fun _ h9 => h9) (xb_d D_Exact_floated 74 rfl) ?_
    refine lv_iconst (v := 1) hx hb (xb_d D_Exact_floated 75 rfl) (by decide) ?_
    refine lv_isub hx hb (xb_d D_Exact_floated 76 rfl) ?_
    refine lv_lshl (v := (xb_lshl 1 ((xb_i h x0 5) - 1))) hx hb (xb_d D_Exact_floated 77 rfl) rfl ?_
    refine lv_lxor hx hb (xb_d D_Exact_floated 78 rfl) ?_
    refine xb_call0 (D := D) (A := A) (σ := σ) (h := h) (d := 5) (maxL := 12) (rest := []) (av := [.ref x0, .long x2, .long (x4 ^^^ (xb_lshl 1 ((xb_i h x0 5) - 1)))]) (fun T hT X => by obtain ⟨cb9, ra9, rb9, rc9⟩ := xb_recv (ci := 9) hR rfl hk26 (by decide); exact xt_invV X hx hown (hts _ m_08a4a9a4) (hts _ m_1a175cfd) (hts _ m_c8b0175c) (xt_sigOf (hts _ m_74e5bfdd)) nm_Exact_sum (by rw [hT]; exact ra9) rb9 rc9 (g := F0 m 204 ls [.long (x4 ^^^ (xb_lshl 1 ((xb_i h x0 5) - 1))), .long x2, .ref x0]) rfl (argsL := [.long x2, .long (x4 ^^^ (xb_lshl 1 ((xb_i h x0 5) - 1)))]) (rest := []) rfl rfl (by rw [hb]; exact (xb_d D_Exact_floated 79 rfl))) (ok_Exact_sum l hfl D A σ x0 x2 (x4 ^^^ (xb_lshl 1 ((xb_i h x0 5) - 1))) h _ hw) (hml.trans hl.1.symm) (by rw [hb]; exact (xb_d D_Exact_floated 79 rfl)) (Nat.le_of_ble_eq_true rfl) (Nat.le_of_ble_eq_true rfl) (Nat.le_of_ble_eq_true rfl) (show k ≤ MC by omega) (show n ≤ MS by omega) (xt_w1 hB.1 m_74e5bfdd) (xt_cdOf hB.1 m_74e5bfdd) (hts _ m_b807310b) hB hR hS hA (fun vv h27 H locs hq hEh27 hR hS => ?_)
    obtain ⟨r28, rfl, hw⟩ := hq
    have hw := hw hEh27
    have hE := hE.tr hEh27
    refine W.eq (g2 := F0 m 207 ls [.long r28]) rfl ?_
    exact xb_lret 0 0 hx hb hr hlocks (show k + 0 ≤ MC by omega) (show n + 0 ≤ MS by omega) hE hR hS (xb_d D_Exact_floated 80 rfl) hw
  have hw := hw.2
  by_cases hc29 : x1 = 9
  · have hw := hw.1 hc29
    refine xt_numi hc29 ?_
    refine lv_tableIn (off := 110) (tgt := 208) hx hb (xb_d D_Exact_floated 39 rfl) (by decide +kernel) (by decide +kernel) (by decide +kernel) (by decide) ?_
    refine lv_aload_n hx hb (xb_d D_Exact_floated 81 rfl) rfl (lv_at hl 0 rfl) ?_
    refine lv_lload_n hx hb (xb_d D_Exact_floated 82 rfl) rfl (lv_at hl 2 rfl) ?_
    refine lv_lload hx hb (xb_d D_Exact_floated 83 rfl) (lv_at hl 3 rfl) ?_
    obtain ⟨hk30, hw⟩ := hw
    refine xb_call0 (D := D) (A := A) (σ := σ) (h := h) (d := 5) (maxL := 10) (rest := []) (av := [.ref x0, .long x2, .long x4]) (fun T hT X => by obtain ⟨cb9, ra9, rb9, rc9⟩ := xb_recv (ci := 9) hR rfl hk30 (by decide); exact xt_invV X hx hown (hts _ m_884c8582) (hts _ m_e2dd6a52) (hts _ m_21590c82) (xt_sigOf (hts _ m_3d45fc93)) nm_Exact_product (by rw [hT]; exact ra9) rb9 rc9 (g := F0 m 212 ls [.long x4, .long x2, .ref x0]) rfl (argsL := [.long x2, .long x4]) (rest := []) rfl rfl (by rw [hb]; exact (xb_d D_Exact_floated 84 rfl))) (ok_Exact_product l hfl D A σ x0 x2 x4 h _ hw) (hml.trans hl.1.symm) (by rw [hb]; exact (xb_d D_Exact_floated 84 rfl)) (Nat.le_of_ble_eq_true rfl) (Nat.le_of_ble_eq_true rfl) (Nat.le_of_ble_eq_true rfl) (show k ≤ MC by omega) (show n ≤ MS by omega) (xt_w1 hB.1 m_3d45fc93) (xt_cdOf hB.1 m_3d45fc93) (hts _ m_b807310b) hB hR hS hA (fun vv h31 H locs hq hEh31 hR hS => ?_)
    obtain ⟨r32, rfl, hw⟩ := hq
    have hw := hw hEh31
    have hE := hE.tr hEh31
    refine W.eq (g2 := F0 m 215 ls [.long r32]) rfl ?_
    exact xb_lret 0 0 hx hb hr hlocks (show k + 0 ≤ MC by omega) (show n + 0 ≤ MS by omega) hE hR hS (xb_d D_Exact_floated 85 rfl) hw
  have hw := hw.2
  by_cases hc33 : x1 = 10
  · have hw := hw.1 hc33
    refine xt_numi hc33 ?_
    refine lv_tableIn (off := 118) (tgt := 216) hx hb (xb_d D_Exact_floated 39 rfl) (by decide +kernel) (by decide +kernel) (by decide +kernel) (by decide) ?_
    refine lv_aload_n hx hb (xb_d D_Exact_floated 86 rfl) rfl (lv_at hl 0 rfl) ?_
    refine lv_lload_n hx hb (xb_d D_Exact_floated 87 rfl) rfl (lv_at hl 2 rfl) ?_
    refine lv_lload hx hb (xb_d D_Exact_floated 88 rfl) (lv_at hl 3 rfl) ?_
    obtain ⟨hk34, hw⟩ := hw
    refine xb_call0 (D := D) (A := A) (σ := σ) (h := h) (d := 5) (maxL := 12) (rest := []) (av := [.ref x0, .long x2, .long x4]) (fun T hT X => by obtain ⟨cb9, ra9, rb9, rc9⟩ := xb_recv (ci := 9) hR rfl hk34 (by decide); exact xt_invV X hx hown (hts _ m_8658db1c) (hts _ m_72c1259d) (hts _ m_1727c3e7) (xt_sigOf (hts _ m_df22da4d)) nm_Exact_quotient (by rw [hT]; exact ra9) rb9 rc9 (g := F0 m 220 ls [.long x4, .long x2, .ref x0]) rfl (argsL := [.long x2, .long x4]) (rest := []) rfl rfl (by rw [hb]; exact (xb_d D_Exact_floated 89 rfl))) (ok_Exact_quotient l hfl D A σ x0 x2 x4 h _ hw) (hml.trans hl.1.symm) (by rw [hb]; exact (xb_d D_Exact_floated 89 rfl)) (Nat.le_of_ble_eq_true rfl) (Nat.le_of_ble_eq_true rfl) (Nat.le_of_ble_eq_true rfl) (show k ≤ MC by omega) (show n ≤ MS by omega) (xt_w1 hB.1 m_df22da4d) (xt_cdOf hB.1 m_df22da4d) (hts _ m_b807310b) hB hR hS hA (fun vv h35 H locs hq hEh35 hR hS => ?_)
    obtain ⟨r36, rfl, hw⟩ := hq
    have hw := hw hEh35
    have hE := hE.tr hEh35
    refine W.eq (g2 := F0 m 223 ls [.long r36]) rfl ?_
    exact xb_lret 0 0 hx hb hr hlocks (show k + 0 ≤ MC by omega) (show n + 0 ≤ MS by omega) hE hR hS (xb_d D_Exact_floated 90 rfl) hw
  have hw := hw.2
  have hw := hw hc1 hc5 hc9 hc13 hc17 hc21 hc25 hc29 hc33
  refine lv_tableOut (tgt := 224) hx hb (xb_d D_Exact_floated 39 rfl) (by have a0 := xb_nl (2) 2 (by decide) hc1; have a1 := xb_nl (3) 3 (by decide) hc5; have a2 := xb_nl (4) 4 (by decide) hc9; have a3 := xb_nl (5) 5 (by decide) hc13; have a4 := xb_nl (6) 6 (by decide) hc17; have a5 := xb_nl (7) 7 (by decide) hc21; have a6 := xb_nl (8) 8 (by decide) hc25; have a7 := xb_nl (9) 9 (by decide) hc29; have a8 := xb_nl (10) 10 (by decide) hc33; omega) (by decide) ?_
  refine lv_aload_n hx hb (xb_d D_Exact_floated 91 rfl) rfl (lv_at hl 0 rfl) ?_
  refine lv_iload_n hx hb (xb_d D_Exact_floated 92 rfl) rfl (lv_at hl 1 rfl) ?_
  refine lv_bipush (v := 12) hx hb (xb_d D_Exact_floated 93 rfl) (by decide) ?_
  refine lv_icmp_ne (tgt := 235) hx hb (xb_d D_Exact_floated 94 rfl) rfl (fun hc37 => ?_) (fun hc37 => ?_)
  · have hw := hw.1 hc37
    refine lv_iconst (v := 0) hx hb (xb_d D_Exact_floated 97 rfl) (by decide) ?_
    exact am_Exact_floated_L236 l hfl D A σ MC MS h0 Qr x2 x4 0 x0 h hw p e s m args below meth c hC H locs ls k n hE (lv_sub hl [2, 3] rfl) hR hS (by omega) (by omega)
  · have hw := hw.2 hc37
    refine lv_iconst (v := 1) hx hb (xb_d D_Exact_floated 95 rfl) (by decide) ?_
    refine lv_goto (tgt := 236) hx hb (xb_d D_Exact_floated 96 rfl) rfl ?_
    exact am_Exact_floated_L236 l hfl D A σ MC MS h0 Qr x2 x4 1 x0 h hw p e s m args below meth c hC H locs ls k n hE (lv_sub hl [2, 3] rfl) hR hS (by omega) (by omega)

set_option maxHeartbeats 4000000 in
set_option maxRecDepth 100000 in
theorem am_Exact_floated_L92 (l : Launch) (hfl : l.flags = pinnedFlags ++ [noTraceFlag]) (D : va_G) (A : Nat → Prop) (σ MC MS : Nat) (h0 : xb_H) (Qr : Int64 → xb_H → Prop) (x0 : Nat) (h : xb_H) (hw : w_Exact_floated_L92 Qr x0 h) : xb_am l D A σ 6 MC MS h0 (fun v h _ _ => ∃ r, v = some (.long r) ∧ Qr r h) (fun _ _ _ _ => False) y_Exact_floated.cls y_Exact_floated.name b_Exact_floated 6 ([] : List ExceptionTableEntry) (some .long) 92 [(0, .ref x0)] [] h 0 0 := by
  unfold w_Exact_floated_L92 at hw
  intro p e s m args below meth c hC H locs ls k n hE hl hR hS hk hn
  obtain ⟨hx, hb, hown, hlocks, htab, hml, hr, hB, hA, hnm⟩ := id hC
  have hts := hB.1.1.at args
  refine lv_aload_n hx hb (xb_d D_Exact_floated 35 rfl) rfl (lv_at hl 0 rfl) ?_
  obtain ⟨hk1, hw⟩ := hw
  refine xb_call0 (D := D) (A := A) (σ := σ) (h := h) (d := 2) (maxL := 1) (rest := []) (av := [.ref x0]) (fun T hT X => by obtain ⟨cb9, ra9, rb9, rc9⟩ := xb_recv (ci := 9) hR rfl hk1 (by decide); exact xt_invV X hx hown (hts _ m_3b77e327) (hts _ m_488d5ec7) (hts _ m_8dd38d5e) (xt_sigOf (hts _ m_291300c8)) nm_Exact_noNumber (by rw [hT]; exact ra9) rb9 rc9 (g := F0 m 93 ls [.ref x0]) rfl (argsL := []) (rest := []) rfl rfl (by rw [hb]; exact (xb_d D_Exact_floated 36 rfl))) (ok_Exact_noNumber l hfl D A σ x0 h _ hw) (hml.trans hl.1.symm) (by rw [hb]; exact (xb_d D_Exact_floated 36 rfl)) (Nat.le_of_ble_eq_true rfl) (Nat.le_of_ble_eq_true rfl) (Nat.le_of_ble_eq_true rfl) (show k ≤ MC by omega) (show n ≤ MS by omega) (xt_w1 hB.1 m_291300c8) (xt_cdOf hB.1 m_291300c8) (hts _ m_b807310b) hB hR hS hA (fun vv h2 H locs hq hEh2 hR hS => ?_)
  obtain ⟨r3, rfl, hw⟩ := hq
  have hw := hw hEh2
  have hE := hE.tr hEh2
  refine W.eq (g2 := F0 m 96 ls [.long r3]) rfl ?_
  exact xb_lret 0 0 hx hb hr hlocks (show k + 0 ≤ MC by omega) (show n + 0 ≤ MS by omega) hE hR hS (xb_d D_Exact_floated 37 rfl) hw

set_option maxHeartbeats 4000000 in
set_option maxRecDepth 100000 in
theorem ok_Exact_floated (l : Launch) (hfl : l.flags = pinnedFlags ++ [noTraceFlag]) (D : va_G) (A : Nat → Prop) (σ : Nat) (x0 : Nat) (x1 : Int32) (x2 : Int64) (x4 : Int64) (h : xb_H) (Qr : Int64 → xb_H → Prop) (hw : w_Exact_floated x0 x1 x2 x4 h Qr) : xb_Met l y_Exact_floated [.code y_Exact_floated b_Exact_floated 6 (some .long)] (xb_rm 6 0 0) (xb_Pc D A σ h [.ref x0, .int x1, .long x2, .long x4]) (xb_Qc D A h 0 0 (fun v h _ _ => ∃ r, v = some (.long r) ∧ Qr r h) (fun _ _ _ _ => False)) A := by
  refine xb_ofAm (cc := b_Exact_floated) (by decide) (Nat.le_of_ble_eq_true rfl) ?_
  unfold w_Exact_floated at hw
  show xb_am l D A σ 6 0 0 h (fun v h _ _ => ∃ r, v = some (.long r) ∧ Qr r h) (fun _ _ _ _ => False) y_Exact_floated.cls y_Exact_floated.name b_Exact_floated 6 ([] : List ExceptionTableEntry) (some .long) 0 [(0, .ref x0), (1, .int x1), (2, .long x2), (4, .long x4)] [] h 0 0
  obtain ⟨MC, hMC⟩ : ∃ x, x = 0 := ⟨_, rfl⟩
  obtain ⟨MS, hMS⟩ : ∃ x, x = 0 := ⟨_, rfl⟩
  rw [show xb_am l D A σ 6 0 0 = xb_am l D A σ 6 MC MS by rw [hMC, hMS]]
  obtain ⟨h0, hh0⟩ : ∃ x, x = h := ⟨_, rfl⟩
  rw [show xb_am l D A σ 6 MC MS h = xb_am l D A σ 6 MC MS h0 by rw [hh0]]
  intro p e s m args below meth c hC H locs ls k n hE hl hR hS hk hn
  obtain ⟨hx, hb, hown, hlocks, htab, hml, hr, hB, hA, hnm⟩ := id hC
  have hts := hB.1.1.at args
  refine lv_iload_n hx hb (xb_d D_Exact_floated 0 rfl) rfl (lv_at hl 1 rfl) ?_
  by_cases hc1 : x1 = 0
  · have hw := hw.1 hc1
    refine xt_numi hc1 ?_
    refine lv_lookup (off := 35) (tgt := 36) hx hb (xb_d D_Exact_floated 1 rfl) (by decide +kernel) (by decide +kernel) (by decide) ?_
    refine lv_aload_n hx hb (xb_d D_Exact_floated 2 rfl) rfl (lv_at hl 0 rfl) ?_
    refine lv_lload_n hx hb (xb_d D_Exact_floated 3 rfl) rfl (lv_at hl 2 rfl) ?_
    obtain ⟨hk2, hw⟩ := hw
    refine xb_call0 (D := D) (A := A) (σ := σ) (h := h) (d := 2) (maxL := 3) (rest := []) (av := [.ref x0, .long x2]) (fun T hT X => by obtain ⟨cb9, ra9, rb9, rc9⟩ := xb_recv (ci := 9) hR rfl hk2 (by decide); exact xt_invV X hx hown (hts _ m_4c81fbb0) (hts _ m_fb12fd6e) (hts _ m_e5146b3f) (xt_sigOf (hts _ m_7f30805a)) nm_Exact_size (by rw [hT]; exact ra9) rb9 rc9 (g := F0 m 38 ls [.long x2, .ref x0]) rfl (argsL := [.long x2]) (rest := []) rfl rfl (by rw [hb]; exact (xb_d D_Exact_floated 4 rfl))) (ok_Exact_size l hfl D A σ x0 x2 h _ hw) (hml.trans hl.1.symm) (by rw [hb]; exact (xb_d D_Exact_floated 4 rfl)) (Nat.le_of_ble_eq_true rfl) (Nat.le_of_ble_eq_true rfl) (Nat.le_of_ble_eq_true rfl) (show k ≤ MC by omega) (show n ≤ MS by omega) (xt_w1 hB.1 m_7f30805a) (xt_cdOf hB.1 m_7f30805a) (hts _ m_b807310b) hB hR hS hA (fun vv h3 H locs hq hEh3 hR hS => ?_)
    obtain ⟨r4, rfl, hw⟩ := hq
    have hw := hw hEh3
    have hE := hE.tr hEh3
    refine W.eq (g2 := F0 m 41 ls [.long r4]) rfl ?_
    exact xb_lret 0 0 hx hb hr hlocks (show k + 0 ≤ MC by omega) (show n + 0 ≤ MS by omega) hE hR hS (xb_d D_Exact_floated 5 rfl) hw
  have hw := hw.2
  by_cases hc5 : x1 = 1
  · have hw := hw.1 hc5
    refine xt_numi hc5 ?_
    refine lv_lookup (off := 41) (tgt := 42) hx hb (xb_d D_Exact_floated 1 rfl) (by decide +kernel) (by decide +kernel) (by decide) ?_
    refine lv_lload_n hx hb (xb_d D_Exact_floated 6 rfl) rfl (lv_at hl 2 rfl) ?_
    refine lv_lconst (v := 1) hx hb (xb_d D_Exact_floated 7 rfl) (by decide) ?_
    refine lv_aload_n hx hb (xb_d D_Exact_floated 8 rfl) rfl (lv_at hl 0 rfl) ?_
    obtain ⟨hk6, hw⟩ := hw
    refine xb_getI (C := R_Exact) (T := F_Exact) (N := 11) hx hb 9 5 hts fin_Exact hown hR hk6 (by decide) rfl (by decide) rfl (hts _ m_30b212e4) (fun _ h9 => h9) (xb_d D_Exact_floated 9 rfl) ?_
    refine lv_iconst (v := 1) hx hb (xb_d D_Exact_floated 10 rfl) (by decide) ?_
    refine lv_isub hx hb (xb_d D_Exact_floated 11 rfl) ?_
    refine lv_lshl (v := (xb_lshl 1 ((xb_i h x0 5) - 1))) hx hb (xb_d D_Exact_floated 12 rfl) rfl ?_
    refine lv_lxor hx hb (xb_d D_Exact_floated 13 rfl) ?_
    exact xb_lret 0 0 hx hb hr hlocks (show k + 0 ≤ MC by omega) (show n + 0 ≤ MS by omega) hE hR hS (xb_d D_Exact_floated 14 rfl) hw
  have hw := hw.2
  by_cases hc7 : x1 = 13
  · have hw := hw.1 hc7
    refine xt_numi hc7 ?_
    refine lv_lookup (off := 52) (tgt := 53) hx hb (xb_d D_Exact_floated 1 rfl) (by decide +kernel) (by decide +kernel) (by decide) ?_
    refine lv_aload_n hx hb (xb_d D_Exact_floated 15 rfl) rfl (lv_at hl 0 rfl) ?_
    refine lv_aload_n hx hb (xb_d D_Exact_floated 16 rfl) rfl (lv_at hl 0 rfl) ?_
    refine lv_lload_n hx hb (xb_d D_Exact_floated 17 rfl) rfl (lv_at hl 2 rfl) ?_
    obtain ⟨hk8, hw⟩ := hw
    refine xb_call0 (D := D) (A := A) (σ := σ) (h := h) (d := 2) (maxL := 3) (rest := [.ref x0]) (av := [.ref x0, .long x2]) (fun T hT X => by obtain ⟨cb9, ra9, rb9, rc9⟩ := xb_recv (ci := 9) hR rfl hk8 (by decide); exact xt_invV X hx hown (hts _ m_4c81fbb0) (hts _ m_fb12fd6e) (hts _ m_e5146b3f) (xt_sigOf (hts _ m_7f30805a)) nm_Exact_size (by rw [hT]; exact ra9) rb9 rc9 (g := F0 m 56 ls [.long x2, .ref x0, .ref x0]) rfl (argsL := [.long x2]) (rest := [.ref x0]) rfl rfl (by rw [hb]; exact (xb_d D_Exact_floated 18 rfl))) (ok_Exact_size l hfl D A σ x0 x2 h _ hw) (hml.trans hl.1.symm) (by rw [hb]; exact (xb_d D_Exact_floated 18 rfl)) (Nat.le_of_ble_eq_true rfl) (Nat.le_of_ble_eq_true rfl) (Nat.le_of_ble_eq_true rfl) (show k ≤ MC by omega) (show n ≤ MS by omega) (xt_w1 hB.1 m_7f30805a) (xt_cdOf hB.1 m_7f30805a) (hts _ m_b807310b) hB hR hS hA (fun vv h9 H locs hq hEh9 hR hS => ?_)
    obtain ⟨r10, rfl, hw⟩ := hq
    have hw := hw hEh9
    have hE := hE.tr hEh9
    refine W.eq (g2 := F0 m 59 ls [.long r10, .ref x0]) rfl ?_
    refine lv_aload_n hx hb (xb_d D_Exact_floated 19 rfl) rfl (lv_at hl 0 rfl) ?_
    refine lv_lload hx hb (xb_d D_Exact_floated 20 rfl) (lv_at hl 3 rfl) ?_
    have hk8 : xb_k h9 x0 = 10 := hEh9.k hk8
    refine xb_call0 (D := D) (A := A) (σ := σ) (h := h9) (d := 2) (maxL := 3) (rest := [.long r10, .ref x0]) (av := [.ref x0, .long x4]) (fun T hT X => by obtain ⟨cb9, ra9, rb9, rc9⟩ := xb_recv (ci := 9) hR rfl hk8 (by decide); exact xt_invV X hx hown (hts _ m_de267fc4) (hts _ m_8cf2fba2) (hts _ m_e2188cdf) (xt_sigOf (hts _ m_25d2fde1)) nm_Exact_isMinus (by rw [hT]; exact ra9) rb9 rc9 (g := F0 m 62 ls [.long x4, .ref x0, .long r10, .ref x0]) rfl (argsL := [.long x4]) (rest := [.long r10, .ref x0]) rfl rfl (by rw [hb]; exact (xb_d D_Exact_floated 21 rfl))) (ok_Exact_isMinus l hfl D A σ x0 x4 h9 _ hw) (hml.trans hl.1.symm) (by rw [hb]; exact (xb_d D_Exact_floated 21 rfl)) (Nat.le_of_ble_eq_true rfl) (Nat.le_of_ble_eq_true rfl) (Nat.le_of_ble_eq_true rfl) (show k ≤ MC by omega) (show n ≤ MS by omega) (xt_w1 hB.1 m_25d2fde1) (xt_cdOf hB.1 m_25d2fde1) (hts _ m_b807310b) hB hR hS hA (fun vv h11 H locs hq hEh11 hR hS => ?_)
    obtain ⟨r12, rfl, hw⟩ := hq
    have hw := hw hEh11
    have hE := hE.tr hEh11
    refine W.eq (g2 := F0 m 65 ls [.int r12, .long r10, .ref x0]) rfl ?_
    have hk8 : xb_k h11 x0 = 10 := hEh11.k hk8
    refine xb_call0 (D := D) (A := A) (σ := σ) (h := h11) (d := 2) (maxL := 4) (rest := []) (av := [.ref x0, .long r10, .int r12]) (fun T hT X => by obtain ⟨cb9, ra9, rb9, rc9⟩ := xb_recv (ci := 9) hR rfl hk8 (by decide); exact xt_invV X hx hown (hts _ m_7b6c7353) (hts _ m_28babb18) (hts _ m_243e01d5) (xt_sigOf (hts _ m_88c0fc78)) nm_Exact_signed (by rw [hT]; exact ra9) rb9 rc9 (g := F0 m 65 ls [.int r12, .long r10, .ref x0]) rfl (argsL := [.long r10, .int r12]) (rest := []) rfl rfl (by rw [hb]; exact (xb_d D_Exact_floated 22 rfl))) (ok_Exact_signed l hfl D A σ x0 r10 r12 h11 _ hw) (hml.trans hl.1.symm) (by rw [hb]; exact (xb_d D_Exact_floated 22 rfl)) (Nat.le_of_ble_eq_true rfl) (Nat.le_of_ble_eq_true rfl) (Nat.le_of_ble_eq_true rfl) (show k ≤ MC by omega) (show n ≤ MS by omega) (xt_w1 hB.1 m_88c0fc78) (xt_cdOf hB.1 m_88c0fc78) (hts _ m_b807310b) hB hR hS hA (fun vv h13 H locs hq hEh13 hR hS => ?_)
    obtain ⟨r14, rfl, hw⟩ := hq
    have hw := hw hEh13
    have hE := hE.tr hEh13
    refine W.eq (g2 := F0 m 68 ls [.long r14]) rfl ?_
    exact xb_lret 0 0 hx hb hr hlocks (show k + 0 ≤ MC by omega) (show n + 0 ≤ MS by omega) hE hR hS (xb_d D_Exact_floated 23 rfl) hw
  have hw := hw.2
  have hw := hw hc1 hc5 hc7
  refine lv_lookup (off := 68) (tgt := 69) hx hb (xb_d D_Exact_floated 1 rfl) (by decide +kernel) (by simp only [List.toList_toArray, Op.lookupswitch.offset_cons, Op.lookupswitch.offset_nil]; rw [if_neg (fun h9 => xb_nl (0) 0 (by decide) hc1 h9.symm), if_neg (fun h9 => xb_nl (1) 1 (by decide) hc5 h9.symm), if_neg (fun h9 => xb_nl (13) 13 (by decide) hc7 h9.symm)]) (by decide) ?_
  refine lv_aload_n hx hb (xb_d D_Exact_floated 24 rfl) rfl (lv_at hl 0 rfl) ?_
  refine lv_lload_n hx hb (xb_d D_Exact_floated 25 rfl) rfl (lv_at hl 2 rfl) ?_
  obtain ⟨hk15, hw⟩ := hw
  refine xb_call0 (D := D) (A := A) (σ := σ) (h := h) (d := 4) (maxL := 3) (rest := []) (av := [.ref x0, .long x2]) (fun T hT X => by obtain ⟨cb9, ra9, rb9, rc9⟩ := xb_recv (ci := 9) hR rfl hk15 (by decide); exact xt_invV X hx hown (hts _ m_e6998383) (hts _ m_c3a6d16d) (hts _ m_67f195fc) (xt_sigOf (hts _ m_e0ca15fb)) nm_Exact_isNone (by rw [hT]; exact ra9) rb9 rc9 (g := F0 m 71 ls [.long x2, .ref x0]) rfl (argsL := [.long x2]) (rest := []) rfl rfl (by rw [hb]; exact (xb_d D_Exact_floated 26 rfl))) (ok_Exact_isNone l hfl D A σ x0 x2 h _ hw) (hml.trans hl.1.symm) (by rw [hb]; exact (xb_d D_Exact_floated 26 rfl)) (Nat.le_of_ble_eq_true rfl) (Nat.le_of_ble_eq_true rfl) (Nat.le_of_ble_eq_true rfl) (show k ≤ MC by omega) (show n ≤ MS by omega) (xt_w1 hB.1 m_e0ca15fb) (xt_cdOf hB.1 m_e0ca15fb) (hts _ m_b807310b) hB hR hS hA (fun vv h16 H locs hq hEh16 hR hS => ?_)
  obtain ⟨r17, rfl, hw⟩ := hq
  have hw := hw hEh16
  have hE := hE.tr hEh16
  refine W.eq (g2 := F0 m 74 ls [.int r17]) rfl ?_
  refine lv_if_ne (tgt := 92) hx hb (xb_d D_Exact_floated 27 rfl) rfl (fun hc18 => ?_) (fun hc18 => ?_)
  · have hw := hw.1 hc18
    exact am_Exact_floated_L92 l hfl D A σ MC MS h0 Qr x0 h16 hw p e s m args below meth c hC H locs ls k n hE (lv_sub hl [0] rfl) hR hS (by omega) (by omega)
  · have hw := hw.2 hc18
    refine lv_iload_n hx hb (xb_d D_Exact_floated 28 rfl) rfl (lv_at hl 1 rfl) ?_
    refine lv_bipush (v := 6) hx hb (xb_d D_Exact_floated 29 rfl) (by decide) ?_
    refine lv_icmp_le (tgt := 97) hx hb (xb_d D_Exact_floated 30 rfl) rfl (fun hc19 => ?_) (fun hc19 => ?_)
    · have hw := hw.1 hc19
      exact am_Exact_floated_L97 l hfl D A σ MC MS h0 Qr x0 x1 x2 x4 h16 hw p e s m args below meth c hC H locs ls k n hE (lv_sub hl [0, 1, 2, 3] rfl) hR hS (by omega) (by omega)
    · have hw := hw.2 hc19
      refine lv_aload_n hx hb (xb_d D_Exact_floated 31 rfl) rfl (lv_at hl 0 rfl) ?_
      refine lv_lload hx hb (xb_d D_Exact_floated 32 rfl) (lv_at hl 3 rfl) ?_
      have hk15 : xb_k h16 x0 = 10 := hEh16.k hk15
      refine xb_call0 (D := D) (A := A) (σ := σ) (h := h16) (d := 4) (maxL := 3) (rest := []) (av := [.ref x0, .long x4]) (fun T hT X => by obtain ⟨cb9, ra9, rb9, rc9⟩ := xb_recv (ci := 9) hR rfl hk15 (by decide); exact xt_invV X hx hown (hts _ m_e6998383) (hts _ m_c3a6d16d) (hts _ m_67f195fc) (xt_sigOf (hts _ m_e0ca15fb)) nm_Exact_isNone (by rw [hT]; exact ra9) rb9 rc9 (g := F0 m 86 ls [.long x4, .ref x0]) rfl (argsL := [.long x4]) (rest := []) rfl rfl (by rw [hb]; exact (xb_d D_Exact_floated 33 rfl))) (ok_Exact_isNone l hfl D A σ x0 x4 h16 _ hw) (hml.trans hl.1.symm) (by rw [hb]; exact (xb_d D_Exact_floated 33 rfl)) (Nat.le_of_ble_eq_true rfl) (Nat.le_of_ble_eq_true rfl) (Nat.le_of_ble_eq_true rfl) (show k ≤ MC by omega) (show n ≤ MS by omega) (xt_w1 hB.1 m_e0ca15fb) (xt_cdOf hB.1 m_e0ca15fb) (hts _ m_b807310b) hB hR hS hA (fun vv h20 H locs hq hEh20 hR hS => ?_)
      obtain ⟨r21, rfl, hw⟩ := hq
      have hw := hw hEh20
      have hE := hE.tr hEh20
      refine W.eq (g2 := F0 m 89 ls [.int r21]) rfl ?_
      refine lv_if_eq (tgt := 97) hx hb (xb_d D_Exact_floated 34 rfl) rfl (fun hc22 => ?_) (fun hc22 => ?_)
      · have hw := hw.1 hc22
        exact am_Exact_floated_L97 l hfl D A σ MC MS h0 Qr x0 x1 x2 x4 h20 hw p e s m args below meth c hC H locs ls k n hE (lv_sub hl [0, 1, 2, 3] rfl) hR hS (by omega) (by omega)
      · have hw := hw.2 hc22
        exact am_Exact_floated_L92 l hfl D A σ MC MS h0 Qr x0 h20 hw p e s m args below meth c hC H locs ls k n hE (lv_sub hl [0] rfl) hR hS (by omega) (by omega)

theorem m_b8b9132e : (.methodLink "StackHostModel$Exact" 197 y_Exact_reformed : Cond) ∈ xt_tbl := xt_in (xt_t13 (List.mem_of_getElem? (i := 39) (by decide +kernel))) (by decide +kernel)
theorem m_62aa3384 : (.instanceMethod y_Exact_reformed : Cond) ∈ xt_tbl := xt_in (xt_t13 (List.mem_of_getElem? (i := 41) (by decide +kernel))) (by decide +kernel)
theorem m_3dad0ddb : (.selects "StackHostModel$Exact" y_Exact_reformed y_Exact_reformed : Cond) ∈ xt_tbl := xt_in (xt_v16 (q := (⟨"StackHostModel$Exact", "reformed", "(JI)J"⟩, 11)) (List.mem_of_getElem? (i := 3) (by decide +kernel))) (by decide +kernel)
theorem m_f4426c3a : (.code y_Exact_reformed b_Exact_reformed 8 (some .long) : Cond) ∈ xt_tbl := xt_in (xt_t13 (List.mem_of_getElem? (i := 42) (by decide +kernel))) (by decide +kernel)
theorem m_ed6fa259 : (.methodLink "StackHostModel$Exact" 194 y_Exact_floating : Cond) ∈ xt_tbl := xt_in (xt_t13 (List.mem_of_getElem? (i := 11) (by decide +kernel))) (by decide +kernel)
theorem m_507a6f35 : (.instanceMethod y_Exact_floating : Cond) ∈ xt_tbl := xt_in (xt_t13 (List.mem_of_getElem? (i := 13) (by decide +kernel))) (by decide +kernel)
theorem m_cb6a4b02 : (.selects "StackHostModel$Exact" y_Exact_floating y_Exact_floating : Cond) ∈ xt_tbl := xt_in (xt_v15 (q := (⟨"StackHostModel$Exact", "floating", "(JZ)J"⟩, 11)) (List.mem_of_getElem? (i := 12) (by decide +kernel))) (by decide +kernel)
theorem m_0a89dfd9 : (.code y_Exact_floating b_Exact_floating 5 (some .long) : Cond) ∈ xt_tbl := xt_in (xt_t13 (List.mem_of_getElem? (i := 14) (by decide +kernel))) (by decide +kernel)
theorem m_b050622d : (.methodLink "StackHostModel$Exact" 190 y_Exact_cut : Cond) ∈ xt_tbl := xt_in (xt_t12 (List.mem_of_getElem? (i := 210) (by decide +kernel))) (by decide +kernel)
theorem m_ab5ee0c1 : (.instanceMethod y_Exact_cut : Cond) ∈ xt_tbl := xt_in (xt_t12 (List.mem_of_getElem? (i := 212) (by decide +kernel))) (by decide +kernel)
theorem m_d7109498 : (.selects "StackHostModel$Exact" y_Exact_cut y_Exact_cut : Cond) ∈ xt_tbl := xt_in (xt_v15 (q := (⟨"StackHostModel$Exact", "cut", "(JIZ)J"⟩, 11)) (List.mem_of_getElem? (i := 4) (by decide +kernel))) (by decide +kernel)
theorem m_5411d610 : (.code y_Exact_cut b_Exact_cut 10 (some .long) : Cond) ∈ xt_tbl := xt_in (xt_t12 (List.mem_of_getElem? (i := 213) (by decide +kernel))) (by decide +kernel)
theorem nm_Exact_reformed : xt_nm y_Exact_reformed 2 := ⟨by decide +kernel, by decide +kernel⟩
theorem nm_Exact_floating : xt_nm y_Exact_floating 2 := ⟨by decide +kernel, by decide +kernel⟩
theorem nm_Exact_cut : xt_nm y_Exact_cut 3 := ⟨by decide +kernel, by decide +kernel⟩
set_option maxRecDepth 100000 in
def T_Exact_turnedInto : List (Nat × Instr × Nat) := [(0, .iload_n 1, 1), (1, .iconst 2, 1), (2, .irem, 1), (3, .ifCond .ne 7, 3), (6, .iconst 1, 1), (7, .goto 4, 3), (10, .iconst 0, 1), (11, .istore 4, 2), (13, .iload_n 1, 1), (14, .sipush 168, 3), (17, .if_icmp .lt 10, 3), (20, .iload_n 1, 1), (21, .sipush 171, 3), (24, .if_icmp .le 17, 3), (27, .iload_n 1, 1), (28, .sipush 174, 3), (31, .if_icmp .lt 51, 3), (34, .iload_n 1, 1), (35, .sipush 177, 3), (38, .if_icmp .gt 44, 3), (41, .aload_n 0, 1), (42, .iload_n 1, 1), (43, .invokestatic 30, 3), (46, .iconst 2, 1), (47, .if_icmp .ne 8, 3), (50, .bipush 32, 2), (52, .goto 5, 3), (55, .bipush 64, 2), (57, .invokevirtual 186, 3), (60, .aload_n 0, 1), (61, .lload_n 2, 1), (62, .iload_n 1, 1), (63, .sipush 172, 3), (66, .if_icmp .ge 8, 3), (69, .bipush 32, 2), (71, .goto 5, 3), (74, .bipush 64, 2), (76, .iload 4, 2), (78, .invokevirtual 190, 3), (81, .lreturn, 1), (82, .iload_n 1, 1), (83, .tableswitch 204 172 187 #[77, 77, 204, 204, 204, 204, 93, 93, 93, 93, 166, 128, 128, 128, 128, 166], 77), (160, .iload 4, 2), (162, .ifCond .eq 12, 3), (165, .lload_n 2, 1), (166, .bipush 32, 2), (168, .invokestatic 164, 3), (171, .goto 4, 3), (174, .lload_n 2, 1), (175, .lreturn, 1), (176, .aload_n 0, 1), (177, .bipush 32, 2), (179, .invokevirtual 186, 3), (182, .aload_n 0, 1), (183, .iload 4, 2), (185, .ifCond .eq 19, 3), (188, .iload_n 1, 1), (189, .sipush 180, 3), (192, .if_icmp .ge 12, 3), (195, .lload_n 2, 1), (196, .bipush 32, 2), (198, .invokestatic 164, 3), (201, .goto 4, 3), (204, .lload_n 2, 1), (205, .iload 4, 2), (207, .invokevirtual 194, 3), (210, .lreturn, 1), (211, .aload_n 0, 1), (212, .bipush 64, 2), (214, .invokevirtual 186, 3), (217, .aload_n 0, 1), (218, .iload_n 1, 1), (219, .sipush 183, 3), (222, .if_icmp .ne 12, 3), (225, .lload_n 2, 1), (226, .bipush 32, 2), (228, .invokestatic 164, 3), (231, .goto 4, 3), (234, .lload_n 2, 1), (235, .iload 4, 2), (237, .ifCond .ne 7, 3), (240, .iconst 1, 1), (241, .goto 4, 3), (244, .iconst 0, 1), (245, .invokevirtual 194, 3), (248, .lreturn, 1), (249, .aload_n 0, 1), (250, .iload_n 1, 1), (251, .sipush 182, 3), (254, .if_icmp .ne 8, 3), (257, .bipush 64, 2), (259, .goto 5, 3), (262, .bipush 32, 2), (264, .invokevirtual 186, 3), (267, .aload_n 0, 1), (268, .lload_n 2, 1), (269, .iload_n 1, 1), (270, .sipush 182, 3), (273, .if_icmp .ne 8, 3), (276, .bipush 32, 2), (278, .goto 5, 3), (281, .bipush 64, 2), (283, .invokevirtual 197, 3), (286, .lreturn, 1), (287, .lload_n 2, 1), (288, .lreturn, 1)]
theorem D_Exact_turnedInto : ∀ q ∈ T_Exact_turnedInto, decode b_Exact_turnedInto q.1 = .ok (q.2.1, q.2.2) := by decide +kernel

set_option maxHeartbeats 4000000 in
set_option maxRecDepth 100000 in
theorem am_Exact_turnedInto_L287 (l : Launch) (hfl : l.flags = pinnedFlags ++ [noTraceFlag]) (D : va_G) (A : Nat → Prop) (σ MC MS : Nat) (h0 : xb_H) (Qr : Int64 → xb_H → Prop) (x2 : Int64) (h : xb_H) (hw : w_Exact_turnedInto_L287 Qr x2 h) : xb_am l D A σ 6 MC MS h0 (fun v h _ _ => ∃ r, v = some (.long r) ∧ Qr r h) (fun _ _ _ _ => False) y_Exact_turnedInto.cls y_Exact_turnedInto.name b_Exact_turnedInto 5 ([] : List ExceptionTableEntry) (some .long) 287 [(2, .long x2)] [] h 0 0 := by
  unfold w_Exact_turnedInto_L287 at hw
  intro p e s m args below meth c hC H locs ls k n hE hl hR hS hk hn
  obtain ⟨hx, hb, hown, hlocks, htab, hml, hr, hB, hA, hnm⟩ := id hC
  have hts := hB.1.1.at args
  refine lv_lload_n hx hb (xb_d D_Exact_turnedInto 104 rfl) rfl (lv_at hl 0 rfl) ?_
  exact xb_lret 0 0 hx hb hr hlocks (show k + 0 ≤ MC by omega) (show n + 0 ≤ MS by omega) hE hR hS (xb_d D_Exact_turnedInto 105 rfl) hw

set_option maxHeartbeats 4000000 in
set_option maxRecDepth 100000 in
theorem am_Exact_turnedInto_L283 (l : Launch) (hfl : l.flags = pinnedFlags ++ [noTraceFlag]) (D : va_G) (A : Nat → Prop) (σ MC MS : Nat) (h0 : xb_H) (Qr : Int64 → xb_H → Prop) (y0 : Int32) (y1 : Int64) (y2 : Nat) (h : xb_H) (hw : w_Exact_turnedInto_L283 Qr y0 y1 y2 h) : xb_am l D A σ 6 MC MS h0 (fun v h _ _ => ∃ r, v = some (.long r) ∧ Qr r h) (fun _ _ _ _ => False) y_Exact_turnedInto.cls y_Exact_turnedInto.name b_Exact_turnedInto 5 ([] : List ExceptionTableEntry) (some .long) 283 [] [.int y0, .long y1, .ref y2] h 0 0 := by
  unfold w_Exact_turnedInto_L283 at hw
  intro p e s m args below meth c hC H locs ls k n hE hl hR hS hk hn
  obtain ⟨hx, hb, hown, hlocks, htab, hml, hr, hB, hA, hnm⟩ := id hC
  have hts := hB.1.1.at args
  obtain ⟨hk1, hw⟩ := hw
  refine xb_call0 (D := D) (A := A) (σ := σ) (h := h) (d := 5) (maxL := 8) (rest := []) (av := [.ref y2, .long y1, .int y0]) (fun T hT X => by obtain ⟨cb9, ra9, rb9, rc9⟩ := xb_recv (ci := 9) hR rfl hk1 (by decide); exact xt_invV X hx hown (hts _ m_b8b9132e) (hts _ m_62aa3384) (hts _ m_3dad0ddb) (xt_sigOf (hts _ m_f4426c3a)) nm_Exact_reformed (by rw [hT]; exact ra9) rb9 rc9 (g := F0 m 283 ls [.int y0, .long y1, .ref y2]) rfl (argsL := [.long y1, .int y0]) (rest := []) rfl rfl (by rw [hb]; exact (xb_d D_Exact_turnedInto 102 rfl))) (ok_Exact_reformed l hfl D A σ y2 y1 y0 h _ hw) (hml.trans hl.1.symm) (by rw [hb]; exact (xb_d D_Exact_turnedInto 102 rfl)) (Nat.le_of_ble_eq_true rfl) (Nat.le_of_ble_eq_true rfl) (Nat.le_of_ble_eq_true rfl) (show k ≤ MC by omega) (show n ≤ MS by omega) (xt_w1 hB.1 m_f4426c3a) (xt_cdOf hB.1 m_f4426c3a) (hts _ m_b807310b) hB hR hS hA (fun vv h2 H locs hq hEh2 hR hS => ?_)
  obtain ⟨r3, rfl, hw⟩ := hq
  have hw := hw hEh2
  have hE := hE.tr hEh2
  refine W.eq (g2 := F0 m 286 ls [.long r3]) rfl ?_
  exact xb_lret 0 0 hx hb hr hlocks (show k + 0 ≤ MC by omega) (show n + 0 ≤ MS by omega) hE hR hS (xb_d D_Exact_turnedInto 103 rfl) hw

set_option maxHeartbeats 4000000 in
set_option maxRecDepth 100000 in
theorem am_Exact_turnedInto_L264 (l : Launch) (hfl : l.flags = pinnedFlags ++ [noTraceFlag]) (D : va_G) (A : Nat → Prop) (σ MC MS : Nat) (h0 : xb_H) (Qr : Int64 → xb_H → Prop) (x0 : Nat) (x1 : Int32) (x2 : Int64) (y0 : Int32) (y1 : Nat) (h : xb_H) (hw : w_Exact_turnedInto_L264 Qr x0 x1 x2 y0 y1 h) : xb_am l D A σ 6 MC MS h0 (fun v h _ _ => ∃ r, v = some (.long r) ∧ Qr r h) (fun _ _ _ _ => False) y_Exact_turnedInto.cls y_Exact_turnedInto.name b_Exact_turnedInto 5 ([] : List ExceptionTableEntry) (some .long) 264 [(0, .ref x0), (1, .int x1), (2, .long x2)] [.int y0, .ref y1] h 0 0 := by
  unfold w_Exact_turnedInto_L264 at hw
  intro p e s m args below meth c hC H locs ls k n hE hl hR hS hk hn
  obtain ⟨hx, hb, hown, hlocks, htab, hml, hr, hB, hA, hnm⟩ := id hC
  have hts := hB.1.1.at args
  obtain ⟨hk1, hw⟩ := hw
  refine xb_call0 (D := D) (A := A) (σ := σ) (h := h) (d := 2) (maxL := 2) (rest := []) (av := [.ref y1, .int y0]) (fun T hT X => by obtain ⟨cb9, ra9, rb9, rc9⟩ := xb_recv (ci := 9) hR rfl hk1 (by decide); exact xt_invV X hx hown (hts _ m_c71b9470) (hts _ m_83158a9f) (hts _ m_b726eab7) (xt_sigOf (hts _ m_e24dd969)) nm_Exact_format (by rw [hT]; exact ra9) rb9 rc9 (g := F0 m 264 ls [.int y0, .ref y1]) rfl (argsL := [.int y0]) (rest := []) rfl rfl (by rw [hb]; exact (xb_d D_Exact_turnedInto 93 rfl))) (ok_Exact_format l hfl D A σ y1 y0 h _ hw) (hml.trans hl.1.symm) (by rw [hb]; exact (xb_d D_Exact_turnedInto 93 rfl)) (Nat.le_of_ble_eq_true rfl) (Nat.le_of_ble_eq_true rfl) (Nat.le_of_ble_eq_true rfl) (show k ≤ MC by omega) (show n ≤ MS by omega) (xt_w1 hB.1 m_e24dd969) (xt_cdOf hB.1 m_e24dd969) (hts _ m_b807310b) hB hR hS hA (fun vv h2 H locs hq hEh2 hR hS => ?_)
  obtain ⟨rfl, hw⟩ := hq
  have hw := hw hEh2
  have hE := hE.tr hEh2
  refine W.eq (g2 := F0 m 267 ls []) rfl ?_
  refine lv_aload_n hx hb (xb_d D_Exact_turnedInto 94 rfl) rfl (lv_at hl 0 rfl) ?_
  refine lv_lload_n hx hb (xb_d D_Exact_turnedInto 95 rfl) rfl (lv_at hl 2 rfl) ?_
  refine lv_iload_n hx hb (xb_d D_Exact_turnedInto 96 rfl) rfl (lv_at hl 1 rfl) ?_
  refine lv_sipush (v := 182) hx hb (xb_d D_Exact_turnedInto 97 rfl) (by decide) ?_
  refine lv_icmp_ne (tgt := 281) hx hb (xb_d D_Exact_turnedInto 98 rfl) rfl (fun hc4 => ?_) (fun hc4 => ?_)
  · have hw := hw.1 hc4
    refine lv_bipush (v := 64) hx hb (xb_d D_Exact_turnedInto 101 rfl) (by decide) ?_
    exact am_Exact_turnedInto_L283 l hfl D A σ MC MS h0 Qr 64 x2 x0 h2 hw p e s m args below meth c hC H locs ls k n hE (lv_sub hl [] rfl) hR hS (by omega) (by omega)
  · have hw := hw.2 hc4
    refine lv_bipush (v := 32) hx hb (xb_d D_Exact_turnedInto 99 rfl) (by decide) ?_
    refine lv_goto (tgt := 283) hx hb (xb_d D_Exact_turnedInto 100 rfl) rfl ?_
    exact am_Exact_turnedInto_L283 l hfl D A σ MC MS h0 Qr 32 x2 x0 h2 hw p e s m args below meth c hC H locs ls k n hE (lv_sub hl [] rfl) hR hS (by omega) (by omega)

set_option maxHeartbeats 4000000 in
set_option maxRecDepth 100000 in
theorem am_Exact_turnedInto_L249 (l : Launch) (hfl : l.flags = pinnedFlags ++ [noTraceFlag]) (D : va_G) (A : Nat → Prop) (σ MC MS : Nat) (h0 : xb_H) (Qr : Int64 → xb_H → Prop) (x0 : Nat) (x1 : Int32) (x2 : Int64) (h : xb_H) (hw : w_Exact_turnedInto_L249 Qr x0 x1 x2 h) : xb_am l D A σ 6 MC MS h0 (fun v h _ _ => ∃ r, v = some (.long r) ∧ Qr r h) (fun _ _ _ _ => False) y_Exact_turnedInto.cls y_Exact_turnedInto.name b_Exact_turnedInto 5 ([] : List ExceptionTableEntry) (some .long) 249 [(0, .ref x0), (1, .int x1), (2, .long x2)] [] h 0 0 := by
  unfold w_Exact_turnedInto_L249 at hw
  intro p e s m args below meth c hC H locs ls k n hE hl hR hS hk hn
  obtain ⟨hx, hb, hown, hlocks, htab, hml, hr, hB, hA, hnm⟩ := id hC
  have hts := hB.1.1.at args
  refine lv_aload_n hx hb (xb_d D_Exact_turnedInto 86 rfl) rfl (lv_at hl 0 rfl) ?_
  refine lv_iload_n hx hb (xb_d D_Exact_turnedInto 87 rfl) rfl (lv_at hl 1 rfl) ?_
  refine lv_sipush (v := 182) hx hb (xb_d D_Exact_turnedInto 88 rfl) (by decide) ?_
  refine lv_icmp_ne (tgt := 262) hx hb (xb_d D_Exact_turnedInto 89 rfl) rfl (fun hc1 => ?_) (fun hc1 => ?_)
  · have hw := hw.1 hc1
    refine lv_bipush (v := 32) hx hb (xb_d D_Exact_turnedInto 92 rfl) (by decide) ?_
    exact am_Exact_turnedInto_L264 l hfl D A σ MC MS h0 Qr x0 x1 x2 32 x0 h hw p e s m args below meth c hC H locs ls k n hE (lv_sub hl [0, 1, 2] rfl) hR hS (by omega) (by omega)
  · have hw := hw.2 hc1
    refine lv_bipush (v := 64) hx hb (xb_d D_Exact_turnedInto 90 rfl) (by decide) ?_
    refine lv_goto (tgt := 264) hx hb (xb_d D_Exact_turnedInto 91 rfl) rfl ?_
    exact am_Exact_turnedInto_L264 l hfl D A σ MC MS h0 Qr x0 x1 x2 64 x0 h hw p e s m args below meth c hC H locs ls k n hE (lv_sub hl [0, 1, 2] rfl) hR hS (by omega) (by omega)

set_option maxHeartbeats 4000000 in
set_option maxRecDepth 100000 in
theorem am_Exact_turnedInto_L245 (l : Launch) (hfl : l.flags = pinnedFlags ++ [noTraceFlag]) (D : va_G) (A : Nat → Prop) (σ MC MS : Nat) (h0 : xb_H) (Qr : Int64 → xb_H → Prop) (y0 : Int32) (y1 : Int64) (y2 : Nat) (h : xb_H) (hw : w_Exact_turnedInto_L245 Qr y0 y1 y2 h) : xb_am l D A σ 6 MC MS h0 (fun v h _ _ => ∃ r, v = some (.long r) ∧ Qr r h) (fun _ _ _ _ => False) y_Exact_turnedInto.cls y_Exact_turnedInto.name b_Exact_turnedInto 5 ([] : List ExceptionTableEntry) (some .long) 245 [] [.int y0, .long y1, .ref y2] h 0 0 := by
  unfold w_Exact_turnedInto_L245 at hw
  intro p e s m args below meth c hC H locs ls k n hE hl hR hS hk hn
  obtain ⟨hx, hb, hown, hlocks, htab, hml, hr, hB, hA, hnm⟩ := id hC
  have hts := hB.1.1.at args
  obtain ⟨hk1, hw⟩ := hw
  refine xb_call0 (D := D) (A := A) (σ := σ) (h := h) (d := 5) (maxL := 5) (rest := []) (av := [.ref y2, .long y1, .int y0]) (fun T hT X => by obtain ⟨cb9, ra9, rb9, rc9⟩ := xb_recv (ci := 9) hR rfl hk1 (by decide); exact xt_invV X hx hown (hts _ m_ed6fa259) (hts _ m_507a6f35) (hts _ m_cb6a4b02) (xt_sigOf (hts _ m_0a89dfd9)) nm_Exact_floating (by rw [hT]; exact ra9) rb9 rc9 (g := F0 m 245 ls [.int y0, .long y1, .ref y2]) rfl (argsL := [.long y1, .int y0]) (rest := []) rfl rfl (by rw [hb]; exact (xb_d D_Exact_turnedInto 84 rfl))) (ok_Exact_floating l hfl D A σ y2 y1 y0 h _ hw) (hml.trans hl.1.symm) (by rw [hb]; exact (xb_d D_Exact_turnedInto 84 rfl)) (Nat.le_of_ble_eq_true rfl) (Nat.le_of_ble_eq_true rfl) (Nat.le_of_ble_eq_true rfl) (show k ≤ MC by omega) (show n ≤ MS by omega) (xt_w1 hB.1 m_0a89dfd9) (xt_cdOf hB.1 m_0a89dfd9) (hts _ m_b807310b) hB hR hS hA (fun vv h2 H locs hq hEh2 hR hS => ?_)
  obtain ⟨r3, rfl, hw⟩ := hq
  have hw := hw hEh2
  have hE := hE.tr hEh2
  refine W.eq (g2 := F0 m 248 ls [.long r3]) rfl ?_
  exact xb_lret 0 0 hx hb hr hlocks (show k + 0 ≤ MC by omega) (show n + 0 ≤ MS by omega) hE hR hS (xb_d D_Exact_turnedInto 85 rfl) hw

set_option maxHeartbeats 4000000 in
set_option maxRecDepth 100000 in
theorem am_Exact_turnedInto_L235 (l : Launch) (hfl : l.flags = pinnedFlags ++ [noTraceFlag]) (D : va_G) (A : Nat → Prop) (σ MC MS : Nat) (h0 : xb_H) (Qr : Int64 → xb_H → Prop) (x4 : Int32) (y0 : Int64) (y1 : Nat) (h : xb_H) (hw : w_Exact_turnedInto_L235 Qr x4 y0 y1 h) : xb_am l D A σ 6 MC MS h0 (fun v h _ _ => ∃ r, v = some (.long r) ∧ Qr r h) (fun _ _ _ _ => False) y_Exact_turnedInto.cls y_Exact_turnedInto.name b_Exact_turnedInto 5 ([] : List ExceptionTableEntry) (some .long) 235 [(4, .int x4)] [.long y0, .ref y1] h 0 0 := by
  unfold w_Exact_turnedInto_L235 at hw
  intro p e s m args below meth c hC H locs ls k n hE hl hR hS hk hn
  obtain ⟨hx, hb, hown, hlocks, htab, hml, hr, hB, hA, hnm⟩ := id hC
  have hts := hB.1.1.at args
  refine lv_iload hx hb (xb_d D_Exact_turnedInto 79 rfl) (lv_at hl 0 rfl) ?_
  refine lv_if_ne (tgt := 244) hx hb (xb_d D_Exact_turnedInto 80 rfl) rfl (fun hc1 => ?_) (fun hc1 => ?_)
  · have hw := hw.1 hc1
    refine lv_iconst (v := 0) hx hb (xb_d D_Exact_turnedInto 83 rfl) (by decide) ?_
    exact am_Exact_turnedInto_L245 l hfl D A σ MC MS h0 Qr 0 y0 y1 h hw p e s m args below meth c hC H locs ls k n hE (lv_sub hl [] rfl) hR hS (by omega) (by omega)
  · have hw := hw.2 hc1
    refine lv_iconst (v := 1) hx hb (xb_d D_Exact_turnedInto 81 rfl) (by decide) ?_
    refine lv_goto (tgt := 245) hx hb (xb_d D_Exact_turnedInto 82 rfl) rfl ?_
    exact am_Exact_turnedInto_L245 l hfl D A σ MC MS h0 Qr 1 y0 y1 h hw p e s m args below meth c hC H locs ls k n hE (lv_sub hl [] rfl) hR hS (by omega) (by omega)

set_option maxHeartbeats 4000000 in
set_option maxRecDepth 100000 in
theorem am_Exact_turnedInto_L211 (l : Launch) (hfl : l.flags = pinnedFlags ++ [noTraceFlag]) (D : va_G) (A : Nat → Prop) (σ MC MS : Nat) (h0 : xb_H) (Qr : Int64 → xb_H → Prop) (x0 : Nat) (x1 : Int32) (x2 : Int64) (x4 : Int32) (h : xb_H) (hw : w_Exact_turnedInto_L211 Qr x0 x1 x2 x4 h) : xb_am l D A σ 6 MC MS h0 (fun v h _ _ => ∃ r, v = some (.long r) ∧ Qr r h) (fun _ _ _ _ => False) y_Exact_turnedInto.cls y_Exact_turnedInto.name b_Exact_turnedInto 5 ([] : List ExceptionTableEntry) (some .long) 211 [(0, .ref x0), (1, .int x1), (2, .long x2), (4, .int x4)] [] h 0 0 := by
  unfold w_Exact_turnedInto_L211 at hw
  intro p e s m args below meth c hC H locs ls k n hE hl hR hS hk hn
  obtain ⟨hx, hb, hown, hlocks, htab, hml, hr, hB, hA, hnm⟩ := id hC
  have hts := hB.1.1.at args
  refine lv_aload_n hx hb (xb_d D_Exact_turnedInto 67 rfl) rfl (lv_at hl 0 rfl) ?_
  refine lv_bipush (v := 64) hx hb (xb_d D_Exact_turnedInto 68 rfl) (by decide) ?_
  obtain ⟨hk1, hw⟩ := hw
  refine xb_call0 (D := D) (A := A) (σ := σ) (h := h) (d := 2) (maxL := 2) (rest := []) (av := [.ref x0, .int 64]) (fun T hT X => by obtain ⟨cb9, ra9, rb9, rc9⟩ := xb_recv (ci := 9) hR rfl hk1 (by decide); exact xt_invV X hx hown (hts _ m_c71b9470) (hts _ m_83158a9f) (hts _ m_b726eab7) (xt_sigOf (hts _ m_e24dd969)) nm_Exact_format (by rw [hT]; exact ra9) rb9 rc9 (g := F0 m 214 ls [.int 64, .ref x0]) rfl (argsL := [.int 64]) (rest := []) rfl rfl (by rw [hb]; exact (xb_d D_Exact_turnedInto 69 rfl))) (ok_Exact_format l hfl D A σ x0 64 h _ hw) (hml.trans hl.1.symm) (by rw [hb]; exact (xb_d D_Exact_turnedInto 69 rfl)) (Nat.le_of_ble_eq_true rfl) (Nat.le_of_ble_eq_true rfl) (Nat.le_of_ble_eq_true rfl) (show k ≤ MC by omega) (show n ≤ MS by omega) (xt_w1 hB.1 m_e24dd969) (xt_cdOf hB.1 m_e24dd969) (hts _ m_b807310b) hB hR hS hA (fun vv h2 H locs hq hEh2 hR hS => ?_)
  obtain ⟨rfl, hw⟩ := hq
  have hw := hw hEh2
  have hE := hE.tr hEh2
  refine W.eq (g2 := F0 m 217 ls []) rfl ?_
  refine lv_aload_n hx hb (xb_d D_Exact_turnedInto 70 rfl) rfl (lv_at hl 0 rfl) ?_
  refine lv_iload_n hx hb (xb_d D_Exact_turnedInto 71 rfl) rfl (lv_at hl 1 rfl) ?_
  refine lv_sipush (v := 183) hx hb (xb_d D_Exact_turnedInto 72 rfl) (by decide) ?_
  refine lv_icmp_ne (tgt := 234) hx hb (xb_d D_Exact_turnedInto 73 rfl) rfl (fun hc4 => ?_) (fun hc4 => ?_)
  · have hw := hw.1 hc4
    refine lv_lload_n hx hb (xb_d D_Exact_turnedInto 78 rfl) rfl (lv_at hl 2 rfl) ?_
    exact am_Exact_turnedInto_L235 l hfl D A σ MC MS h0 Qr x4 x2 x0 h2 hw p e s m args below meth c hC H locs ls k n hE (lv_sub hl [3] rfl) hR hS (by omega) (by omega)
  · have hw := hw.2 hc4
    refine lv_lload_n hx hb (xb_d D_Exact_turnedInto 74 rfl) rfl (lv_at hl 2 rfl) ?_
    refine lv_bipush (v := 32) hx hb (xb_d D_Exact_turnedInto 75 rfl) (by decide) ?_
    refine xb_call0 (D := D) (A := A) (σ := σ) (h := h2) (d := 2) (maxL := 3) (rest := [.ref x0]) (av := [.long x2, .int 32]) (fun T hT X => xt_invS X hx hown (hts _ m_a66ea30b) (hts _ m_ccb01543) (hts _ m_b807310b) (xt_sgS (hts _ m_dcff08ea)).1 (xt_sgS (hts _ m_dcff08ea)).2 nm_Exact_withSign (g := F0 m 228 ls [.int 32, .long x2, .ref x0]) rfl (argsL := [.long x2, .int 32]) (rest := [.ref x0]) rfl rfl (by rw [hb]; exact (xb_d D_Exact_turnedInto 76 rfl))) (ok_Exact_withSign l hfl D A σ x2 32 h2 _ hw) (hml.trans hl.1.symm) (by rw [hb]; exact (xb_d D_Exact_turnedInto 76 rfl)) (Nat.le_of_ble_eq_true rfl) (Nat.le_of_ble_eq_true rfl) (Nat.le_of_ble_eq_true rfl) (show k ≤ MC by omega) (show n ≤ MS by omega) (xt_w1 hB.1 m_dcff08ea) (xt_cdOf hB.1 m_dcff08ea) (hts _ m_b807310b) hB hR hS hA (fun vv h5 H locs hq hEh5 hR hS => ?_)
    obtain ⟨r6, rfl, hw⟩ := hq
    have hw := hw hEh5
    have hE := hE.tr hEh5
    refine W.eq (g2 := F0 m 231 ls [.long r6, .ref x0]) rfl ?_
    refine lv_goto (tgt := 235) hx hb (xb_d D_Exact_turnedInto 77 rfl) rfl ?_
    exact am_Exact_turnedInto_L235 l hfl D A σ MC MS h0 Qr x4 r6 x0 h5 hw p e s m args below meth c hC H locs ls k n hE (lv_sub hl [3] rfl) hR hS (by omega) (by omega)

set_option maxHeartbeats 4000000 in
set_option maxRecDepth 100000 in
theorem am_Exact_turnedInto_L205 (l : Launch) (hfl : l.flags = pinnedFlags ++ [noTraceFlag]) (D : va_G) (A : Nat → Prop) (σ MC MS : Nat) (h0 : xb_H) (Qr : Int64 → xb_H → Prop) (x4 : Int32) (y0 : Int64) (y1 : Nat) (h : xb_H) (hw : w_Exact_turnedInto_L205 Qr x4 y0 y1 h) : xb_am l D A σ 6 MC MS h0 (fun v h _ _ => ∃ r, v = some (.long r) ∧ Qr r h) (fun _ _ _ _ => False) y_Exact_turnedInto.cls y_Exact_turnedInto.name b_Exact_turnedInto 5 ([] : List ExceptionTableEntry) (some .long) 205 [(4, .int x4)] [.long y0, .ref y1] h 0 0 := by
  unfold w_Exact_turnedInto_L205 at hw
  intro p e s m args below meth c hC H locs ls k n hE hl hR hS hk hn
  obtain ⟨hx, hb, hown, hlocks, htab, hml, hr, hB, hA, hnm⟩ := id hC
  have hts := hB.1.1.at args
  refine lv_iload hx hb (xb_d D_Exact_turnedInto 64 rfl) (lv_at hl 0 rfl) ?_
  obtain ⟨hk1, hw⟩ := hw
  refine xb_call0 (D := D) (A := A) (σ := σ) (h := h) (d := 5) (maxL := 5) (rest := []) (av := [.ref y1, .long y0, .int x4]) (fun T hT X => by obtain ⟨cb9, ra9, rb9, rc9⟩ := xb_recv (ci := 9) hR rfl hk1 (by decide); exact xt_invV X hx hown (hts _ m_ed6fa259) (hts _ m_507a6f35) (hts _ m_cb6a4b02) (xt_sigOf (hts _ m_0a89dfd9)) nm_Exact_floating (by rw [hT]; exact ra9) rb9 rc9 (g := F0 m 207 ls [.int x4, .long y0, .ref y1]) rfl (argsL := [.long y0, .int x4]) (rest := []) rfl rfl (by rw [hb]; exact (xb_d D_Exact_turnedInto 65 rfl))) (ok_Exact_floating l hfl D A σ y1 y0 x4 h _ hw) (hml.trans hl.1.symm) (by rw [hb]; exact (xb_d D_Exact_turnedInto 65 rfl)) (Nat.le_of_ble_eq_true rfl) (Nat.le_of_ble_eq_true rfl) (Nat.le_of_ble_eq_true rfl) (show k ≤ MC by omega) (show n ≤ MS by omega) (xt_w1 hB.1 m_0a89dfd9) (xt_cdOf hB.1 m_0a89dfd9) (hts _ m_b807310b) hB hR hS hA (fun vv h2 H locs hq hEh2 hR hS => ?_)
  obtain ⟨r3, rfl, hw⟩ := hq
  have hw := hw hEh2
  have hE := hE.tr hEh2
  refine W.eq (g2 := F0 m 210 ls [.long r3]) rfl ?_
  exact xb_lret 0 0 hx hb hr hlocks (show k + 0 ≤ MC by omega) (show n + 0 ≤ MS by omega) hE hR hS (xb_d D_Exact_turnedInto 66 rfl) hw

set_option maxHeartbeats 4000000 in
set_option maxRecDepth 100000 in
theorem am_Exact_turnedInto_L204 (l : Launch) (hfl : l.flags = pinnedFlags ++ [noTraceFlag]) (D : va_G) (A : Nat → Prop) (σ MC MS : Nat) (h0 : xb_H) (Qr : Int64 → xb_H → Prop) (x2 : Int64) (x4 : Int32) (y0 : Nat) (h : xb_H) (hw : w_Exact_turnedInto_L204 Qr x2 x4 y0 h) : xb_am l D A σ 6 MC MS h0 (fun v h _ _ => ∃ r, v = some (.long r) ∧ Qr r h) (fun _ _ _ _ => False) y_Exact_turnedInto.cls y_Exact_turnedInto.name b_Exact_turnedInto 5 ([] : List ExceptionTableEntry) (some .long) 204 [(2, .long x2), (4, .int x4)] [.ref y0] h 0 0 := by
  unfold w_Exact_turnedInto_L204 at hw
  intro p e s m args below meth c hC H locs ls k n hE hl hR hS hk hn
  obtain ⟨hx, hb, hown, hlocks, htab, hml, hr, hB, hA, hnm⟩ := id hC
  have hts := hB.1.1.at args
  refine lv_lload_n hx hb (xb_d D_Exact_turnedInto 63 rfl) rfl (lv_at hl 0 rfl) ?_
  exact am_Exact_turnedInto_L205 l hfl D A σ MC MS h0 Qr x4 x2 y0 h hw p e s m args below meth c hC H locs ls k n hE (lv_sub hl [1] rfl) hR hS (by omega) (by omega)

set_option maxHeartbeats 4000000 in
set_option maxRecDepth 100000 in
theorem am_Exact_turnedInto_L176 (l : Launch) (hfl : l.flags = pinnedFlags ++ [noTraceFlag]) (D : va_G) (A : Nat → Prop) (σ MC MS : Nat) (h0 : xb_H) (Qr : Int64 → xb_H → Prop) (x0 : Nat) (x1 : Int32) (x2 : Int64) (x4 : Int32) (h : xb_H) (hw : w_Exact_turnedInto_L176 Qr x0 x1 x2 x4 h) : xb_am l D A σ 6 MC MS h0 (fun v h _ _ => ∃ r, v = some (.long r) ∧ Qr r h) (fun _ _ _ _ => False) y_Exact_turnedInto.cls y_Exact_turnedInto.name b_Exact_turnedInto 5 ([] : List ExceptionTableEntry) (some .long) 176 [(0, .ref x0), (1, .int x1), (2, .long x2), (4, .int x4)] [] h 0 0 := by
  unfold w_Exact_turnedInto_L176 at hw
  intro p e s m args below meth c hC H locs ls k n hE hl hR hS hk hn
  obtain ⟨hx, hb, hown, hlocks, htab, hml, hr, hB, hA, hnm⟩ := id hC
  have hts := hB.1.1.at args
  refine lv_aload_n hx hb (xb_d D_Exact_turnedInto 50 rfl) rfl (lv_at hl 0 rfl) ?_
  refine lv_bipush (v := 32) hx hb (xb_d D_Exact_turnedInto 51 rfl) (by decide) ?_
  obtain ⟨hk1, hw⟩ := hw
  refine xb_call0 (D := D) (A := A) (σ := σ) (h := h) (d := 2) (maxL := 2) (rest := []) (av := [.ref x0, .int 32]) (fun T hT X => by obtain ⟨cb9, ra9, rb9, rc9⟩ := xb_recv (ci := 9) hR rfl hk1 (by decide); exact xt_invV X hx hown (hts _ m_c71b9470) (hts _ m_83158a9f) (hts _ m_b726eab7) (xt_sigOf (hts _ m_e24dd969)) nm_Exact_format (by rw [hT]; exact ra9) rb9 rc9 (g := F0 m 179 ls [.int 32, .ref x0]) rfl (argsL := [.int 32]) (rest := []) rfl rfl (by rw [hb]; exact (xb_d D_Exact_turnedInto 52 rfl))) (ok_Exact_format l hfl D A σ x0 32 h _ hw) (hml.trans hl.1.symm) (by rw [hb]; exact (xb_d D_Exact_turnedInto 52 rfl)) (Nat.le_of_ble_eq_true rfl) (Nat.le_of_ble_eq_true rfl) (Nat.le_of_ble_eq_true rfl) (show k ≤ MC by omega) (show n ≤ MS by omega) (xt_w1 hB.1 m_e24dd969) (xt_cdOf hB.1 m_e24dd969) (hts _ m_b807310b) hB hR hS hA (fun vv h2 H locs hq hEh2 hR hS => ?_)
  obtain ⟨rfl, hw⟩ := hq
  have hw := hw hEh2
  have hE := hE.tr hEh2
  refine W.eq (g2 := F0 m 182 ls []) rfl ?_
  refine lv_aload_n hx hb (xb_d D_Exact_turnedInto 53 rfl) rfl (lv_at hl 0 rfl) ?_
  refine lv_iload hx hb (xb_d D_Exact_turnedInto 54 rfl) (lv_at hl 3 rfl) ?_
  refine lv_if_eq (tgt := 204) hx hb (xb_d D_Exact_turnedInto 55 rfl) rfl (fun hc4 => ?_) (fun hc4 => ?_)
  · have hw := hw.1 hc4
    exact am_Exact_turnedInto_L204 l hfl D A σ MC MS h0 Qr x2 x4 x0 h2 hw p e s m args below meth c hC H locs ls k n hE (lv_sub hl [2, 3] rfl) hR hS (by omega) (by omega)
  · have hw := hw.2 hc4
    refine lv_iload_n hx hb (xb_d D_Exact_turnedInto 56 rfl) rfl (lv_at hl 1 rfl) ?_
    refine lv_sipush (v := 180) hx hb (xb_d D_Exact_turnedInto 57 rfl) (by decide) ?_
    refine lv_icmp_ge (tgt := 204) hx hb (xb_d D_Exact_turnedInto 58 rfl) rfl (fun hc5 => ?_) (fun hc5 => ?_)
    · have hw := hw.1 hc5
      exact am_Exact_turnedInto_L204 l hfl D A σ MC MS h0 Qr x2 x4 x0 h2 hw p e s m args below meth c hC H locs ls k n hE (lv_sub hl [2, 3] rfl) hR hS (by omega) (by omega)
    · have hw := hw.2 hc5
      refine lv_lload_n hx hb (xb_d D_Exact_turnedInto 59 rfl) rfl (lv_at hl 2 rfl) ?_
      refine lv_bipush (v := 32) hx hb (xb_d D_Exact_turnedInto 60 rfl) (by decide) ?_
      refine xb_call0 (D := D) (A := A) (σ := σ) (h := h2) (d := 2) (maxL := 3) (rest := [.ref x0]) (av := [.long x2, .int 32]) (fun T hT X => xt_invS X hx hown (hts _ m_a66ea30b) (hts _ m_ccb01543) (hts _ m_b807310b) (xt_sgS (hts _ m_dcff08ea)).1 (xt_sgS (hts _ m_dcff08ea)).2 nm_Exact_withSign (g := F0 m 198 ls [.int 32, .long x2, .ref x0]) rfl (argsL := [.long x2, .int 32]) (rest := [.ref x0]) rfl rfl (by rw [hb]; exact (xb_d D_Exact_turnedInto 61 rfl))) (ok_Exact_withSign l hfl D A σ x2 32 h2 _ hw) (hml.trans hl.1.symm) (by rw [hb]; exact (xb_d D_Exact_turnedInto 61 rfl)) (Nat.le_of_ble_eq_true rfl) (Nat.le_of_ble_eq_true rfl) (Nat.le_of_ble_eq_true rfl) (show k ≤ MC by omega) (show n ≤ MS by omega) (xt_w1 hB.1 m_dcff08ea) (xt_cdOf hB.1 m_dcff08ea) (hts _ m_b807310b) hB hR hS hA (fun vv h6 H locs hq hEh6 hR hS => ?_)
      obtain ⟨r7, rfl, hw⟩ := hq
      have hw := hw hEh6
      have hE := hE.tr hEh6
      refine W.eq (g2 := F0 m 201 ls [.long r7, .ref x0]) rfl ?_
      refine lv_goto (tgt := 205) hx hb (xb_d D_Exact_turnedInto 62 rfl) rfl ?_
      exact am_Exact_turnedInto_L205 l hfl D A σ MC MS h0 Qr x4 r7 x0 h6 hw p e s m args below meth c hC H locs ls k n hE (lv_sub hl [3] rfl) hR hS (by omega) (by omega)

set_option maxHeartbeats 4000000 in
set_option maxRecDepth 100000 in
theorem am_Exact_turnedInto_L175 (l : Launch) (hfl : l.flags = pinnedFlags ++ [noTraceFlag]) (D : va_G) (A : Nat → Prop) (σ MC MS : Nat) (h0 : xb_H) (Qr : Int64 → xb_H → Prop) (y0 : Int64) (h : xb_H) (hw : w_Exact_turnedInto_L175 Qr y0 h) : xb_am l D A σ 6 MC MS h0 (fun v h _ _ => ∃ r, v = some (.long r) ∧ Qr r h) (fun _ _ _ _ => False) y_Exact_turnedInto.cls y_Exact_turnedInto.name b_Exact_turnedInto 5 ([] : List ExceptionTableEntry) (some .long) 175 [] [.long y0] h 0 0 := by
  unfold w_Exact_turnedInto_L175 at hw
  intro p e s m args below meth c hC H locs ls k n hE hl hR hS hk hn
  obtain ⟨hx, hb, hown, hlocks, htab, hml, hr, hB, hA, hnm⟩ := id hC
  have hts := hB.1.1.at args
  exact xb_lret 0 0 hx hb hr hlocks (show k + 0 ≤ MC by omega) (show n + 0 ≤ MS by omega) hE hR hS (xb_d D_Exact_turnedInto 49 rfl) hw

set_option maxHeartbeats 4000000 in
set_option maxRecDepth 100000 in
theorem am_Exact_turnedInto_L160 (l : Launch) (hfl : l.flags = pinnedFlags ++ [noTraceFlag]) (D : va_G) (A : Nat → Prop) (σ MC MS : Nat) (h0 : xb_H) (Qr : Int64 → xb_H → Prop) (x2 : Int64) (x4 : Int32) (h : xb_H) (hw : w_Exact_turnedInto_L160 Qr x2 x4 h) : xb_am l D A σ 6 MC MS h0 (fun v h _ _ => ∃ r, v = some (.long r) ∧ Qr r h) (fun _ _ _ _ => False) y_Exact_turnedInto.cls y_Exact_turnedInto.name b_Exact_turnedInto 5 ([] : List ExceptionTableEntry) (some .long) 160 [(2, .long x2), (4, .int x4)] [] h 0 0 := by
  unfold w_Exact_turnedInto_L160 at hw
  intro p e s m args below meth c hC H locs ls k n hE hl hR hS hk hn
  obtain ⟨hx, hb, hown, hlocks, htab, hml, hr, hB, hA, hnm⟩ := id hC
  have hts := hB.1.1.at args
  refine lv_iload hx hb (xb_d D_Exact_turnedInto 42 rfl) (lv_at hl 1 rfl) ?_
  refine lv_if_eq (tgt := 174) hx hb (xb_d D_Exact_turnedInto 43 rfl) rfl (fun hc1 => ?_) (fun hc1 => ?_)
  · have hw := hw.1 hc1
    refine lv_lload_n hx hb (xb_d D_Exact_turnedInto 48 rfl) rfl (lv_at hl 0 rfl) ?_
    exact am_Exact_turnedInto_L175 l hfl D A σ MC MS h0 Qr x2 h hw p e s m args below meth c hC H locs ls k n hE (lv_sub hl [] rfl) hR hS (by omega) (by omega)
  · have hw := hw.2 hc1
    refine lv_lload_n hx hb (xb_d D_Exact_turnedInto 44 rfl) rfl (lv_at hl 0 rfl) ?_
    refine lv_bipush (v := 32) hx hb (xb_d D_Exact_turnedInto 45 rfl) (by decide) ?_
    refine xb_call0 (D := D) (A := A) (σ := σ) (h := h) (d := 2) (maxL := 3) (rest := []) (av := [.long x2, .int 32]) (fun T hT X => xt_invS X hx hown (hts _ m_a66ea30b) (hts _ m_ccb01543) (hts _ m_b807310b) (xt_sgS (hts _ m_dcff08ea)).1 (xt_sgS (hts _ m_dcff08ea)).2 nm_Exact_withSign (g := F0 m 168 ls [.int 32, .long x2]) rfl (argsL := [.long x2, .int 32]) (rest := []) rfl rfl (by rw [hb]; exact (xb_d D_Exact_turnedInto 46 rfl))) (ok_Exact_withSign l hfl D A σ x2 32 h _ hw) (hml.trans hl.1.symm) (by rw [hb]; exact (xb_d D_Exact_turnedInto 46 rfl)) (Nat.le_of_ble_eq_true rfl) (Nat.le_of_ble_eq_true rfl) (Nat.le_of_ble_eq_true rfl) (show k ≤ MC by omega) (show n ≤ MS by omega) (xt_w1 hB.1 m_dcff08ea) (xt_cdOf hB.1 m_dcff08ea) (hts _ m_b807310b) hB hR hS hA (fun vv h2 H locs hq hEh2 hR hS => ?_)
    obtain ⟨r3, rfl, hw⟩ := hq
    have hw := hw hEh2
    have hE := hE.tr hEh2
    refine W.eq (g2 := F0 m 171 ls [.long r3]) rfl ?_
    refine lv_goto (tgt := 175) hx hb (xb_d D_Exact_turnedInto 47 rfl) rfl ?_
    exact am_Exact_turnedInto_L175 l hfl D A σ MC MS h0 Qr r3 h2 hw p e s m args below meth c hC H locs ls k n hE (lv_sub hl [] rfl) hR hS (by omega) (by omega)

set_option maxHeartbeats 4000000 in
set_option maxRecDepth 100000 in
theorem am_Exact_turnedInto_L82 (l : Launch) (hfl : l.flags = pinnedFlags ++ [noTraceFlag]) (D : va_G) (A : Nat → Prop) (σ MC MS : Nat) (h0 : xb_H) (Qr : Int64 → xb_H → Prop) (x0 : Nat) (x1 : Int32) (x2 : Int64) (x4 : Int32) (h : xb_H) (hw : w_Exact_turnedInto_L82 Qr x0 x1 x2 x4 h) : xb_am l D A σ 6 MC MS h0 (fun v h _ _ => ∃ r, v = some (.long r) ∧ Qr r h) (fun _ _ _ _ => False) y_Exact_turnedInto.cls y_Exact_turnedInto.name b_Exact_turnedInto 5 ([] : List ExceptionTableEntry) (some .long) 82 [(0, .ref x0), (1, .int x1), (2, .long x2), (4, .int x4)] [] h 0 0 := by
  unfold w_Exact_turnedInto_L82 at hw
  intro p e s m args below meth c hC H locs ls k n hE hl hR hS hk hn
  obtain ⟨hx, hb, hown, hlocks, htab, hml, hr, hB, hA, hnm⟩ := id hC
  have hts := hB.1.1.at args
  refine lv_iload_n hx hb (xb_d D_Exact_turnedInto 40 rfl) rfl (lv_at hl 1 rfl) ?_
  by_cases hc1 : x1 = 172
  · have hw := hw.1 hc1
    refine xt_numi hc1 ?_
    refine lv_tableIn (off := 77) (tgt := 160) hx hb (xb_d D_Exact_turnedInto 41 rfl) (by decide +kernel) (by decide +kernel) (by decide +kernel) (by decide) ?_
    exact am_Exact_turnedInto_L160 l hfl D A σ MC MS h0 Qr x2 x4 h hw p e s m args below meth c hC H locs ls k n hE (lv_sub hl [2, 3] rfl) hR hS (by omega) (by omega)
  have hw := hw.2
  by_cases hc2 : x1 = 173
  · have hw := hw.1 hc2
    refine xt_numi hc2 ?_
    refine lv_tableIn (off := 77) (tgt := 160) hx hb (xb_d D_Exact_turnedInto 41 rfl) (by decide +kernel) (by decide +kernel) (by decide +kernel) (by decide) ?_
    exact am_Exact_turnedInto_L160 l hfl D A σ MC MS h0 Qr x2 x4 h hw p e s m args below meth c hC H locs ls k n hE (lv_sub hl [2, 3] rfl) hR hS (by omega) (by omega)
  have hw := hw.2
  by_cases hc3 : x1 = 174
  · have hw := hw.1 hc3
    refine xt_numi hc3 ?_
    refine lv_tableIn (off := 204) (tgt := 287) hx hb (xb_d D_Exact_turnedInto 41 rfl) (by decide +kernel) (by decide +kernel) (by decide +kernel) (by decide) ?_
    exact am_Exact_turnedInto_L287 l hfl D A σ MC MS h0 Qr x2 h hw p e s m args below meth c hC H locs ls k n hE (lv_sub hl [2] rfl) hR hS (by omega) (by omega)
  have hw := hw.2
  by_cases hc4 : x1 = 175
  · have hw := hw.1 hc4
    refine xt_numi hc4 ?_
    refine lv_tableIn (off := 204) (tgt := 287) hx hb (xb_d D_Exact_turnedInto 41 rfl) (by decide +kernel) (by decide +kernel) (by decide +kernel) (by decide) ?_
    exact am_Exact_turnedInto_L287 l hfl D A σ MC MS h0 Qr x2 h hw p e s m args below meth c hC H locs ls k n hE (lv_sub hl [2] rfl) hR hS (by omega) (by omega)
  have hw := hw.2
  by_cases hc5 : x1 = 176
  · have hw := hw.1 hc5
    refine xt_numi hc5 ?_
    refine lv_tableIn (off := 204) (tgt := 287) hx hb (xb_d D_Exact_turnedInto 41 rfl) (by decide +kernel) (by decide +kernel) (by decide +kernel) (by decide) ?_
    exact am_Exact_turnedInto_L287 l hfl D A σ MC MS h0 Qr x2 h hw p e s m args below meth c hC H locs ls k n hE (lv_sub hl [2] rfl) hR hS (by omega) (by omega)
  have hw := hw.2
  by_cases hc6 : x1 = 177
  · have hw := hw.1 hc6
    refine xt_numi hc6 ?_
    refine lv_tableIn (off := 204) (tgt := 287) hx hb (xb_d D_Exact_turnedInto 41 rfl) (by decide +kernel) (by decide +kernel) (by decide +kernel) (by decide) ?_
    exact am_Exact_turnedInto_L287 l hfl D A σ MC MS h0 Qr x2 h hw p e s m args below meth c hC H locs ls k n hE (lv_sub hl [2] rfl) hR hS (by omega) (by omega)
  have hw := hw.2
  by_cases hc7 : x1 = 178
  · have hw := hw.1 hc7
    refine xt_numi hc7 ?_
    refine lv_tableIn (off := 93) (tgt := 176) hx hb (xb_d D_Exact_turnedInto 41 rfl) (by decide +kernel) (by decide +kernel) (by decide +kernel) (by decide) ?_
    exact am_Exact_turnedInto_L176 l hfl D A σ MC MS h0 Qr x0 x1 x2 x4 h hw p e s m args below meth c hC H locs ls k n hE (lv_sub hl [0, 1, 2, 3] rfl) hR hS (by omega) (by omega)
  have hw := hw.2
  by_cases hc8 : x1 = 179
  · have hw := hw.1 hc8
    refine xt_numi hc8 ?_
    refine lv_tableIn (off := 93) (tgt := 176) hx hb (xb_d D_Exact_turnedInto 41 rfl) (by decide +kernel) (by decide +kernel) (by decide +kernel) (by decide) ?_
    exact am_Exact_turnedInto_L176 l hfl D A σ MC MS h0 Qr x0 x1 x2 x4 h hw p e s m args below meth c hC H locs ls k n hE (lv_sub hl [0, 1, 2, 3] rfl) hR hS (by omega) (by omega)
  have hw := hw.2
  by_cases hc9 : x1 = 180
  · have hw := hw.1 hc9
    refine xt_numi hc9 ?_
    refine lv_tableIn (off := 93) (tgt := 176) hx hb (xb_d D_Exact_turnedInto 41 rfl) (by decide +kernel) (by decide +kernel) (by decide +kernel) (by decide) ?_
    exact am_Exact_turnedInto_L176 l hfl D A σ MC MS h0 Qr x0 x1 x2 x4 h hw p e s m args below meth c hC H locs ls k n hE (lv_sub hl [0, 1, 2, 3] rfl) hR hS (by omega) (by omega)
  have hw := hw.2
  by_cases hc10 : x1 = 181
  · have hw := hw.1 hc10
    refine xt_numi hc10 ?_
    refine lv_tableIn (off := 93) (tgt := 176) hx hb (xb_d D_Exact_turnedInto 41 rfl) (by decide +kernel) (by decide +kernel) (by decide +kernel) (by decide) ?_
    exact am_Exact_turnedInto_L176 l hfl D A σ MC MS h0 Qr x0 x1 x2 x4 h hw p e s m args below meth c hC H locs ls k n hE (lv_sub hl [0, 1, 2, 3] rfl) hR hS (by omega) (by omega)
  have hw := hw.2
  by_cases hc11 : x1 = 182
  · have hw := hw.1 hc11
    refine xt_numi hc11 ?_
    refine lv_tableIn (off := 166) (tgt := 249) hx hb (xb_d D_Exact_turnedInto 41 rfl) (by decide +kernel) (by decide +kernel) (by decide +kernel) (by decide) ?_
    exact am_Exact_turnedInto_L249 l hfl D A σ MC MS h0 Qr x0 x1 x2 h hw p e s m args below meth c hC H locs ls k n hE (lv_sub hl [0, 1, 2] rfl) hR hS (by omega) (by omega)
  have hw := hw.2
  by_cases hc12 : x1 = 183
  · have hw := hw.1 hc12
    refine xt_numi hc12 ?_
    refine lv_tableIn (off := 128) (tgt := 211) hx hb (xb_d D_Exact_turnedInto 41 rfl) (by decide +kernel) (by decide +kernel) (by decide +kernel) (by decide) ?_
    exact am_Exact_turnedInto_L211 l hfl D A σ MC MS h0 Qr x0 x1 x2 x4 h hw p e s m args below meth c hC H locs ls k n hE (lv_sub hl [0, 1, 2, 3] rfl) hR hS (by omega) (by omega)
  have hw := hw.2
  by_cases hc13 : x1 = 184
  · have hw := hw.1 hc13
    refine xt_numi hc13 ?_
    refine lv_tableIn (off := 128) (tgt := 211) hx hb (xb_d D_Exact_turnedInto 41 rfl) (by decide +kernel) (by decide +kernel) (by decide +kernel) (by decide) ?_
    exact am_Exact_turnedInto_L211 l hfl D A σ MC MS h0 Qr x0 x1 x2 x4 h hw p e s m args below meth c hC H locs ls k n hE (lv_sub hl [0, 1, 2, 3] rfl) hR hS (by omega) (by omega)
  have hw := hw.2
  by_cases hc14 : x1 = 185
  · have hw := hw.1 hc14
    refine xt_numi hc14 ?_
    refine lv_tableIn (off := 128) (tgt := 211) hx hb (xb_d D_Exact_turnedInto 41 rfl) (by decide +kernel) (by decide +kernel) (by decide +kernel) (by decide) ?_
    exact am_Exact_turnedInto_L211 l hfl D A σ MC MS h0 Qr x0 x1 x2 x4 h hw p e s m args below meth c hC H locs ls k n hE (lv_sub hl [0, 1, 2, 3] rfl) hR hS (by omega) (by omega)
  have hw := hw.2
  by_cases hc15 : x1 = 186
  · have hw := hw.1 hc15
    refine xt_numi hc15 ?_
    refine lv_tableIn (off := 128) (tgt := 211) hx hb (xb_d D_Exact_turnedInto 41 rfl) (by decide +kernel) (by decide +kernel) (by decide +kernel) (by decide) ?_
    exact am_Exact_turnedInto_L211 l hfl D A σ MC MS h0 Qr x0 x1 x2 x4 h hw p e s m args below meth c hC H locs ls k n hE (lv_sub hl [0, 1, 2, 3] rfl) hR hS (by omega) (by omega)
  have hw := hw.2
  by_cases hc16 : x1 = 187
  · have hw := hw.1 hc16
    refine xt_numi hc16 ?_
    refine lv_tableIn (off := 166) (tgt := 249) hx hb (xb_d D_Exact_turnedInto 41 rfl) (by decide +kernel) (by decide +kernel) (by decide +kernel) (by decide) ?_
    exact am_Exact_turnedInto_L249 l hfl D A σ MC MS h0 Qr x0 x1 x2 h hw p e s m args below meth c hC H locs ls k n hE (lv_sub hl [0, 1, 2] rfl) hR hS (by omega) (by omega)
  have hw := hw.2
  have hw := hw hc1 hc2 hc3 hc4 hc5 hc6 hc7 hc8 hc9 hc10 hc11 hc12 hc13 hc14 hc15 hc16
  refine lv_tableOut (tgt := 287) hx hb (xb_d D_Exact_turnedInto 41 rfl) (by have a0 := xb_nl (172) 172 (by decide) hc1; have a1 := xb_nl (173) 173 (by decide) hc2; have a2 := xb_nl (174) 174 (by decide) hc3; have a3 := xb_nl (175) 175 (by decide) hc4; have a4 := xb_nl (176) 176 (by decide) hc5; have a5 := xb_nl (177) 177 (by decide) hc6; have a6 := xb_nl (178) 178 (by decide) hc7; have a7 := xb_nl (179) 179 (by decide) hc8; have a8 := xb_nl (180) 180 (by decide) hc9; have a9 := xb_nl (181) 181 (by decide) hc10; have a10 := xb_nl (182) 182 (by decide) hc11; have a11 := xb_nl (183) 183 (by decide) hc12; have a12 := xb_nl (184) 184 (by decide) hc13; have a13 := xb_nl (185) 185 (by decide) hc14; have a14 := xb_nl (186) 186 (by decide) hc15; have a15 := xb_nl (187) 187 (by decide) hc16; omega) (by decide) ?_
  exact am_Exact_turnedInto_L287 l hfl D A σ MC MS h0 Qr x2 h hw p e s m args below meth c hC H locs ls k n hE (lv_sub hl [2] rfl) hR hS (by omega) (by omega)

set_option maxHeartbeats 4000000 in
set_option maxRecDepth 100000 in
theorem am_Exact_turnedInto_L76 (l : Launch) (hfl : l.flags = pinnedFlags ++ [noTraceFlag]) (D : va_G) (A : Nat → Prop) (σ MC MS : Nat) (h0 : xb_H) (Qr : Int64 → xb_H → Prop) (x4 : Int32) (y0 : Int32) (y1 : Int64) (y2 : Nat) (h : xb_H) (hw : w_Exact_turnedInto_L76 Qr x4 y0 y1 y2 h) : xb_am l D A σ 6 MC MS h0 (fun v h _ _ => ∃ r, v = some (.long r) ∧ Qr r h) (fun _ _ _ _ => False) y_Exact_turnedInto.cls y_Exact_turnedInto.name b_Exact_turnedInto 5 ([] : List ExceptionTableEntry) (some .long) 76 [(4, .int x4)] [.int y0, .long y1, .ref y2] h 0 0 := by
  unfold w_Exact_turnedInto_L76 at hw
  intro p e s m args below meth c hC H locs ls k n hE hl hR hS hk hn
  obtain ⟨hx, hb, hown, hlocks, htab, hml, hr, hB, hA, hnm⟩ := id hC
  have hts := hB.1.1.at args
  refine lv_iload hx hb (xb_d D_Exact_turnedInto 37 rfl) (lv_at hl 0 rfl) ?_
  obtain ⟨hk1, hw⟩ := hw
  refine xb_call0 (D := D) (A := A) (σ := σ) (h := h) (d := 5) (maxL := 10) (rest := []) (av := [.ref y2, .long y1, .int y0, .int x4]) (fun T hT X => by obtain ⟨cb9, ra9, rb9, rc9⟩ := xb_recv (ci := 9) hR rfl hk1 (by decide); exact xt_invV X hx hown (hts _ m_b050622d) (hts _ m_ab5ee0c1) (hts _ m_d7109498) (xt_sigOf (hts _ m_5411d610)) nm_Exact_cut (by rw [hT]; exact ra9) rb9 rc9 (g := F0 m 78 ls [.int x4, .int y0, .long y1, .ref y2]) rfl (argsL := [.long y1, .int y0, .int x4]) (rest := []) rfl rfl (by rw [hb]; exact (xb_d D_Exact_turnedInto 38 rfl))) (ok_Exact_cut l hfl D A σ y2 y1 y0 x4 h _ hw) (hml.trans hl.1.symm) (by rw [hb]; exact (xb_d D_Exact_turnedInto 38 rfl)) (Nat.le_of_ble_eq_true rfl) (Nat.le_of_ble_eq_true rfl) (Nat.le_of_ble_eq_true rfl) (show k ≤ MC by omega) (show n ≤ MS by omega) (xt_w1 hB.1 m_5411d610) (xt_cdOf hB.1 m_5411d610) (hts _ m_b807310b) hB hR hS hA (fun vv h2 H locs hq hEh2 hR hS => ?_)
  obtain ⟨r3, rfl, hw⟩ := hq
  have hw := hw hEh2
  have hE := hE.tr hEh2
  refine W.eq (g2 := F0 m 81 ls [.long r3]) rfl ?_
  exact xb_lret 0 0 hx hb hr hlocks (show k + 0 ≤ MC by omega) (show n + 0 ≤ MS by omega) hE hR hS (xb_d D_Exact_turnedInto 39 rfl) hw

set_option maxHeartbeats 4000000 in
set_option maxRecDepth 100000 in
theorem am_Exact_turnedInto_L57 (l : Launch) (hfl : l.flags = pinnedFlags ++ [noTraceFlag]) (D : va_G) (A : Nat → Prop) (σ MC MS : Nat) (h0 : xb_H) (Qr : Int64 → xb_H → Prop) (x0 : Nat) (x1 : Int32) (x2 : Int64) (x4 : Int32) (y0 : Int32) (y1 : Nat) (h : xb_H) (hw : w_Exact_turnedInto_L57 Qr x0 x1 x2 x4 y0 y1 h) : xb_am l D A σ 6 MC MS h0 (fun v h _ _ => ∃ r, v = some (.long r) ∧ Qr r h) (fun _ _ _ _ => False) y_Exact_turnedInto.cls y_Exact_turnedInto.name b_Exact_turnedInto 5 ([] : List ExceptionTableEntry) (some .long) 57 [(0, .ref x0), (1, .int x1), (2, .long x2), (4, .int x4)] [.int y0, .ref y1] h 0 0 := by
  unfold w_Exact_turnedInto_L57 at hw
  intro p e s m args below meth c hC H locs ls k n hE hl hR hS hk hn
  obtain ⟨hx, hb, hown, hlocks, htab, hml, hr, hB, hA, hnm⟩ := id hC
  have hts := hB.1.1.at args
  obtain ⟨hk1, hw⟩ := hw
  refine xb_call0 (D := D) (A := A) (σ := σ) (h := h) (d := 2) (maxL := 2) (rest := []) (av := [.ref y1, .int y0]) (fun T hT X => by obtain ⟨cb9, ra9, rb9, rc9⟩ := xb_recv (ci := 9) hR rfl hk1 (by decide); exact xt_invV X hx hown (hts _ m_c71b9470) (hts _ m_83158a9f) (hts _ m_b726eab7) (xt_sigOf (hts _ m_e24dd969)) nm_Exact_format (by rw [hT]; exact ra9) rb9 rc9 (g := F0 m 57 ls [.int y0, .ref y1]) rfl (argsL := [.int y0]) (rest := []) rfl rfl (by rw [hb]; exact (xb_d D_Exact_turnedInto 28 rfl))) (ok_Exact_format l hfl D A σ y1 y0 h _ hw) (hml.trans hl.1.symm) (by rw [hb]; exact (xb_d D_Exact_turnedInto 28 rfl)) (Nat.le_of_ble_eq_true rfl) (Nat.le_of_ble_eq_true rfl) (Nat.le_of_ble_eq_true rfl) (show k ≤ MC by omega) (show n ≤ MS by omega) (xt_w1 hB.1 m_e24dd969) (xt_cdOf hB.1 m_e24dd969) (hts _ m_b807310b) hB hR hS hA (fun vv h2 H locs hq hEh2 hR hS => ?_)
  obtain ⟨rfl, hw⟩ := hq
  have hw := hw hEh2
  have hE := hE.tr hEh2
  refine W.eq (g2 := F0 m 60 ls []) rfl ?_
  refine lv_aload_n hx hb (xb_d D_Exact_turnedInto 29 rfl) rfl (lv_at hl 0 rfl) ?_
  refine lv_lload_n hx hb (xb_d D_Exact_turnedInto 30 rfl) rfl (lv_at hl 2 rfl) ?_
  refine lv_iload_n hx hb (xb_d D_Exact_turnedInto 31 rfl) rfl (lv_at hl 1 rfl) ?_
  refine lv_sipush (v := 172) hx hb (xb_d D_Exact_turnedInto 32 rfl) (by decide) ?_
  refine lv_icmp_ge (tgt := 74) hx hb (xb_d D_Exact_turnedInto 33 rfl) rfl (fun hc4 => ?_) (fun hc4 => ?_)
  · have hw := hw.1 hc4
    refine lv_bipush (v := 64) hx hb (xb_d D_Exact_turnedInto 36 rfl) (by decide) ?_
    exact am_Exact_turnedInto_L76 l hfl D A σ MC MS h0 Qr x4 64 x2 x0 h2 hw p e s m args below meth c hC H locs ls k n hE (lv_sub hl [3] rfl) hR hS (by omega) (by omega)
  · have hw := hw.2 hc4
    refine lv_bipush (v := 32) hx hb (xb_d D_Exact_turnedInto 34 rfl) (by decide) ?_
    refine lv_goto (tgt := 76) hx hb (xb_d D_Exact_turnedInto 35 rfl) rfl ?_
    exact am_Exact_turnedInto_L76 l hfl D A σ MC MS h0 Qr x4 32 x2 x0 h2 hw p e s m args below meth c hC H locs ls k n hE (lv_sub hl [3] rfl) hR hS (by omega) (by omega)

set_option maxHeartbeats 4000000 in
set_option maxRecDepth 100000 in
theorem am_Exact_turnedInto_L41 (l : Launch) (hfl : l.flags = pinnedFlags ++ [noTraceFlag]) (D : va_G) (A : Nat → Prop) (σ MC MS : Nat) (h0 : xb_H) (Qr : Int64 → xb_H → Prop) (x0 : Nat) (x1 : Int32) (x2 : Int64) (x4 : Int32) (h : xb_H) (hw : w_Exact_turnedInto_L41 Qr x0 x1 x2 x4 h) : xb_am l D A σ 6 MC MS h0 (fun v h _ _ => ∃ r, v = some (.long r) ∧ Qr r h) (fun _ _ _ _ => False) y_Exact_turnedInto.cls y_Exact_turnedInto.name b_Exact_turnedInto 5 ([] : List ExceptionTableEntry) (some .long) 41 [(0, .ref x0), (1, .int x1), (2, .long x2), (4, .int x4)] [] h 0 0 := by
  unfold w_Exact_turnedInto_L41 at hw
  intro p e s m args below meth c hC H locs ls k n hE hl hR hS hk hn
  obtain ⟨hx, hb, hown, hlocks, htab, hml, hr, hB, hA, hnm⟩ := id hC
  have hts := hB.1.1.at args
  refine lv_aload_n hx hb (xb_d D_Exact_turnedInto 20 rfl) rfl (lv_at hl 0 rfl) ?_
  refine lv_iload_n hx hb (xb_d D_Exact_turnedInto 21 rfl) rfl (lv_at hl 1 rfl) ?_
  refine xb_call0 (D := D) (A := A) (σ := σ) (h := h) (d := 3) (maxL := 1) (rest := [.ref x0]) (av := [.int x1]) (fun T hT X => xt_invS X hx hown (hts _ m_03c53ef9) (hts _ m_69a81f16) (hts _ m_b807310b) (xt_sgS (hts _ m_4328253a)).1 (xt_sgS (hts _ m_4328253a)).2 nm_Exact_first (g := F0 m 43 ls [.int x1, .ref x0]) rfl (argsL := [.int x1]) (rest := [.ref x0]) rfl rfl (by rw [hb]; exact (xb_d D_Exact_turnedInto 22 rfl))) (ok_Exact_first l hfl D A σ x1 h _ hw) (hml.trans hl.1.symm) (by rw [hb]; exact (xb_d D_Exact_turnedInto 22 rfl)) (Nat.le_of_ble_eq_true rfl) (Nat.le_of_ble_eq_true rfl) (Nat.le_of_ble_eq_true rfl) (show k ≤ MC by omega) (show n ≤ MS by omega) (xt_w1 hB.1 m_4328253a) (xt_cdOf hB.1 m_4328253a) (hts _ m_b807310b) hB hR hS hA (fun vv h1 H locs hq hEh1 hR hS => ?_)
  obtain ⟨r2, rfl, hw⟩ := hq
  have hw := hw hEh1
  have hE := hE.tr hEh1
  refine W.eq (g2 := F0 m 46 ls [.int r2, .ref x0]) rfl ?_
  refine lv_iconst (v := 2) hx hb (xb_d D_Exact_turnedInto 23 rfl) (by decide) ?_
  refine lv_icmp_ne (tgt := 55) hx hb (xb_d D_Exact_turnedInto 24 rfl) rfl (fun hc3 => ?_) (fun hc3 => ?_)
  · have hw := hw.1 hc3
    refine lv_bipush (v := 64) hx hb (xb_d D_Exact_turnedInto 27 rfl) (by decide) ?_
    exact am_Exact_turnedInto_L57 l hfl D A σ MC MS h0 Qr x0 x1 x2 x4 64 x0 h1 hw p e s m args below meth c hC H locs ls k n hE (lv_sub hl [0, 1, 2, 3] rfl) hR hS (by omega) (by omega)
  · have hw := hw.2 hc3
    refine lv_bipush (v := 32) hx hb (xb_d D_Exact_turnedInto 25 rfl) (by decide) ?_
    refine lv_goto (tgt := 57) hx hb (xb_d D_Exact_turnedInto 26 rfl) rfl ?_
    exact am_Exact_turnedInto_L57 l hfl D A σ MC MS h0 Qr x0 x1 x2 x4 32 x0 h1 hw p e s m args below meth c hC H locs ls k n hE (lv_sub hl [0, 1, 2, 3] rfl) hR hS (by omega) (by omega)

set_option maxHeartbeats 4000000 in
set_option maxRecDepth 100000 in
theorem am_Exact_turnedInto_L27 (l : Launch) (hfl : l.flags = pinnedFlags ++ [noTraceFlag]) (D : va_G) (A : Nat → Prop) (σ MC MS : Nat) (h0 : xb_H) (Qr : Int64 → xb_H → Prop) (x0 : Nat) (x1 : Int32) (x2 : Int64) (x4 : Int32) (h : xb_H) (hw : w_Exact_turnedInto_L27 Qr x0 x1 x2 x4 h) : xb_am l D A σ 6 MC MS h0 (fun v h _ _ => ∃ r, v = some (.long r) ∧ Qr r h) (fun _ _ _ _ => False) y_Exact_turnedInto.cls y_Exact_turnedInto.name b_Exact_turnedInto 5 ([] : List ExceptionTableEntry) (some .long) 27 [(0, .ref x0), (1, .int x1), (2, .long x2), (4, .int x4)] [] h 0 0 := by
  unfold w_Exact_turnedInto_L27 at hw
  intro p e s m args below meth c hC H locs ls k n hE hl hR hS hk hn
  obtain ⟨hx, hb, hown, hlocks, htab, hml, hr, hB, hA, hnm⟩ := id hC
  have hts := hB.1.1.at args
  refine lv_iload_n hx hb (xb_d D_Exact_turnedInto 14 rfl) rfl (lv_at hl 1 rfl) ?_
  refine lv_sipush (v := 174) hx hb (xb_d D_Exact_turnedInto 15 rfl) (by decide) ?_
  refine lv_icmp_lt (tgt := 82) hx hb (xb_d D_Exact_turnedInto 16 rfl) rfl (fun hc1 => ?_) (fun hc1 => ?_)
  · have hw := hw.1 hc1
    exact am_Exact_turnedInto_L82 l hfl D A σ MC MS h0 Qr x0 x1 x2 x4 h hw p e s m args below meth c hC H locs ls k n hE (lv_sub hl [0, 1, 2, 3] rfl) hR hS (by omega) (by omega)
  · have hw := hw.2 hc1
    refine lv_iload_n hx hb (xb_d D_Exact_turnedInto 17 rfl) rfl (lv_at hl 1 rfl) ?_
    refine lv_sipush (v := 177) hx hb (xb_d D_Exact_turnedInto 18 rfl) (by decide) ?_
    refine lv_icmp_gt (tgt := 82) hx hb (xb_d D_Exact_turnedInto 19 rfl) rfl (fun hc2 => ?_) (fun hc2 => ?_)
    · have hw := hw.1 hc2
      exact am_Exact_turnedInto_L82 l hfl D A σ MC MS h0 Qr x0 x1 x2 x4 h hw p e s m args below meth c hC H locs ls k n hE (lv_sub hl [0, 1, 2, 3] rfl) hR hS (by omega) (by omega)
    · have hw := hw.2 hc2
      exact am_Exact_turnedInto_L41 l hfl D A σ MC MS h0 Qr x0 x1 x2 x4 h hw p e s m args below meth c hC H locs ls k n hE (lv_sub hl [0, 1, 2, 3] rfl) hR hS (by omega) (by omega)

set_option maxHeartbeats 4000000 in
set_option maxRecDepth 100000 in
theorem am_Exact_turnedInto_L11 (l : Launch) (hfl : l.flags = pinnedFlags ++ [noTraceFlag]) (D : va_G) (A : Nat → Prop) (σ MC MS : Nat) (h0 : xb_H) (Qr : Int64 → xb_H → Prop) (x0 : Nat) (x1 : Int32) (x2 : Int64) (y0 : Int32) (h : xb_H) (hw : w_Exact_turnedInto_L11 Qr x0 x1 x2 y0 h) : xb_am l D A σ 6 MC MS h0 (fun v h _ _ => ∃ r, v = some (.long r) ∧ Qr r h) (fun _ _ _ _ => False) y_Exact_turnedInto.cls y_Exact_turnedInto.name b_Exact_turnedInto 5 ([] : List ExceptionTableEntry) (some .long) 11 [(0, .ref x0), (1, .int x1), (2, .long x2)] [.int y0] h 0 0 := by
  unfold w_Exact_turnedInto_L11 at hw
  intro p e s m args below meth c hC H locs ls k n hE hl hR hS hk hn
  obtain ⟨hx, hb, hown, hlocks, htab, hml, hr, hB, hA, hnm⟩ := id hC
  have hts := hB.1.1.at args
  refine lv_istore hx hb (xb_d D_Exact_turnedInto 7 rfl) hl (by decide) rfl (fun ls hl => ?_)
  have hl : lv_has ls 5 [(4, .int y0), (0, .ref x0), (1, .int x1), (2, .long x2)] := hl
  refine lv_iload_n hx hb (xb_d D_Exact_turnedInto 8 rfl) rfl (lv_at hl 2 rfl) ?_
  refine lv_sipush (v := 168) hx hb (xb_d D_Exact_turnedInto 9 rfl) (by decide) ?_
  refine lv_icmp_lt (tgt := 27) hx hb (xb_d D_Exact_turnedInto 10 rfl) rfl (fun hc1 => ?_) (fun hc1 => ?_)
  · have hw := hw.1 hc1
    exact am_Exact_turnedInto_L27 l hfl D A σ MC MS h0 Qr x0 x1 x2 y0 h hw p e s m args below meth c hC H locs ls k n hE (lv_sub hl [1, 2, 3, 0] rfl) hR hS (by omega) (by omega)
  · have hw := hw.2 hc1
    refine lv_iload_n hx hb (xb_d D_Exact_turnedInto 11 rfl) rfl (lv_at hl 2 rfl) ?_
    refine lv_sipush (v := 171) hx hb (xb_d D_Exact_turnedInto 12 rfl) (by decide) ?_
    refine lv_icmp_le (tgt := 41) hx hb (xb_d D_Exact_turnedInto 13 rfl) rfl (fun hc2 => ?_) (fun hc2 => ?_)
    · have hw := hw.1 hc2
      exact am_Exact_turnedInto_L41 l hfl D A σ MC MS h0 Qr x0 x1 x2 y0 h hw p e s m args below meth c hC H locs ls k n hE (lv_sub hl [1, 2, 3, 0] rfl) hR hS (by omega) (by omega)
    · have hw := hw.2 hc2
      exact am_Exact_turnedInto_L27 l hfl D A σ MC MS h0 Qr x0 x1 x2 y0 h hw p e s m args below meth c hC H locs ls k n hE (lv_sub hl [1, 2, 3, 0] rfl) hR hS (by omega) (by omega)

set_option maxHeartbeats 4000000 in
set_option maxRecDepth 100000 in
theorem ok_Exact_turnedInto (l : Launch) (hfl : l.flags = pinnedFlags ++ [noTraceFlag]) (D : va_G) (A : Nat → Prop) (σ : Nat) (x0 : Nat) (x1 : Int32) (x2 : Int64) (h : xb_H) (Qr : Int64 → xb_H → Prop) (hw : w_Exact_turnedInto x0 x1 x2 h Qr) : xb_Met l y_Exact_turnedInto [.code y_Exact_turnedInto b_Exact_turnedInto 5 (some .long)] (xb_rm 6 0 0) (xb_Pc D A σ h [.ref x0, .int x1, .long x2]) (xb_Qc D A h 0 0 (fun v h _ _ => ∃ r, v = some (.long r) ∧ Qr r h) (fun _ _ _ _ => False)) A := by
  refine xb_ofAm (cc := b_Exact_turnedInto) (by decide) (Nat.le_of_ble_eq_true rfl) ?_
  unfold w_Exact_turnedInto at hw
  show xb_am l D A σ 6 0 0 h (fun v h _ _ => ∃ r, v = some (.long r) ∧ Qr r h) (fun _ _ _ _ => False) y_Exact_turnedInto.cls y_Exact_turnedInto.name b_Exact_turnedInto 5 ([] : List ExceptionTableEntry) (some .long) 0 [(0, .ref x0), (1, .int x1), (2, .long x2)] [] h 0 0
  obtain ⟨MC, hMC⟩ : ∃ x, x = 0 := ⟨_, rfl⟩
  obtain ⟨MS, hMS⟩ : ∃ x, x = 0 := ⟨_, rfl⟩
  rw [show xb_am l D A σ 6 0 0 = xb_am l D A σ 6 MC MS by rw [hMC, hMS]]
  obtain ⟨h0, hh0⟩ : ∃ x, x = h := ⟨_, rfl⟩
  rw [show xb_am l D A σ 6 MC MS h = xb_am l D A σ 6 MC MS h0 by rw [hh0]]
  intro p e s m args below meth c hC H locs ls k n hE hl hR hS hk hn
  obtain ⟨hx, hb, hown, hlocks, htab, hml, hr, hB, hA, hnm⟩ := id hC
  have hts := hB.1.1.at args
  refine lv_iload_n hx hb (xb_d D_Exact_turnedInto 0 rfl) rfl (lv_at hl 1 rfl) ?_
  refine lv_iconst (v := 2) hx hb (xb_d D_Exact_turnedInto 1 rfl) (by decide) ?_
  refine lv_irem hx hb (xb_d D_Exact_turnedInto 2 rfl) (by decide) ?_
  refine lv_if_ne (tgt := 10) hx hb (xb_d D_Exact_turnedInto 3 rfl) rfl (fun hc1 => ?_) (fun hc1 => ?_)
  · have hw := hw.1 hc1
    refine lv_iconst (v := 0) hx hb (xb_d D_Exact_turnedInto 6 rfl) (by decide) ?_
    exact am_Exact_turnedInto_L11 l hfl D A σ MC MS h0 Qr x0 x1 x2 0 h hw p e s m args below meth c hC H locs ls k n hE (lv_sub hl [0, 1, 2] rfl) hR hS (by omega) (by omega)
  · have hw := hw.2 hc1
    refine lv_iconst (v := 1) hx hb (xb_d D_Exact_turnedInto 4 rfl) (by decide) ?_
    refine lv_goto (tgt := 11) hx hb (xb_d D_Exact_turnedInto 5 rfl) rfl ?_
    exact am_Exact_turnedInto_L11 l hfl D A σ MC MS h0 Qr x0 x1 x2 1 h hw p e s m args below meth c hC H locs ls k n hE (lv_sub hl [0, 1, 2] rfl) hR hS (by omega) (by omega)

theorem m_9f27c74a : (.methodLink "StackHost$Checker" 212 y_Row_setAt : Cond) ∈ xt_tbl := xt_in (xt_t6 (List.mem_of_getElem? (i := 52) (by decide +kernel))) (by decide +kernel)
theorem m_ae2d3893 : (.instanceMethod y_Row_setAt : Cond) ∈ xt_tbl := xt_in (xt_t6 (List.mem_of_getElem? (i := 53) (by decide +kernel))) (by decide +kernel)
theorem m_583fd7d0 : (.selects "StackHost$Row" y_Row_setAt y_Row_setAt : Cond) ∈ xt_tbl := xt_in (xt_t6 (List.mem_of_getElem? (i := 54) (by decide +kernel))) (by decide +kernel)
theorem m_2325caf0 : (.code y_Row_setAt b_Row_setAt 5 none : Cond) ∈ xt_tbl := xt_in (xt_t6 (List.mem_of_getElem? (i := 55) (by decide +kernel))) (by decide +kernel)
theorem m_852a35b5 : (.methodLink "StackHost$Checker" 206 y_Checker_checkInstruction : Cond) ∈ xt_tbl := xt_in (xt_t5 (List.mem_of_getElem? (i := 208) (by decide +kernel))) (by decide +kernel)
theorem m_a1edd8e0 : (.instanceMethod y_Checker_checkInstruction : Cond) ∈ xt_tbl := xt_in (xt_t5 (List.mem_of_getElem? (i := 210) (by decide +kernel))) (by decide +kernel)
theorem m_145ca286 : (.selects "StackHost$Checker" y_Checker_checkInstruction y_Checker_checkInstruction : Cond) ∈ xt_tbl := xt_in (xt_v3 (q := (⟨"StackHost$Checker", "checkInstruction", "(I)V"⟩, 17)) (List.mem_of_getElem? (i := 15) (by decide +kernel))) (by decide +kernel)
theorem m_ce4eed8b : (.code y_Checker_checkInstruction b_Checker_checkInstruction 2 none : Cond) ∈ xt_tbl := xt_in (xt_t5 (List.mem_of_getElem? (i := 211) (by decide +kernel))) (by decide +kernel)
theorem m_831fd048 : (.methodLink "StackHost$Checker" 209 y_StackModule_nextPlace : Cond) ∈ xt_tbl := xt_in (xt_t6 (List.mem_of_getElem? (i := 47) (by decide +kernel))) (by decide +kernel)
theorem m_7a084d8c : (.instanceMethod y_StackModule_nextPlace : Cond) ∈ xt_tbl := xt_in (xt_t6 (List.mem_of_getElem? (i := 48) (by decide +kernel))) (by decide +kernel)
theorem m_9dac82c4 : (.selects "StackHost$StackModule" y_StackModule_nextPlace y_StackModule_nextPlace : Cond) ∈ xt_tbl := xt_in (xt_t6 (List.mem_of_getElem? (i := 49) (by decide +kernel))) (by decide +kernel)
theorem m_a27a5692 : (.code y_StackModule_nextPlace b_StackModule_nextPlace 2 (some .int) : Cond) ∈ xt_tbl := xt_in (xt_t6 (List.mem_of_getElem? (i := 50) (by decide +kernel))) (by decide +kernel)
theorem m_a5f6609b : (.methodLink "StackHost$Checker" 184 y_Checker_spreadLocals : Cond) ∈ xt_tbl := xt_in (xt_t4 (List.mem_of_getElem? (i := 183) (by decide +kernel))) (by decide +kernel)
theorem m_687f9ec9 : (.instanceMethod y_Checker_spreadLocals : Cond) ∈ xt_tbl := xt_in (xt_t4 (List.mem_of_getElem? (i := 185) (by decide +kernel))) (by decide +kernel)
theorem m_20c611bd : (.selects "StackHost$Checker" y_Checker_spreadLocals y_Checker_spreadLocals : Cond) ∈ xt_tbl := xt_in (xt_v3 (q := (⟨"StackHost$Checker", "spreadLocals", "(I)V"⟩, 17)) (List.mem_of_getElem? (i := 13) (by decide +kernel))) (by decide +kernel)
theorem m_cbf63ef2 : (.code y_Checker_spreadLocals b_Checker_spreadLocals 5 none : Cond) ∈ xt_tbl := xt_in (xt_t4 (List.mem_of_getElem? (i := 186) (by decide +kernel))) (by decide +kernel)
theorem nm_Row_setAt : xt_nm y_Row_setAt 3 := ⟨by decide +kernel, by decide +kernel⟩
theorem nm_Checker_checkInstruction : xt_nm y_Checker_checkInstruction 1 := ⟨by decide +kernel, by decide +kernel⟩
theorem nm_StackModule_nextPlace : xt_nm y_StackModule_nextPlace 1 := ⟨by decide +kernel, by decide +kernel⟩
theorem nm_Checker_spreadLocals : xt_nm y_Checker_spreadLocals 1 := ⟨by decide +kernel, by decide +kernel⟩
set_option maxRecDepth 100000 in
def T_Checker_checkBody : List (Nat × Instr × Nat) := [(0, .aload_n 0, 1), (1, .aload_n 0, 1), (2, .getfield 38, 3), (5, .aload_n 0, 1), (6, .getfield 38, 3), (9, .getfield 131, 3), (12, .iconst 0, 1), (13, .iaload, 1), (14, .iload_n 1, 1), (15, .iadd, 1), (16, .invokevirtual 158, 3), (19, .putfield 181, 3), (22, .aload_n 0, 1), (23, .iload_n 1, 1), (24, .invokevirtual 184, 3), (27, .aload_n 0, 1), (28, .iconst 0, 1), (29, .putfield 187, 3), (32, .aload_n 0, 1), (33, .iconst 0, 1), (34, .putfield 190, 3), (37, .aload_n 0, 1), (38, .iconst 0, 1), (39, .putfield 193, 3), (42, .aload_n 0, 1), (43, .aload_n 0, 1), (44, .getfield 38, 3), (47, .getfield 73, 3), (50, .iload_n 1, 1), (51, .iconst 0, 1), (52, .invokevirtual 90, 3), (55, .putfield 196, 3), (58, .aload_n 0, 1), (59, .iconst 0, 1), (60, .iconst (-1), 1), (61, .aload_n 0, 1), (62, .getfield 38, 3), (65, .aload_n 0, 1), (66, .getfield 181, 3), (69, .invokevirtual 199, 3), (72, .aload_n 0, 1), (73, .getfield 38, 3), (76, .aload_n 0, 1), (77, .getfield 181, 3), (80, .invokevirtual 199, 3), (83, .invokevirtual 202, 3), (86, .iconst 0, 1), (87, .istore_n 2, 1), (88, .iload_n 2, 1), (89, .aload_n 0, 1), (90, .getfield 47, 3), (93, .arraylength, 1), (94, .if_icmp .ge 48, 3), (97, .aload_n 0, 1), (98, .getfield 193, 3), (101, .ifCond .le 41, 3), (104, .aload_n 0, 1), (105, .aload_n 0, 1), (106, .getfield 47, 3), (109, .aload_n 0, 1), (110, .getfield 196, 3), (113, .baload, 1), (114, .sipush 255, 3), (117, .iand, 1), (118, .invokevirtual 206, 3), (121, .aload_n 0, 1), (122, .aload_n 0, 1), (123, .getfield 38, 3), (126, .aload_n 0, 1), (127, .getfield 196, 3), (130, .invokevirtual 209, 3), (133, .putfield 196, 3), (136, .iinc 2 1, 3), (139, .goto (-51), 3), (142, .aload_n 0, 1), (143, .getfield 38, 3), (146, .getfield 73, 3), (149, .iload_n 1, 1), (150, .iconst 4, 1), (151, .aload_n 0, 1), (152, .getfield 190, 3), (155, .i2l, 1), (156, .invokevirtual 212, 3), (159, .return_, 1)]
theorem D_Checker_checkBody : ∀ q ∈ T_Checker_checkBody, decode b_Checker_checkBody q.1 = .ok (q.2.1, q.2.2) := by decide +kernel

set_option maxHeartbeats 4000000 in
set_option maxRecDepth 100000 in
theorem am_Checker_checkBody_L142 (l : Launch) (hfl : l.flags = pinnedFlags ++ [noTraceFlag]) (D : va_G) (A : Nat → Prop) (σ MC MS : Nat) (h0 : xb_H) (Qr : xb_H → Nat → Nat → Prop) (Qt : String → xb_H → Nat → Nat → Prop) (x0 : Nat) (x1 : Int32) (h : xb_H) (bc : Nat) (bs : Nat) (hw : w_Checker_checkBody_L142 Qr Qt x0 x1 h bc bs) : xb_am l D A σ 7 MC MS h0 (fun v h bc bs => v = none ∧ Qr h bc bs) Qt y_Checker_checkBody.cls y_Checker_checkBody.name b_Checker_checkBody 3 ([] : List ExceptionTableEntry) none 142 [(0, .ref x0), (1, .int x1)] [] h bc bs := by
  unfold w_Checker_checkBody_L142 at hw
  intro p e s m args below meth c hC H locs ls k n hE hl hR hS hk hn
  obtain ⟨hx, hb, hown, hlocks, htab, hml, hr, hB, hA, hnm⟩ := id hC
  have hts := hB.1.1.at args
  refine lv_aload_n hx hb (xb_d D_Checker_checkBody 74 rfl) rfl (lv_at hl 0 rfl) ?_
  obtain ⟨hk1, hw⟩ := hw
  refine xb_getP (C := R_Checker) (T := F_Checker) (N := 17) hx hb 4 0 hts fin_Checker hown hR hk1 (by decide) rfl (by decide) rfl (hts _ m_070795bc) (fun _ h9 => h9) (xb_d D_Checker_checkBody 75 rfl) ?_
  obtain ⟨b2, eb2, hw⟩ := hw
  refine xb_some eb2 ?_
  obtain ⟨hk3, hw⟩ := hw
  refine xb_getP (C := R_StackModule) (T := F_StackModule) (N := 19) hx hb 2 11 hts fin_StackModule hown hR hk3 (by decide) rfl (by decide) rfl (hts _ m_5c3b2b0d) (fun _ h9 => h9) (xb_d D_Checker_checkBody 76 rfl) ?_
  obtain ⟨b4, eb4, hw⟩ := hw
  refine xb_some eb4 ?_
  refine lv_iload_n hx hb (xb_d D_Checker_checkBody 77 rfl) rfl (lv_at hl 1 rfl) ?_
  refine lv_iconst (v := 4) hx hb (xb_d D_Checker_checkBody 78 rfl) (by decide) ?_
  refine lv_aload_n hx hb (xb_d D_Checker_checkBody 79 rfl) rfl (lv_at hl 0 rfl) ?_
  refine xb_getI (C := R_Checker) (T := F_Checker) (N := 17) hx hb 4 5 hts fin_Checker hown hR hk1 (by decide) rfl (by decide) rfl (hts _ m_2fb57e9e) (fun _ h9 => h9) (xb_d D_Checker_checkBody 80 rfl) ?_
  refine lv_i2l hx hb (xb_d D_Checker_checkBody 81 rfl) rfl ?_
  obtain ⟨hk5, hw⟩ := hw
  refine xb_call0 (D := D) (A := A) (σ := σ) (h := h) (d := 2) (maxL := 5) (rest := []) (av := [.ref b4, .int x1, .int 4, .long (Int32.toInt64 (xb_i h x0 5))]) (fun T hT X => by obtain ⟨cb9, ra9, rb9, rc9⟩ := xb_recv (ci := 1) hR rfl hk5 (by decide); exact xt_invV X hx hown (hts _ m_9f27c74a) (hts _ m_ae2d3893) (hts _ m_583fd7d0) (xt_sigOf (hts _ m_2325caf0)) nm_Row_setAt (by rw [hT]; exact ra9) rb9 rc9 (g := F0 m 156 ls [.long (Int32.toInt64 (xb_i h x0 5)), .int 4, .int x1, .ref b4]) rfl (argsL := [.int x1, .int 4, .long (Int32.toInt64 (xb_i h x0 5))]) (rest := []) rfl rfl (by rw [hb]; exact (xb_d D_Checker_checkBody 82 rfl))) (ok_Row_setAt l hfl D A σ b4 x1 4 (Int32.toInt64 (xb_i h x0 5)) h _ hw) (hml.trans hl.1.symm) (by rw [hb]; exact (xb_d D_Checker_checkBody 82 rfl)) (Nat.le_of_ble_eq_true rfl) (Nat.le_of_ble_eq_true rfl) (Nat.le_of_ble_eq_true rfl) (show k ≤ MC by omega) (show n ≤ MS by omega) (xt_w1 hB.1 m_2325caf0) (xt_cdOf hB.1 m_2325caf0) (hts _ m_c1bef504) hB hR hS hA (fun vv h6 H locs hq hEh6 hR hS => ?_)
  obtain ⟨rfl, hw⟩ := hq
  have hw := hw hEh6
  have hE := hE.tr hEh6
  refine W.eq (g2 := F0 m 159 ls []) rfl ?_
  exact xb_vret bc bs hx hb hr hlocks (show k + bc ≤ MC by omega) (show n + bs ≤ MS by omega) hE hR hS (xb_d D_Checker_checkBody 83 rfl) hw

set_option maxHeartbeats 4000000 in
set_option maxRecDepth 100000 in
theorem am_Checker_checkBody_L88 (l : Launch) (hfl : l.flags = pinnedFlags ++ [noTraceFlag]) (D : va_G) (A : Nat → Prop) (σ MC MS : Nat) (h0 : xb_H) (Qr : xb_H → Nat → Nat → Prop) (Qt : String → xb_H → Nat → Nat → Prop) (n9 : Nat) : ∀ (x0 : Nat) (x1 : Int32) (x2 : Int32) (h : xb_H) (bc : Nat) (bs : Nat), w_Checker_checkBody_L88 Qr Qt n9 x0 x1 x2 h bc bs → xb_am l D A σ 7 MC MS h0 (fun v h bc bs => v = none ∧ Qr h bc bs) Qt y_Checker_checkBody.cls y_Checker_checkBody.name b_Checker_checkBody 3 ([] : List ExceptionTableEntry) none 88 [(0, .ref x0), (1, .int x1), (2, .int x2)] [] h bc bs := by
  induction n9 with
  | zero => intro x0 x1 x2 h bc bs hw; exact False.elim hw
  | succ n9 ih =>
    intro x0 x1 x2 h bc bs hw
    unfold w_Checker_checkBody_L88 at hw
    intro p e s m args below meth c hC H locs ls k n hE hl hR hS hk hn
    obtain ⟨hx, hb, hown, hlocks, htab, hml, hr, hB, hA, hnm⟩ := id hC
    have hts := hB.1.1.at args
    refine lv_iload_n hx hb (xb_d D_Checker_checkBody 48 rfl) rfl (lv_at hl 2 rfl) ?_
    refine lv_aload_n hx hb (xb_d D_Checker_checkBody 49 rfl) rfl (lv_at hl 0 rfl) ?_
    obtain ⟨hk1, hw⟩ := hw
    refine xb_getP (C := R_Checker) (T := F_Checker) (N := 17) hx hb 4 1 hts fin_Checker hown hR hk1 (by decide) rfl (by decide) rfl (hts _ m_8db7c2eb) (fun _ h9 => h9) (xb_d D_Checker_checkBody 50 rfl) ?_
    obtain ⟨b2, eb2, hw⟩ := hw
    refine xb_some eb2 ?_
    obtain ⟨hk3, hw⟩ := hw
    refine xb_alen hx hb hR hk3 (by decide) (xb_d D_Checker_checkBody 51 rfl) ?_
    refine lv_icmp_ge (tgt := 142) hx hb (xb_d D_Checker_checkBody 52 rfl) rfl (fun hc4 => ?_) (fun hc4 => ?_)
    · have hw := hw.1 hc4
      exact am_Checker_checkBody_L142 l hfl D A σ MC MS h0 Qr Qt x0 x1 h bc bs hw p e s m args below meth c hC H locs ls k n hE (lv_sub hl [0, 1] rfl) hR hS (by omega) (by omega)
    · have hw := hw.2 hc4
      refine lv_aload_n hx hb (xb_d D_Checker_checkBody 53 rfl) rfl (lv_at hl 0 rfl) ?_
      refine xb_getI (C := R_Checker) (T := F_Checker) (N := 17) hx hb 4 16 hts fin_Checker hown hR hk1 (by decide) rfl (by decide) rfl (hts _ m_47f80c41) (fun _ h9 => h9) (xb_d D_Checker_checkBody 54 rfl) ?_
      refine lv_if_le (tgt := 142) hx hb (xb_d D_Checker_checkBody 55 rfl) rfl (fun hc5 => ?_) (fun hc5 => ?_)
      · have hw := hw.1 hc5
        exact am_Checker_checkBody_L142 l hfl D A σ MC MS h0 Qr Qt x0 x1 h bc bs hw p e s m args below meth c hC H locs ls k n hE (lv_sub hl [0, 1] rfl) hR hS (by omega) (by omega)
      · have hw := hw.2 hc5
        refine lv_aload_n hx hb (xb_d D_Checker_checkBody 56 rfl) rfl (lv_at hl 0 rfl) ?_
        refine lv_aload_n hx hb (xb_d D_Checker_checkBody 57 rfl) rfl (lv_at hl 0 rfl) ?_
        refine xb_getP (C := R_Checker) (T := F_Checker) (N := 17) hx hb 4 1 hts fin_Checker hown hR hk1 (by decide) rfl (by decide) rfl (hts _ m_8db7c2eb) (fun _ h9 => h9) (xb_d D_Checker_checkBody 58 rfl) ?_
        obtain ⟨b6, eb6, hw⟩ := hw
        refine xb_some eb6 ?_
        refine lv_aload_n hx hb (xb_d D_Checker_checkBody 59 rfl) rfl (lv_at hl 0 rfl) ?_
        refine xb_getI (C := R_Checker) (T := F_Checker) (N := 17) hx hb 4 9 hts fin_Checker hown hR hk1 (by decide) rfl (by decide) rfl (hts _ m_28193d38) (fun _ h9 => h9) (xb_d D_Checker_checkBody 60 rfl) ?_
        obtain ⟨hk8, hw⟩ := hw
        obtain ⟨hi7, hw⟩ := hw
        refine xb_bald hx hb hR hk8 hi7 (xb_d D_Checker_checkBody 61 rfl) ?_
        refine lv_sipush (v := 255) hx hb (xb_d D_Checker_checkBody 62 rfl) (by decide) ?_
        refine lv_iand hx hb (xb_d D_Checker_checkBody 63 rfl) ?_
        refine xb_call (D := D) (A := A) (σ := σ) (h := h) (d := 6) (mc := bc) (ms := bs) (maxL := 2) (rest := []) (av := [.ref x0, .int ((xb_i h b6 (Int32.toNatClampNeg (xb_i h x0 9))) &&& 255)]) (fun T hT X => by obtain ⟨cb9, ra9, rb9, rc9⟩ := xb_recv (ci := 4) hR rfl hk1 (by decide); exact xt_invV X hx hown (hts _ m_852a35b5) (hts _ m_a1edd8e0) (hts _ m_145ca286) (xt_sigOf (hts _ m_ce4eed8b)) nm_Checker_checkInstruction (by rw [hT]; exact ra9) rb9 rc9 (g := F0 m 118 ls [.int ((xb_i h b6 (Int32.toNatClampNeg (xb_i h x0 9))) &&& 255), .ref x0]) rfl (argsL := [.int ((xb_i h b6 (Int32.toNatClampNeg (xb_i h x0 9))) &&& 255)]) (rest := []) rfl rfl (by rw [hb]; exact (xb_d D_Checker_checkBody 64 rfl))) (ok_Checker_checkInstruction l hfl D A σ x0 ((xb_i h b6 (Int32.toNatClampNeg (xb_i h x0 9))) &&& 255) h bc bs _ _ hw) (hml.trans hl.1.symm) (by rw [hb]; exact (xb_d D_Checker_checkBody 64 rfl)) (Nat.le_of_ble_eq_true rfl) (Nat.le_of_ble_eq_true rfl) (Nat.le_of_ble_eq_true rfl) (show k + bc ≤ MC by omega) (show n + bs ≤ MS by omega) (xt_w1 hB.1 m_ce4eed8b) (xt_cdOf hB.1 m_ce4eed8b) (hts _ m_44748ce5) hB hR hS hA (fun vv h9 bc10 bs10 kk10 nn10 H locs hk10 hn10 hq hEh9 hR hS => ?_) (fun XX ax h9 bc10 bs10 kk10 nn10 H locs hk10 hn10 hq hEh9 hex hR hS => ?_)
        · obtain ⟨rfl, hw⟩ := hq
          have hw := hw hEh9
          have hE := hE.tr hEh9
          refine W.eq (g2 := F0 m 121 ls []) rfl ?_
          refine lv_aload_n hx hb (xb_d D_Checker_checkBody 65 rfl) rfl (lv_at hl 0 rfl) ?_
          refine lv_aload_n hx hb (xb_d D_Checker_checkBody 66 rfl) rfl (lv_at hl 0 rfl) ?_
          have hk1 : xb_k h9 x0 = 5 := hEh9.k hk1
          refine xb_getP (C := R_Checker) (T := F_Checker) (N := 17) hx hb 4 0 hts fin_Checker hown hR hk1 (by decide) rfl (by decide) rfl (hts _ m_070795bc) (fun _ h9 => h9) (xb_d D_Checker_checkBody 67 rfl) ?_
          obtain ⟨b11, eb11, hw⟩ := hw
          refine xb_some eb11 ?_
          refine lv_aload_n hx hb (xb_d D_Checker_checkBody 68 rfl) rfl (lv_at hl 0 rfl) ?_
          refine xb_getI (C := R_Checker) (T := F_Checker) (N := 17) hx hb 4 9 hts fin_Checker hown hR hk1 (by decide) rfl (by decide) rfl (hts _ m_28193d38) (fun _ h9 => h9) (xb_d D_Checker_checkBody 69 rfl) ?_
          obtain ⟨hk12, hw⟩ := hw
          refine xb_call0 (D := D) (A := A) (σ := σ) (h := h9) (d := 3) (maxL := 2) (rest := [.ref x0]) (av := [.ref b11, .int (xb_i h9 x0 9)]) (fun T hT X => by obtain ⟨cb9, ra9, rb9, rc9⟩ := xb_recv (ci := 2) hR rfl hk12 (by decide); exact xt_invV X hx hown (hts _ m_831fd048) (hts _ m_7a084d8c) (hts _ m_9dac82c4) (xt_sigOf (hts _ m_a27a5692)) nm_StackModule_nextPlace (by rw [hT]; exact ra9) rb9 rc9 (g := F0 m 130 ls [.int (xb_i h9 x0 9), .ref b11, .ref x0]) rfl (argsL := [.int (xb_i h9 x0 9)]) (rest := [.ref x0]) rfl rfl (by rw [hb]; exact (xb_d D_Checker_checkBody 70 rfl))) (ok_StackModule_nextPlace l hfl D A σ b11 (xb_i h9 x0 9) h9 _ hw) (hml.trans hl.1.symm) (by rw [hb]; exact (xb_d D_Checker_checkBody 70 rfl)) (Nat.le_of_ble_eq_true rfl) (Nat.le_of_ble_eq_true rfl) (Nat.le_of_ble_eq_true rfl) (show (k + kk10) ≤ MC by omega) (show (n + nn10) ≤ MS by omega) (xt_w1 hB.1 m_a27a5692) (xt_cdOf hB.1 m_a27a5692) (hts _ m_9c375545) hB hR hS hA (fun vv h13 H locs hq hEh13 hR hS => ?_)
          obtain ⟨r14, rfl, hw⟩ := hq
          have hw := hw hEh13
          have hE := hE.tr hEh13
          refine W.eq (g2 := F0 m 133 ls [.int r14, .ref x0]) rfl ?_
          have hk1 : xb_k h13 x0 = 5 := hEh13.k hk1
          refine xb_putI (C := R_Checker) (T := F_Checker) (N := 17) (ty := .int) (x := r14) hx hb 4 9 hts fin_Checker t_Checker t_Checker_ok n_Checker hown hR hS hk1 (by decide) rfl (by decide) rfl (hts _ m_28193d38) (fun _ h9 => h9) rfl (by decide +kernel) rfl rfl (xb_d D_Checker_checkBody 71 rfl) (fun H locs hR hS => ?_)
          obtain ⟨h15, eh15⟩ : ∃ x : xb_H, x = xb_I h13 x0 9 r14 := ⟨_, rfl⟩
          rw [← eh15] at hR
          have hw := hw h15 eh15
          have hE : xb_ext h0 h15 := by rw [eh15]; exact hE
          refine lv_iinc (v := (x2 + 1)) (k := 2) hx hb (xb_d D_Checker_checkBody 72 rfl) hl rfl (by first | rfl | decide) (by decide) rfl (fun ls hl => ?_)
          have hl : lv_has ls 3 [(2, .int (x2 + 1)), (0, .ref x0), (1, .int x1)] := hl
          refine lv_goto (tgt := 88) hx hb (xb_d D_Checker_checkBody 73 rfl) rfl ?_
          exact ih x0 x1 (x2 + 1) h15 bc10 bs10 hw p e s m args below meth c hC H locs ls (k + kk10) (n + nn10) hE (lv_sub hl [1, 2, 0] rfl) hR hS (by omega) (by omega)
        · exact xb_pass hlocks (fun x hx9 => by rw [htab] at hx9; first | (cases hx9; done) | (simp [tableOf] at hx9; subst hx9; decide) | (simp [tableOf] at hx9; rcases hx9 with rfl | rfl <;> decide) | (simp [tableOf] at hx9; rcases hx9 with rfl | rfl | rfl <;> decide)) (show (k + kk10) + bc10 ≤ MC by omega) (show (n + nn10) + bs10 ≤ MS by omega) (hE.tr hEh9) hR hS hex hq

set_option maxHeartbeats 4000000 in
set_option maxRecDepth 100000 in
theorem ok_Checker_checkBody (l : Launch) (hfl : l.flags = pinnedFlags ++ [noTraceFlag]) (D : va_G) (A : Nat → Prop) (σ : Nat) (x0 : Nat) (x1 : Int32) (h : xb_H) (bc : Nat) (bs : Nat) (Qr : xb_H → Nat → Nat → Prop) (Qt : String → xb_H → Nat → Nat → Prop) (hw : w_Checker_checkBody x0 x1 h bc bs Qr Qt) : xb_Met l y_Checker_checkBody [.code y_Checker_checkBody b_Checker_checkBody 3 none] (xb_rm 7 bc bs) (xb_Pc D A σ h [.ref x0, .int x1]) (xb_Qc D A h bc bs (fun v h bc bs => v = none ∧ Qr h bc bs) Qt) A := by
  refine xb_ofAm (cc := b_Checker_checkBody) (by decide) (Nat.le_of_ble_eq_true rfl) ?_
  unfold w_Checker_checkBody at hw
  show xb_am l D A σ 7 bc bs h (fun v h bc bs => v = none ∧ Qr h bc bs) Qt y_Checker_checkBody.cls y_Checker_checkBody.name b_Checker_checkBody 3 ([] : List ExceptionTableEntry) none 0 [(0, .ref x0), (1, .int x1)] [] h bc bs
  obtain ⟨MC, hMC⟩ : ∃ x, x = bc := ⟨_, rfl⟩
  obtain ⟨MS, hMS⟩ : ∃ x, x = bs := ⟨_, rfl⟩
  rw [show xb_am l D A σ 7 bc bs = xb_am l D A σ 7 MC MS by rw [hMC, hMS]]
  obtain ⟨h0, hh0⟩ : ∃ x, x = h := ⟨_, rfl⟩
  rw [show xb_am l D A σ 7 MC MS h = xb_am l D A σ 7 MC MS h0 by rw [hh0]]
  intro p e s m args below meth c hC H locs ls k n hE hl hR hS hk hn
  obtain ⟨hx, hb, hown, hlocks, htab, hml, hr, hB, hA, hnm⟩ := id hC
  have hts := hB.1.1.at args
  refine lv_aload_n hx hb (xb_d D_Checker_checkBody 0 rfl) rfl (lv_at hl 0 rfl) ?_
  refine lv_aload_n hx hb (xb_d D_Checker_checkBody 1 rfl) rfl (lv_at hl 0 rfl) ?_
  obtain ⟨hk1, hw⟩ := hw
  refine xb_getP (C := R_Checker) (T := F_Checker) (N := 17) hx hb 4 0 hts fin_Checker hown hR hk1 (by decide) rfl (by decide) rfl (hts _ m_070795bc) (fun _ h9 => h9) (xb_d D_Checker_checkBody 2 rfl) ?_
  obtain ⟨b2, eb2, hw⟩ := hw
  refine xb_some eb2 ?_
  refine lv_aload_n hx hb (xb_d D_Checker_checkBody 3 rfl) rfl (lv_at hl 0 rfl) ?_
  refine xb_getP (C := R_Checker) (T := F_Checker) (N := 17) hx hb 4 0 hts fin_Checker hown hR hk1 (by decide) rfl (by decide) rfl (hts _ m_070795bc) (fun _ h9 => h9) (xb_d D_Checker_checkBody 4 rfl) ?_
  obtain ⟨b3, eb3, hw⟩ := hw
  refine xb_some eb3 ?_
  obtain ⟨hk4, hw⟩ := hw
  refine xb_getP (C := R_StackModule) (T := F_StackModule) (N := 19) hx hb 2 14 hts fin_StackModule hown hR hk4 (by decide) rfl (by decide) rfl (hts _ m_c2d0ffa0) (fun _ h9 => h9) (xb_d D_Checker_checkBody 5 rfl) ?_
  obtain ⟨b5, eb5, hw⟩ := hw
  refine xb_some eb5 ?_
  refine lv_iconst (v := 0) hx hb (xb_d D_Checker_checkBody 6 rfl) (by decide) ?_
  obtain ⟨hk7, hw⟩ := hw
  obtain ⟨hi6, hw⟩ := hw
  refine xb_iald hx hb hR hk7 hi6 (xb_d D_Checker_checkBody 7 rfl) ?_
  refine xt_numi (y := (xb_i h b5 0)) (congrArg (xb_i h b5) (by decide : (0 : Int32).toNatClampNeg = 0)) ?_
  refine lv_iload_n hx hb (xb_d D_Checker_checkBody 8 rfl) rfl (lv_at hl 1 rfl) ?_
  refine lv_iadd hx hb (xb_d D_Checker_checkBody 9 rfl) ?_
  obtain ⟨hk8, hw⟩ := hw
  refine xb_call0 (D := D) (A := A) (σ := σ) (h := h) (d := 3) (maxL := 2) (rest := [.ref x0]) (av := [.ref b2, .int ((xb_i h b5 0) + x1)]) (fun T hT X => by obtain ⟨cb9, ra9, rb9, rc9⟩ := xb_recv (ci := 2) hR rfl hk8 (by decide); exact xt_invV X hx hown (hts _ m_ad67eca9) (hts _ m_eb5729e5) (hts _ m_9cf0d8be) (xt_sigOf (hts _ m_42e2443a)) nm_StackModule_typeOf (by rw [hT]; exact ra9) rb9 rc9 (g := F0 m 16 ls [.int ((xb_i h b5 0) + x1), .ref b2, .ref x0]) rfl (argsL := [.int ((xb_i h b5 0) + x1)]) (rest := [.ref x0]) rfl rfl (by rw [hb]; exact (xb_d D_Checker_checkBody 10 rfl))) (ok_StackModule_typeOf l hfl D A σ b2 ((xb_i h b5 0) + x1) h _ hw) (hml.trans hl.1.symm) (by rw [hb]; exact (xb_d D_Checker_checkBody 10 rfl)) (Nat.le_of_ble_eq_true rfl) (Nat.le_of_ble_eq_true rfl) (Nat.le_of_ble_eq_true rfl) (show k ≤ MC by omega) (show n ≤ MS by omega) (xt_w1 hB.1 m_42e2443a) (xt_cdOf hB.1 m_42e2443a) (hts _ m_9c375545) hB hR hS hA (fun vv h9 H locs hq hEh9 hR hS => ?_)
  obtain ⟨r10, rfl, hw⟩ := hq
  have hw := hw hEh9
  have hE := hE.tr hEh9
  refine W.eq (g2 := F0 m 19 ls [.int r10, .ref x0]) rfl ?_
  have hk1 : xb_k h9 x0 = 5 := hEh9.k hk1
  refine xb_putI (C := R_Checker) (T := F_Checker) (N := 17) (ty := .int) (x := r10) hx hb 4 8 hts fin_Checker t_Checker t_Checker_ok n_Checker hown hR hS hk1 (by decide) rfl (by decide) rfl (hts _ m_f84c9de3) (fun _ h9 => h9) rfl (by decide +kernel) rfl rfl (xb_d D_Checker_checkBody 11 rfl) (fun H locs hR hS => ?_)
  obtain ⟨h11, eh11⟩ : ∃ x : xb_H, x = xb_I h9 x0 8 r10 := ⟨_, rfl⟩
  rw [← eh11] at hR
  have hw := hw h11 eh11
  have hE : xb_ext h0 h11 := by rw [eh11]; exact hE
  refine lv_aload_n hx hb (xb_d D_Checker_checkBody 12 rfl) rfl (lv_at hl 0 rfl) ?_
  refine lv_iload_n hx hb (xb_d D_Checker_checkBody 13 rfl) rfl (lv_at hl 1 rfl) ?_
  have hk1 : xb_k h11 x0 = 5 := by rw [eh11]; exact hk1
  refine xb_call0 (D := D) (A := A) (σ := σ) (h := h11) (d := 4) (maxL := 5) (rest := []) (av := [.ref x0, .int x1]) (fun T hT X => by obtain ⟨cb9, ra9, rb9, rc9⟩ := xb_recv (ci := 4) hR rfl hk1 (by decide); exact xt_invV X hx hown (hts _ m_a5f6609b) (hts _ m_687f9ec9) (hts _ m_20c611bd) (xt_sigOf (hts _ m_cbf63ef2)) nm_Checker_spreadLocals (by rw [hT]; exact ra9) rb9 rc9 (g := F0 m 24 ls [.int x1, .ref x0]) rfl (argsL := [.int x1]) (rest := []) rfl rfl (by rw [hb]; exact (xb_d D_Checker_checkBody 14 rfl))) (ok_Checker_spreadLocals l hfl D A σ x0 x1 h11 _ hw) (hml.trans hl.1.symm) (by rw [hb]; exact (xb_d D_Checker_checkBody 14 rfl)) (Nat.le_of_ble_eq_true rfl) (Nat.le_of_ble_eq_true rfl) (Nat.le_of_ble_eq_true rfl) (show k ≤ MC by omega) (show n ≤ MS by omega) (xt_w1 hB.1 m_cbf63ef2) (xt_cdOf hB.1 m_cbf63ef2) (hts _ m_44748ce5) hB hR hS hA (fun vv h12 H locs hq hEh12 hR hS => ?_)
  obtain ⟨rfl, hw⟩ := hq
  have hw := hw hEh12
  have hE := hE.tr hEh12
  refine W.eq (g2 := F0 m 27 ls []) rfl ?_
  refine lv_aload_n hx hb (xb_d D_Checker_checkBody 15 rfl) rfl (lv_at hl 0 rfl) ?_
  refine lv_iconst (v := 0) hx hb (xb_d D_Checker_checkBody 16 rfl) (by decide) ?_
  have hk1 : xb_k h12 x0 = 5 := hEh12.k hk1
  refine xb_putI (C := R_Checker) (T := F_Checker) (N := 17) (ty := .int) (x := 0) hx hb 4 4 hts fin_Checker t_Checker t_Checker_ok n_Checker hown hR hS hk1 (by decide) rfl (by decide) rfl (hts _ m_b89190d5) (fun _ h9 => h9) rfl (by decide +kernel) rfl rfl (xb_d D_Checker_checkBody 17 rfl) (fun H locs hR hS => ?_)
  obtain ⟨h14, eh14⟩ : ∃ x : xb_H, x = xb_I h12 x0 4 0 := ⟨_, rfl⟩
  rw [← eh14] at hR
  have hw := hw h14 eh14
  have hE : xb_ext h0 h14 := by rw [eh14]; exact hE
  refine lv_aload_n hx hb (xb_d D_Checker_checkBody 18 rfl) rfl (lv_at hl 0 rfl) ?_
  refine lv_iconst (v := 0) hx hb (xb_d D_Checker_checkBody 19 rfl) (by decide) ?_
  have hk1 : xb_k h14 x0 = 5 := by rw [eh14]; exact hk1
  refine xb_putI (C := R_Checker) (T := F_Checker) (N := 17) (ty := .int) (x := 0) hx hb 4 5 hts fin_Checker t_Checker t_Checker_ok n_Checker hown hR hS hk1 (by decide) rfl (by decide) rfl (hts _ m_2fb57e9e) (fun _ h9 => h9) rfl (by decide +kernel) rfl rfl (xb_d D_Checker_checkBody 20 rfl) (fun H locs hR hS => ?_)
  obtain ⟨h15, eh15⟩ : ∃ x : xb_H, x = xb_I h14 x0 5 0 := ⟨_, rfl⟩
  rw [← eh15] at hR
  have hw := hw h15 eh15
  have hE : xb_ext h0 h15 := by rw [eh15]; exact hE
  refine lv_aload_n hx hb (xb_d D_Checker_checkBody 21 rfl) rfl (lv_at hl 0 rfl) ?_
  refine lv_iconst (v := 0) hx hb (xb_d D_Checker_checkBody 22 rfl) (by decide) ?_
  have hk1 : xb_k h15 x0 = 5 := by rw [eh15]; exact hk1
  refine xb_putI (C := R_Checker) (T := F_Checker) (N := 17) (ty := .int) (x := 0) hx hb 4 16 hts fin_Checker t_Checker t_Checker_ok n_Checker hown hR hS hk1 (by decide) rfl (by decide) rfl (hts _ m_47f80c41) (fun _ h9 => h9) rfl (by decide +kernel) rfl rfl (xb_d D_Checker_checkBody 23 rfl) (fun H locs hR hS => ?_)
  obtain ⟨h16, eh16⟩ : ∃ x : xb_H, x = xb_I h15 x0 16 0 := ⟨_, rfl⟩
  rw [← eh16] at hR
  have hw := hw h16 eh16
  have hE : xb_ext h0 h16 := by rw [eh16]; exact hE
  refine lv_aload_n hx hb (xb_d D_Checker_checkBody 24 rfl) rfl (lv_at hl 0 rfl) ?_
  refine lv_aload_n hx hb (xb_d D_Checker_checkBody 25 rfl) rfl (lv_at hl 0 rfl) ?_
  have hk1 : xb_k h16 x0 = 5 := by rw [eh16]; exact hk1
  refine xb_getP (C := R_Checker) (T := F_Checker) (N := 17) hx hb 4 0 hts fin_Checker hown hR hk1 (by decide) rfl (by decide) rfl (hts _ m_070795bc) (fun _ h9 => h9) (xb_d D_Checker_checkBody 26 rfl) ?_
  obtain ⟨b17, eb17, hw⟩ := hw
  refine xb_some eb17 ?_
  obtain ⟨hk18, hw⟩ := hw
  refine xb_getP (C := R_StackModule) (T := F_StackModule) (N := 19) hx hb 2 11 hts fin_StackModule hown hR hk18 (by decide) rfl (by decide) rfl (hts _ m_5c3b2b0d) (fun _ h9 => h9) (xb_d D_Checker_checkBody 27 rfl) ?_
  obtain ⟨b19, eb19, hw⟩ := hw
  refine xb_some eb19 ?_
  refine lv_iload_n hx hb (xb_d D_Checker_checkBody 28 rfl) rfl (lv_at hl 1 rfl) ?_
  refine lv_iconst (v := 0) hx hb (xb_d D_Checker_checkBody 29 rfl) (by decide) ?_
  obtain ⟨hk20, hw⟩ := hw
  refine xb_call0 (D := D) (A := A) (σ := σ) (h := h16) (d := 2) (maxL := 3) (rest := [.ref x0]) (av := [.ref b19, .int x1, .int 0]) (fun T hT X => by obtain ⟨cb9, ra9, rb9, rc9⟩ := xb_recv (ci := 1) hR rfl hk20 (by decide); exact xt_invV X hx hown (hts _ m_068feb96) (hts _ m_8e233096) (hts _ m_27eed10c) (xt_sigOf (hts _ m_ff1c70ae)) nm_Row_at (by rw [hT]; exact ra9) rb9 rc9 (g := F0 m 52 ls [.int 0, .int x1, .ref b19, .ref x0]) rfl (argsL := [.int x1, .int 0]) (rest := [.ref x0]) rfl rfl (by rw [hb]; exact (xb_d D_Checker_checkBody 30 rfl))) (ok_Row_at l hfl D A σ b19 x1 0 h16 _ hw) (hml.trans hl.1.symm) (by rw [hb]; exact (xb_d D_Checker_checkBody 30 rfl)) (Nat.le_of_ble_eq_true rfl) (Nat.le_of_ble_eq_true rfl) (Nat.le_of_ble_eq_true rfl) (show k ≤ MC by omega) (show n ≤ MS by omega) (xt_w1 hB.1 m_ff1c70ae) (xt_cdOf hB.1 m_ff1c70ae) (hts _ m_c1bef504) hB hR hS hA (fun vv h21 H locs hq hEh21 hR hS => ?_)
  obtain ⟨r22, rfl, hw⟩ := hq
  have hw := hw hEh21
  have hE := hE.tr hEh21
  refine W.eq (g2 := F0 m 55 ls [.int r22, .ref x0]) rfl ?_
  have hk1 : xb_k h21 x0 = 5 := hEh21.k hk1
  refine xb_putI (C := R_Checker) (T := F_Checker) (N := 17) (ty := .int) (x := r22) hx hb 4 9 hts fin_Checker t_Checker t_Checker_ok n_Checker hown hR hS hk1 (by decide) rfl (by decide) rfl (hts _ m_28193d38) (fun _ h9 => h9) rfl (by decide +kernel) rfl rfl (xb_d D_Checker_checkBody 31 rfl) (fun H locs hR hS => ?_)
  obtain ⟨h23, eh23⟩ : ∃ x : xb_H, x = xb_I h21 x0 9 r22 := ⟨_, rfl⟩
  rw [← eh23] at hR
  have hw := hw h23 eh23
  have hE : xb_ext h0 h23 := by rw [eh23]; exact hE
  refine lv_aload_n hx hb (xb_d D_Checker_checkBody 32 rfl) rfl (lv_at hl 0 rfl) ?_
  refine lv_iconst (v := 0) hx hb (xb_d D_Checker_checkBody 33 rfl) (by decide) ?_
  refine lv_iconst (v := (-1)) hx hb (xb_d D_Checker_checkBody 34 rfl) (by decide) ?_
  refine lv_aload_n hx hb (xb_d D_Checker_checkBody 35 rfl) rfl (lv_at hl 0 rfl) ?_
  have hk1 : xb_k h23 x0 = 5 := by rw [eh23]; exact hk1
  refine xb_getP (C := R_Checker) (T := F_Checker) (N := 17) hx hb 4 0 hts fin_Checker hown hR hk1 (by decide) rfl (by decide) rfl (hts _ m_070795bc) (fun _ h9 => h9) (xb_d D_Checker_checkBody 36 rfl) ?_
  obtain ⟨b24, eb24, hw⟩ := hw
  refine xb_some eb24 ?_
  refine lv_aload_n hx hb (xb_d D_Checker_checkBody 37 rfl) rfl (lv_at hl 0 rfl) ?_
  refine xb_getI (C := R_Checker) (T := F_Checker) (N := 17) hx hb 4 8 hts fin_Checker hown hR hk1 (by decide) rfl (by decide) rfl (hts _ m_f84c9de3) (fun _ h9 => h9) (xb_d D_Checker_checkBody 38 rfl) ?_
  obtain ⟨hk25, hw⟩ := hw
  refine xb_call0 (D := D) (A := A) (σ := σ) (h := h23) (d := 3) (maxL := 2) (rest := [.int (-1), .int 0, .ref x0]) (av := [.ref b24, .int (xb_i h23 x0 8)]) (fun T hT X => by obtain ⟨cb9, ra9, rb9, rc9⟩ := xb_recv (ci := 2) hR rfl hk25 (by decide); exact xt_invV X hx hown (hts _ m_ea77f79f) (hts _ m_1d164a26) (hts _ m_57f47ef8) (xt_sigOf (hts _ m_fa540915)) nm_StackModule_resultType (by rw [hT]; exact ra9) rb9 rc9 (g := F0 m 69 ls [.int (xb_i h23 x0 8), .ref b24, .int (-1), .int 0, .ref x0]) rfl (argsL := [.int (xb_i h23 x0 8)]) (rest := [.int (-1), .int 0, .ref x0]) rfl rfl (by rw [hb]; exact (xb_d D_Checker_checkBody 39 rfl))) (ok_StackModule_resultType l hfl D A σ b24 (xb_i h23 x0 8) h23 _ hw) (hml.trans hl.1.symm) (by rw [hb]; exact (xb_d D_Checker_checkBody 39 rfl)) (Nat.le_of_ble_eq_true rfl) (Nat.le_of_ble_eq_true rfl) (Nat.le_of_ble_eq_true rfl) (show k ≤ MC by omega) (show n ≤ MS by omega) (xt_w1 hB.1 m_fa540915) (xt_cdOf hB.1 m_fa540915) (hts _ m_9c375545) hB hR hS hA (fun vv h26 H locs hq hEh26 hR hS => ?_)
  obtain ⟨r27, rfl, hw⟩ := hq
  have hw := hw hEh26
  have hE := hE.tr hEh26
  refine W.eq (g2 := F0 m 72 ls [.int r27, .int (-1), .int 0, .ref x0]) rfl ?_
  refine lv_aload_n hx hb (xb_d D_Checker_checkBody 40 rfl) rfl (lv_at hl 0 rfl) ?_
  have hk1 : xb_k h26 x0 = 5 := hEh26.k hk1
  refine xb_getP (C := R_Checker) (T := F_Checker) (N := 17) hx hb 4 0 hts fin_Checker hown hR hk1 (by decide) rfl (by decide) rfl (hts _ m_070795bc) (fun _ h9 => h9) (xb_d D_Checker_checkBody 41 rfl) ?_
  obtain ⟨b28, eb28, hw⟩ := hw
  refine xb_some eb28 ?_
  refine lv_aload_n hx hb (xb_d D_Checker_checkBody 42 rfl) rfl (lv_at hl 0 rfl) ?_
  refine xb_getI (C := R_Checker) (T := F_Checker) (N := 17) hx hb 4 8 hts fin_Checker hown hR hk1 (by decide) rfl (by decide) rfl (hts _ m_f84c9de3) (fun _ h9 => h9) (xb_d D_Checker_checkBody 43 rfl) ?_
  obtain ⟨hk29, hw⟩ := hw
  refine xb_call0 (D := D) (A := A) (σ := σ) (h := h26) (d := 3) (maxL := 2) (rest := [.int r27, .int (-1), .int 0, .ref x0]) (av := [.ref b28, .int (xb_i h26 x0 8)]) (fun T hT X => by obtain ⟨cb9, ra9, rb9, rc9⟩ := xb_recv (ci := 2) hR rfl hk29 (by decide); exact xt_invV X hx hown (hts _ m_ea77f79f) (hts _ m_1d164a26) (hts _ m_57f47ef8) (xt_sigOf (hts _ m_fa540915)) nm_StackModule_resultType (by rw [hT]; exact ra9) rb9 rc9 (g := F0 m 80 ls [.int (xb_i h26 x0 8), .ref b28, .int r27, .int (-1), .int 0, .ref x0]) rfl (argsL := [.int (xb_i h26 x0 8)]) (rest := [.int r27, .int (-1), .int 0, .ref x0]) rfl rfl (by rw [hb]; exact (xb_d D_Checker_checkBody 44 rfl))) (ok_StackModule_resultType l hfl D A σ b28 (xb_i h26 x0 8) h26 _ hw) (hml.trans hl.1.symm) (by rw [hb]; exact (xb_d D_Checker_checkBody 44 rfl)) (Nat.le_of_ble_eq_true rfl) (Nat.le_of_ble_eq_true rfl) (Nat.le_of_ble_eq_true rfl) (show k ≤ MC by omega) (show n ≤ MS by omega) (xt_w1 hB.1 m_fa540915) (xt_cdOf hB.1 m_fa540915) (hts _ m_9c375545) hB hR hS hA (fun vv h30 H locs hq hEh30 hR hS => ?_)
  obtain ⟨r31, rfl, hw⟩ := hq
  have hw := hw hEh30
  have hE := hE.tr hEh30
  refine W.eq (g2 := F0 m 83 ls [.int r31, .int r27, .int (-1), .int 0, .ref x0]) rfl ?_
  have hk1 : xb_k h30 x0 = 5 := hEh30.k hk1
  refine xb_call0 (D := D) (A := A) (σ := σ) (h := h30) (d := 2) (maxL := 5) (rest := []) (av := [.ref x0, .int 0, .int (-1), .int r27, .int r31]) (fun T hT X => by obtain ⟨cb9, ra9, rb9, rc9⟩ := xb_recv (ci := 4) hR rfl hk1 (by decide); exact xt_invV X hx hown (hts _ m_1d11d801) (hts _ m_4317fe73) (hts _ m_b4ed1ff8) (xt_sigOf (hts _ m_b39dcac6)) nm_Checker_openThing (by rw [hT]; exact ra9) rb9 rc9 (g := F0 m 83 ls [.int r31, .int r27, .int (-1), .int 0, .ref x0]) rfl (argsL := [.int 0, .int (-1), .int r27, .int r31]) (rest := []) rfl rfl (by rw [hb]; exact (xb_d D_Checker_checkBody 45 rfl))) (ok_Checker_openThing l hfl D A σ x0 0 (-1) r27 r31 h30 _ hw) (hml.trans hl.1.symm) (by rw [hb]; exact (xb_d D_Checker_checkBody 45 rfl)) (Nat.le_of_ble_eq_true rfl) (Nat.le_of_ble_eq_true rfl) (Nat.le_of_ble_eq_true rfl) (show k ≤ MC by omega) (show n ≤ MS by omega) (xt_w1 hB.1 m_b39dcac6) (xt_cdOf hB.1 m_b39dcac6) (hts _ m_44748ce5) hB hR hS hA (fun vv h32 H locs hq hEh32 hR hS => ?_)
  obtain ⟨rfl, hw⟩ := hq
  have hw := hw hEh32
  have hE := hE.tr hEh32
  refine W.eq (g2 := F0 m 86 ls []) rfl ?_
  refine lv_iconst (v := 0) hx hb (xb_d D_Checker_checkBody 46 rfl) (by decide) ?_
  refine lv_istore_n hx hb (xb_d D_Checker_checkBody 47 rfl) rfl hl (by decide) rfl (fun ls hl => ?_)
  have hl : lv_has ls 3 [(2, .int 0), (0, .ref x0), (1, .int x1)] := hl
  obtain ⟨n8, hw⟩ := hw
  exact am_Checker_checkBody_L88 l hfl D A σ MC MS h0 Qr Qt n8 x0 x1 0 h32 bc bs hw p e s m args below meth c hC H locs ls k n hE (lv_sub hl [1, 2, 0] rfl) hR hS (by omega) (by omega)

