theorem m_07685ecd : (.methodLink "StackHost$World" 303 y_World_writeElements : Cond) ∈ xt_tbl := xt_in (xt_t7 (List.mem_of_getElem? (i := 96) (by decide +kernel))) (by decide +kernel)
theorem m_0293b320 : (.instanceMethod y_World_writeElements : Cond) ∈ xt_tbl := xt_in (xt_t7 (List.mem_of_getElem? (i := 98) (by decide +kernel))) (by decide +kernel)
theorem m_c98dfaf5 : (.selects "StackHost$World" y_World_writeElements y_World_writeElements : Cond) ∈ xt_tbl := xt_in (xt_v5 (q := (⟨"StackHost$World", "writeElements", "(LStackHost$Instance;)V"⟩, 16)) (List.mem_of_getElem? (i := 15) (by decide +kernel))) (by decide +kernel)
theorem m_422a9df8 : (.code y_World_writeElements b_World_writeElements 8 none : Cond) ∈ xt_tbl := xt_in (xt_t7 (List.mem_of_getElem? (i := 99) (by decide +kernel))) (by decide +kernel)
theorem m_f5717f0b : (.methodLink "StackHost$World" 307 y_World_writeData : Cond) ∈ xt_tbl := xt_in (xt_t7 (List.mem_of_getElem? (i := 100) (by decide +kernel))) (by decide +kernel)
theorem m_ce6b1279 : (.instanceMethod y_World_writeData : Cond) ∈ xt_tbl := xt_in (xt_t7 (List.mem_of_getElem? (i := 102) (by decide +kernel))) (by decide +kernel)
theorem m_6769c531 : (.selects "StackHost$World" y_World_writeData y_World_writeData : Cond) ∈ xt_tbl := xt_in (xt_v6 (q := (⟨"StackHost$World", "writeData", "(LStackHost$Instance;)V"⟩, 16)) (List.mem_of_getElem? (i := 0) (by decide +kernel))) (by decide +kernel)
theorem m_b5526fcc : (.code y_World_writeData b_World_writeData 7 none : Cond) ∈ xt_tbl := xt_in (xt_t7 (List.mem_of_getElem? (i := 103) (by decide +kernel))) (by decide +kernel)
theorem m_63e71238 : (.fieldLink "StackHost$World" 286 "StackHost$Instance" "number" "I" : Cond) ∈ xt_tbl := xt_in (xt_t7 (List.mem_of_getElem? (i := 3) (by decide +kernel))) (by decide +kernel)
theorem m_8de5d078 : (.classLink "StackHost$World" 220 "StackHost$Memory" : Cond) ∈ xt_tbl := xt_in (xt_t7 (List.mem_of_getElem? (i := 67) (by decide +kernel))) (by decide +kernel)
theorem m_d5228154 : (.instantiable "StackHost$Memory" 4 : Cond) ∈ xt_tbl := xt_in (xt_t7 (List.mem_of_getElem? (i := 68) (by decide +kernel))) (by decide +kernel)
theorem m_2e9ea890 : (.methodLink "StackHost$World" 296 y_Memory_init : Cond) ∈ xt_tbl := xt_in (xt_t7 (List.mem_of_getElem? (i := 69) (by decide +kernel))) (by decide +kernel)
theorem m_ef073bcf : (.instanceMethod y_Memory_init : Cond) ∈ xt_tbl := xt_in (xt_t7 (List.mem_of_getElem? (i := 70) (by decide +kernel))) (by decide +kernel)
theorem m_1227e7b8 : (.code y_Memory_init b_Memory_init 4 none : Cond) ∈ xt_tbl := xt_in (xt_t7 (List.mem_of_getElem? (i := 71) (by decide +kernel))) (by decide +kernel)
theorem m_d6721676 : (.methodLink "StackHost$World" 299 y_World_grow : Cond) ∈ xt_tbl := xt_in (xt_t7 (List.mem_of_getElem? (i := 91) (by decide +kernel))) (by decide +kernel)
theorem m_0e5a4c92 : (.classLink "StackHost$World" 203 "StackHost$Table" : Cond) ∈ xt_tbl := xt_in (xt_t7 (List.mem_of_getElem? (i := 44) (by decide +kernel))) (by decide +kernel)
theorem m_3682f7bb : (.instantiable "StackHost$Table" 3 : Cond) ∈ xt_tbl := xt_in (xt_t7 (List.mem_of_getElem? (i := 45) (by decide +kernel))) (by decide +kernel)
theorem m_aceab1b3 : (.initialized "StackHost$Table" : Cond) ∈ xt_tbl := xt_in (xt_t1 (List.mem_of_getElem? (i := 30) (by decide +kernel))) (by decide +kernel)
theorem m_53ba7b3a : (.methodLink "StackHost$World" 293 y_Table_init : Cond) ∈ xt_tbl := xt_in (xt_t7 (List.mem_of_getElem? (i := 46) (by decide +kernel))) (by decide +kernel)
theorem m_d6e213c9 : (.instanceMethod y_Table_init : Cond) ∈ xt_tbl := xt_in (xt_t7 (List.mem_of_getElem? (i := 47) (by decide +kernel))) (by decide +kernel)
theorem m_cdf0d32d : (.code y_Table_init b_Table_init 5 none : Cond) ∈ xt_tbl := xt_in (xt_t7 (List.mem_of_getElem? (i := 48) (by decide +kernel))) (by decide +kernel)
theorem m_542514b3 : (.instantiable "StackHost$Instance" 8 : Cond) ∈ xt_tbl := xt_in (xt_t6 (List.mem_of_getElem? (i := 234) (by decide +kernel))) (by decide +kernel)
theorem m_9684ee69 : (.methodLink "StackHost$World" 283 y_Instance_init : Cond) ∈ xt_tbl := xt_in (xt_t6 (List.mem_of_getElem? (i := 235) (by decide +kernel))) (by decide +kernel)
theorem m_fe0c4d66 : (.instanceMethod y_Instance_init : Cond) ∈ xt_tbl := xt_in (xt_t6 (List.mem_of_getElem? (i := 236) (by decide +kernel))) (by decide +kernel)
theorem m_0de684f8 : (.code y_Instance_init b_Instance_init 4 none : Cond) ∈ xt_tbl := xt_in (xt_t6 (List.mem_of_getElem? (i := 237) (by decide +kernel))) (by decide +kernel)
theorem nm_World_writeElements : xt_nm y_World_writeElements 1 := ⟨by decide +kernel, by decide +kernel⟩
theorem nm_World_writeData : xt_nm y_World_writeData 1 := ⟨by decide +kernel, by decide +kernel⟩
theorem nm_Memory_init : xt_nm y_Memory_init 2 := ⟨by decide +kernel, by decide +kernel⟩
theorem nm_Table_init : xt_nm y_Table_init 3 := ⟨by decide +kernel, by decide +kernel⟩
theorem nm_Instance_init : xt_nm y_Instance_init 3 := ⟨by decide +kernel, by decide +kernel⟩
set_option maxRecDepth 100000 in
def T_World_make : List (Nat × Instr × Nat) := [(0, .new 9, 3), (3, .dup, 1), (4, .aload_n 0, 1), (5, .getfield 243, 3), (8, .aload_n 1, 1), (9, .aload_n 0, 1), (10, .invokespecial 283, 3), (13, .astore_n 2, 1), (14, .aload_n 0, 1), (15, .getfield 11, 3), (18, .aload_n 0, 1), (19, .getfield 243, 3), (22, .aload_n 2, 1), (23, .aastore, 1), (24, .aload_n 0, 1), (25, .dup, 1), (26, .getfield 243, 3), (29, .iconst 1, 1), (30, .iadd, 1), (31, .putfield 243, 3), (34, .aload_n 0, 1), (35, .getfield 22, 3), (38, .aload_n 1, 1), (39, .getfield 246, 3), (42, .invokevirtual 75, 3), (45, .aload_n 1, 1), (46, .getfield 239, 3), (49, .iconst 0, 1), (50, .iaload, 1), (51, .isub, 1), (52, .aload_n 2, 1), (53, .getfield 286, 3), (56, .i2l, 1), (57, .invokevirtual 289, 3), (60, .aload_n 1, 1), (61, .getfield 239, 3), (64, .iconst 3, 1), (65, .iaload, 1), (66, .istore_n 3, 1), (67, .iload_n 3, 1), (68, .aload_n 1, 1), (69, .getfield 238, 3), (72, .invokevirtual 75, 3), (75, .if_icmp .ge 30, 3), (78, .aload_n 0, 1), (79, .getfield 26, 3), (82, .aload_n 0, 1), (83, .aload_n 1, 1), (84, .aload_n 1, 1), (85, .getfield 238, 3), (88, .iload_n 3, 1), (89, .iconst 3, 1), (90, .invokevirtual 51, 3), (93, .invokevirtual 268, 3), (96, .invokevirtual 71, 3), (99, .iinc 3 1, 3), (102, .goto (-35), 3), (105, .aload_n 1, 1), (106, .getfield 199, 3), (109, .invokevirtual 75, 3), (112, .aload_n 1, 1), (113, .getfield 239, 3), (116, .iconst 1, 1), (117, .iaload, 1), (118, .if_icmp .le 53, 3), (121, .aload_n 1, 1), (122, .aload_n 1, 1), (123, .getfield 199, 3), (126, .iconst 1, 1), (127, .invokestatic 249, 3), (130, .l2i, 1), (131, .istore_n 3, 1), (132, .aload_n 2, 1), (133, .new 203, 3), (136, .dup, 1), (137, .aload_n 0, 1), (138, .getfield 29, 3), (141, .getfield 91, 3), (144, .iload_n 3, 1), (145, .aload_n 1, 1), (146, .getfield 199, 3), (149, .iconst 0, 1), (150, .iconst 2, 1), (151, .invokevirtual 232, 3), (154, .invokespecial 293, 3), (157, .putfield 196, 3), (160, .aload_n 0, 1), (161, .getfield 29, 3), (164, .iload_n 3, 1), (165, .ldc2_w 236, 3), (168, .invokevirtual 289, 3), (171, .aload_n 1, 1), (172, .getfield 216, 3), (175, .invokevirtual 75, 3), (178, .aload_n 1, 1), (179, .getfield 239, 3), (182, .iconst 2, 1), (183, .iaload, 1), (184, .if_icmp .le 45, 3), (187, .aload_n 2, 1), (188, .new 220, 3), (191, .dup, 1), (192, .aload_n 0, 1), (193, .getfield 32, 3), (196, .aload_n 1, 1), (197, .getfield 216, 3), (200, .iconst 0, 1), (201, .iconst 2, 1), (202, .invokevirtual 232, 3), (205, .invokespecial 296, 3), (208, .putfield 213, 3), (211, .aload_n 0, 1), (212, .aload_n 2, 1), (213, .getfield 213, 3), (216, .aload_n 1, 1), (217, .aload_n 1, 1), (218, .getfield 216, 3), (221, .iconst 2, 1), (222, .invokestatic 249, 3), (225, .invokevirtual 299, 3), (228, .pop, 1), (229, .aload_n 0, 1), (230, .aload_n 2, 1), (231, .invokevirtual 303, 3), (234, .aload_n 0, 1), (235, .aload_n 2, 1), (236, .invokevirtual 307, 3), (239, .aload_n 2, 1), (240, .getfield 286, 3), (243, .ireturn, 1)]
theorem D_World_make : ∀ q ∈ T_World_make, decode b_World_make q.1 = .ok (q.2.1, q.2.2) := by decide +kernel

set_option maxHeartbeats 4000000 in
set_option maxRecDepth 100000 in
theorem am_World_make_L229 (l : Launch) (hfl : l.flags = pinnedFlags ++ [noTraceFlag]) (D : va_G) (A : Nat → Prop) (σ MC MS : Nat) (h0 : xb_H) (Qr : Int32 → xb_H → Nat → Nat → Prop) (x0 : Nat) (x2 : Nat) (h : xb_H) (bc : Nat) (bs : Nat) (hw : w_World_make_L229 Qr x0 x2 h bc bs) : xb_am l D A σ 6 MC MS h0 (fun v h bc bs => ∃ r, v = some (.int r) ∧ Qr r h bc bs) (fun _ _ _ _ => False) y_World_make.cls y_World_make.name b_World_make 4 ([] : List ExceptionTableEntry) (some .int) 229 [(0, .ref x0), (2, .ref x2)] [] h bc bs := by
  unfold w_World_make_L229 at hw
  intro p e s m args below meth c hC H locs ls k n hE hl hR hS hk hn
  obtain ⟨hx, hb, hown, hlocks, htab, hml, hr, hB, hA, hnm⟩ := id hC
  have hts := hB.1.1.at args
  refine lv_aload_n hx hb (xb_d D_World_make 121 rfl) rfl (lv_at hl 0 rfl) ?_
  refine lv_aload_n hx hb (xb_d D_World_make 122 rfl) rfl (lv_at hl 1 rfl) ?_
  obtain ⟨hk1, hw⟩ := hw
  refine xb_call0 (D := D) (A := A) (σ := σ) (h := h) (d := 5) (maxL := 8) (rest := []) (av := [.ref x0, .ref x2]) (fun T hT X => by obtain ⟨cb9, ra9, rb9, rc9⟩ := xb_recv (ci := 6) hR rfl hk1 (by decide); exact xt_invV X hx hown (hts _ m_07685ecd) (hts _ m_0293b320) (hts _ m_c98dfaf5) (xt_sigOf (hts _ m_422a9df8)) nm_World_writeElements (by rw [hT]; exact ra9) rb9 rc9 (g := F0 m 231 ls [.ref x2, .ref x0]) rfl (argsL := [.ref x2]) (rest := []) rfl rfl (by rw [hb]; exact (xb_d D_World_make 123 rfl))) (ok_World_writeElements l hfl D A σ x0 x2 h _ hw) (hml.trans hl.1.symm) (by rw [hb]; exact (xb_d D_World_make 123 rfl)) (Nat.le_of_ble_eq_true rfl) (Nat.le_of_ble_eq_true rfl) (Nat.le_of_ble_eq_true rfl) (show k ≤ MC by omega) (show n ≤ MS by omega) (xt_w1 hB.1 m_422a9df8) (xt_cdOf hB.1 m_422a9df8) (hts _ m_4534b440) hB hR hS hA (fun vv h2 H locs hq hEh2 hR hS => ?_)
  obtain ⟨rfl, hw⟩ := hq
  have hw := hw hEh2
  have hE := hE.tr hEh2
  refine W.eq (g2 := F0 m 234 ls []) rfl ?_
  refine lv_aload_n hx hb (xb_d D_World_make 124 rfl) rfl (lv_at hl 0 rfl) ?_
  refine lv_aload_n hx hb (xb_d D_World_make 125 rfl) rfl (lv_at hl 1 rfl) ?_
  have hk1 : xb_k h2 x0 = 7 := hEh2.k hk1
  refine xb_call0 (D := D) (A := A) (σ := σ) (h := h2) (d := 5) (maxL := 7) (rest := []) (av := [.ref x0, .ref x2]) (fun T hT X => by obtain ⟨cb9, ra9, rb9, rc9⟩ := xb_recv (ci := 6) hR rfl hk1 (by decide); exact xt_invV X hx hown (hts _ m_f5717f0b) (hts _ m_ce6b1279) (hts _ m_6769c531) (xt_sigOf (hts _ m_b5526fcc)) nm_World_writeData (by rw [hT]; exact ra9) rb9 rc9 (g := F0 m 236 ls [.ref x2, .ref x0]) rfl (argsL := [.ref x2]) (rest := []) rfl rfl (by rw [hb]; exact (xb_d D_World_make 126 rfl))) (ok_World_writeData l hfl D A σ x0 x2 h2 _ hw) (hml.trans hl.1.symm) (by rw [hb]; exact (xb_d D_World_make 126 rfl)) (Nat.le_of_ble_eq_true rfl) (Nat.le_of_ble_eq_true rfl) (Nat.le_of_ble_eq_true rfl) (show k ≤ MC by omega) (show n ≤ MS by omega) (xt_w1 hB.1 m_b5526fcc) (xt_cdOf hB.1 m_b5526fcc) (hts _ m_4534b440) hB hR hS hA (fun vv h4 H locs hq hEh4 hR hS => ?_)
  obtain ⟨rfl, hw⟩ := hq
  have hw := hw hEh4
  have hE := hE.tr hEh4
  refine W.eq (g2 := F0 m 239 ls []) rfl ?_
  refine lv_aload_n hx hb (xb_d D_World_make 127 rfl) rfl (lv_at hl 1 rfl) ?_
  obtain ⟨hk6, hw⟩ := hw
  refine xb_getI (C := R_Instance) (T := F_Instance) (N := 8) hx hb 10 0 hts fin_Instance hown hR hk6 (by decide) rfl (by decide) rfl (hts _ m_63e71238) (fun _ h9 => h9) (xb_d D_World_make 128 rfl) ?_
  exact xb_iret bc bs hx hb hr hlocks (show k + bc ≤ MC by omega) (show n + bs ≤ MS by omega) hE hR hS (xb_d D_World_make 129 rfl) hw

set_option maxHeartbeats 4000000 in
set_option maxRecDepth 100000 in
theorem am_World_make_L171 (l : Launch) (hfl : l.flags = pinnedFlags ++ [noTraceFlag]) (D : va_G) (A : Nat → Prop) (σ MC MS : Nat) (h0 : xb_H) (Qr : Int32 → xb_H → Nat → Nat → Prop) (x0 : Nat) (x1 : Nat) (x2 : Nat) (h : xb_H) (bc : Nat) (bs : Nat) (hw : w_World_make_L171 Qr x0 x1 x2 h bc bs) : xb_am l D A σ 6 MC MS h0 (fun v h bc bs => ∃ r, v = some (.int r) ∧ Qr r h bc bs) (fun _ _ _ _ => False) y_World_make.cls y_World_make.name b_World_make 4 ([] : List ExceptionTableEntry) (some .int) 171 [(0, .ref x0), (1, .ref x1), (2, .ref x2)] [] h bc bs := by
  unfold w_World_make_L171 at hw
  intro p e s m args below meth c hC H locs ls k n hE hl hR hS hk hn
  obtain ⟨hx, hb, hown, hlocks, htab, hml, hr, hB, hA, hnm⟩ := id hC
  have hts := hB.1.1.at args
  refine lv_aload_n hx hb (xb_d D_World_make 91 rfl) rfl (lv_at hl 1 rfl) ?_
  obtain ⟨hk1, hw⟩ := hw
  refine xb_getP (C := R_StackModule) (T := F_StackModule) (N := 19) hx hb 2 6 hts fin_StackModule hown hR hk1 (by decide) rfl (by decide) rfl (hts _ m_b7b853d9) (fun _ h9 => h9) (xb_d D_World_make 92 rfl) ?_
  obtain ⟨b2, eb2, hw⟩ := hw
  refine xb_some eb2 ?_
  obtain ⟨hk3, hw⟩ := hw
  refine xb_call0 (D := D) (A := A) (σ := σ) (h := h) (d := 2) (maxL := 1) (rest := []) (av := [.ref b2]) (fun T hT X => by obtain ⟨cb9, ra9, rb9, rc9⟩ := xb_recv (ci := 1) hR rfl hk3 (by decide); exact xt_invV X hx hown (hts _ m_5b8308b9) (hts _ m_ded65609) (hts _ m_a4161156) (xt_sigOf (hts _ m_83ba3721)) nm_Row_lines (by rw [hT]; exact ra9) rb9 rc9 (g := F0 m 175 ls [.ref b2]) rfl (argsL := []) (rest := []) rfl rfl (by rw [hb]; exact (xb_d D_World_make 93 rfl))) (ok_Row_lines l hfl D A σ b2 h _ hw) (hml.trans hl.1.symm) (by rw [hb]; exact (xb_d D_World_make 93 rfl)) (Nat.le_of_ble_eq_true rfl) (Nat.le_of_ble_eq_true rfl) (Nat.le_of_ble_eq_true rfl) (show k ≤ MC by omega) (show n ≤ MS by omega) (xt_w1 hB.1 m_83ba3721) (xt_cdOf hB.1 m_83ba3721) (hts _ m_c1bef504) hB hR hS hA (fun vv h4 H locs hq hEh4 hR hS => ?_)
  obtain ⟨r5, rfl, hw⟩ := hq
  have hw := hw hEh4
  have hE := hE.tr hEh4
  refine W.eq (g2 := F0 m 178 ls [.int r5]) rfl ?_
  refine lv_aload_n hx hb (xb_d D_World_make 94 rfl) rfl (lv_at hl 1 rfl) ?_
  have hk1 : xb_k h4 x1 = 3 := hEh4.k hk1
  refine xb_getP (C := R_StackModule) (T := F_StackModule) (N := 19) hx hb 2 14 hts fin_StackModule hown hR hk1 (by decide) rfl (by decide) rfl (hts _ m_64a182b7) (fun _ h9 => h9) (xb_d D_World_make 95 rfl) ?_
  obtain ⟨b6, eb6, hw⟩ := hw
  refine xb_some eb6 ?_
  refine lv_iconst (v := 2) hx hb (xb_d D_World_make 96 rfl) (by decide) ?_
  obtain ⟨hk8, hw⟩ := hw
  obtain ⟨hi7, hw⟩ := hw
  refine xb_iald hx hb hR hk8 hi7 (xb_d D_World_make 97 rfl) ?_
  refine xt_numi (y := (xb_i h4 b6 2)) (congrArg (xb_i h4 b6) (by decide : (2 : Int32).toNatClampNeg = 2)) ?_
  refine lv_icmp_le (tgt := 229) hx hb (xb_d D_World_make 98 rfl) rfl (fun hc9 => ?_) (fun hc9 => ?_)
  · have hw := hw.1 hc9
    exact am_World_make_L229 l hfl D A σ MC MS h0 Qr x0 x2 h4 bc bs hw p e s m args below meth c hC H locs ls k n hE (lv_sub hl [0, 2] rfl) hR hS (by omega) (by omega)
  · have hw := hw.2 hc9
    refine lv_aload_n hx hb (xb_d D_World_make 99 rfl) rfl (lv_at hl 2 rfl) ?_
    obtain ⟨hcq10, hsq10, hw⟩ := hw
    refine xb_newo (C := R_Memory) (T := F_Memory) (N := 4) hx hb 12 hts fin_Memory t_Memory t_Memory_ok hown (hts _ m_8de5d078) (hts _ m_d5228154) (hts _ m_e7289b5f) hR hS hA (by decide) rfl dg_Memory (show k + 1 ≤ MC by omega) (show n + 4 ≤ MS by omega) (xb_d D_World_make 100 rfl) (fun q10 H hqq10 hR hS => ?_)
    have hw := hw q10 hqq10
    obtain ⟨h11, eh11⟩ : ∃ x : xb_H, x = xb_new h4 q10 13 0 := ⟨_, rfl⟩
    rw [← eh11] at hR
    have hw := hw h11 eh11
    have hE : xb_ext h0 h11 := by rw [eh11]; exact hE.new _ _ hqq10
    have hk12 : xb_k h11 q10 = 13 := by rw [eh11]; exact xb_new_k _ _ _ _
    refine lv_dup hx hb (xb_d D_World_make 101 rfl) rfl ?_
    refine lv_aload_n hx hb (xb_d D_World_make 102 rfl) rfl (lv_at hl 0 rfl) ?_
    obtain ⟨hk13, hw⟩ := hw
    refine xb_getP (C := R_World) (T := F_World) (N := 16) hx hb 6 5 hts fin_World hown hR hk13 (by decide) rfl (by decide) rfl (hts _ m_fb5d2326) (fun _ h9 => h9) (xb_d D_World_make 103 rfl) ?_
    obtain ⟨b14, eb14, hw⟩ := hw
    refine xb_some eb14 ?_
    refine lv_aload_n hx hb (xb_d D_World_make 104 rfl) rfl (lv_at hl 1 rfl) ?_
    have hk1 : xb_k h11 x1 = 3 := by rw [eh11]; exact xb_nk hqq10 hk1
    refine xb_getP (C := R_StackModule) (T := F_StackModule) (N := 19) hx hb 2 6 hts fin_StackModule hown hR hk1 (by decide) rfl (by decide) rfl (hts _ m_b7b853d9) (fun _ h9 => h9) (xb_d D_World_make 105 rfl) ?_
    obtain ⟨b15, eb15, hw⟩ := hw
    refine xb_some eb15 ?_
    refine lv_iconst (v := 0) hx hb (xb_d D_World_make 106 rfl) (by decide) ?_
    refine lv_iconst (v := 2) hx hb (xb_d D_World_make 107 rfl) (by decide) ?_
    obtain ⟨hk16, hw⟩ := hw
    refine xb_call0 (D := D) (A := A) (σ := σ) (h := h11) (d := 2) (maxL := 3) (rest := [.ref b14, .ref q10, .ref q10, .ref x2]) (av := [.ref b15, .int 0, .int 2]) (fun T hT X => by obtain ⟨cb9, ra9, rb9, rc9⟩ := xb_recv (ci := 1) hR rfl hk16 (by decide); exact xt_invV X hx hown (hts _ m_25314627) (hts _ m_8db3b24f) (hts _ m_78dc30a4) (xt_sigOf (hts _ m_a4177401)) nm_Row_longAt (by rw [hT]; exact ra9) rb9 rc9 (g := F0 m 202 ls [.int 2, .int 0, .ref b15, .ref b14, .ref q10, .ref q10, .ref x2]) rfl (argsL := [.int 0, .int 2]) (rest := [.ref b14, .ref q10, .ref q10, .ref x2]) rfl rfl (by rw [hb]; exact (xb_d D_World_make 108 rfl))) (ok_Row_longAt l hfl D A σ b15 0 2 h11 _ hw) (hml.trans hl.1.symm) (by rw [hb]; exact (xb_d D_World_make 108 rfl)) (Nat.le_of_ble_eq_true rfl) (Nat.le_of_ble_eq_true rfl) (Nat.le_of_ble_eq_true rfl) (show (k + 1) ≤ MC by omega) (show (n + 4) ≤ MS by omega) (xt_w1 hB.1 m_a4177401) (xt_cdOf hB.1 m_a4177401) (hts _ m_c1bef504) hB hR hS hA (fun vv h17 H locs hq hEh17 hR hS => ?_)
    obtain ⟨r18, rfl, hw⟩ := hq
    have hw := hw hEh17
    have hE := hE.tr hEh17
    refine W.eq (g2 := F0 m 205 ls [.long r18, .ref b14, .ref q10, .ref q10, .ref x2]) rfl ?_
    refine xb_call (D := D) (A := A) (σ := σ) (h := h17) (d := 2) (mc := (bc - 1)) (ms := (bs - 4)) (maxL := 4) (rest := [.ref q10, .ref x2]) (av := [.ref q10, .ref b14, .long r18]) (fun T hT X => xt_invI X hx hown rfl (hts _ m_2e9ea890) (hts _ m_ef073bcf) (hts _ m_1227e7b8) nm_Memory_init (g := F0 m 205 ls [.long r18, .ref b14, .ref q10, .ref q10, .ref x2]) rfl (b := q10) (argsL := [.ref b14, .long r18]) (rest := [.ref q10, .ref x2]) rfl rfl (by rw [hb]; exact (xb_d D_World_make 109 rfl))) (ok_Memory_init l hfl D A σ q10 b14 r18 h17 (bc - 1) (bs - 4) _ hw) (hml.trans hl.1.symm) (by rw [hb]; exact (xb_d D_World_make 109 rfl)) (Nat.le_of_ble_eq_true rfl) (Nat.le_of_ble_eq_true rfl) (Nat.le_of_ble_eq_true rfl) (show (k + 1) + (bc - 1) ≤ MC by omega) (show (n + 4) + (bs - 4) ≤ MS by omega) (xt_w1 hB.1 m_1227e7b8) (xt_cdOf hB.1 m_1227e7b8) (hts _ m_e7289b5f) hB hR hS hA (fun vv h19 bc20 bs20 kk20 nn20 H locs hk20 hn20 hq hEh19 hR hS => ?_) (fun XX ax h19 bc20 bs20 kk20 nn20 H locs hk20 hn20 hq hEh19 hex hR hS => ?_)
    · obtain ⟨rfl, hw⟩ := hq
      have hw := hw hEh19
      have hE := hE.tr hEh19
      refine W.eq (g2 := F0 m 208 ls [.ref q10, .ref x2]) rfl ?_
      obtain ⟨hk21, hw⟩ := hw
      refine xb_putP (C := R_Instance) (T := F_Instance) (N := 8) (ty := .object "StackHost$Memory") (x := (some q10)) hx hb 10 7 hts fin_Instance t_Instance t_Instance_ok n_Instance hown hR hS hk21 (by decide) rfl (by decide) rfl (hts _ m_1fb067e2) (fun _ h9 => h9) rfl (by decide +kernel) (xb_pnO _ _).1 (xb_pnO _ _).2 (xb_d D_World_make 110 rfl) (fun H locs hR hS => ?_)
      obtain ⟨h22, eh22⟩ : ∃ x : xb_H, x = xb_P h19 x2 7 (some q10) := ⟨_, rfl⟩
      rw [← eh22] at hR
      have hw := hw h22 eh22
      have hE : xb_ext h0 h22 := by rw [eh22]; exact hE
      refine lv_aload_n hx hb (xb_d D_World_make 111 rfl) rfl (lv_at hl 0 rfl) ?_
      refine lv_aload_n hx hb (xb_d D_World_make 112 rfl) rfl (lv_at hl 2 rfl) ?_
      have hk21 : xb_k h22 x2 = 11 := by rw [eh22]; exact hk21
      refine xb_getP (C := R_Instance) (T := F_Instance) (N := 8) hx hb 10 7 hts fin_Instance hown hR hk21 (by decide) rfl (by decide) rfl (hts _ m_1fb067e2) (fun _ h9 => h9) (xb_d D_World_make 113 rfl) ?_
      obtain ⟨b23, eb23, hw⟩ := hw
      refine xb_some eb23 ?_
      refine lv_aload_n hx hb (xb_d D_World_make 114 rfl) rfl (lv_at hl 1 rfl) ?_
      refine lv_aload_n hx hb (xb_d D_World_make 115 rfl) rfl (lv_at hl 1 rfl) ?_
      have hk1 : xb_k h17 x1 = 3 := hEh17.k hk1
      have hk1 : xb_k h19 x1 = 3 := hEh19.k hk1
      have hk1 : xb_k h22 x1 = 3 := by rw [eh22]; exact hk1
      refine xb_getP (C := R_StackModule) (T := F_StackModule) (N := 19) hx hb 2 6 hts fin_StackModule hown hR hk1 (by decide) rfl (by decide) rfl (hts _ m_b7b853d9) (fun _ h9 => h9) (xb_d D_World_make 116 rfl) ?_
      obtain ⟨b24, eb24, hw⟩ := hw
      refine xb_some eb24 ?_
      refine lv_iconst (v := 2) hx hb (xb_d D_World_make 117 rfl) (by decide) ?_
      refine xb_call0 (D := D) (A := A) (σ := σ) (h := h22) (d := 3) (maxL := 3) (rest := [.ref b23, .ref x0]) (av := [.ref x1, .ref b24, .int 2]) (fun T hT X => xt_invS X hx hown (hts _ m_aaaefe3c) (hts _ m_e4859522) (hts _ m_4534b440) (xt_sgS (hts _ m_c12fcdc9)).1 (xt_sgS (hts _ m_c12fcdc9)).2 nm_World_ownLeast (g := F0 m 222 ls [.int 2, .ref b24, .ref x1, .ref b23, .ref x0]) rfl (argsL := [.ref x1, .ref b24, .int 2]) (rest := [.ref b23, .ref x0]) rfl rfl (by rw [hb]; exact (xb_d D_World_make 118 rfl))) (ok_World_ownLeast l hfl D A σ x1 b24 2 h22 _ hw) (hml.trans hl.1.symm) (by rw [hb]; exact (xb_d D_World_make 118 rfl)) (Nat.le_of_ble_eq_true rfl) (Nat.le_of_ble_eq_true rfl) (Nat.le_of_ble_eq_true rfl) (show ((k + 1) + kk20) ≤ MC by omega) (show ((n + 4) + nn20) ≤ MS by omega) (xt_w1 hB.1 m_c12fcdc9) (xt_cdOf hB.1 m_c12fcdc9) (hts _ m_4534b440) hB hR hS hA (fun vv h25 H locs hq hEh25 hR hS => ?_)
      obtain ⟨r26, rfl, hw⟩ := hq
      have hw := hw hEh25
      have hE := hE.tr hEh25
      refine W.eq (g2 := F0 m 225 ls [.long r26, .ref b23, .ref x0]) rfl ?_
      have hk13 : xb_k h17 x0 = 7 := hEh17.k hk13
      have hk13 : xb_k h19 x0 = 7 := hEh19.k hk13
      have hk13 : xb_k h22 x0 = 7 := by rw [eh22]; exact hk13
      have hk13 : xb_k h25 x0 = 7 := hEh25.k hk13
      refine xb_call (D := D) (A := A) (σ := σ) (h := h25) (d := 5) (mc := bc20) (ms := bs20) (maxL := 8) (rest := []) (av := [.ref x0, .ref b23, .long r26]) (fun T hT X => by obtain ⟨cb9, ra9, rb9, rc9⟩ := xb_recv (ci := 6) hR rfl hk13 (by decide); exact xt_invV X hx hown (hts _ m_d6721676) (hts _ m_34bae24b) (hts _ m_04718ef1) (xt_sigOf (hts _ m_89170230)) nm_World_grow (by rw [hT]; exact ra9) rb9 rc9 (g := F0 m 225 ls [.long r26, .ref b23, .ref x0]) rfl (argsL := [.ref b23, .long r26]) (rest := []) rfl rfl (by rw [hb]; exact (xb_d D_World_make 119 rfl))) (ok_World_grow l hfl D A σ x0 b23 r26 h25 bc20 bs20 _ hw) (hml.trans hl.1.symm) (by rw [hb]; exact (xb_d D_World_make 119 rfl)) (Nat.le_of_ble_eq_true rfl) (Nat.le_of_ble_eq_true rfl) (Nat.le_of_ble_eq_true rfl) (show ((k + 1) + kk20) + bc20 ≤ MC by omega) (show ((n + 4) + nn20) + bs20 ≤ MS by omega) (xt_w1 hB.1 m_89170230) (xt_cdOf hB.1 m_89170230) (hts _ m_4534b440) hB hR hS hA (fun vv h27 bc28 bs28 kk28 nn28 H locs hk28 hn28 hq hEh27 hR hS => ?_) (fun XX ax h27 bc28 bs28 kk28 nn28 H locs hk28 hn28 hq hEh27 hex hR hS => ?_)
      · obtain ⟨r28, rfl, hw⟩ := hq
        have hw := hw hEh27
        have hE := hE.tr hEh27
        refine W.eq (g2 := F0 m 228 ls [.int r28]) rfl ?_
        refine lv_pop hx hb (xb_d D_World_make 120 rfl) rfl ?_
        exact am_World_make_L229 l hfl D A σ MC MS h0 Qr x0 x2 h27 bc28 bs28 hw p e s m args below meth c hC H locs ls (((k + 1) + kk20) + kk28) (((n + 4) + nn20) + nn28) hE (lv_sub hl [0, 2] rfl) hR hS (by omega) (by omega)
      · exact False.elim hq
    · exact False.elim hq

set_option maxHeartbeats 4000000 in
set_option maxRecDepth 100000 in
theorem am_World_make_L67 (l : Launch) (hfl : l.flags = pinnedFlags ++ [noTraceFlag]) (D : va_G) (A : Nat → Prop) (σ MC MS : Nat) (h0 : xb_H) (Qr : Int32 → xb_H → Nat → Nat → Prop) (n9 : Nat) : ∀ (x0 : Nat) (x1 : Nat) (x2 : Nat) (x3 : Int32) (h : xb_H) (bc : Nat) (bs : Nat), w_World_make_L67 Qr n9 x0 x1 x2 x3 h bc bs → xb_am l D A σ 6 MC MS h0 (fun v h bc bs => ∃ r, v = some (.int r) ∧ Qr r h bc bs) (fun _ _ _ _ => False) y_World_make.cls y_World_make.name b_World_make 4 ([] : List ExceptionTableEntry) (some .int) 67 [(0, .ref x0), (1, .ref x1), (2, .ref x2), (3, .int x3)] [] h bc bs := by
  induction n9 with
  | zero => intro x0 x1 x2 x3 h bc bs hw; exact False.elim hw
  | succ n9 ih =>
    intro x0 x1 x2 x3 h bc bs hw
    unfold w_World_make_L67 at hw
    intro p e s m args below meth c hC H locs ls k n hE hl hR hS hk hn
    obtain ⟨hx, hb, hown, hlocks, htab, hml, hr, hB, hA, hnm⟩ := id hC
    have hts := hB.1.1.at args
    refine lv_iload_n hx hb (xb_d D_World_make 39 rfl) rfl (lv_at hl 3 rfl) ?_
    refine lv_aload_n hx hb (xb_d D_World_make 40 rfl) rfl (lv_at hl 1 rfl) ?_
    obtain ⟨hk1, hw⟩ := hw
    refine xb_getP (C := R_StackModule) (T := F_StackModule) (N := 19) hx hb 2 7 hts fin_StackModule hown hR hk1 (by decide) rfl (by decide) rfl (hts _ m_86aae10b) (fun _ h9 => h9) (xb_d D_World_make 41 rfl) ?_
    obtain ⟨b2, eb2, hw⟩ := hw
    refine xb_some eb2 ?_
    obtain ⟨hk3, hw⟩ := hw
    refine xb_call0 (D := D) (A := A) (σ := σ) (h := h) (d := 2) (maxL := 1) (rest := [.int x3]) (av := [.ref b2]) (fun T hT X => by obtain ⟨cb9, ra9, rb9, rc9⟩ := xb_recv (ci := 1) hR rfl hk3 (by decide); exact xt_invV X hx hown (hts _ m_5b8308b9) (hts _ m_ded65609) (hts _ m_a4161156) (xt_sigOf (hts _ m_83ba3721)) nm_Row_lines (by rw [hT]; exact ra9) rb9 rc9 (g := F0 m 72 ls [.ref b2, .int x3]) rfl (argsL := []) (rest := [.int x3]) rfl rfl (by rw [hb]; exact (xb_d D_World_make 42 rfl))) (ok_Row_lines l hfl D A σ b2 h _ hw) (hml.trans hl.1.symm) (by rw [hb]; exact (xb_d D_World_make 42 rfl)) (Nat.le_of_ble_eq_true rfl) (Nat.le_of_ble_eq_true rfl) (Nat.le_of_ble_eq_true rfl) (show k ≤ MC by omega) (show n ≤ MS by omega) (xt_w1 hB.1 m_83ba3721) (xt_cdOf hB.1 m_83ba3721) (hts _ m_c1bef504) hB hR hS hA (fun vv h4 H locs hq hEh4 hR hS => ?_)
    obtain ⟨r5, rfl, hw⟩ := hq
    have hw := hw hEh4
    have hE := hE.tr hEh4
    refine W.eq (g2 := F0 m 75 ls [.int r5, .int x3]) rfl ?_
    refine lv_icmp_ge (tgt := 105) hx hb (xb_d D_World_make 43 rfl) rfl (fun hc6 => ?_) (fun hc6 => ?_)
    · have hw := hw.1 hc6
      refine lv_aload_n hx hb (xb_d D_World_make 57 rfl) rfl (lv_at hl 1 rfl) ?_
      have hk1 : xb_k h4 x1 = 3 := hEh4.k hk1
      refine xb_getP (C := R_StackModule) (T := F_StackModule) (N := 19) hx hb 2 5 hts fin_StackModule hown hR hk1 (by decide) rfl (by decide) rfl (hts _ m_dbd9d8fa) (fun _ h9 => h9) (xb_d D_World_make 58 rfl) ?_
      obtain ⟨b7, eb7, hw⟩ := hw
      refine xb_some eb7 ?_
      obtain ⟨hk8, hw⟩ := hw
      refine xb_call0 (D := D) (A := A) (σ := σ) (h := h4) (d := 2) (maxL := 1) (rest := []) (av := [.ref b7]) (fun T hT X => by obtain ⟨cb9, ra9, rb9, rc9⟩ := xb_recv (ci := 1) hR rfl hk8 (by decide); exact xt_invV X hx hown (hts _ m_5b8308b9) (hts _ m_ded65609) (hts _ m_a4161156) (xt_sigOf (hts _ m_83ba3721)) nm_Row_lines (by rw [hT]; exact ra9) rb9 rc9 (g := F0 m 109 ls [.ref b7]) rfl (argsL := []) (rest := []) rfl rfl (by rw [hb]; exact (xb_d D_World_make 59 rfl))) (ok_Row_lines l hfl D A σ b7 h4 _ hw) (hml.trans hl.1.symm) (by rw [hb]; exact (xb_d D_World_make 59 rfl)) (Nat.le_of_ble_eq_true rfl) (Nat.le_of_ble_eq_true rfl) (Nat.le_of_ble_eq_true rfl) (show k ≤ MC by omega) (show n ≤ MS by omega) (xt_w1 hB.1 m_83ba3721) (xt_cdOf hB.1 m_83ba3721) (hts _ m_c1bef504) hB hR hS hA (fun vv h9 H locs hq hEh9 hR hS => ?_)
      obtain ⟨r10, rfl, hw⟩ := hq
      have hw := hw hEh9
      have hE := hE.tr hEh9
      refine W.eq (g2 := F0 m 112 ls [.int r10]) rfl ?_
      refine lv_aload_n hx hb (xb_d D_World_make 60 rfl) rfl (lv_at hl 1 rfl) ?_
      have hk1 : xb_k h9 x1 = 3 := hEh9.k hk1
      refine xb_getP (C := R_StackModule) (T := F_StackModule) (N := 19) hx hb 2 14 hts fin_StackModule hown hR hk1 (by decide) rfl (by decide) rfl (hts _ m_64a182b7) (fun _ h9 => h9) (xb_d D_World_make 61 rfl) ?_
      obtain ⟨b11, eb11, hw⟩ := hw
      refine xb_some eb11 ?_
      refine lv_iconst (v := 1) hx hb (xb_d D_World_make 62 rfl) (by decide) ?_
      obtain ⟨hk13, hw⟩ := hw
      obtain ⟨hi12, hw⟩ := hw
      refine xb_iald hx hb hR hk13 hi12 (xb_d D_World_make 63 rfl) ?_
      refine xt_numi (y := (xb_i h9 b11 1)) (congrArg (xb_i h9 b11) (by decide : (1 : Int32).toNatClampNeg = 1)) ?_
      refine lv_icmp_le (tgt := 171) hx hb (xb_d D_World_make 64 rfl) rfl (fun hc14 => ?_) (fun hc14 => ?_)
      · have hw := hw.1 hc14
        exact am_World_make_L171 l hfl D A σ MC MS h0 Qr x0 x1 x2 h9 bc bs hw p e s m args below meth c hC H locs ls k n hE (lv_sub hl [0, 1, 2] rfl) hR hS (by omega) (by omega)
      · have hw := hw.2 hc14
        refine lv_aload_n hx hb (xb_d D_World_make 65 rfl) rfl (lv_at hl 1 rfl) ?_
        refine lv_aload_n hx hb (xb_d D_World_make 66 rfl) rfl (lv_at hl 1 rfl) ?_
        refine xb_getP (C := R_StackModule) (T := F_StackModule) (N := 19) hx hb 2 5 hts fin_StackModule hown hR hk1 (by decide) rfl (by decide) rfl (hts _ m_dbd9d8fa) (fun _ h9 => h9) (xb_d D_World_make 67 rfl) ?_
        obtain ⟨b15, eb15, hw⟩ := hw
        refine xb_some eb15 ?_
        refine lv_iconst (v := 1) hx hb (xb_d D_World_make 68 rfl) (by decide) ?_
        refine xb_call0 (D := D) (A := A) (σ := σ) (h := h9) (d := 3) (maxL := 3) (rest := []) (av := [.ref x1, .ref b15, .int 1]) (fun T hT X => xt_invS X hx hown (hts _ m_aaaefe3c) (hts _ m_e4859522) (hts _ m_4534b440) (xt_sgS (hts _ m_c12fcdc9)).1 (xt_sgS (hts _ m_c12fcdc9)).2 nm_World_ownLeast (g := F0 m 127 ls [.int 1, .ref b15, .ref x1]) rfl (argsL := [.ref x1, .ref b15, .int 1]) (rest := []) rfl rfl (by rw [hb]; exact (xb_d D_World_make 69 rfl))) (ok_World_ownLeast l hfl D A σ x1 b15 1 h9 _ hw) (hml.trans hl.1.symm) (by rw [hb]; exact (xb_d D_World_make 69 rfl)) (Nat.le_of_ble_eq_true rfl) (Nat.le_of_ble_eq_true rfl) (Nat.le_of_ble_eq_true rfl) (show k ≤ MC by omega) (show n ≤ MS by omega) (xt_w1 hB.1 m_c12fcdc9) (xt_cdOf hB.1 m_c12fcdc9) (hts _ m_4534b440) hB hR hS hA (fun vv h16 H locs hq hEh16 hR hS => ?_)
        obtain ⟨r17, rfl, hw⟩ := hq
        have hw := hw hEh16
        have hE := hE.tr hEh16
        refine W.eq (g2 := F0 m 130 ls [.long r17]) rfl ?_
        refine lv_l2i hx hb (xb_d D_World_make 70 rfl) rfl ?_
        obtain ⟨v18, ev18⟩ : ∃ x : Int32, x = (Int64.toInt32 r17) := ⟨_, rfl⟩
        have hw := hw v18 ev18
        refine xt_numi (y := v18) ev18.symm ?_
        refine lv_istore_n hx hb (xb_d D_World_make 71 rfl) rfl hl (by decide) rfl (fun ls hl => ?_)
        have hl : lv_has ls 4 [(3, .int v18), (0, .ref x0), (1, .ref x1), (2, .ref x2)] := hl
        refine lv_aload_n hx hb (xb_d D_World_make 72 rfl) rfl (lv_at hl 3 rfl) ?_
        obtain ⟨hcq19, hsq19, hw⟩ := hw
        refine xb_newo (C := R_Table) (T := F_Table) (N := 3) hx hb 11 hts fin_Table t_Table t_Table_ok hown (hts _ m_0e5a4c92) (hts _ m_3682f7bb) (hts _ m_aceab1b3) hR hS hA (by decide) rfl dg_Table (show k + 1 ≤ MC by omega) (show n + 3 ≤ MS by omega) (xb_d D_World_make 73 rfl) (fun q19 H hqq19 hR hS => ?_)
        have hw := hw q19 hqq19
        obtain ⟨h20, eh20⟩ : ∃ x : xb_H, x = xb_new h16 q19 12 0 := ⟨_, rfl⟩
        rw [← eh20] at hR
        have hw := hw h20 eh20
        have hE : xb_ext h0 h20 := by rw [eh20]; exact hE.new _ _ hqq19
        have hk21 : xb_k h20 q19 = 12 := by rw [eh20]; exact xb_new_k _ _ _ _
        refine lv_dup hx hb (xb_d D_World_make 74 rfl) rfl ?_
        refine lv_aload_n hx hb (xb_d D_World_make 75 rfl) rfl (lv_at hl 1 rfl) ?_
        obtain ⟨hk22, hw⟩ := hw
        refine xb_getP (C := R_World) (T := F_World) (N := 16) hx hb 6 4 hts fin_World hown hR hk22 (by decide) rfl (by decide) rfl (hts _ m_1ef9f414) (fun _ h9 => h9) (xb_d D_World_make 76 rfl) ?_
        obtain ⟨b23, eb23, hw⟩ := hw
        refine xb_some eb23 ?_
        obtain ⟨hk24, hw⟩ := hw
        refine xb_getI (C := R_Row) (T := F_Row) (N := 3) hx hb 1 1 hts fin_Row hown hR hk24 (by decide) rfl (by decide) rfl (hts _ m_98336b3d) (fun _ h9 => h9) (xb_d D_World_make 77 rfl) ?_
        refine lv_iload_n hx hb (xb_d D_World_make 78 rfl) rfl (lv_at hl 0 rfl) ?_
        refine lv_aload_n hx hb (xb_d D_World_make 79 rfl) rfl (lv_at hl 2 rfl) ?_
        have hk1 : xb_k h16 x1 = 3 := hEh16.k hk1
        have hk1 : xb_k h20 x1 = 3 := by rw [eh20]; exact xb_nk hqq19 hk1
        refine xb_getP (C := R_StackModule) (T := F_StackModule) (N := 19) hx hb 2 5 hts fin_StackModule hown hR hk1 (by decide) rfl (by decide) rfl (hts _ m_dbd9d8fa) (fun _ h9 => h9) (xb_d D_World_make 80 rfl) ?_
        obtain ⟨b25, eb25, hw⟩ := hw
        refine xb_some eb25 ?_
        refine lv_iconst (v := 0) hx hb (xb_d D_World_make 81 rfl) (by decide) ?_
        refine lv_iconst (v := 2) hx hb (xb_d D_World_make 82 rfl) (by decide) ?_
        obtain ⟨hk26, hw⟩ := hw
        refine xb_call0 (D := D) (A := A) (σ := σ) (h := h20) (d := 2) (maxL := 3) (rest := [.int v18, .int (xb_i h20 b23 1), .ref q19, .ref q19, .ref x2]) (av := [.ref b25, .int 0, .int 2]) (fun T hT X => by obtain ⟨cb9, ra9, rb9, rc9⟩ := xb_recv (ci := 1) hR rfl hk26 (by decide); exact xt_invV X hx hown (hts _ m_25314627) (hts _ m_8db3b24f) (hts _ m_78dc30a4) (xt_sigOf (hts _ m_a4177401)) nm_Row_longAt (by rw [hT]; exact ra9) rb9 rc9 (g := F0 m 151 ls [.int 2, .int 0, .ref b25, .int v18, .int (xb_i h20 b23 1), .ref q19, .ref q19, .ref x2]) rfl (argsL := [.int 0, .int 2]) (rest := [.int v18, .int (xb_i h20 b23 1), .ref q19, .ref q19, .ref x2]) rfl rfl (by rw [hb]; exact (xb_d D_World_make 83 rfl))) (ok_Row_longAt l hfl D A σ b25 0 2 h20 _ hw) (hml.trans hl.1.symm) (by rw [hb]; exact (xb_d D_World_make 83 rfl)) (Nat.le_of_ble_eq_true rfl) (Nat.le_of_ble_eq_true rfl) (Nat.le_of_ble_eq_true rfl) (show (k + 1) ≤ MC by omega) (show (n + 3) ≤ MS by omega) (xt_w1 hB.1 m_a4177401) (xt_cdOf hB.1 m_a4177401) (hts _ m_c1bef504) hB hR hS hA (fun vv h27 H locs hq hEh27 hR hS => ?_)
        obtain ⟨r28, rfl, hw⟩ := hq
        have hw := hw hEh27
        have hE := hE.tr hEh27
        refine W.eq (g2 := F0 m 154 ls [.long r28, .int v18, .int (xb_i h20 b23 1), .ref q19, .ref q19, .ref x2]) rfl ?_
        refine xb_call0 (D := D) (A := A) (σ := σ) (h := h27) (d := 2) (maxL := 5) (rest := [.ref q19, .ref x2]) (av := [.ref q19, .int (xb_i h20 b23 1), .int v18, .long r28]) (fun T hT X => xt_invI X hx hown rfl (hts _ m_53ba7b3a) (hts _ m_d6e213c9) (hts _ m_cdf0d32d) nm_Table_init (g := F0 m 154 ls [.long r28, .int v18, .int (xb_i h20 b23 1), .ref q19, .ref q19, .ref x2]) rfl (b := q19) (argsL := [.int (xb_i h20 b23 1), .int v18, .long r28]) (rest := [.ref q19, .ref x2]) rfl rfl (by rw [hb]; exact (xb_d D_World_make 84 rfl))) (ok_Table_init l hfl D A σ q19 (xb_i h20 b23 1) v18 r28 h27 _ hw) (hml.trans hl.1.symm) (by rw [hb]; exact (xb_d D_World_make 84 rfl)) (Nat.le_of_ble_eq_true rfl) (Nat.le_of_ble_eq_true rfl) (Nat.le_of_ble_eq_true rfl) (show (k + 1) ≤ MC by omega) (show (n + 3) ≤ MS by omega) (xt_w1 hB.1 m_cdf0d32d) (xt_cdOf hB.1 m_cdf0d32d) (hts _ m_aceab1b3) hB hR hS hA (fun vv h29 H locs hq hEh29 hR hS => ?_)
        obtain ⟨rfl, hw⟩ := hq
        have hw := hw hEh29
        have hE := hE.tr hEh29
        refine W.eq (g2 := F0 m 157 ls [.ref q19, .ref x2]) rfl ?_
        obtain ⟨hk31, hw⟩ := hw
        refine xb_putP (C := R_Instance) (T := F_Instance) (N := 8) (ty := .object "StackHost$Table") (x := (some q19)) hx hb 10 6 hts fin_Instance t_Instance t_Instance_ok n_Instance hown hR hS hk31 (by decide) rfl (by decide) rfl (hts _ m_89519114) (fun _ h9 => h9) rfl (by decide +kernel) (xb_pnO _ _).1 (xb_pnO _ _).2 (xb_d D_World_make 85 rfl) (fun H locs hR hS => ?_)
        obtain ⟨h32, eh32⟩ : ∃ x : xb_H, x = xb_P h29 x2 6 (some q19) := ⟨_, rfl⟩
        rw [← eh32] at hR
        have hw := hw h32 eh32
        have hE : xb_ext h0 h32 := by rw [eh32]; exact hE
        refine lv_aload_n hx hb (xb_d D_World_make 86 rfl) rfl (lv_at hl 1 rfl) ?_
        have hk22 : xb_k h27 x0 = 7 := hEh27.k hk22
        have hk22 : xb_k h29 x0 = 7 := hEh29.k hk22
        have hk22 : xb_k h32 x0 = 7 := by rw [eh32]; exact hk22
        refine xb_getP (C := R_World) (T := F_World) (N := 16) hx hb 6 4 hts fin_World hown hR hk22 (by decide) rfl (by decide) rfl (hts _ m_1ef9f414) (fun _ h9 => h9) (xb_d D_World_make 87 rfl) ?_
        obtain ⟨b33, eb33, hw⟩ := hw
        refine xb_some eb33 ?_
        refine lv_iload_n hx hb (xb_d D_World_make 88 rfl) rfl (lv_at hl 0 rfl) ?_
        refine lv_ldc2 (v := (-1)) hx hb hown (hts _ m_c3be9c29) (xb_d D_World_make 89 rfl) ?_
        obtain ⟨hk34, hw⟩ := hw
        refine xb_call (D := D) (A := A) (σ := σ) (h := h32) (d := 4) (mc := (bc - 1)) (ms := (bs - 3)) (maxL := 4) (rest := []) (av := [.ref b33, .int v18, .long (-1)]) (fun T hT X => by obtain ⟨cb9, ra9, rb9, rc9⟩ := xb_recv (ci := 1) hR rfl hk34 (by decide); exact xt_invV X hx hown (hts _ m_45c8cab3) (hts _ m_c1872bd8) (hts _ m_3e031f92) (xt_sigOf (hts _ m_c5b9ceaf)) nm_Row_addMany (by rw [hT]; exact ra9) rb9 rc9 (g := F0 m 168 ls [.long (-1), .int v18, .ref b33]) rfl (argsL := [.int v18, .long (-1)]) (rest := []) rfl rfl (by rw [hb]; exact (xb_d D_World_make 90 rfl))) (ok_Row_addMany l hfl D A σ b33 v18 (-1) h32 (bc - 1) (bs - 3) _ hw) (hml.trans hl.1.symm) (by rw [hb]; exact (xb_d D_World_make 90 rfl)) (Nat.le_of_ble_eq_true rfl) (Nat.le_of_ble_eq_true rfl) (Nat.le_of_ble_eq_true rfl) (show (k + 1) + (bc - 1) ≤ MC by omega) (show (n + 3) + (bs - 3) ≤ MS by omega) (xt_w1 hB.1 m_c5b9ceaf) (xt_cdOf hB.1 m_c5b9ceaf) (hts _ m_c1bef504) hB hR hS hA (fun vv h35 bc36 bs36 kk36 nn36 H locs hk36 hn36 hq hEh35 hR hS => ?_) (fun XX ax h35 bc36 bs36 kk36 nn36 H locs hk36 hn36 hq hEh35 hex hR hS => ?_)
        · obtain ⟨rfl, hw⟩ := hq
          have hw := hw hEh35
          have hE := hE.tr hEh35
          refine W.eq (g2 := F0 m 171 ls []) rfl ?_
          exact am_World_make_L171 l hfl D A σ MC MS h0 Qr x0 x1 x2 h35 bc36 bs36 hw p e s m args below meth c hC H locs ls ((k + 1) + kk36) ((n + 3) + nn36) hE (lv_sub hl [1, 2, 3] rfl) hR hS (by omega) (by omega)
        · exact False.elim hq
    · have hw := hw.2 hc6
      refine lv_aload_n hx hb (xb_d D_World_make 44 rfl) rfl (lv_at hl 0 rfl) ?_
      obtain ⟨hk37, hw⟩ := hw
      refine xb_getP (C := R_World) (T := F_World) (N := 16) hx hb 6 3 hts fin_World hown hR hk37 (by decide) rfl (by decide) rfl (hts _ m_61bedde9) (fun _ h9 => h9) (xb_d D_World_make 45 rfl) ?_
      obtain ⟨b38, eb38, hw⟩ := hw
      refine xb_some eb38 ?_
      refine lv_aload_n hx hb (xb_d D_World_make 46 rfl) rfl (lv_at hl 0 rfl) ?_
      refine lv_aload_n hx hb (xb_d D_World_make 47 rfl) rfl (lv_at hl 1 rfl) ?_
      refine lv_aload_n hx hb (xb_d D_World_make 48 rfl) rfl (lv_at hl 1 rfl) ?_
      have hk1 : xb_k h4 x1 = 3 := hEh4.k hk1
      refine xb_getP (C := R_StackModule) (T := F_StackModule) (N := 19) hx hb 2 7 hts fin_StackModule hown hR hk1 (by decide) rfl (by decide) rfl (hts _ m_86aae10b) (fun _ h9 => h9) (xb_d D_World_make 49 rfl) ?_
      obtain ⟨b39, eb39, hw⟩ := hw
      refine xb_some eb39 ?_
      refine lv_iload_n hx hb (xb_d D_World_make 50 rfl) rfl (lv_at hl 3 rfl) ?_
      refine lv_iconst (v := 3) hx hb (xb_d D_World_make 51 rfl) (by decide) ?_
      obtain ⟨hk40, hw⟩ := hw
      refine xb_call0 (D := D) (A := A) (σ := σ) (h := h4) (d := 2) (maxL := 3) (rest := [.ref x1, .ref x0, .ref b38]) (av := [.ref b39, .int x3, .int 3]) (fun T hT X => by obtain ⟨cb9, ra9, rb9, rc9⟩ := xb_recv (ci := 1) hR rfl hk40 (by decide); exact xt_invV X hx hown (hts _ m_ad29ee25) (hts _ m_8e233096) (hts _ m_27eed10c) (xt_sigOf (hts _ m_ff1c70ae)) nm_Row_at (by rw [hT]; exact ra9) rb9 rc9 (g := F0 m 90 ls [.int 3, .int x3, .ref b39, .ref x1, .ref x0, .ref b38]) rfl (argsL := [.int x3, .int 3]) (rest := [.ref x1, .ref x0, .ref b38]) rfl rfl (by rw [hb]; exact (xb_d D_World_make 52 rfl))) (ok_Row_at l hfl D A σ b39 x3 3 h4 _ hw) (hml.trans hl.1.symm) (by rw [hb]; exact (xb_d D_World_make 52 rfl)) (Nat.le_of_ble_eq_true rfl) (Nat.le_of_ble_eq_true rfl) (Nat.le_of_ble_eq_true rfl) (show k ≤ MC by omega) (show n ≤ MS by omega) (xt_w1 hB.1 m_ff1c70ae) (xt_cdOf hB.1 m_ff1c70ae) (hts _ m_c1bef504) hB hR hS hA (fun vv h41 H locs hq hEh41 hR hS => ?_)
      obtain ⟨r42, rfl, hw⟩ := hq
      have hw := hw hEh41
      have hE := hE.tr hEh41
      refine W.eq (g2 := F0 m 93 ls [.int r42, .ref x1, .ref x0, .ref b38]) rfl ?_
      have hk37 : xb_k h41 x0 = 7 := hEh41.k hk37
      refine xb_call0 (D := D) (A := A) (σ := σ) (h := h41) (d := 3) (maxL := 3) (rest := [.ref b38]) (av := [.ref x0, .ref x1, .int r42]) (fun T hT X => by obtain ⟨cb9, ra9, rb9, rc9⟩ := xb_recv (ci := 6) hR rfl hk37 (by decide); exact xt_invV X hx hown (hts _ m_c1adce89) (hts _ m_ea5253ea) (hts _ m_5eef57a1) (xt_sigOf (hts _ m_e9cf7221)) nm_World_valueOf (by rw [hT]; exact ra9) rb9 rc9 (g := F0 m 93 ls [.int r42, .ref x1, .ref x0, .ref b38]) rfl (argsL := [.ref x1, .int r42]) (rest := [.ref b38]) rfl rfl (by rw [hb]; exact (xb_d D_World_make 53 rfl))) (ok_World_valueOf l hfl D A σ x0 x1 r42 h41 _ hw) (hml.trans hl.1.symm) (by rw [hb]; exact (xb_d D_World_make 53 rfl)) (Nat.le_of_ble_eq_true rfl) (Nat.le_of_ble_eq_true rfl) (Nat.le_of_ble_eq_true rfl) (show k ≤ MC by omega) (show n ≤ MS by omega) (xt_w1 hB.1 m_e9cf7221) (xt_cdOf hB.1 m_e9cf7221) (hts _ m_4534b440) hB hR hS hA (fun vv h43 H locs hq hEh43 hR hS => ?_)
      obtain ⟨r44, rfl, hw⟩ := hq
      have hw := hw hEh43
      have hE := hE.tr hEh43
      refine W.eq (g2 := F0 m 96 ls [.long r44, .ref b38]) rfl ?_
      obtain ⟨hk45, hw⟩ := hw
      refine xb_call (D := D) (A := A) (σ := σ) (h := h43) (d := 4) (mc := bc) (ms := bs) (maxL := 3) (rest := []) (av := [.ref b38, .long r44]) (fun T hT X => by obtain ⟨cb9, ra9, rb9, rc9⟩ := xb_recv (ci := 1) hR rfl hk45 (by decide); exact xt_invV X hx hown (hts _ m_6ab0aa52) (hts _ m_7e8d081f) (hts _ m_4e47f51a) (xt_sigOf (hts _ m_4f1bdc54)) nm_Row_add (by rw [hT]; exact ra9) rb9 rc9 (g := F0 m 96 ls [.long r44, .ref b38]) rfl (argsL := [.long r44]) (rest := []) rfl rfl (by rw [hb]; exact (xb_d D_World_make 54 rfl))) (ok_Row_add l hfl D A σ b38 r44 h43 bc bs _ hw) (hml.trans hl.1.symm) (by rw [hb]; exact (xb_d D_World_make 54 rfl)) (Nat.le_of_ble_eq_true rfl) (Nat.le_of_ble_eq_true rfl) (Nat.le_of_ble_eq_true rfl) (show k + bc ≤ MC by omega) (show n + bs ≤ MS by omega) (xt_w1 hB.1 m_4f1bdc54) (xt_cdOf hB.1 m_4f1bdc54) (hts _ m_c1bef504) hB hR hS hA (fun vv h46 bc47 bs47 kk47 nn47 H locs hk47 hn47 hq hEh46 hR hS => ?_) (fun XX ax h46 bc47 bs47 kk47 nn47 H locs hk47 hn47 hq hEh46 hex hR hS => ?_)
      · obtain ⟨rfl, hw⟩ := hq
        have hw := hw hEh46
        have hE := hE.tr hEh46
        refine W.eq (g2 := F0 m 99 ls []) rfl ?_
        refine lv_iinc (v := (x3 + 1)) (k := 3) hx hb (xb_d D_World_make 55 rfl) hl rfl (by first | rfl | decide) (by decide) rfl (fun ls hl => ?_)
        have hl : lv_has ls 4 [(3, .int (x3 + 1)), (0, .ref x0), (1, .ref x1), (2, .ref x2)] := hl
        refine lv_goto (tgt := 67) hx hb (xb_d D_World_make 56 rfl) rfl ?_
        exact ih x0 x1 x2 (x3 + 1) h46 bc47 bs47 hw p e s m args below meth c hC H locs ls (k + kk47) (n + nn47) hE (lv_sub hl [1, 2, 3, 0] rfl) hR hS (by omega) (by omega)
      · exact False.elim hq

set_option maxHeartbeats 4000000 in
set_option maxRecDepth 100000 in
theorem ok_World_make (l : Launch) (hfl : l.flags = pinnedFlags ++ [noTraceFlag]) (D : va_G) (A : Nat → Prop) (σ : Nat) (x0 : Nat) (x1 : Nat) (h : xb_H) (bc : Nat) (bs : Nat) (Qr : Int32 → xb_H → Nat → Nat → Prop) (hw : w_World_make x0 x1 h bc bs Qr) : xb_Met l y_World_make [.code y_World_make b_World_make 4 (some .int)] (xb_rm 6 bc bs) (xb_Pc D A σ h [.ref x0, .ref x1]) (xb_Qc D A h bc bs (fun v h bc bs => ∃ r, v = some (.int r) ∧ Qr r h bc bs) (fun _ _ _ _ => False)) A := by
  refine xb_ofAm (cc := b_World_make) (by decide) (Nat.le_of_ble_eq_true rfl) ?_
  unfold w_World_make at hw
  show xb_am l D A σ 6 bc bs h (fun v h bc bs => ∃ r, v = some (.int r) ∧ Qr r h bc bs) (fun _ _ _ _ => False) y_World_make.cls y_World_make.name b_World_make 4 ([] : List ExceptionTableEntry) (some .int) 0 [(0, .ref x0), (1, .ref x1)] [] h bc bs
  obtain ⟨MC, hMC⟩ : ∃ x, x = bc := ⟨_, rfl⟩
  obtain ⟨MS, hMS⟩ : ∃ x, x = bs := ⟨_, rfl⟩
  rw [show xb_am l D A σ 6 bc bs = xb_am l D A σ 6 MC MS by rw [hMC, hMS]]
  obtain ⟨h0, hh0⟩ : ∃ x, x = h := ⟨_, rfl⟩
  rw [show xb_am l D A σ 6 MC MS h = xb_am l D A σ 6 MC MS h0 by rw [hh0]]
  intro p e s m args below meth c hC H locs ls k n hE hl hR hS hk hn
  obtain ⟨hx, hb, hown, hlocks, htab, hml, hr, hB, hA, hnm⟩ := id hC
  have hts := hB.1.1.at args
  obtain ⟨hcq1, hsq1, hw⟩ := hw
  refine xb_newo (C := R_Instance) (T := F_Instance) (N := 8) hx hb 10 hts fin_Instance t_Instance t_Instance_ok hown (hts _ m_4febb130) (hts _ m_542514b3) (hts _ m_7a4e907b) hR hS hA (by decide) rfl dg_Instance (show k + 1 ≤ MC by omega) (show n + 8 ≤ MS by omega) (xb_d D_World_make 0 rfl) (fun q1 H hqq1 hR hS => ?_)
  have hw := hw q1 hqq1
  obtain ⟨h2, eh2⟩ : ∃ x : xb_H, x = xb_new h q1 11 0 := ⟨_, rfl⟩
  rw [← eh2] at hR
  have hw := hw h2 eh2
  have hE : xb_ext h0 h2 := by rw [eh2]; exact hE.new _ _ hqq1
  have hk3 : xb_k h2 q1 = 11 := by rw [eh2]; exact xb_new_k _ _ _ _
  refine lv_dup hx hb (xb_d D_World_make 1 rfl) rfl ?_
  refine lv_aload_n hx hb (xb_d D_World_make 2 rfl) rfl (lv_at hl 0 rfl) ?_
  obtain ⟨hk4, hw⟩ := hw
  refine xb_getI (C := R_World) (T := F_World) (N := 16) hx hb 6 1 hts fin_World hown hR hk4 (by decide) rfl (by decide) rfl (hts _ m_a27121bd) (fun _ h9 => h9) (xb_d D_World_make 3 rfl) ?_
  refine lv_aload_n hx hb (xb_d D_World_make 4 rfl) rfl (lv_at hl 1 rfl) ?_
  refine lv_aload_n hx hb (xb_d D_World_make 5 rfl) rfl (lv_at hl 0 rfl) ?_
  refine xb_call (D := D) (A := A) (σ := σ) (h := h2) (d := 3) (mc := (bc - 1)) (ms := (bs - 8)) (maxL := 4) (rest := [.ref q1]) (av := [.ref q1, .int (xb_i h2 x0 1), .ref x1, .ref x0]) (fun T hT X => xt_invI X hx hown rfl (hts _ m_9684ee69) (hts _ m_fe0c4d66) (hts _ m_0de684f8) nm_Instance_init (g := F0 m 10 ls [.ref x0, .ref x1, .int (xb_i h2 x0 1), .ref q1, .ref q1]) rfl (b := q1) (argsL := [.int (xb_i h2 x0 1), .ref x1, .ref x0]) (rest := [.ref q1]) rfl rfl (by rw [hb]; exact (xb_d D_World_make 6 rfl))) (ok_Instance_init l hfl D A σ q1 (xb_i h2 x0 1) x1 x0 h2 (bc - 1) (bs - 8) _ hw) (hml.trans hl.1.symm) (by rw [hb]; exact (xb_d D_World_make 6 rfl)) (Nat.le_of_ble_eq_true rfl) (Nat.le_of_ble_eq_true rfl) (Nat.le_of_ble_eq_true rfl) (show (k + 1) + (bc - 1) ≤ MC by omega) (show (n + 8) + (bs - 8) ≤ MS by omega) (xt_w1 hB.1 m_0de684f8) (xt_cdOf hB.1 m_0de684f8) (hts _ m_7a4e907b) hB hR hS hA (fun vv h5 bc6 bs6 kk6 nn6 H locs hk6 hn6 hq hEh5 hR hS => ?_) (fun XX ax h5 bc6 bs6 kk6 nn6 H locs hk6 hn6 hq hEh5 hex hR hS => ?_)
  · obtain ⟨rfl, hw⟩ := hq
    have hw := hw hEh5
    have hE := hE.tr hEh5
    refine W.eq (g2 := F0 m 13 ls [.ref q1]) rfl ?_
    refine lv_astore_n hx hb (xb_d D_World_make 7 rfl) rfl hl (by decide) rfl (fun ls hl => ?_)
    have hl : lv_has ls 4 [(2, .ref q1), (0, .ref x0), (1, .ref x1)] := hl
    refine lv_aload_n hx hb (xb_d D_World_make 8 rfl) rfl (lv_at hl 1 rfl) ?_
    have hk4 : xb_k h5 x0 = 7 := hEh5.k hk4
    refine xb_getP (C := R_World) (T := F_World) (N := 16) hx hb 6 0 hts fin_World hown hR hk4 (by decide) rfl (by decide) rfl (hts _ m_7dbedc06) (fun _ h9 => h9) (xb_d D_World_make 9 rfl) ?_
    obtain ⟨b7, eb7, hw⟩ := hw
    refine xb_some eb7 ?_
    refine lv_aload_n hx hb (xb_d D_World_make 10 rfl) rfl (lv_at hl 1 rfl) ?_
    refine xb_getI (C := R_World) (T := F_World) (N := 16) hx hb 6 1 hts fin_World hown hR hk4 (by decide) rfl (by decide) rfl (hts _ m_a27121bd) (fun _ h9 => h9) (xb_d D_World_make 11 rfl) ?_
    refine lv_aload_n hx hb (xb_d D_World_make 12 rfl) rfl (lv_at hl 0 rfl) ?_
    obtain ⟨hk8, hw⟩ := hw
    obtain ⟨hi9, hw⟩ := hw
    have hk3 : xb_k h5 q1 = 11 := hEh5.k hk3
    refine xb_aast105 hx hb hR hS hk8 hk3 hi9 (xb_d D_World_make 13 rfl) (fun H locs hR hS => ?_)
    obtain ⟨h10, eh10⟩ : ∃ x : xb_H, x = xb_P h5 b7 (Int32.toNatClampNeg (xb_i h5 x0 1)) (some q1) := ⟨_, rfl⟩
    rw [← eh10] at hR
    have hw := hw h10 eh10
    have hE : xb_ext h0 h10 := by rw [eh10]; exact hE
    refine lv_aload_n hx hb (xb_d D_World_make 14 rfl) rfl (lv_at hl 1 rfl) ?_
    refine lv_dup hx hb (xb_d D_World_make 15 rfl) rfl ?_
    have hk4 : xb_k h10 x0 = 7 := by rw [eh10]; exact hk4
    refine xb_getI (C := R_World) (T := F_World) (N := 16) hx hb 6 1 hts fin_World hown hR hk4 (by decide) rfl (by decide) rfl (hts _ m_a27121bd) (fun _ h9 => h9) (xb_d D_World_make 16 rfl) ?_
    refine lv_iconst (v := 1) hx hb (xb_d D_World_make 17 rfl) (by decide) ?_
    refine lv_iadd hx hb (xb_d D_World_make 18 rfl) ?_
    refine xb_putI (C := R_World) (T := F_World) (N := 16) (ty := .int) (x := ((xb_i h10 x0 1) + 1)) hx hb 6 1 hts fin_World t_World t_World_ok n_World hown hR hS hk4 (by decide) rfl (by decide) rfl (hts _ m_a27121bd) (fun _ h9 => h9) rfl (by decide +kernel) rfl rfl (xb_d D_World_make 19 rfl) (fun H locs hR hS => ?_)
    obtain ⟨h11, eh11⟩ : ∃ x : xb_H, x = xb_I h10 x0 1 ((xb_i h10 x0 1) + 1) := ⟨_, rfl⟩
    rw [← eh11] at hR
    have hw := hw h11 eh11
    have hE : xb_ext h0 h11 := by rw [eh11]; exact hE
    refine lv_aload_n hx hb (xb_d D_World_make 20 rfl) rfl (lv_at hl 1 rfl) ?_
    have hk4 : xb_k h11 x0 = 7 := by rw [eh11]; exact hk4
    refine xb_getP (C := R_World) (T := F_World) (N := 16) hx hb 6 2 hts fin_World hown hR hk4 (by decide) rfl (by decide) rfl (hts _ m_2d976539) (fun _ h9 => h9) (xb_d D_World_make 21 rfl) ?_
    obtain ⟨b12, eb12, hw⟩ := hw
    refine xb_some eb12 ?_
    refine lv_aload_n hx hb (xb_d D_World_make 22 rfl) rfl (lv_at hl 2 rfl) ?_
    obtain ⟨hk13, hw⟩ := hw
    refine xb_getP (C := R_StackModule) (T := F_StackModule) (N := 19) hx hb 2 4 hts fin_StackModule hown hR hk13 (by decide) rfl (by decide) rfl (hts _ m_a2ee8d3c) (fun _ h9 => h9) (xb_d D_World_make 23 rfl) ?_
    obtain ⟨b14, eb14, hw⟩ := hw
    refine xb_some eb14 ?_
    obtain ⟨hk15, hw⟩ := hw
    refine xb_call0 (D := D) (A := A) (σ := σ) (h := h11) (d := 2) (maxL := 1) (rest := [.ref b12]) (av := [.ref b14]) (fun T hT X => by obtain ⟨cb9, ra9, rb9, rc9⟩ := xb_recv (ci := 1) hR rfl hk15 (by decide); exact xt_invV X hx hown (hts _ m_5b8308b9) (hts _ m_ded65609) (hts _ m_a4161156) (xt_sigOf (hts _ m_83ba3721)) nm_Row_lines (by rw [hT]; exact ra9) rb9 rc9 (g := F0 m 42 ls [.ref b14, .ref b12]) rfl (argsL := []) (rest := [.ref b12]) rfl rfl (by rw [hb]; exact (xb_d D_World_make 24 rfl))) (ok_Row_lines l hfl D A σ b14 h11 _ hw) (hml.trans hl.1.symm) (by rw [hb]; exact (xb_d D_World_make 24 rfl)) (Nat.le_of_ble_eq_true rfl) (Nat.le_of_ble_eq_true rfl) (Nat.le_of_ble_eq_true rfl) (show ((k + 1) + kk6) ≤ MC by omega) (show ((n + 8) + nn6) ≤ MS by omega) (xt_w1 hB.1 m_83ba3721) (xt_cdOf hB.1 m_83ba3721) (hts _ m_c1bef504) hB hR hS hA (fun vv h16 H locs hq hEh16 hR hS => ?_)
    obtain ⟨r17, rfl, hw⟩ := hq
    have hw := hw hEh16
    have hE := hE.tr hEh16
    refine W.eq (g2 := F0 m 45 ls [.int r17, .ref b12]) rfl ?_
    refine lv_aload_n hx hb (xb_d D_World_make 25 rfl) rfl (lv_at hl 2 rfl) ?_
    have hk13 : xb_k h16 x1 = 3 := hEh16.k hk13
    refine xb_getP (C := R_StackModule) (T := F_StackModule) (N := 19) hx hb 2 14 hts fin_StackModule hown hR hk13 (by decide) rfl (by decide) rfl (hts _ m_64a182b7) (fun _ h9 => h9) (xb_d D_World_make 26 rfl) ?_
    obtain ⟨b18, eb18, hw⟩ := hw
    refine xb_some eb18 ?_
    refine lv_iconst (v := 0) hx hb (xb_d D_World_make 27 rfl) (by decide) ?_
    obtain ⟨hk20, hw⟩ := hw
    obtain ⟨hi19, hw⟩ := hw
    refine xb_iald hx hb hR hk20 hi19 (xb_d D_World_make 28 rfl) ?_
    refine xt_numi (y := (xb_i h16 b18 0)) (congrArg (xb_i h16 b18) (by decide : (0 : Int32).toNatClampNeg = 0)) ?_
    refine lv_isub hx hb (xb_d D_World_make 29 rfl) ?_
    refine lv_aload_n hx hb (xb_d D_World_make 30 rfl) rfl (lv_at hl 0 rfl) ?_
    have hk3 : xb_k h10 q1 = 11 := by rw [eh10]; exact hk3
    have hk3 : xb_k h11 q1 = 11 := by rw [eh11]; exact hk3
    have hk3 : xb_k h16 q1 = 11 := hEh16.k hk3
    refine xb_getI (C := R_Instance) (T := F_Instance) (N := 8) hx hb 10 0 hts fin_Instance hown hR hk3 (by decide) rfl (by decide) rfl (hts _ m_63e71238) (fun _ h9 => h9) (xb_d D_World_make 31 rfl) ?_
    refine lv_i2l hx hb (xb_d D_World_make 32 rfl) rfl ?_
    obtain ⟨hk21, hw⟩ := hw
    refine xb_call (D := D) (A := A) (σ := σ) (h := h16) (d := 4) (mc := bc6) (ms := bs6) (maxL := 4) (rest := []) (av := [.ref b12, .int (r17 - (xb_i h16 b18 0)), .long (Int32.toInt64 (xb_i h16 q1 0))]) (fun T hT X => by obtain ⟨cb9, ra9, rb9, rc9⟩ := xb_recv (ci := 1) hR rfl hk21 (by decide); exact xt_invV X hx hown (hts _ m_45c8cab3) (hts _ m_c1872bd8) (hts _ m_3e031f92) (xt_sigOf (hts _ m_c5b9ceaf)) nm_Row_addMany (by rw [hT]; exact ra9) rb9 rc9 (g := F0 m 57 ls [.long (Int32.toInt64 (xb_i h16 q1 0)), .int (r17 - (xb_i h16 b18 0)), .ref b12]) rfl (argsL := [.int (r17 - (xb_i h16 b18 0)), .long (Int32.toInt64 (xb_i h16 q1 0))]) (rest := []) rfl rfl (by rw [hb]; exact (xb_d D_World_make 33 rfl))) (ok_Row_addMany l hfl D A σ b12 (r17 - (xb_i h16 b18 0)) (Int32.toInt64 (xb_i h16 q1 0)) h16 bc6 bs6 _ hw) (hml.trans hl.1.symm) (by rw [hb]; exact (xb_d D_World_make 33 rfl)) (Nat.le_of_ble_eq_true rfl) (Nat.le_of_ble_eq_true rfl) (Nat.le_of_ble_eq_true rfl) (show ((k + 1) + kk6) + bc6 ≤ MC by omega) (show ((n + 8) + nn6) + bs6 ≤ MS by omega) (xt_w1 hB.1 m_c5b9ceaf) (xt_cdOf hB.1 m_c5b9ceaf) (hts _ m_c1bef504) hB hR hS hA (fun vv h22 bc23 bs23 kk23 nn23 H locs hk23 hn23 hq hEh22 hR hS => ?_) (fun XX ax h22 bc23 bs23 kk23 nn23 H locs hk23 hn23 hq hEh22 hex hR hS => ?_)
    · obtain ⟨rfl, hw⟩ := hq
      have hw := hw hEh22
      have hE := hE.tr hEh22
      refine W.eq (g2 := F0 m 60 ls []) rfl ?_
      refine lv_aload_n hx hb (xb_d D_World_make 34 rfl) rfl (lv_at hl 2 rfl) ?_
      have hk13 : xb_k h22 x1 = 3 := hEh22.k hk13
      refine xb_getP (C := R_StackModule) (T := F_StackModule) (N := 19) hx hb 2 14 hts fin_StackModule hown hR hk13 (by decide) rfl (by decide) rfl (hts _ m_64a182b7) (fun _ h9 => h9) (xb_d D_World_make 35 rfl) ?_
      obtain ⟨b24, eb24, hw⟩ := hw
      refine xb_some eb24 ?_
      refine lv_iconst (v := 3) hx hb (xb_d D_World_make 36 rfl) (by decide) ?_
      obtain ⟨hk26, hw⟩ := hw
      obtain ⟨hi25, hw⟩ := hw
      refine xb_iald hx hb hR hk26 hi25 (xb_d D_World_make 37 rfl) ?_
      refine xt_numi (y := (xb_i h22 b24 3)) (congrArg (xb_i h22 b24) (by decide : (3 : Int32).toNatClampNeg = 3)) ?_
      obtain ⟨v27, ev27⟩ : ∃ x : Int32, x = (xb_i h22 b24 3) := ⟨_, rfl⟩
      have hw := hw v27 ev27
      refine xt_numi (y := v27) ev27.symm ?_
      refine lv_istore_n hx hb (xb_d D_World_make 38 rfl) rfl hl (by decide) rfl (fun ls hl => ?_)
      have hl : lv_has ls 4 [(3, .int v27), (2, .ref q1), (0, .ref x0), (1, .ref x1)] := hl
      obtain ⟨n8, hw⟩ := hw
      exact am_World_make_L67 l hfl D A σ MC MS h0 Qr n8 x0 x1 q1 v27 h22 bc23 bs23 hw p e s m args below meth c hC H locs ls (((k + 1) + kk6) + kk23) (((n + 8) + nn6) + nn23) hE (lv_sub hl [2, 3, 1, 0] rfl) hR hS (by omega) (by omega)
    · exact False.elim hq
  · exact False.elim hq

theorem m_ab3a3b5f : (.methodLink "StackHostLaw" 44 y_H_find : Cond) ∈ xt_tbl := xt_in (xt_t7 (List.mem_of_getElem? (i := 141) (by decide +kernel))) (by decide +kernel)
theorem m_58b262be : (.instanceMethod y_H_find : Cond) ∈ xt_tbl := xt_in (xt_t7 (List.mem_of_getElem? (i := 142) (by decide +kernel))) (by decide +kernel)
theorem m_aa607e03 : (.selects "StackHost" y_H_find y_H_find : Cond) ∈ xt_tbl := xt_in (xt_t7 (List.mem_of_getElem? (i := 143) (by decide +kernel))) (by decide +kernel)
theorem m_58733faf : (.code y_H_find b_H_find 4 (some .int) : Cond) ∈ xt_tbl := xt_in (xt_t7 (List.mem_of_getElem? (i := 144) (by decide +kernel))) (by decide +kernel)
theorem nm_H_find : xt_nm y_H_find 1 := ⟨by decide +kernel, by decide +kernel⟩
set_option maxRecDepth 100000 in
def T_Law_find : List (Nat × Instr × Nat) := [(0, .aload_n 2, 1), (1, .iconst 0, 1), (2, .aload_n 0, 1), (3, .iload_n 1, 1), (4, .invokevirtual 44, 3), (7, .i2l, 1), (8, .lastore, 1), (9, .goto 6, 3), (12, .astore_n 3, 1), (13, .iconst 1, 1), (14, .ireturn, 1), (15, .iconst 0, 1), (16, .ireturn, 1)]
theorem D_Law_find : ∀ q ∈ T_Law_find, decode b_Law_find q.1 = .ok (q.2.1, q.2.2) := by decide +kernel

set_option maxHeartbeats 4000000 in
set_option maxRecDepth 100000 in
theorem ok_Law_find (l : Launch) (hfl : l.flags = pinnedFlags ++ [noTraceFlag]) (D : va_G) (A : Nat → Prop) (σ : Nat) (x0 : Nat) (x1 : Int32) (x2 : Nat) (h : xb_H) (bc : Nat) (bs : Nat) (Qr : Int32 → xb_H → Nat → Nat → Prop) (hw : w_Law_find x0 x1 x2 h bc bs Qr) : xb_Met l y_Law_find [.codeWith y_Law_find b_Law_find 4 (some .int) [(0, 9, 12, 29)]] (xb_rm 6 bc bs) (xb_Pc D A σ h [.ref x0, .int x1, .ref x2]) (xb_Qc D A h bc bs (fun v h bc bs => ∃ r, v = some (.int r) ∧ Qr r h bc bs) (fun _ _ _ _ => False)) A := by
  refine xb_ofAmH (cc := b_Law_find) (by decide) (Nat.le_of_ble_eq_true rfl) ?_
  unfold w_Law_find at hw
  show xb_am l D A σ 6 bc bs h (fun v h bc bs => ∃ r, v = some (.int r) ∧ Qr r h bc bs) (fun _ _ _ _ => False) y_Law_find.cls y_Law_find.name b_Law_find 4 (tableOf [(0, 9, 12, 29)]) (some .int) 0 [(0, .ref x0), (1, .int x1), (2, .ref x2)] [] h bc bs
  obtain ⟨MC, hMC⟩ : ∃ x, x = bc := ⟨_, rfl⟩
  obtain ⟨MS, hMS⟩ : ∃ x, x = bs := ⟨_, rfl⟩
  rw [show xb_am l D A σ 6 bc bs = xb_am l D A σ 6 MC MS by rw [hMC, hMS]]
  obtain ⟨h0, hh0⟩ : ∃ x, x = h := ⟨_, rfl⟩
  rw [show xb_am l D A σ 6 MC MS h = xb_am l D A σ 6 MC MS h0 by rw [hh0]]
  intro p e s m args below meth c hC H locs ls k n hE hl hR hS hk hn
  obtain ⟨hx, hb, hown, hlocks, htab, hml, hr, hB, hA, hnm⟩ := id hC
  have hts := hB.1.1.at args
  refine lv_aload_n hx hb (xb_d D_Law_find 0 rfl) rfl (lv_at hl 2 rfl) ?_
  refine lv_iconst (v := 0) hx hb (xb_d D_Law_find 1 rfl) (by decide) ?_
  refine lv_aload_n hx hb (xb_d D_Law_find 2 rfl) rfl (lv_at hl 0 rfl) ?_
  refine lv_iload_n hx hb (xb_d D_Law_find 3 rfl) rfl (lv_at hl 1 rfl) ?_
  obtain ⟨hk1, hw⟩ := hw
  refine xb_call (D := D) (A := A) (σ := σ) (h := h) (d := 5) (mc := bc) (ms := bs) (maxL := 4) (rest := [.int 0, .ref x2]) (av := [.ref x0, .int x1]) (fun T hT X => by obtain ⟨cb9, ra9, rb9, rc9⟩ := xb_recv (ci := 0) hR rfl hk1 (by decide); exact xt_invV X hx hown (hts _ m_ab3a3b5f) (hts _ m_58b262be) (hts _ m_aa607e03) (xt_sigOf (hts _ m_58733faf)) nm_H_find (by rw [hT]; exact ra9) rb9 rc9 (g := F0 m 4 ls [.int x1, .ref x0, .int 0, .ref x2]) rfl (argsL := [.int x1]) (rest := [.int 0, .ref x2]) rfl rfl (by rw [hb]; exact (xb_d D_Law_find 4 rfl))) (ok_H_find l hfl D A σ x0 x1 h bc bs _ _ hw) (hml.trans hl.1.symm) (by rw [hb]; exact (xb_d D_Law_find 4 rfl)) (Nat.le_of_ble_eq_true rfl) (Nat.le_of_ble_eq_true rfl) (Nat.le_of_ble_eq_true rfl) (show k + bc ≤ MC by omega) (show n + bs ≤ MS by omega) (xt_w1 hB.1 m_58733faf) (xt_cdOf hB.1 m_58733faf) (hts _ m_ba0734f5) hB hR hS hA (fun vv h2 bc3 bs3 kk3 nn3 H locs hk3 hn3 hq hEh2 hR hS => ?_) (fun XX ax h2 bc3 bs3 kk3 nn3 H locs hk3 hn3 hq hEh2 hex hR hS => ?_)
  · obtain ⟨r3, rfl, hw⟩ := hq
    have hw := hw hEh2
    have hE := hE.tr hEh2
    refine W.eq (g2 := F0 m 7 ls [.int r3, .int 0, .ref x2]) rfl ?_
    refine lv_i2l hx hb (xb_d D_Law_find 5 rfl) rfl ?_
    obtain ⟨hk4, hw⟩ := hw
    obtain ⟨hi5, hw⟩ := hw
    refine xb_last hx hb hR hS hk4 hi5 (xb_d D_Law_find 6 rfl) (fun H locs hR hS => ?_)
    obtain ⟨h6, eh6⟩ : ∃ x : xb_H, x = xb_L h2 x2 (Int32.toNatClampNeg 0) (Int32.toInt64 r3) := ⟨_, rfl⟩
    rw [← eh6] at hR
    have hw := hw h6 eh6
    have hE : xb_ext h0 h6 := by rw [eh6]; exact hE
    refine lv_goto (tgt := 15) hx hb (xb_d D_Law_find 7 rfl) rfl ?_
    refine lv_iconst (v := 0) hx hb (xb_d D_Law_find 11 rfl) (by decide) ?_
    exact xb_iret bc3 bs3 hx hb hr hlocks (show (k + kk3) + bc3 ≤ MC by omega) (show (n + nn3) + bs3 ≤ MS by omega) hE hR hS (xb_d D_Law_find 12 rfl) hw
  · have hw := hq hEh2 ax
    have hE := hE.tr hEh2
    obtain ⟨rfl, hw⟩ := hw
    refine xt_catch (own := "StackHostLaw") (name := "java/lang/IndexOutOfBoundsException") (Xn := "java/lang/IndexOutOfBoundsException") hown ⟨0, 9, 12, 29⟩ [] htab (by decide) (by decide) (hts _ m_17a0b3c6) (hts _ m_b0d3d118) hex ?_
    refine W.eq (g2 := F0 m 12 ls [.ref ax]) rfl ?_
    refine lv_astore_n hx hb (xb_d D_Law_find 8 rfl) rfl hl (by decide) rfl (fun ls hl => ?_)
    have hl : lv_has ls 4 [(3, .ref ax), (0, .ref x0), (1, .int x1), (2, .ref x2)] := hl
    refine lv_iconst (v := 1) hx hb (xb_d D_Law_find 9 rfl) (by decide) ?_
    exact xb_iret bc3 bs3 hx hb hr hlocks (show (k + kk3) + bc3 ≤ MC by omega) (show (n + nn3) + bs3 ≤ MS by omega) hE hR hS (xb_d D_Law_find 10 rfl) hw

theorem m_95c15ed9 : (.methodLink "StackHostLaw" 55 y_H_invoke : Cond) ∈ xt_tbl := xt_in (xt_t7 (List.mem_of_getElem? (i := 174) (by decide +kernel))) (by decide +kernel)
theorem m_1d252e68 : (.instanceMethod y_H_invoke : Cond) ∈ xt_tbl := xt_in (xt_t7 (List.mem_of_getElem? (i := 175) (by decide +kernel))) (by decide +kernel)
theorem m_bc13a8cb : (.selects "StackHost" y_H_invoke y_H_invoke : Cond) ∈ xt_tbl := xt_in (xt_t7 (List.mem_of_getElem? (i := 176) (by decide +kernel))) (by decide +kernel)
theorem m_f05797b2 : (.code y_H_invoke b_H_invoke 6 none : Cond) ∈ xt_tbl := xt_in (xt_t7 (List.mem_of_getElem? (i := 177) (by decide +kernel))) (by decide +kernel)
theorem nm_H_invoke : xt_nm y_H_invoke 2 := ⟨by decide +kernel, by decide +kernel⟩
set_option maxRecDepth 100000 in
def T_Law_invoke : List (Nat × Instr × Nat) := [(0, .aload_n 0, 1), (1, .iload_n 1, 1), (2, .iload_n 2, 1), (3, .invokevirtual 55, 3), (6, .goto 12, 3), (9, .astore_n 3, 1), (10, .iconst 1, 1), (11, .ireturn, 1), (12, .astore_n 3, 1), (13, .iconst 2, 1), (14, .ireturn, 1), (15, .astore_n 3, 1), (16, .iconst 3, 1), (17, .ireturn, 1), (18, .iconst 0, 1), (19, .ireturn, 1)]
theorem D_Law_invoke : ∀ q ∈ T_Law_invoke, decode b_Law_invoke q.1 = .ok (q.2.1, q.2.2) := by decide +kernel

set_option maxHeartbeats 4000000 in
set_option maxRecDepth 100000 in
theorem ok_Law_invoke (l : Launch) (hfl : l.flags = pinnedFlags ++ [noTraceFlag]) (D : va_G) (A : Nat → Prop) (σ : Nat) (x0 : Nat) (x1 : Int32) (x2 : Int32) (h : xb_H) (bc : Nat) (bs : Nat) (Qr : Int32 → xb_H → Nat → Nat → Prop) (hw : w_Law_invoke x0 x1 x2 h bc bs Qr) : xb_Met l y_Law_invoke [.codeWith y_Law_invoke b_Law_invoke 4 (some .int) [(0, 6, 9, 29), (0, 6, 12, 19), (0, 6, 15, 13)]] (xb_rm 6 bc bs) (xb_Pc D A σ h [.ref x0, .int x1, .int x2]) (xb_Qc D A h bc bs (fun v h bc bs => ∃ r, v = some (.int r) ∧ Qr r h bc bs) (fun _ _ _ _ => False)) A := by
  refine xb_ofAmH (cc := b_Law_invoke) (by decide) (Nat.le_of_ble_eq_true rfl) ?_
  unfold w_Law_invoke at hw
  show xb_am l D A σ 6 bc bs h (fun v h bc bs => ∃ r, v = some (.int r) ∧ Qr r h bc bs) (fun _ _ _ _ => False) y_Law_invoke.cls y_Law_invoke.name b_Law_invoke 4 (tableOf [(0, 6, 9, 29), (0, 6, 12, 19), (0, 6, 15, 13)]) (some .int) 0 [(0, .ref x0), (1, .int x1), (2, .int x2)] [] h bc bs
  obtain ⟨MC, hMC⟩ : ∃ x, x = bc := ⟨_, rfl⟩
  obtain ⟨MS, hMS⟩ : ∃ x, x = bs := ⟨_, rfl⟩
  rw [show xb_am l D A σ 6 bc bs = xb_am l D A σ 6 MC MS by rw [hMC, hMS]]
  obtain ⟨h0, hh0⟩ : ∃ x, x = h := ⟨_, rfl⟩
  rw [show xb_am l D A σ 6 MC MS h = xb_am l D A σ 6 MC MS h0 by rw [hh0]]
  intro p e s m args below meth c hC H locs ls k n hE hl hR hS hk hn
  obtain ⟨hx, hb, hown, hlocks, htab, hml, hr, hB, hA, hnm⟩ := id hC
  have hts := hB.1.1.at args
  refine lv_aload_n hx hb (xb_d D_Law_invoke 0 rfl) rfl (lv_at hl 0 rfl) ?_
  refine lv_iload_n hx hb (xb_d D_Law_invoke 1 rfl) rfl (lv_at hl 1 rfl) ?_
  refine lv_iload_n hx hb (xb_d D_Law_invoke 2 rfl) rfl (lv_at hl 2 rfl) ?_
  obtain ⟨hk1, hw⟩ := hw
  refine xb_call (D := D) (A := A) (σ := σ) (h := h) (d := 5) (mc := bc) (ms := bs) (maxL := 6) (rest := []) (av := [.ref x0, .int x1, .int x2]) (fun T hT X => by obtain ⟨cb9, ra9, rb9, rc9⟩ := xb_recv (ci := 0) hR rfl hk1 (by decide); exact xt_invV X hx hown (hts _ m_95c15ed9) (hts _ m_1d252e68) (hts _ m_bc13a8cb) (xt_sigOf (hts _ m_f05797b2)) nm_H_invoke (by rw [hT]; exact ra9) rb9 rc9 (g := F0 m 3 ls [.int x2, .int x1, .ref x0]) rfl (argsL := [.int x1, .int x2]) (rest := []) rfl rfl (by rw [hb]; exact (xb_d D_Law_invoke 3 rfl))) (ok_H_invoke l hfl D A σ x0 x1 x2 h bc bs _ _ hw) (hml.trans hl.1.symm) (by rw [hb]; exact (xb_d D_Law_invoke 3 rfl)) (Nat.le_of_ble_eq_true rfl) (Nat.le_of_ble_eq_true rfl) (Nat.le_of_ble_eq_true rfl) (show k + bc ≤ MC by omega) (show n + bs ≤ MS by omega) (xt_w1 hB.1 m_f05797b2) (xt_cdOf hB.1 m_f05797b2) (hts _ m_ba0734f5) hB hR hS hA (fun vv h2 bc3 bs3 kk3 nn3 H locs hk3 hn3 hq hEh2 hR hS => ?_) (fun XX ax h2 bc3 bs3 kk3 nn3 H locs hk3 hn3 hq hEh2 hex hR hS => ?_)
  · obtain ⟨rfl, hw⟩ := hq
    have hw := hw hEh2
    have hE := hE.tr hEh2
    refine W.eq (g2 := F0 m 6 ls []) rfl ?_
    refine lv_goto (tgt := 18) hx hb (xb_d D_Law_invoke 4 rfl) rfl ?_
    refine lv_iconst (v := 0) hx hb (xb_d D_Law_invoke 14 rfl) (by decide) ?_
    exact xb_iret bc3 bs3 hx hb hr hlocks (show (k + kk3) + bc3 ≤ MC by omega) (show (n + nn3) + bs3 ≤ MS by omega) hE hR hS (xb_d D_Law_invoke 15 rfl) hw
  · have hw := hq hEh2 ax
    have hE := hE.tr hEh2
    rcases hw with ⟨rfl, hw⟩ | ⟨rfl, hw⟩ | ⟨rfl, hw⟩
    · refine xt_catch2 (own := "StackHostLaw") (name1 := "java/lang/IndexOutOfBoundsException") (name := "java/lang/IllegalArgumentException") (Xn := "java/lang/IllegalArgumentException") hown ⟨0, 6, 9, 29⟩ ⟨0, 6, 12, 19⟩ [⟨0, 6, 15, 13⟩] htab (by decide) (by decide) (by decide) (by decide) (hts _ m_17a0b3c6) (xb_nc hB "java/lang/IllegalArgumentException" "java/lang/IndexOutOfBoundsException" (by decide +kernel)) (hts _ m_3beed69a) (hts _ m_b3980edb) hex ?_
      refine W.eq (g2 := F0 m 12 ls [.ref ax]) rfl ?_
      refine lv_astore_n hx hb (xb_d D_Law_invoke 8 rfl) rfl hl (by decide) rfl (fun ls hl => ?_)
      have hl : lv_has ls 4 [(3, .ref ax), (0, .ref x0), (1, .int x1), (2, .int x2)] := hl
      refine lv_iconst (v := 2) hx hb (xb_d D_Law_invoke 9 rfl) (by decide) ?_
      exact xb_iret bc3 bs3 hx hb hr hlocks (show (k + kk3) + bc3 ≤ MC by omega) (show (n + nn3) + bs3 ≤ MS by omega) hE hR hS (xb_d D_Law_invoke 10 rfl) hw
    · refine xb_catch3 (own := "StackHostLaw") (name1 := "java/lang/IndexOutOfBoundsException") (name2 := "java/lang/IllegalArgumentException") (name := "java/lang/IllegalStateException") (Xn := "java/lang/IllegalStateException") hown ⟨0, 6, 9, 29⟩ ⟨0, 6, 12, 19⟩ ⟨0, 6, 15, 13⟩ [] htab (by decide) (by decide) (by decide) (by decide) (by decide) (by decide) (hts _ m_17a0b3c6) (xb_nc hB "java/lang/IllegalStateException" "java/lang/IndexOutOfBoundsException" (by decide +kernel)) (hts _ m_3beed69a) (xb_nc hB "java/lang/IllegalStateException" "java/lang/IllegalArgumentException" (by decide +kernel)) (hts _ m_cd065aea) (hts _ m_a4ef0ec8) hex ?_
      refine W.eq (g2 := F0 m 15 ls [.ref ax]) rfl ?_
      refine lv_astore_n hx hb (xb_d D_Law_invoke 11 rfl) rfl hl (by decide) rfl (fun ls hl => ?_)
      have hl : lv_has ls 4 [(3, .ref ax), (0, .ref x0), (1, .int x1), (2, .int x2)] := hl
      refine lv_iconst (v := 3) hx hb (xb_d D_Law_invoke 12 rfl) (by decide) ?_
      exact xb_iret bc3 bs3 hx hb hr hlocks (show (k + kk3) + bc3 ≤ MC by omega) (show (n + nn3) + bs3 ≤ MS by omega) hE hR hS (xb_d D_Law_invoke 13 rfl) hw
    · refine xt_catch (own := "StackHostLaw") (name := "java/lang/IndexOutOfBoundsException") (Xn := "java/lang/IndexOutOfBoundsException") hown ⟨0, 6, 9, 29⟩ [⟨0, 6, 12, 19⟩, ⟨0, 6, 15, 13⟩] htab (by decide) (by decide) (hts _ m_17a0b3c6) (hts _ m_b0d3d118) hex ?_
      refine W.eq (g2 := F0 m 9 ls [.ref ax]) rfl ?_
      refine lv_astore_n hx hb (xb_d D_Law_invoke 5 rfl) rfl hl (by decide) rfl (fun ls hl => ?_)
      have hl : lv_has ls 4 [(3, .ref ax), (0, .ref x0), (1, .int x1), (2, .int x2)] := hl
      refine lv_iconst (v := 1) hx hb (xb_d D_Law_invoke 6 rfl) (by decide) ?_
      exact xb_iret bc3 bs3 hx hb hr hlocks (show (k + kk3) + bc3 ≤ MC by omega) (show (n + nn3) + bs3 ≤ MS by omega) hE hR hS (xb_d D_Law_invoke 7 rfl) hw

theorem m_c14a98a4 : (.methodLink "StackHostLaw" 51 y_H_push : Cond) ∈ xt_tbl := xt_in (xt_t7 (List.mem_of_getElem? (i := 165) (by decide +kernel))) (by decide +kernel)
theorem m_02f4810d : (.instanceMethod y_H_push : Cond) ∈ xt_tbl := xt_in (xt_t7 (List.mem_of_getElem? (i := 166) (by decide +kernel))) (by decide +kernel)
theorem m_3f463752 : (.selects "StackHost" y_H_push y_H_push : Cond) ∈ xt_tbl := xt_in (xt_t7 (List.mem_of_getElem? (i := 167) (by decide +kernel))) (by decide +kernel)
theorem m_38c6d04c : (.code y_H_push b_H_push 3 (some .int) : Cond) ∈ xt_tbl := xt_in (xt_t7 (List.mem_of_getElem? (i := 168) (by decide +kernel))) (by decide +kernel)
theorem nm_H_push : xt_nm y_H_push 1 := ⟨by decide +kernel, by decide +kernel⟩
set_option maxRecDepth 100000 in
def T_Law_push : List (Nat × Instr × Nat) := [(0, .aload_n 3, 1), (1, .iconst 0, 1), (2, .aload_n 0, 1), (3, .lload_n 1, 1), (4, .invokevirtual 51, 3), (7, .i2l, 1), (8, .lastore, 1), (9, .goto 7, 3), (12, .astore 4, 2), (14, .iconst 1, 1), (15, .ireturn, 1), (16, .iconst 0, 1), (17, .ireturn, 1)]
theorem D_Law_push : ∀ q ∈ T_Law_push, decode b_Law_push q.1 = .ok (q.2.1, q.2.2) := by decide +kernel

set_option maxHeartbeats 4000000 in
set_option maxRecDepth 100000 in
theorem ok_Law_push (l : Launch) (hfl : l.flags = pinnedFlags ++ [noTraceFlag]) (D : va_G) (A : Nat → Prop) (σ : Nat) (x0 : Nat) (x1 : Int64) (x3 : Nat) (h : xb_H) (bc : Nat) (bs : Nat) (Qr : Int32 → xb_H → Nat → Nat → Prop) (hw : w_Law_push x0 x1 x3 h bc bs Qr) : xb_Met l y_Law_push [.codeWith y_Law_push b_Law_push 5 (some .int) [(0, 9, 12, 13)]] (xb_rm 6 bc bs) (xb_Pc D A σ h [.ref x0, .long x1, .ref x3]) (xb_Qc D A h bc bs (fun v h bc bs => ∃ r, v = some (.int r) ∧ Qr r h bc bs) (fun _ _ _ _ => False)) A := by
  refine xb_ofAmH (cc := b_Law_push) (by decide) (Nat.le_of_ble_eq_true rfl) ?_
  unfold w_Law_push at hw
  show xb_am l D A σ 6 bc bs h (fun v h bc bs => ∃ r, v = some (.int r) ∧ Qr r h bc bs) (fun _ _ _ _ => False) y_Law_push.cls y_Law_push.name b_Law_push 5 (tableOf [(0, 9, 12, 13)]) (some .int) 0 [(0, .ref x0), (1, .long x1), (3, .ref x3)] [] h bc bs
  obtain ⟨MC, hMC⟩ : ∃ x, x = bc := ⟨_, rfl⟩
  obtain ⟨MS, hMS⟩ : ∃ x, x = bs := ⟨_, rfl⟩
  rw [show xb_am l D A σ 6 bc bs = xb_am l D A σ 6 MC MS by rw [hMC, hMS]]
  obtain ⟨h0, hh0⟩ : ∃ x, x = h := ⟨_, rfl⟩
  rw [show xb_am l D A σ 6 MC MS h = xb_am l D A σ 6 MC MS h0 by rw [hh0]]
  intro p e s m args below meth c hC H locs ls k n hE hl hR hS hk hn
  obtain ⟨hx, hb, hown, hlocks, htab, hml, hr, hB, hA, hnm⟩ := id hC
  have hts := hB.1.1.at args
  refine lv_aload_n hx hb (xb_d D_Law_push 0 rfl) rfl (lv_at hl 2 rfl) ?_
  refine lv_iconst (v := 0) hx hb (xb_d D_Law_push 1 rfl) (by decide) ?_
  refine lv_aload_n hx hb (xb_d D_Law_push 2 rfl) rfl (lv_at hl 0 rfl) ?_
  refine lv_lload_n hx hb (xb_d D_Law_push 3 rfl) rfl (lv_at hl 1 rfl) ?_
  obtain ⟨hk1, hw⟩ := hw
  refine xb_call (D := D) (A := A) (σ := σ) (h := h) (d := 5) (mc := bc) (ms := bs) (maxL := 3) (rest := [.int 0, .ref x3]) (av := [.ref x0, .long x1]) (fun T hT X => by obtain ⟨cb9, ra9, rb9, rc9⟩ := xb_recv (ci := 0) hR rfl hk1 (by decide); exact xt_invV X hx hown (hts _ m_c14a98a4) (hts _ m_02f4810d) (hts _ m_3f463752) (xt_sigOf (hts _ m_38c6d04c)) nm_H_push (by rw [hT]; exact ra9) rb9 rc9 (g := F0 m 4 ls [.long x1, .ref x0, .int 0, .ref x3]) rfl (argsL := [.long x1]) (rest := [.int 0, .ref x3]) rfl rfl (by rw [hb]; exact (xb_d D_Law_push 4 rfl))) (ok_H_push l hfl D A σ x0 x1 h bc bs _ _ hw) (hml.trans hl.1.symm) (by rw [hb]; exact (xb_d D_Law_push 4 rfl)) (Nat.le_of_ble_eq_true rfl) (Nat.le_of_ble_eq_true rfl) (Nat.le_of_ble_eq_true rfl) (show k + bc ≤ MC by omega) (show n + bs ≤ MS by omega) (xt_w1 hB.1 m_38c6d04c) (xt_cdOf hB.1 m_38c6d04c) (hts _ m_ba0734f5) hB hR hS hA (fun vv h2 bc3 bs3 kk3 nn3 H locs hk3 hn3 hq hEh2 hR hS => ?_) (fun XX ax h2 bc3 bs3 kk3 nn3 H locs hk3 hn3 hq hEh2 hex hR hS => ?_)
  · obtain ⟨r3, rfl, hw⟩ := hq
    have hw := hw hEh2
    have hE := hE.tr hEh2
    refine W.eq (g2 := F0 m 7 ls [.int r3, .int 0, .ref x3]) rfl ?_
    refine lv_i2l hx hb (xb_d D_Law_push 5 rfl) rfl ?_
    obtain ⟨hk4, hw⟩ := hw
    obtain ⟨hi5, hw⟩ := hw
    refine xb_last hx hb hR hS hk4 hi5 (xb_d D_Law_push 6 rfl) (fun H locs hR hS => ?_)
    obtain ⟨h6, eh6⟩ : ∃ x : xb_H, x = xb_L h2 x3 (Int32.toNatClampNeg 0) (Int32.toInt64 r3) := ⟨_, rfl⟩
    rw [← eh6] at hR
    have hw := hw h6 eh6
    have hE : xb_ext h0 h6 := by rw [eh6]; exact hE
    refine lv_goto (tgt := 16) hx hb (xb_d D_Law_push 7 rfl) rfl ?_
    refine lv_iconst (v := 0) hx hb (xb_d D_Law_push 11 rfl) (by decide) ?_
    exact xb_iret bc3 bs3 hx hb hr hlocks (show (k + kk3) + bc3 ≤ MC by omega) (show (n + nn3) + bs3 ≤ MS by omega) hE hR hS (xb_d D_Law_push 12 rfl) hw
  · have hw := hq hEh2 ax
    have hE := hE.tr hEh2
    obtain ⟨rfl, hw⟩ := hw
    refine xt_catch (own := "StackHostLaw") (name := "java/lang/IllegalStateException") (Xn := "java/lang/IllegalStateException") hown ⟨0, 9, 12, 13⟩ [] htab (by decide) (by decide) (hts _ m_cd065aea) (hts _ m_a4ef0ec8) hex ?_
    refine W.eq (g2 := F0 m 12 ls [.ref ax]) rfl ?_
    refine lv_astore hx hb (xb_d D_Law_push 8 rfl) hl (by decide) rfl (fun ls hl => ?_)
    have hl : lv_has ls 5 [(4, .ref ax), (0, .ref x0), (1, .long x1), (3, .ref x3)] := hl
    refine lv_iconst (v := 1) hx hb (xb_d D_Law_push 9 rfl) (by decide) ?_
    exact xb_iret bc3 bs3 hx hb hr hlocks (show (k + kk3) + bc3 ≤ MC by omega) (show (n + nn3) + bs3 ≤ MS by omega) hE hR hS (xb_d D_Law_push 10 rfl) hw

theorem m_0e45e3c6 : (.methodLink "StackHostModel" 366 y_M_sameName : Cond) ∈ xt_tbl := xt_in (xt_t11 (List.mem_of_getElem? (i := 121) (by decide +kernel))) (by decide +kernel)
theorem m_2b702532 : (.instanceMethod y_M_sameName : Cond) ∈ xt_tbl := xt_in (xt_t11 (List.mem_of_getElem? (i := 123) (by decide +kernel))) (by decide +kernel)
theorem m_ba6db66a : (.selects "StackHostModel" y_M_sameName y_M_sameName : Cond) ∈ xt_tbl := xt_in (xt_v11 (q := (⟨"StackHostModel", "sameName", "(III)Z"⟩, 97)) (List.mem_of_getElem? (i := 6) (by decide +kernel))) (by decide +kernel)
theorem m_870426fd : (.code y_M_sameName b_M_sameName 8 (some .boolean) : Cond) ∈ xt_tbl := xt_in (xt_t11 (List.mem_of_getElem? (i := 124) (by decide +kernel))) (by decide +kernel)
theorem m_32411888 : (.methodLink "StackHostModel" 293 y_M_name0 : Cond) ∈ xt_tbl := xt_in (xt_t10 (List.mem_of_getElem? (i := 226) (by decide +kernel))) (by decide +kernel)
theorem m_1909bcad : (.instanceMethod y_M_name0 : Cond) ∈ xt_tbl := xt_in (xt_t10 (List.mem_of_getElem? (i := 228) (by decide +kernel))) (by decide +kernel)
theorem m_471efb70 : (.selects "StackHostModel" y_M_name0 y_M_name0 : Cond) ∈ xt_tbl := xt_in (xt_v9 (q := (⟨"StackHostModel", "name", "()V"⟩, 97)) (List.mem_of_getElem? (i := 7) (by decide +kernel))) (by decide +kernel)
theorem m_06b9cb5d : (.code y_M_name0 b_M_name0 5 none : Cond) ∈ xt_tbl := xt_in (xt_t10 (List.mem_of_getElem? (i := 229) (by decide +kernel))) (by decide +kernel)
theorem nm_M_sameName : xt_nm y_M_sameName 3 := ⟨by decide +kernel, by decide +kernel⟩
theorem nm_M_name0 : xt_nm y_M_name0 0 := ⟨by decide +kernel, by decide +kernel⟩
set_option maxRecDepth 100000 in
def T_M_checkExports : List (Nat × Instr × Nat) := [(0, .iconst 0, 1), (1, .istore_n 2, 1), (2, .iload_n 2, 1), (3, .aload_n 0, 1), (4, .iload_n 1, 1), (5, .bipush 7, 2), (7, .invokevirtual 316, 3), (10, .if_icmp .ge 110, 3), (13, .aload_n 0, 1), (14, .getfield 193, 3), (17, .ifCond .ne 103, 3), (20, .aload_n 0, 1), (21, .iload_n 1, 1), (22, .bipush 7, 2), (24, .iload_n 2, 1), (25, .invokevirtual 320, 3), (28, .istore_n 3, 1), (29, .aload_n 0, 1), (30, .iload_n 1, 1), (31, .iload_n 3, 1), (32, .invokevirtual 324, 3), (35, .aload_n 0, 1), (36, .invokevirtual 293, 3), (39, .aload_n 0, 1), (40, .invokevirtual 212, 3), (43, .istore 4, 2), (45, .aload_n 0, 1), (46, .invokevirtual 218, 3), (49, .aload_n 0, 1), (50, .iload_n 1, 1), (51, .iload 4, 2), (53, .invokevirtual 362, 3), (56, .lcmp, 1), (57, .ifCond .lt 10, 3), (60, .aload_n 0, 1), (61, .bipush 20, 2), (63, .iload_n 3, 1), (64, .invokevirtual 208, 3), (67, .iconst 0, 1), (68, .istore 5, 2), (70, .iload 5, 2), (72, .iload_n 2, 1), (73, .if_icmp .ge 41, 3), (76, .aload_n 0, 1), (77, .getfield 193, 3), (80, .ifCond .ne 34, 3), (83, .aload_n 0, 1), (84, .iload_n 1, 1), (85, .aload_n 0, 1), (86, .iload_n 1, 1), (87, .bipush 7, 2), (89, .iload 5, 2), (91, .invokevirtual 320, 3), (94, .iload_n 3, 1), (95, .invokevirtual 366, 3), (98, .ifCond .eq 10, 3), (101, .aload_n 0, 1), (102, .bipush 24, 2), (104, .iload_n 3, 1), (105, .invokevirtual 208, 3), (108, .iinc 5 1, 3), (111, .goto (-41), 3), (114, .iinc 2 1, 3), (117, .goto (-115), 3), (120, .return_, 1)]
theorem D_M_checkExports : ∀ q ∈ T_M_checkExports, decode b_M_checkExports q.1 = .ok (q.2.1, q.2.2) := by decide +kernel

set_option maxHeartbeats 4000000 in
set_option maxRecDepth 100000 in
theorem am_M_checkExports_L120 (l : Launch) (hfl : l.flags = pinnedFlags ++ [noTraceFlag]) (D : va_G) (A : Nat → Prop) (σ MC MS : Nat) (h0 : xb_H) (Qr : xb_H → Prop) (h : xb_H) (hw : w_M_checkExports_L120 Qr h) : xb_am l D A σ 6 MC MS h0 (fun v h _ _ => v = none ∧ Qr h) (fun _ _ _ _ => False) y_M_checkExports.cls y_M_checkExports.name b_M_checkExports 6 ([] : List ExceptionTableEntry) none 120 [] [] h 0 0 := by
  unfold w_M_checkExports_L120 at hw
  intro p e s m args below meth c hC H locs ls k n hE hl hR hS hk hn
  obtain ⟨hx, hb, hown, hlocks, htab, hml, hr, hB, hA, hnm⟩ := id hC
  have hts := hB.1.1.at args
  exact xb_vret 0 0 hx hb hr hlocks (show k + 0 ≤ MC by omega) (show n + 0 ≤ MS by omega) hE hR hS (xb_d D_M_checkExports 64 rfl) hw

set_option maxHeartbeats 4000000 in
set_option maxRecDepth 100000 in
theorem am_M_checkExports_L114 (l : Launch) (hfl : l.flags = pinnedFlags ++ [noTraceFlag]) (D : va_G) (A : Nat → Prop) (σ MC MS : Nat) (h0 : xb_H) (Qr : xb_H → Prop) (K2 : Nat → Int32 → Int32 → xb_H → Prop) (hK2 : ∀ (x0 : Nat) (x1 : Int32) (x2 : Int32) (h : xb_H), K2 x0 x1 x2 h → xb_am l D A σ 6 MC MS h0 (fun v h _ _ => v = none ∧ Qr h) (fun _ _ _ _ => False) y_M_checkExports.cls y_M_checkExports.name b_M_checkExports 6 ([] : List ExceptionTableEntry) none 2 [(0, .ref x0), (1, .int x1), (2, .int x2)] [] h 0 0) (x0 : Nat) (x1 : Int32) (x2 : Int32) (h : xb_H) (hw : w_M_checkExports_L114 K2 Qr x0 x1 x2 h) : xb_am l D A σ 6 MC MS h0 (fun v h _ _ => v = none ∧ Qr h) (fun _ _ _ _ => False) y_M_checkExports.cls y_M_checkExports.name b_M_checkExports 6 ([] : List ExceptionTableEntry) none 114 [(0, .ref x0), (1, .int x1), (2, .int x2)] [] h 0 0 := by
  unfold w_M_checkExports_L114 at hw
  intro p e s m args below meth c hC H locs ls k n hE hl hR hS hk hn
  obtain ⟨hx, hb, hown, hlocks, htab, hml, hr, hB, hA, hnm⟩ := id hC
  have hts := hB.1.1.at args
  refine lv_iinc (v := (x2 + 1)) (k := 2) hx hb (xb_d D_M_checkExports 62 rfl) hl rfl (by first | rfl | decide) (by decide) rfl (fun ls hl => ?_)
  have hl : lv_has ls 6 [(2, .int (x2 + 1)), (0, .ref x0), (1, .int x1)] := hl
  refine lv_goto (tgt := 2) hx hb (xb_d D_M_checkExports 63 rfl) rfl ?_
  exact hK2 x0 x1 (x2 + 1) h hw p e s m args below meth c hC H locs ls k n hE (lv_sub hl [1, 2, 0] rfl) hR hS (by omega) (by omega)

set_option maxHeartbeats 4000000 in
set_option maxRecDepth 100000 in
theorem am_M_checkExports_L108 (l : Launch) (hfl : l.flags = pinnedFlags ++ [noTraceFlag]) (D : va_G) (A : Nat → Prop) (σ MC MS : Nat) (h0 : xb_H) (Qr : xb_H → Prop) (K2 : Nat → Int32 → Int32 → xb_H → Prop) (hK2 : ∀ (x0 : Nat) (x1 : Int32) (x2 : Int32) (h : xb_H), K2 x0 x1 x2 h → xb_am l D A σ 6 MC MS h0 (fun v h _ _ => v = none ∧ Qr h) (fun _ _ _ _ => False) y_M_checkExports.cls y_M_checkExports.name b_M_checkExports 6 ([] : List ExceptionTableEntry) none 2 [(0, .ref x0), (1, .int x1), (2, .int x2)] [] h 0 0) (K70 : Nat → Int32 → Int32 → Int32 → Int32 → xb_H → Prop) (hK70 : ∀ (x0 : Nat) (x1 : Int32) (x2 : Int32) (x3 : Int32) (x5 : Int32) (h : xb_H), K70 x0 x1 x2 x3 x5 h → xb_am l D A σ 6 MC MS h0 (fun v h _ _ => v = none ∧ Qr h) (fun _ _ _ _ => False) y_M_checkExports.cls y_M_checkExports.name b_M_checkExports 6 ([] : List ExceptionTableEntry) none 70 [(0, .ref x0), (1, .int x1), (2, .int x2), (3, .int x3), (5, .int x5)] [] h 0 0) (x0 : Nat) (x1 : Int32) (x2 : Int32) (x3 : Int32) (x5 : Int32) (h : xb_H) (hw : w_M_checkExports_L108 K2 K70 Qr x0 x1 x2 x3 x5 h) : xb_am l D A σ 6 MC MS h0 (fun v h _ _ => v = none ∧ Qr h) (fun _ _ _ _ => False) y_M_checkExports.cls y_M_checkExports.name b_M_checkExports 6 ([] : List ExceptionTableEntry) none 108 [(0, .ref x0), (1, .int x1), (2, .int x2), (3, .int x3), (5, .int x5)] [] h 0 0 := by
  unfold w_M_checkExports_L108 at hw
  intro p e s m args below meth c hC H locs ls k n hE hl hR hS hk hn
  obtain ⟨hx, hb, hown, hlocks, htab, hml, hr, hB, hA, hnm⟩ := id hC
  have hts := hB.1.1.at args
  refine lv_iinc (v := (x5 + 1)) (k := 4) hx hb (xb_d D_M_checkExports 60 rfl) hl rfl (by first | rfl | decide) (by decide) rfl (fun ls hl => ?_)
  have hl : lv_has ls 6 [(5, .int (x5 + 1)), (0, .ref x0), (1, .int x1), (2, .int x2), (3, .int x3)] := hl
  refine lv_goto (tgt := 70) hx hb (xb_d D_M_checkExports 61 rfl) rfl ?_
  exact hK70 x0 x1 x2 x3 (x5 + 1) h hw p e s m args below meth c hC H locs ls k n hE (lv_sub hl [1, 2, 3, 4, 0] rfl) hR hS (by omega) (by omega)

set_option maxHeartbeats 4000000 in
set_option maxRecDepth 100000 in
theorem am_M_checkExports_L70 (l : Launch) (hfl : l.flags = pinnedFlags ++ [noTraceFlag]) (D : va_G) (A : Nat → Prop) (σ MC MS : Nat) (h0 : xb_H) (Qr : xb_H → Prop) (K2 : Nat → Int32 → Int32 → xb_H → Prop) (hK2 : ∀ (x0 : Nat) (x1 : Int32) (x2 : Int32) (h : xb_H), K2 x0 x1 x2 h → xb_am l D A σ 6 MC MS h0 (fun v h _ _ => v = none ∧ Qr h) (fun _ _ _ _ => False) y_M_checkExports.cls y_M_checkExports.name b_M_checkExports 6 ([] : List ExceptionTableEntry) none 2 [(0, .ref x0), (1, .int x1), (2, .int x2)] [] h 0 0) (n9 : Nat) : ∀ (x0 : Nat) (x1 : Int32) (x2 : Int32) (x3 : Int32) (x5 : Int32) (h : xb_H), w_M_checkExports_L70 K2 Qr n9 x0 x1 x2 x3 x5 h → xb_am l D A σ 6 MC MS h0 (fun v h _ _ => v = none ∧ Qr h) (fun _ _ _ _ => False) y_M_checkExports.cls y_M_checkExports.name b_M_checkExports 6 ([] : List ExceptionTableEntry) none 70 [(0, .ref x0), (1, .int x1), (2, .int x2), (3, .int x3), (5, .int x5)] [] h 0 0 := by
  induction n9 with
  | zero => intro x0 x1 x2 x3 x5 h hw; exact False.elim hw
  | succ n9 ih =>
    intro x0 x1 x2 x3 x5 h hw
    unfold w_M_checkExports_L70 at hw
    intro p e s m args below meth c hC H locs ls k n hE hl hR hS hk hn
    obtain ⟨hx, hb, hown, hlocks, htab, hml, hr, hB, hA, hnm⟩ := id hC
    have hts := hB.1.1.at args
    refine lv_iload hx hb (xb_d D_M_checkExports 40 rfl) (lv_at hl 4 rfl) ?_
    refine lv_iload_n hx hb (xb_d D_M_checkExports 41 rfl) rfl (lv_at hl 2 rfl) ?_
    refine lv_icmp_ge (tgt := 114) hx hb (xb_d D_M_checkExports 42 rfl) rfl (fun hc1 => ?_) (fun hc1 => ?_)
    · have hw := hw.1 hc1
      exact am_M_checkExports_L114 l hfl D A σ MC MS h0 Qr K2 hK2 x0 x1 x2 h hw p e s m args below meth c hC H locs ls k n hE (lv_sub hl [0, 1, 2] rfl) hR hS (by omega) (by omega)
    · have hw := hw.2 hc1
      refine lv_aload_n hx hb (xb_d D_M_checkExports 43 rfl) rfl (lv_at hl 0 rfl) ?_
      obtain ⟨hk2, hw⟩ := hw
      refine xb_getI (C := R_M) (T := F_M) (N := 97) hx hb 8 17 hts fin_M hown hR hk2 (by decide) rfl (by decide) rfl (hts _ m_ff69da61) (fun _ h9 => h9) (xb_d D_M_checkExports 44 rfl) ?_
      refine lv_if_ne (tgt := 114) hx hb (xb_d D_M_checkExports 45 rfl) rfl (fun hc3 => ?_) (fun hc3 => ?_)
      · have hw := hw.1 hc3
        exact am_M_checkExports_L114 l hfl D A σ MC MS h0 Qr K2 hK2 x0 x1 x2 h hw p e s m args below meth c hC H locs ls k n hE (lv_sub hl [0, 1, 2] rfl) hR hS (by omega) (by omega)
      · have hw := hw.2 hc3
        refine lv_aload_n hx hb (xb_d D_M_checkExports 46 rfl) rfl (lv_at hl 0 rfl) ?_
        refine lv_iload_n hx hb (xb_d D_M_checkExports 47 rfl) rfl (lv_at hl 1 rfl) ?_
        refine lv_aload_n hx hb (xb_d D_M_checkExports 48 rfl) rfl (lv_at hl 0 rfl) ?_
        refine lv_iload_n hx hb (xb_d D_M_checkExports 49 rfl) rfl (lv_at hl 1 rfl) ?_
        refine lv_bipush (v := 7) hx hb (xb_d D_M_checkExports 50 rfl) (by decide) ?_
        refine lv_iload hx hb (xb_d D_M_checkExports 51 rfl) (lv_at hl 4 rfl) ?_
        refine xb_call0 (D := D) (A := A) (σ := σ) (h := h) (d := 2) (maxL := 4) (rest := [.int x1, .ref x0]) (av := [.ref x0, .int x1, .int 7, .int x5]) (fun T hT X => by obtain ⟨cb9, ra9, rb9, rc9⟩ := xb_recv (ci := 8) hR rfl hk2 (by decide); exact xt_invV X hx hown (hts _ m_7f41753e) (hts _ m_8cdd7108) (hts _ m_e228318f) (xt_sigOf (hts _ m_89667ad5)) nm_M_placeOf (by rw [hT]; exact ra9) rb9 rc9 (g := F0 m 91 ls [.int x5, .int 7, .int x1, .ref x0, .int x1, .ref x0]) rfl (argsL := [.int x1, .int 7, .int x5]) (rest := [.int x1, .ref x0]) rfl rfl (by rw [hb]; exact (xb_d D_M_checkExports 52 rfl))) (ok_M_placeOf l hfl D A σ x0 x1 7 x5 h _ hw) (hml.trans hl.1.symm) (by rw [hb]; exact (xb_d D_M_checkExports 52 rfl)) (Nat.le_of_ble_eq_true rfl) (Nat.le_of_ble_eq_true rfl) (Nat.le_of_ble_eq_true rfl) (show k ≤ MC by omega) (show n ≤ MS by omega) (xt_w1 hB.1 m_89667ad5) (xt_cdOf hB.1 m_89667ad5) (hts _ m_d5ed7bed) hB hR hS hA (fun vv h4 H locs hq hEh4 hR hS => ?_)
        obtain ⟨r5, rfl, hw⟩ := hq
        have hw := hw hEh4
        have hE := hE.tr hEh4
        refine W.eq (g2 := F0 m 94 ls [.int r5, .int x1, .ref x0]) rfl ?_
        refine lv_iload_n hx hb (xb_d D_M_checkExports 53 rfl) rfl (lv_at hl 3 rfl) ?_
        have hk2 : xb_k h4 x0 = 9 := hEh4.k hk2
        refine xb_call0 (D := D) (A := A) (σ := σ) (h := h4) (d := 5) (maxL := 8) (rest := []) (av := [.ref x0, .int x1, .int r5, .int x3]) (fun T hT X => by obtain ⟨cb9, ra9, rb9, rc9⟩ := xb_recv (ci := 8) hR rfl hk2 (by decide); exact xt_invV X hx hown (hts _ m_0e45e3c6) (hts _ m_2b702532) (hts _ m_ba6db66a) (xt_sigOf (hts _ m_870426fd)) nm_M_sameName (by rw [hT]; exact ra9) rb9 rc9 (g := F0 m 95 ls [.int x3, .int r5, .int x1, .ref x0]) rfl (argsL := [.int x1, .int r5, .int x3]) (rest := []) rfl rfl (by rw [hb]; exact (xb_d D_M_checkExports 54 rfl))) (ok_M_sameName l hfl D A σ x0 x1 r5 x3 h4 _ hw) (hml.trans hl.1.symm) (by rw [hb]; exact (xb_d D_M_checkExports 54 rfl)) (Nat.le_of_ble_eq_true rfl) (Nat.le_of_ble_eq_true rfl) (Nat.le_of_ble_eq_true rfl) (show k ≤ MC by omega) (show n ≤ MS by omega) (xt_w1 hB.1 m_870426fd) (xt_cdOf hB.1 m_870426fd) (hts _ m_d5ed7bed) hB hR hS hA (fun vv h6 H locs hq hEh6 hR hS => ?_)
        obtain ⟨r7, rfl, hw⟩ := hq
        have hw := hw hEh6
        have hE := hE.tr hEh6
        refine W.eq (g2 := F0 m 98 ls [.int r7]) rfl ?_
        refine lv_if_eq (tgt := 108) hx hb (xb_d D_M_checkExports 55 rfl) rfl (fun hc8 => ?_) (fun hc8 => ?_)
        · have hw := hw.1 hc8
          exact am_M_checkExports_L108 l hfl D A σ MC MS h0 Qr K2 hK2 (w_M_checkExports_L70 K2 Qr n9) ih x0 x1 x2 x3 x5 h6 hw p e s m args below meth c hC H locs ls k n hE (lv_sub hl [0, 1, 2, 3, 4] rfl) hR hS (by omega) (by omega)
        · have hw := hw.2 hc8
          refine lv_aload_n hx hb (xb_d D_M_checkExports 56 rfl) rfl (lv_at hl 0 rfl) ?_
          refine lv_bipush (v := 24) hx hb (xb_d D_M_checkExports 57 rfl) (by decide) ?_
          refine lv_iload_n hx hb (xb_d D_M_checkExports 58 rfl) rfl (lv_at hl 3 rfl) ?_
          have hk2 : xb_k h6 x0 = 9 := hEh6.k hk2
          refine xb_call0 (D := D) (A := A) (σ := σ) (h := h6) (d := 2) (maxL := 3) (rest := []) (av := [.ref x0, .int 24, .int x3]) (fun T hT X => by obtain ⟨cb9, ra9, rb9, rc9⟩ := xb_recv (ci := 8) hR rfl hk2 (by decide); exact xt_invV X hx hown (hts _ m_939052ad) (hts _ m_29cc8c73) (hts _ m_3b1ac7ab) (xt_sigOf (hts _ m_8f062ecd)) nm_M_fail (by rw [hT]; exact ra9) rb9 rc9 (g := F0 m 105 ls [.int x3, .int 24, .ref x0]) rfl (argsL := [.int 24, .int x3]) (rest := []) rfl rfl (by rw [hb]; exact (xb_d D_M_checkExports 59 rfl))) (ok_M_fail l hfl D A σ x0 24 x3 h6 _ hw) (hml.trans hl.1.symm) (by rw [hb]; exact (xb_d D_M_checkExports 59 rfl)) (Nat.le_of_ble_eq_true rfl) (Nat.le_of_ble_eq_true rfl) (Nat.le_of_ble_eq_true rfl) (show k ≤ MC by omega) (show n ≤ MS by omega) (xt_w1 hB.1 m_8f062ecd) (xt_cdOf hB.1 m_8f062ecd) (hts _ m_d5ed7bed) hB hR hS hA (fun vv h9 H locs hq hEh9 hR hS => ?_)
          obtain ⟨rfl, hw⟩ := hq
          have hw := hw hEh9
          have hE := hE.tr hEh9
          refine W.eq (g2 := F0 m 108 ls []) rfl ?_
          exact am_M_checkExports_L108 l hfl D A σ MC MS h0 Qr K2 hK2 (w_M_checkExports_L70 K2 Qr n9) ih x0 x1 x2 x3 x5 h9 hw p e s m args below meth c hC H locs ls k n hE (lv_sub hl [0, 1, 2, 3, 4] rfl) hR hS (by omega) (by omega)

set_option maxHeartbeats 4000000 in
set_option maxRecDepth 100000 in
theorem am_M_checkExports_L67 (l : Launch) (hfl : l.flags = pinnedFlags ++ [noTraceFlag]) (D : va_G) (A : Nat → Prop) (σ MC MS : Nat) (h0 : xb_H) (Qr : xb_H → Prop) (K2 : Nat → Int32 → Int32 → xb_H → Prop) (hK2 : ∀ (x0 : Nat) (x1 : Int32) (x2 : Int32) (h : xb_H), K2 x0 x1 x2 h → xb_am l D A σ 6 MC MS h0 (fun v h _ _ => v = none ∧ Qr h) (fun _ _ _ _ => False) y_M_checkExports.cls y_M_checkExports.name b_M_checkExports 6 ([] : List ExceptionTableEntry) none 2 [(0, .ref x0), (1, .int x1), (2, .int x2)] [] h 0 0) (x0 : Nat) (x1 : Int32) (x2 : Int32) (x3 : Int32) (h : xb_H) (hw : w_M_checkExports_L67 K2 Qr x0 x1 x2 x3 h) : xb_am l D A σ 6 MC MS h0 (fun v h _ _ => v = none ∧ Qr h) (fun _ _ _ _ => False) y_M_checkExports.cls y_M_checkExports.name b_M_checkExports 6 ([] : List ExceptionTableEntry) none 67 [(0, .ref x0), (1, .int x1), (2, .int x2), (3, .int x3)] [] h 0 0 := by
  unfold w_M_checkExports_L67 at hw
  intro p e s m args below meth c hC H locs ls k n hE hl hR hS hk hn
  obtain ⟨hx, hb, hown, hlocks, htab, hml, hr, hB, hA, hnm⟩ := id hC
  have hts := hB.1.1.at args
  refine lv_iconst (v := 0) hx hb (xb_d D_M_checkExports 38 rfl) (by decide) ?_
  refine lv_istore hx hb (xb_d D_M_checkExports 39 rfl) hl (by decide) rfl (fun ls hl => ?_)
  have hl : lv_has ls 6 [(5, .int 0), (0, .ref x0), (1, .int x1), (2, .int x2), (3, .int x3)] := hl
  obtain ⟨n8, hw⟩ := hw
  exact am_M_checkExports_L70 l hfl D A σ MC MS h0 Qr K2 hK2 n8 x0 x1 x2 x3 0 h hw p e s m args below meth c hC H locs ls k n hE (lv_sub hl [1, 2, 3, 4, 0] rfl) hR hS (by omega) (by omega)

set_option maxHeartbeats 4000000 in
set_option maxRecDepth 100000 in
theorem am_M_checkExports_L2 (l : Launch) (hfl : l.flags = pinnedFlags ++ [noTraceFlag]) (D : va_G) (A : Nat → Prop) (σ MC MS : Nat) (h0 : xb_H) (Qr : xb_H → Prop) (n9 : Nat) : ∀ (x0 : Nat) (x1 : Int32) (x2 : Int32) (h : xb_H), w_M_checkExports_L2 Qr n9 x0 x1 x2 h → xb_am l D A σ 6 MC MS h0 (fun v h _ _ => v = none ∧ Qr h) (fun _ _ _ _ => False) y_M_checkExports.cls y_M_checkExports.name b_M_checkExports 6 ([] : List ExceptionTableEntry) none 2 [(0, .ref x0), (1, .int x1), (2, .int x2)] [] h 0 0 := by
  induction n9 with
  | zero => intro x0 x1 x2 h hw; exact False.elim hw
  | succ n9 ih =>
    intro x0 x1 x2 h hw
    unfold w_M_checkExports_L2 at hw
    intro p e s m args below meth c hC H locs ls k n hE hl hR hS hk hn
    obtain ⟨hx, hb, hown, hlocks, htab, hml, hr, hB, hA, hnm⟩ := id hC
    have hts := hB.1.1.at args
    refine lv_iload_n hx hb (xb_d D_M_checkExports 2 rfl) rfl (lv_at hl 2 rfl) ?_
    refine lv_aload_n hx hb (xb_d D_M_checkExports 3 rfl) rfl (lv_at hl 0 rfl) ?_
    refine lv_iload_n hx hb (xb_d D_M_checkExports 4 rfl) rfl (lv_at hl 1 rfl) ?_
    refine lv_bipush (v := 7) hx hb (xb_d D_M_checkExports 5 rfl) (by decide) ?_
    obtain ⟨hk1, hw⟩ := hw
    refine xb_call0 (D := D) (A := A) (σ := σ) (h := h) (d := 2) (maxL := 3) (rest := [.int x2]) (av := [.ref x0, .int x1, .int 7]) (fun T hT X => by obtain ⟨cb9, ra9, rb9, rc9⟩ := xb_recv (ci := 8) hR rfl hk1 (by decide); exact xt_invV X hx hown (hts _ m_b47f62c2) (hts _ m_9f071faf) (hts _ m_e1bb5c84) (xt_sigOf (hts _ m_3a6212d6)) nm_M_manyOf (by rw [hT]; exact ra9) rb9 rc9 (g := F0 m 7 ls [.int 7, .int x1, .ref x0, .int x2]) rfl (argsL := [.int x1, .int 7]) (rest := [.int x2]) rfl rfl (by rw [hb]; exact (xb_d D_M_checkExports 6 rfl))) (ok_M_manyOf l hfl D A σ x0 x1 7 h _ hw) (hml.trans hl.1.symm) (by rw [hb]; exact (xb_d D_M_checkExports 6 rfl)) (Nat.le_of_ble_eq_true rfl) (Nat.le_of_ble_eq_true rfl) (Nat.le_of_ble_eq_true rfl) (show k ≤ MC by omega) (show n ≤ MS by omega) (xt_w1 hB.1 m_3a6212d6) (xt_cdOf hB.1 m_3a6212d6) (hts _ m_d5ed7bed) hB hR hS hA (fun vv h2 H locs hq hEh2 hR hS => ?_)
    obtain ⟨r3, rfl, hw⟩ := hq
    have hw := hw hEh2
    have hE := hE.tr hEh2
    refine W.eq (g2 := F0 m 10 ls [.int r3, .int x2]) rfl ?_
    refine lv_icmp_ge (tgt := 120) hx hb (xb_d D_M_checkExports 7 rfl) rfl (fun hc4 => ?_) (fun hc4 => ?_)
    · have hw := hw.1 hc4
      exact am_M_checkExports_L120 l hfl D A σ MC MS h0 Qr h2 hw p e s m args below meth c hC H locs ls k n hE (lv_sub hl [] rfl) hR hS (by omega) (by omega)
    · have hw := hw.2 hc4
      refine lv_aload_n hx hb (xb_d D_M_checkExports 8 rfl) rfl (lv_at hl 0 rfl) ?_
      have hk1 : xb_k h2 x0 = 9 := hEh2.k hk1
      refine xb_getI (C := R_M) (T := F_M) (N := 97) hx hb 8 17 hts fin_M hown hR hk1 (by decide) rfl (by decide) rfl (hts _ m_ff69da61) (fun _ h9 => h9) (xb_d D_M_checkExports 9 rfl) ?_
      refine lv_if_ne (tgt := 120) hx hb (xb_d D_M_checkExports 10 rfl) rfl (fun hc5 => ?_) (fun hc5 => ?_)
      · have hw := hw.1 hc5
        exact am_M_checkExports_L120 l hfl D A σ MC MS h0 Qr h2 hw p e s m args below meth c hC H locs ls k n hE (lv_sub hl [] rfl) hR hS (by omega) (by omega)
      · have hw := hw.2 hc5
        refine lv_aload_n hx hb (xb_d D_M_checkExports 11 rfl) rfl (lv_at hl 0 rfl) ?_
        refine lv_iload_n hx hb (xb_d D_M_checkExports 12 rfl) rfl (lv_at hl 1 rfl) ?_
        refine lv_bipush (v := 7) hx hb (xb_d D_M_checkExports 13 rfl) (by decide) ?_
        refine lv_iload_n hx hb (xb_d D_M_checkExports 14 rfl) rfl (lv_at hl 2 rfl) ?_
        refine xb_call0 (D := D) (A := A) (σ := σ) (h := h2) (d := 2) (maxL := 4) (rest := []) (av := [.ref x0, .int x1, .int 7, .int x2]) (fun T hT X => by obtain ⟨cb9, ra9, rb9, rc9⟩ := xb_recv (ci := 8) hR rfl hk1 (by decide); exact xt_invV X hx hown (hts _ m_7f41753e) (hts _ m_8cdd7108) (hts _ m_e228318f) (xt_sigOf (hts _ m_89667ad5)) nm_M_placeOf (by rw [hT]; exact ra9) rb9 rc9 (g := F0 m 25 ls [.int x2, .int 7, .int x1, .ref x0]) rfl (argsL := [.int x1, .int 7, .int x2]) (rest := []) rfl rfl (by rw [hb]; exact (xb_d D_M_checkExports 15 rfl))) (ok_M_placeOf l hfl D A σ x0 x1 7 x2 h2 _ hw) (hml.trans hl.1.symm) (by rw [hb]; exact (xb_d D_M_checkExports 15 rfl)) (Nat.le_of_ble_eq_true rfl) (Nat.le_of_ble_eq_true rfl) (Nat.le_of_ble_eq_true rfl) (show k ≤ MC by omega) (show n ≤ MS by omega) (xt_w1 hB.1 m_89667ad5) (xt_cdOf hB.1 m_89667ad5) (hts _ m_d5ed7bed) hB hR hS hA (fun vv h6 H locs hq hEh6 hR hS => ?_)
        obtain ⟨r7, rfl, hw⟩ := hq
        have hw := hw hEh6
        have hE := hE.tr hEh6
        refine W.eq (g2 := F0 m 28 ls [.int r7]) rfl ?_
        refine lv_istore_n hx hb (xb_d D_M_checkExports 16 rfl) rfl hl (by decide) rfl (fun ls hl => ?_)
        have hl : lv_has ls 6 [(3, .int r7), (0, .ref x0), (1, .int x1), (2, .int x2)] := hl
        refine lv_aload_n hx hb (xb_d D_M_checkExports 17 rfl) rfl (lv_at hl 1 rfl) ?_
        refine lv_iload_n hx hb (xb_d D_M_checkExports 18 rfl) rfl (lv_at hl 2 rfl) ?_
        refine lv_iload_n hx hb (xb_d D_M_checkExports 19 rfl) rfl (lv_at hl 0 rfl) ?_
        have hk1 : xb_k h6 x0 = 9 := hEh6.k hk1
        refine xb_call0 (D := D) (A := A) (σ := σ) (h := h6) (d := 2) (maxL := 3) (rest := []) (av := [.ref x0, .int x1, .int r7]) (fun T hT X => by obtain ⟨cb9, ra9, rb9, rc9⟩ := xb_recv (ci := 8) hR rfl hk1 (by decide); exact xt_invV X hx hown (hts _ m_bb531879) (hts _ m_4a6cd4a0) (hts _ m_d1c31e3c) (xt_sigOf (hts _ m_48217fba)) nm_M_go (by rw [hT]; exact ra9) rb9 rc9 (g := F0 m 32 ls [.int r7, .int x1, .ref x0]) rfl (argsL := [.int x1, .int r7]) (rest := []) rfl rfl (by rw [hb]; exact (xb_d D_M_checkExports 20 rfl))) (ok_M_go l hfl D A σ x0 x1 r7 h6 _ hw) (hml.trans hl.1.symm) (by rw [hb]; exact (xb_d D_M_checkExports 20 rfl)) (Nat.le_of_ble_eq_true rfl) (Nat.le_of_ble_eq_true rfl) (Nat.le_of_ble_eq_true rfl) (show k ≤ MC by omega) (show n ≤ MS by omega) (xt_w1 hB.1 m_48217fba) (xt_cdOf hB.1 m_48217fba) (hts _ m_d5ed7bed) hB hR hS hA (fun vv h8 H locs hq hEh8 hR hS => ?_)
        obtain ⟨rfl, hw⟩ := hq
        have hw := hw hEh8
        have hE := hE.tr hEh8
        refine W.eq (g2 := F0 m 35 ls []) rfl ?_
        refine lv_aload_n hx hb (xb_d D_M_checkExports 21 rfl) rfl (lv_at hl 1 rfl) ?_
        have hk1 : xb_k h8 x0 = 9 := hEh8.k hk1
        refine xb_call0 (D := D) (A := A) (σ := σ) (h := h8) (d := 5) (maxL := 5) (rest := []) (av := [.ref x0]) (fun T hT X => by obtain ⟨cb9, ra9, rb9, rc9⟩ := xb_recv (ci := 8) hR rfl hk1 (by decide); exact xt_invV X hx hown (hts _ m_32411888) (hts _ m_1909bcad) (hts _ m_471efb70) (xt_sigOf (hts _ m_06b9cb5d)) nm_M_name0 (by rw [hT]; exact ra9) rb9 rc9 (g := F0 m 36 ls [.ref x0]) rfl (argsL := []) (rest := []) rfl rfl (by rw [hb]; exact (xb_d D_M_checkExports 22 rfl))) (ok_M_name0 l hfl D A σ x0 h8 _ hw) (hml.trans hl.1.symm) (by rw [hb]; exact (xb_d D_M_checkExports 22 rfl)) (Nat.le_of_ble_eq_true rfl) (Nat.le_of_ble_eq_true rfl) (Nat.le_of_ble_eq_true rfl) (show k ≤ MC by omega) (show n ≤ MS by omega) (xt_w1 hB.1 m_06b9cb5d) (xt_cdOf hB.1 m_06b9cb5d) (hts _ m_d5ed7bed) hB hR hS hA (fun vv h10 H locs hq hEh10 hR hS => ?_)
        obtain ⟨rfl, hw⟩ := hq
        have hw := hw hEh10
        have hE := hE.tr hEh10
        refine W.eq (g2 := F0 m 39 ls []) rfl ?_
        refine lv_aload_n hx hb (xb_d D_M_checkExports 23 rfl) rfl (lv_at hl 1 rfl) ?_
        have hk1 : xb_k h10 x0 = 9 := hEh10.k hk1
        refine xb_call0 (D := D) (A := A) (σ := σ) (h := h10) (d := 3) (maxL := 2) (rest := []) (av := [.ref x0]) (fun T hT X => by obtain ⟨cb9, ra9, rb9, rc9⟩ := xb_recv (ci := 8) hR rfl hk1 (by decide); exact xt_invV X hx hown (hts _ m_0e978570) (hts _ m_40099f98) (hts _ m_a7dbfd07) (xt_sigOf (hts _ m_0af1ec6a)) nm_M_next (by rw [hT]; exact ra9) rb9 rc9 (g := F0 m 40 ls [.ref x0]) rfl (argsL := []) (rest := []) rfl rfl (by rw [hb]; exact (xb_d D_M_checkExports 24 rfl))) (ok_M_next l hfl D A σ x0 h10 _ hw) (hml.trans hl.1.symm) (by rw [hb]; exact (xb_d D_M_checkExports 24 rfl)) (Nat.le_of_ble_eq_true rfl) (Nat.le_of_ble_eq_true rfl) (Nat.le_of_ble_eq_true rfl) (show k ≤ MC by omega) (show n ≤ MS by omega) (xt_w1 hB.1 m_0af1ec6a) (xt_cdOf hB.1 m_0af1ec6a) (hts _ m_d5ed7bed) hB hR hS hA (fun vv h12 H locs hq hEh12 hR hS => ?_)
        obtain ⟨r13, rfl, hw⟩ := hq
        have hw := hw hEh12
        have hE := hE.tr hEh12
        refine W.eq (g2 := F0 m 43 ls [.int r13]) rfl ?_
        refine lv_istore hx hb (xb_d D_M_checkExports 25 rfl) hl (by decide) rfl (fun ls hl => ?_)
        have hl : lv_has ls 6 [(4, .int r13), (3, .int r7), (0, .ref x0), (1, .int x1), (2, .int x2)] := hl
        refine lv_aload_n hx hb (xb_d D_M_checkExports 26 rfl) rfl (lv_at hl 2 rfl) ?_
        have hk1 : xb_k h12 x0 = 9 := hEh12.k hk1
        refine xb_call0 (D := D) (A := A) (σ := σ) (h := h12) (d := 4) (maxL := 5) (rest := []) (av := [.ref x0]) (fun T hT X => by obtain ⟨cb9, ra9, rb9, rc9⟩ := xb_recv (ci := 8) hR rfl hk1 (by decide); exact xt_invV X hx hown (hts _ m_e991293f) (hts _ m_385a74b3) (hts _ m_c9fbcd02) (xt_sigOf (hts _ m_1f53f210)) nm_M_count (by rw [hT]; exact ra9) rb9 rc9 (g := F0 m 46 ls [.ref x0]) rfl (argsL := []) (rest := []) rfl rfl (by rw [hb]; exact (xb_d D_M_checkExports 27 rfl))) (ok_M_count l hfl D A σ x0 h12 _ hw) (hml.trans hl.1.symm) (by rw [hb]; exact (xb_d D_M_checkExports 27 rfl)) (Nat.le_of_ble_eq_true rfl) (Nat.le_of_ble_eq_true rfl) (Nat.le_of_ble_eq_true rfl) (show k ≤ MC by omega) (show n ≤ MS by omega) (xt_w1 hB.1 m_1f53f210) (xt_cdOf hB.1 m_1f53f210) (hts _ m_d5ed7bed) hB hR hS hA (fun vv h14 H locs hq hEh14 hR hS => ?_)
        obtain ⟨r15, rfl, hw⟩ := hq
        have hw := hw hEh14
        have hE := hE.tr hEh14
        refine W.eq (g2 := F0 m 49 ls [.long r15]) rfl ?_
        refine lv_aload_n hx hb (xb_d D_M_checkExports 28 rfl) rfl (lv_at hl 2 rfl) ?_
        refine lv_iload_n hx hb (xb_d D_M_checkExports 29 rfl) rfl (lv_at hl 3 rfl) ?_
        refine lv_iload hx hb (xb_d D_M_checkExports 30 rfl) (lv_at hl 0 rfl) ?_
        have hk1 : xb_k h14 x0 = 9 := hEh14.k hk1
        refine xb_call0 (D := D) (A := A) (σ := σ) (h := h14) (d := 3) (maxL := 3) (rest := [.long r15]) (av := [.ref x0, .int x1, .int r13]) (fun T hT X => by obtain ⟨cb9, ra9, rb9, rc9⟩ := xb_recv (ci := 8) hR rfl hk1 (by decide); exact xt_invV X hx hown (hts _ m_940fb65e) (hts _ m_342c0f16) (hts _ m_c0324d76) (xt_sigOf (hts _ m_feaaa075)) nm_M_total (by rw [hT]; exact ra9) rb9 rc9 (g := F0 m 53 ls [.int r13, .int x1, .ref x0, .long r15]) rfl (argsL := [.int x1, .int r13]) (rest := [.long r15]) rfl rfl (by rw [hb]; exact (xb_d D_M_checkExports 31 rfl))) (ok_M_total l hfl D A σ x0 x1 r13 h14 _ hw) (hml.trans hl.1.symm) (by rw [hb]; exact (xb_d D_M_checkExports 31 rfl)) (Nat.le_of_ble_eq_true rfl) (Nat.le_of_ble_eq_true rfl) (Nat.le_of_ble_eq_true rfl) (show k ≤ MC by omega) (show n ≤ MS by omega) (xt_w1 hB.1 m_feaaa075) (xt_cdOf hB.1 m_feaaa075) (hts _ m_d5ed7bed) hB hR hS hA (fun vv h16 H locs hq hEh16 hR hS => ?_)
        obtain ⟨r17, rfl, hw⟩ := hq
        have hw := hw hEh16
        have hE := hE.tr hEh16
        refine W.eq (g2 := F0 m 56 ls [.long r17, .long r15]) rfl ?_
        refine xb_lc_lt (tgt := 67) hx hb (xb_d D_M_checkExports 32 rfl) (xb_d D_M_checkExports 33 rfl) rfl (fun hc18 => ?_) (fun hc18 => ?_)
        · have hw := hw.1 hc18
          exact am_M_checkExports_L67 l hfl D A σ MC MS h0 Qr (w_M_checkExports_L2 Qr n9) ih x0 x1 x2 r7 h16 hw p e s m args below meth c hC H locs ls k n hE (lv_sub hl [2, 3, 4, 1] rfl) hR hS (by omega) (by omega)
        · have hw := hw.2 hc18
          refine lv_aload_n hx hb (xb_d D_M_checkExports 34 rfl) rfl (lv_at hl 2 rfl) ?_
          refine lv_bipush (v := 20) hx hb (xb_d D_M_checkExports 35 rfl) (by decide) ?_
          refine lv_iload_n hx hb (xb_d D_M_checkExports 36 rfl) rfl (lv_at hl 1 rfl) ?_
          have hk1 : xb_k h16 x0 = 9 := hEh16.k hk1
          refine xb_call0 (D := D) (A := A) (σ := σ) (h := h16) (d := 2) (maxL := 3) (rest := []) (av := [.ref x0, .int 20, .int r7]) (fun T hT X => by obtain ⟨cb9, ra9, rb9, rc9⟩ := xb_recv (ci := 8) hR rfl hk1 (by decide); exact xt_invV X hx hown (hts _ m_939052ad) (hts _ m_29cc8c73) (hts _ m_3b1ac7ab) (xt_sigOf (hts _ m_8f062ecd)) nm_M_fail (by rw [hT]; exact ra9) rb9 rc9 (g := F0 m 64 ls [.int r7, .int 20, .ref x0]) rfl (argsL := [.int 20, .int r7]) (rest := []) rfl rfl (by rw [hb]; exact (xb_d D_M_checkExports 37 rfl))) (ok_M_fail l hfl D A σ x0 20 r7 h16 _ hw) (hml.trans hl.1.symm) (by rw [hb]; exact (xb_d D_M_checkExports 37 rfl)) (Nat.le_of_ble_eq_true rfl) (Nat.le_of_ble_eq_true rfl) (Nat.le_of_ble_eq_true rfl) (show k ≤ MC by omega) (show n ≤ MS by omega) (xt_w1 hB.1 m_8f062ecd) (xt_cdOf hB.1 m_8f062ecd) (hts _ m_d5ed7bed) hB hR hS hA (fun vv h19 H locs hq hEh19 hR hS => ?_)
          obtain ⟨rfl, hw⟩ := hq
          have hw := hw hEh19
          have hE := hE.tr hEh19
          refine W.eq (g2 := F0 m 67 ls []) rfl ?_
          exact am_M_checkExports_L67 l hfl D A σ MC MS h0 Qr (w_M_checkExports_L2 Qr n9) ih x0 x1 x2 r7 h19 hw p e s m args below meth c hC H locs ls k n hE (lv_sub hl [2, 3, 4, 1] rfl) hR hS (by omega) (by omega)

set_option maxHeartbeats 4000000 in
set_option maxRecDepth 100000 in
theorem ok_M_checkExports (l : Launch) (hfl : l.flags = pinnedFlags ++ [noTraceFlag]) (D : va_G) (A : Nat → Prop) (σ : Nat) (x0 : Nat) (x1 : Int32) (h : xb_H) (Qr : xb_H → Prop) (hw : w_M_checkExports x0 x1 h Qr) : xb_Met l y_M_checkExports [.code y_M_checkExports b_M_checkExports 6 none] (xb_rm 6 0 0) (xb_Pc D A σ h [.ref x0, .int x1]) (xb_Qc D A h 0 0 (fun v h _ _ => v = none ∧ Qr h) (fun _ _ _ _ => False)) A := by
  refine xb_ofAm (cc := b_M_checkExports) (by decide) (Nat.le_of_ble_eq_true rfl) ?_
  unfold w_M_checkExports at hw
  show xb_am l D A σ 6 0 0 h (fun v h _ _ => v = none ∧ Qr h) (fun _ _ _ _ => False) y_M_checkExports.cls y_M_checkExports.name b_M_checkExports 6 ([] : List ExceptionTableEntry) none 0 [(0, .ref x0), (1, .int x1)] [] h 0 0
  obtain ⟨MC, hMC⟩ : ∃ x, x = 0 := ⟨_, rfl⟩
  obtain ⟨MS, hMS⟩ : ∃ x, x = 0 := ⟨_, rfl⟩
  rw [show xb_am l D A σ 6 0 0 = xb_am l D A σ 6 MC MS by rw [hMC, hMS]]
  obtain ⟨h0, hh0⟩ : ∃ x, x = h := ⟨_, rfl⟩
  rw [show xb_am l D A σ 6 MC MS h = xb_am l D A σ 6 MC MS h0 by rw [hh0]]
  intro p e s m args below meth c hC H locs ls k n hE hl hR hS hk hn
  obtain ⟨hx, hb, hown, hlocks, htab, hml, hr, hB, hA, hnm⟩ := id hC
  have hts := hB.1.1.at args
  refine lv_iconst (v := 0) hx hb (xb_d D_M_checkExports 0 rfl) (by decide) ?_
  refine lv_istore_n hx hb (xb_d D_M_checkExports 1 rfl) rfl hl (by decide) rfl (fun ls hl => ?_)
  have hl : lv_has ls 6 [(2, .int 0), (0, .ref x0), (1, .int x1)] := hl
  obtain ⟨n8, hw⟩ := hw
  exact am_M_checkExports_L2 l hfl D A σ MC MS h0 Qr n8 x0 x1 0 h hw p e s m args below meth c hC H locs ls k n hE (lv_sub hl [1, 2, 0] rfl) hR hS (by omega) (by omega)

theorem m_62eb1e15 : (.methodLink "StackHostModel" 454 y_M_putResult : Cond) ∈ xt_tbl := xt_in (xt_t11 (List.mem_of_getElem? (i := 209) (by decide +kernel))) (by decide +kernel)
theorem m_3d82cebb : (.instanceMethod y_M_putResult : Cond) ∈ xt_tbl := xt_in (xt_t11 (List.mem_of_getElem? (i := 211) (by decide +kernel))) (by decide +kernel)
theorem m_d25c631d : (.selects "StackHostModel" y_M_putResult y_M_putResult : Cond) ∈ xt_tbl := xt_in (xt_v12 (q := (⟨"StackHostModel", "putResult", "(I)V"⟩, 97)) (List.mem_of_getElem? (i := 7) (by decide +kernel))) (by decide +kernel)
theorem m_4191cbea : (.code y_M_putResult b_M_putResult 2 none : Cond) ∈ xt_tbl := xt_in (xt_t11 (List.mem_of_getElem? (i := 212) (by decide +kernel))) (by decide +kernel)
theorem m_0edb37db : (.methodLink "StackHostModel" 418 y_M_begin : Cond) ∈ xt_tbl := xt_in (xt_t11 (List.mem_of_getElem? (i := 153) (by decide +kernel))) (by decide +kernel)
theorem m_fa0a7aa5 : (.instanceMethod y_M_begin : Cond) ∈ xt_tbl := xt_in (xt_t11 (List.mem_of_getElem? (i := 155) (by decide +kernel))) (by decide +kernel)
theorem m_543d90fc : (.selects "StackHostModel" y_M_begin y_M_begin : Cond) ∈ xt_tbl := xt_in (xt_v11 (q := (⟨"StackHostModel", "begin", "(III)V"⟩, 97)) (List.mem_of_getElem? (i := 14) (by decide +kernel))) (by decide +kernel)
theorem m_1218889d : (.code y_M_begin b_M_begin 4 none : Cond) ∈ xt_tbl := xt_in (xt_t11 (List.mem_of_getElem? (i := 156) (by decide +kernel))) (by decide +kernel)
theorem m_0e76dfec : (.methodLink "StackHostModel" 460 y_M_closeOne : Cond) ∈ xt_tbl := xt_in (xt_t11 (List.mem_of_getElem? (i := 221) (by decide +kernel))) (by decide +kernel)
theorem m_46f1e6d7 : (.instanceMethod y_M_closeOne : Cond) ∈ xt_tbl := xt_in (xt_t11 (List.mem_of_getElem? (i := 223) (by decide +kernel))) (by decide +kernel)
theorem m_a78ebb3d : (.selects "StackHostModel" y_M_closeOne y_M_closeOne : Cond) ∈ xt_tbl := xt_in (xt_v12 (q := (⟨"StackHostModel", "closeOne", "()V"⟩, 97)) (List.mem_of_getElem? (i := 10) (by decide +kernel))) (by decide +kernel)
theorem m_c752359e : (.code y_M_closeOne b_M_closeOne 1 none : Cond) ∈ xt_tbl := xt_in (xt_t11 (List.mem_of_getElem? (i := 224) (by decide +kernel))) (by decide +kernel)
theorem m_4f8ea9bb : (.methodLink "StackHostModel" 470 y_M_checkTable : Cond) ∈ xt_tbl := xt_in (xt_t11 (List.mem_of_getElem? (i := 233) (by decide +kernel))) (by decide +kernel)
theorem m_17b048cc : (.instanceMethod y_M_checkTable : Cond) ∈ xt_tbl := xt_in (xt_t11 (List.mem_of_getElem? (i := 235) (by decide +kernel))) (by decide +kernel)
theorem m_534bcd1e : (.selects "StackHostModel" y_M_checkTable y_M_checkTable : Cond) ∈ xt_tbl := xt_in (xt_v12 (q := (⟨"StackHostModel", "checkTable", "()V"⟩, 97)) (List.mem_of_getElem? (i := 13) (by decide +kernel))) (by decide +kernel)
theorem m_f237215a : (.code y_M_checkTable b_M_checkTable 8 none : Cond) ∈ xt_tbl := xt_in (xt_t11 (List.mem_of_getElem? (i := 236) (by decide +kernel))) (by decide +kernel)
theorem nm_M_putResult : xt_nm y_M_putResult 1 := ⟨by decide +kernel, by decide +kernel⟩
theorem nm_M_begin : xt_nm y_M_begin 3 := ⟨by decide +kernel, by decide +kernel⟩
theorem nm_M_closeOne : xt_nm y_M_closeOne 0 := ⟨by decide +kernel, by decide +kernel⟩
theorem nm_M_checkTable : xt_nm y_M_checkTable 0 := ⟨by decide +kernel, by decide +kernel⟩
set_option maxRecDepth 100000 in
def T_M_checkFlow : List (Nat × Instr × Nat) := [(0, .iload_n 1, 1), (1, .tableswitch 287 0 15 #[79, 287, 86, 86, 86, 123, 287, 287, 287, 287, 287, 149, 212, 231, 263, 270], 79), (80, .aload_n 0, 1), (81, .invokevirtual 457, 3), (84, .goto 204, 3), (87, .iload_n 1, 1), (88, .iconst 4, 1), (89, .if_icmp .ne 10, 3), (92, .aload_n 0, 1), (93, .bipush 127, 2), (95, .invokevirtual 402, 3), (98, .pop, 1), (99, .aload_n 0, 1), (100, .invokevirtual 212, 3), (103, .istore_n 2, 1), (104, .aload_n 0, 1), (105, .iload_n 1, 1), (106, .iload_n 1, 1), (107, .iconst 3, 1), (108, .if_icmp .ne 8, 3), (111, .bipush 64, 2), (113, .goto 4, 3), (116, .iload_n 2, 1), (117, .iload_n 2, 1), (118, .invokevirtual 418, 3), (121, .goto 167, 3), (124, .aload_n 0, 1), (125, .getfield 52, 3), (128, .aload_n 0, 1), (129, .getfield 396, 3), (132, .iconst 1, 1), (133, .isub, 1), (134, .iaload, 1), (135, .istore_n 3, 1), (136, .aload_n 0, 1), (137, .invokevirtual 460, 3), (140, .aload_n 0, 1), (141, .iconst 5, 1), (142, .iload_n 3, 1), (143, .iload_n 3, 1), (144, .invokevirtual 418, 3), (147, .goto 141, 3), (150, .aload_n 0, 1), (151, .getfield 46, 3), (154, .aload_n 0, 1), (155, .getfield 396, 3), (158, .iconst 1, 1), (159, .isub, 1), (160, .iaload, 1), (161, .istore 4, 2), (163, .aload_n 0, 1), (164, .getfield 52, 3), (167, .aload_n 0, 1), (168, .getfield 396, 3), (171, .iconst 1, 1), (172, .isub, 1), (173, .iaload, 1), (174, .istore 5, 2), (176, .aload_n 0, 1), (177, .invokevirtual 460, 3), (180, .aload_n 0, 1), (181, .iload 4, 2), (183, .iconst 4, 1), (184, .if_icmp .ne 10, 3), (187, .iload 5, 2), (189, .bipush 64, 2), (191, .if_icmp .ne 7, 3), (194, .iconst 1, 1), (195, .goto 4, 3), (198, .iconst 0, 1), (199, .bipush 21, 2), (201, .invokevirtual 408, 3), (204, .aload_n 0, 1), (205, .iload 5, 2), (207, .invokevirtual 454, 3), (210, .goto 78, 3), (213, .aload_n 0, 1), (214, .aload_n 0, 1), (215, .aload_n 0, 1), (216, .invokevirtual 218, 3), (219, .invokevirtual 463, 3), (222, .invokevirtual 467, 3), (225, .aload_n 0, 1), (226, .invokevirtual 457, 3), (229, .goto 59, 3), (232, .aload_n 0, 1), (233, .aload_n 0, 1), (234, .invokevirtual 218, 3), (237, .invokevirtual 463, 3), (240, .istore 6, 2), (242, .aload_n 0, 1), (243, .bipush 127, 2), (245, .invokevirtual 402, 3), (248, .pop, 1), (249, .aload_n 0, 1), (250, .iload 6, 2), (252, .invokevirtual 467, 3), (255, .aload_n 0, 1), (256, .iload 6, 2), (258, .invokevirtual 454, 3), (261, .goto 27, 3), (264, .aload_n 0, 1), (265, .invokevirtual 470, 3), (268, .goto 20, 3), (271, .aload_n 0, 1), (272, .aload_n 0, 1), (273, .getfield 49, 3), (276, .iconst 0, 1), (277, .iaload, 1), (278, .invokevirtual 467, 3), (281, .aload_n 0, 1), (282, .invokevirtual 457, 3), (285, .goto 3, 3), (288, .return_, 1)]
theorem D_M_checkFlow : ∀ q ∈ T_M_checkFlow, decode b_M_checkFlow q.1 = .ok (q.2.1, q.2.2) := by decide +kernel

set_option maxHeartbeats 4000000 in
set_option maxRecDepth 100000 in
theorem am_M_checkFlow_L288 (l : Launch) (hfl : l.flags = pinnedFlags ++ [noTraceFlag]) (D : va_G) (A : Nat → Prop) (σ MC MS : Nat) (h0 : xb_H) (Qr : xb_H → Prop) (h : xb_H) (hw : w_M_checkFlow_L288 Qr h) : xb_am l D A σ 6 MC MS h0 (fun v h _ _ => v = none ∧ Qr h) (fun _ _ _ _ => False) y_M_checkFlow.cls y_M_checkFlow.name b_M_checkFlow 7 ([] : List ExceptionTableEntry) none 288 [] [] h 0 0 := by
  unfold w_M_checkFlow_L288 at hw
  intro p e s m args below meth c hC H locs ls k n hE hl hR hS hk hn
  obtain ⟨hx, hb, hown, hlocks, htab, hml, hr, hB, hA, hnm⟩ := id hC
  have hts := hB.1.1.at args
  exact xb_vret 0 0 hx hb hr hlocks (show k + 0 ≤ MC by omega) (show n + 0 ≤ MS by omega) hE hR hS (xb_d D_M_checkFlow 113 rfl) hw

set_option maxHeartbeats 4000000 in
set_option maxRecDepth 100000 in
theorem am_M_checkFlow_L199 (l : Launch) (hfl : l.flags = pinnedFlags ++ [noTraceFlag]) (D : va_G) (A : Nat → Prop) (σ MC MS : Nat) (h0 : xb_H) (Qr : xb_H → Prop) (x0 : Nat) (x5 : Int32) (y0 : Int32) (y1 : Nat) (h : xb_H) (hw : w_M_checkFlow_L199 Qr x0 x5 y0 y1 h) : xb_am l D A σ 6 MC MS h0 (fun v h _ _ => v = none ∧ Qr h) (fun _ _ _ _ => False) y_M_checkFlow.cls y_M_checkFlow.name b_M_checkFlow 7 ([] : List ExceptionTableEntry) none 199 [(0, .ref x0), (5, .int x5)] [.int y0, .ref y1] h 0 0 := by
  unfold w_M_checkFlow_L199 at hw
  intro p e s m args below meth c hC H locs ls k n hE hl hR hS hk hn
  obtain ⟨hx, hb, hown, hlocks, htab, hml, hr, hB, hA, hnm⟩ := id hC
  have hts := hB.1.1.at args
  refine lv_bipush (v := 21) hx hb (xb_d D_M_checkFlow 70 rfl) (by decide) ?_
  obtain ⟨hk1, hw⟩ := hw
  refine xb_call0 (D := D) (A := A) (σ := σ) (h := h) (d := 3) (maxL := 3) (rest := []) (av := [.ref y1, .int y0, .int 21]) (fun T hT X => by obtain ⟨cb9, ra9, rb9, rc9⟩ := xb_recv (ci := 8) hR rfl hk1 (by decide); exact xt_invV X hx hown (hts _ m_3b351fe6) (hts _ m_c9ff1909) (hts _ m_4d34701a) (xt_sigOf (hts _ m_c5aab6b8)) nm_M_need (by rw [hT]; exact ra9) rb9 rc9 (g := F0 m 201 ls [.int 21, .int y0, .ref y1]) rfl (argsL := [.int y0, .int 21]) (rest := []) rfl rfl (by rw [hb]; exact (xb_d D_M_checkFlow 71 rfl))) (ok_M_need l hfl D A σ y1 y0 21 h _ hw) (hml.trans hl.1.symm) (by rw [hb]; exact (xb_d D_M_checkFlow 71 rfl)) (Nat.le_of_ble_eq_true rfl) (Nat.le_of_ble_eq_true rfl) (Nat.le_of_ble_eq_true rfl) (show k ≤ MC by omega) (show n ≤ MS by omega) (xt_w1 hB.1 m_c5aab6b8) (xt_cdOf hB.1 m_c5aab6b8) (hts _ m_d5ed7bed) hB hR hS hA (fun vv h2 H locs hq hEh2 hR hS => ?_)
  obtain ⟨rfl, hw⟩ := hq
  have hw := hw hEh2
  have hE := hE.tr hEh2
  refine W.eq (g2 := F0 m 204 ls []) rfl ?_
  refine lv_aload_n hx hb (xb_d D_M_checkFlow 72 rfl) rfl (lv_at hl 0 rfl) ?_
  refine lv_iload hx hb (xb_d D_M_checkFlow 73 rfl) (lv_at hl 1 rfl) ?_
  obtain ⟨hk4, hw⟩ := hw
  refine xb_call0 (D := D) (A := A) (σ := σ) (h := h2) (d := 3) (maxL := 2) (rest := []) (av := [.ref x0, .int x5]) (fun T hT X => by obtain ⟨cb9, ra9, rb9, rc9⟩ := xb_recv (ci := 8) hR rfl hk4 (by decide); exact xt_invV X hx hown (hts _ m_62eb1e15) (hts _ m_3d82cebb) (hts _ m_d25c631d) (xt_sigOf (hts _ m_4191cbea)) nm_M_putResult (by rw [hT]; exact ra9) rb9 rc9 (g := F0 m 207 ls [.int x5, .ref x0]) rfl (argsL := [.int x5]) (rest := []) rfl rfl (by rw [hb]; exact (xb_d D_M_checkFlow 74 rfl))) (ok_M_putResult l hfl D A σ x0 x5 h2 _ hw) (hml.trans hl.1.symm) (by rw [hb]; exact (xb_d D_M_checkFlow 74 rfl)) (Nat.le_of_ble_eq_true rfl) (Nat.le_of_ble_eq_true rfl) (Nat.le_of_ble_eq_true rfl) (show k ≤ MC by omega) (show n ≤ MS by omega) (xt_w1 hB.1 m_4191cbea) (xt_cdOf hB.1 m_4191cbea) (hts _ m_d5ed7bed) hB hR hS hA (fun vv h5 H locs hq hEh5 hR hS => ?_)
  obtain ⟨rfl, hw⟩ := hq
  have hw := hw hEh5
  have hE := hE.tr hEh5
  refine W.eq (g2 := F0 m 210 ls []) rfl ?_
  refine lv_goto (tgt := 288) hx hb (xb_d D_M_checkFlow 75 rfl) rfl ?_
  exact am_M_checkFlow_L288 l hfl D A σ MC MS h0 Qr h5 hw p e s m args below meth c hC H locs ls k n hE (lv_sub hl [] rfl) hR hS (by omega) (by omega)

set_option maxHeartbeats 4000000 in
set_option maxRecDepth 100000 in
theorem am_M_checkFlow_L194 (l : Launch) (hfl : l.flags = pinnedFlags ++ [noTraceFlag]) (D : va_G) (A : Nat → Prop) (σ MC MS : Nat) (h0 : xb_H) (Qr : xb_H → Prop) (x0 : Nat) (x5 : Int32) (y0 : Nat) (h : xb_H) (hw : w_M_checkFlow_L194 Qr x0 x5 y0 h) : xb_am l D A σ 6 MC MS h0 (fun v h _ _ => v = none ∧ Qr h) (fun _ _ _ _ => False) y_M_checkFlow.cls y_M_checkFlow.name b_M_checkFlow 7 ([] : List ExceptionTableEntry) none 194 [(0, .ref x0), (5, .int x5)] [.ref y0] h 0 0 := by
  unfold w_M_checkFlow_L194 at hw
  intro p e s m args below meth c hC H locs ls k n hE hl hR hS hk hn
  obtain ⟨hx, hb, hown, hlocks, htab, hml, hr, hB, hA, hnm⟩ := id hC
  have hts := hB.1.1.at args
  refine lv_iconst (v := 1) hx hb (xb_d D_M_checkFlow 67 rfl) (by decide) ?_
  refine lv_goto (tgt := 199) hx hb (xb_d D_M_checkFlow 68 rfl) rfl ?_
  exact am_M_checkFlow_L199 l hfl D A σ MC MS h0 Qr x0 x5 1 y0 h hw p e s m args below meth c hC H locs ls k n hE (lv_sub hl [0, 1] rfl) hR hS (by omega) (by omega)

set_option maxHeartbeats 4000000 in
set_option maxRecDepth 100000 in
theorem am_M_checkFlow_L117 (l : Launch) (hfl : l.flags = pinnedFlags ++ [noTraceFlag]) (D : va_G) (A : Nat → Prop) (σ MC MS : Nat) (h0 : xb_H) (Qr : xb_H → Prop) (x2 : Int32) (y0 : Int32) (y1 : Int32) (y2 : Nat) (h : xb_H) (hw : w_M_checkFlow_L117 Qr x2 y0 y1 y2 h) : xb_am l D A σ 6 MC MS h0 (fun v h _ _ => v = none ∧ Qr h) (fun _ _ _ _ => False) y_M_checkFlow.cls y_M_checkFlow.name b_M_checkFlow 7 ([] : List ExceptionTableEntry) none 117 [(2, .int x2)] [.int y0, .int y1, .ref y2] h 0 0 := by
  unfold w_M_checkFlow_L117 at hw
  intro p e s m args below meth c hC H locs ls k n hE hl hR hS hk hn
  obtain ⟨hx, hb, hown, hlocks, htab, hml, hr, hB, hA, hnm⟩ := id hC
  have hts := hB.1.1.at args
  refine lv_iload_n hx hb (xb_d D_M_checkFlow 23 rfl) rfl (lv_at hl 0 rfl) ?_
  obtain ⟨hk1, hw⟩ := hw
  refine xb_call0 (D := D) (A := A) (σ := σ) (h := h) (d := 2) (maxL := 4) (rest := []) (av := [.ref y2, .int y1, .int y0, .int x2]) (fun T hT X => by obtain ⟨cb9, ra9, rb9, rc9⟩ := xb_recv (ci := 8) hR rfl hk1 (by decide); exact xt_invV X hx hown (hts _ m_0edb37db) (hts _ m_fa0a7aa5) (hts _ m_543d90fc) (xt_sigOf (hts _ m_1218889d)) nm_M_begin (by rw [hT]; exact ra9) rb9 rc9 (g := F0 m 118 ls [.int x2, .int y0, .int y1, .ref y2]) rfl (argsL := [.int y1, .int y0, .int x2]) (rest := []) rfl rfl (by rw [hb]; exact (xb_d D_M_checkFlow 24 rfl))) (ok_M_begin l hfl D A σ y2 y1 y0 x2 h _ hw) (hml.trans hl.1.symm) (by rw [hb]; exact (xb_d D_M_checkFlow 24 rfl)) (Nat.le_of_ble_eq_true rfl) (Nat.le_of_ble_eq_true rfl) (Nat.le_of_ble_eq_true rfl) (show k ≤ MC by omega) (show n ≤ MS by omega) (xt_w1 hB.1 m_1218889d) (xt_cdOf hB.1 m_1218889d) (hts _ m_d5ed7bed) hB hR hS hA (fun vv h2 H locs hq hEh2 hR hS => ?_)
  obtain ⟨rfl, hw⟩ := hq
  have hw := hw hEh2
  have hE := hE.tr hEh2
  refine W.eq (g2 := F0 m 121 ls []) rfl ?_
  refine lv_goto (tgt := 288) hx hb (xb_d D_M_checkFlow 25 rfl) rfl ?_
  exact am_M_checkFlow_L288 l hfl D A σ MC MS h0 Qr h2 hw p e s m args below meth c hC H locs ls k n hE (lv_sub hl [] rfl) hR hS (by omega) (by omega)

set_option maxHeartbeats 4000000 in
set_option maxRecDepth 100000 in
theorem am_M_checkFlow_L99 (l : Launch) (hfl : l.flags = pinnedFlags ++ [noTraceFlag]) (D : va_G) (A : Nat → Prop) (σ MC MS : Nat) (h0 : xb_H) (Qr : xb_H → Prop) (x0 : Nat) (x1 : Int32) (h : xb_H) (hw : w_M_checkFlow_L99 Qr x0 x1 h) : xb_am l D A σ 6 MC MS h0 (fun v h _ _ => v = none ∧ Qr h) (fun _ _ _ _ => False) y_M_checkFlow.cls y_M_checkFlow.name b_M_checkFlow 7 ([] : List ExceptionTableEntry) none 99 [(0, .ref x0), (1, .int x1)] [] h 0 0 := by
  unfold w_M_checkFlow_L99 at hw
  intro p e s m args below meth c hC H locs ls k n hE hl hR hS hk hn
  obtain ⟨hx, hb, hown, hlocks, htab, hml, hr, hB, hA, hnm⟩ := id hC
  have hts := hB.1.1.at args
  refine lv_aload_n hx hb (xb_d D_M_checkFlow 12 rfl) rfl (lv_at hl 0 rfl) ?_
  obtain ⟨hk1, hw⟩ := hw
  refine xb_call0 (D := D) (A := A) (σ := σ) (h := h) (d := 3) (maxL := 2) (rest := []) (av := [.ref x0]) (fun T hT X => by obtain ⟨cb9, ra9, rb9, rc9⟩ := xb_recv (ci := 8) hR rfl hk1 (by decide); exact xt_invV X hx hown (hts _ m_0e978570) (hts _ m_40099f98) (hts _ m_a7dbfd07) (xt_sigOf (hts _ m_0af1ec6a)) nm_M_next (by rw [hT]; exact ra9) rb9 rc9 (g := F0 m 100 ls [.ref x0]) rfl (argsL := []) (rest := []) rfl rfl (by rw [hb]; exact (xb_d D_M_checkFlow 13 rfl))) (ok_M_next l hfl D A σ x0 h _ hw) (hml.trans hl.1.symm) (by rw [hb]; exact (xb_d D_M_checkFlow 13 rfl)) (Nat.le_of_ble_eq_true rfl) (Nat.le_of_ble_eq_true rfl) (Nat.le_of_ble_eq_true rfl) (show k ≤ MC by omega) (show n ≤ MS by omega) (xt_w1 hB.1 m_0af1ec6a) (xt_cdOf hB.1 m_0af1ec6a) (hts _ m_d5ed7bed) hB hR hS hA (fun vv h2 H locs hq hEh2 hR hS => ?_)
  obtain ⟨r3, rfl, hw⟩ := hq
  have hw := hw hEh2
  have hE := hE.tr hEh2
  refine W.eq (g2 := F0 m 103 ls [.int r3]) rfl ?_
  refine lv_istore_n hx hb (xb_d D_M_checkFlow 14 rfl) rfl hl (by decide) rfl (fun ls hl => ?_)
  have hl : lv_has ls 7 [(2, .int r3), (0, .ref x0), (1, .int x1)] := hl
  refine lv_aload_n hx hb (xb_d D_M_checkFlow 15 rfl) rfl (lv_at hl 1 rfl) ?_
  refine lv_iload_n hx hb (xb_d D_M_checkFlow 16 rfl) rfl (lv_at hl 2 rfl) ?_
  refine lv_iload_n hx hb (xb_d D_M_checkFlow 17 rfl) rfl (lv_at hl 2 rfl) ?_
  refine lv_iconst (v := 3) hx hb (xb_d D_M_checkFlow 18 rfl) (by decide) ?_
  refine lv_icmp_ne (tgt := 116) hx hb (xb_d D_M_checkFlow 19 rfl) rfl (fun hc4 => ?_) (fun hc4 => ?_)
  · have hw := hw.1 hc4
    refine lv_iload_n hx hb (xb_d D_M_checkFlow 22 rfl) rfl (lv_at hl 0 rfl) ?_
    exact am_M_checkFlow_L117 l hfl D A σ MC MS h0 Qr r3 r3 x1 x0 h2 hw p e s m args below meth c hC H locs ls k n hE (lv_sub hl [0] rfl) hR hS (by omega) (by omega)
  · have hw := hw.2 hc4
    refine lv_bipush (v := 64) hx hb (xb_d D_M_checkFlow 20 rfl) (by decide) ?_
    refine lv_goto (tgt := 117) hx hb (xb_d D_M_checkFlow 21 rfl) rfl ?_
    exact am_M_checkFlow_L117 l hfl D A σ MC MS h0 Qr r3 64 x1 x0 h2 hw p e s m args below meth c hC H locs ls k n hE (lv_sub hl [0] rfl) hR hS (by omega) (by omega)

set_option maxHeartbeats 4000000 in
set_option maxRecDepth 100000 in
theorem am_M_checkFlow_L87 (l : Launch) (hfl : l.flags = pinnedFlags ++ [noTraceFlag]) (D : va_G) (A : Nat → Prop) (σ MC MS : Nat) (h0 : xb_H) (Qr : xb_H → Prop) (x0 : Nat) (x1 : Int32) (h : xb_H) (hw : w_M_checkFlow_L87 Qr x0 x1 h) : xb_am l D A σ 6 MC MS h0 (fun v h _ _ => v = none ∧ Qr h) (fun _ _ _ _ => False) y_M_checkFlow.cls y_M_checkFlow.name b_M_checkFlow 7 ([] : List ExceptionTableEntry) none 87 [(0, .ref x0), (1, .int x1)] [] h 0 0 := by
  unfold w_M_checkFlow_L87 at hw
  intro p e s m args below meth c hC H locs ls k n hE hl hR hS hk hn
  obtain ⟨hx, hb, hown, hlocks, htab, hml, hr, hB, hA, hnm⟩ := id hC
  have hts := hB.1.1.at args
  refine lv_iload_n hx hb (xb_d D_M_checkFlow 5 rfl) rfl (lv_at hl 1 rfl) ?_
  refine lv_iconst (v := 4) hx hb (xb_d D_M_checkFlow 6 rfl) (by decide) ?_
  refine lv_icmp_ne (tgt := 99) hx hb (xb_d D_M_checkFlow 7 rfl) rfl (fun hc1 => ?_) (fun hc1 => ?_)
  · have hw := hw.1 hc1
    exact am_M_checkFlow_L99 l hfl D A σ MC MS h0 Qr x0 x1 h hw p e s m args below meth c hC H locs ls k n hE (lv_sub hl [0, 1] rfl) hR hS (by omega) (by omega)
  · have hw := hw.2 hc1
    refine lv_aload_n hx hb (xb_d D_M_checkFlow 8 rfl) rfl (lv_at hl 0 rfl) ?_
    refine lv_bipush (v := 127) hx hb (xb_d D_M_checkFlow 9 rfl) (by decide) ?_
    obtain ⟨hk2, hw⟩ := hw
    refine xb_call0 (D := D) (A := A) (σ := σ) (h := h) (d := 3) (maxL := 3) (rest := []) (av := [.ref x0, .int 127]) (fun T hT X => by obtain ⟨cb9, ra9, rb9, rc9⟩ := xb_recv (ci := 8) hR rfl hk2 (by decide); exact xt_invV X hx hown (hts _ m_4290bf91) (hts _ m_641dba55) (hts _ m_286bb193) (xt_sigOf (hts _ m_8ef3c792)) nm_M_take (by rw [hT]; exact ra9) rb9 rc9 (g := F0 m 95 ls [.int 127, .ref x0]) rfl (argsL := [.int 127]) (rest := []) rfl rfl (by rw [hb]; exact (xb_d D_M_checkFlow 10 rfl))) (ok_M_take l hfl D A σ x0 127 h _ hw) (hml.trans hl.1.symm) (by rw [hb]; exact (xb_d D_M_checkFlow 10 rfl)) (Nat.le_of_ble_eq_true rfl) (Nat.le_of_ble_eq_true rfl) (Nat.le_of_ble_eq_true rfl) (show k ≤ MC by omega) (show n ≤ MS by omega) (xt_w1 hB.1 m_8ef3c792) (xt_cdOf hB.1 m_8ef3c792) (hts _ m_d5ed7bed) hB hR hS hA (fun vv h3 H locs hq hEh3 hR hS => ?_)
    obtain ⟨r4, rfl, hw⟩ := hq
    have hw := hw hEh3
    have hE := hE.tr hEh3
    refine W.eq (g2 := F0 m 98 ls [.int r4]) rfl ?_
    refine lv_pop hx hb (xb_d D_M_checkFlow 11 rfl) rfl ?_
    exact am_M_checkFlow_L99 l hfl D A σ MC MS h0 Qr x0 x1 h3 hw p e s m args below meth c hC H locs ls k n hE (lv_sub hl [0, 1] rfl) hR hS (by omega) (by omega)

set_option maxHeartbeats 4000000 in
set_option maxRecDepth 100000 in
theorem ok_M_checkFlow (l : Launch) (hfl : l.flags = pinnedFlags ++ [noTraceFlag]) (D : va_G) (A : Nat → Prop) (σ : Nat) (x0 : Nat) (x1 : Int32) (h : xb_H) (Qr : xb_H → Prop) (hw : w_M_checkFlow x0 x1 h Qr) : xb_Met l y_M_checkFlow [.code y_M_checkFlow b_M_checkFlow 7 none] (xb_rm 6 0 0) (xb_Pc D A σ h [.ref x0, .int x1]) (xb_Qc D A h 0 0 (fun v h _ _ => v = none ∧ Qr h) (fun _ _ _ _ => False)) A := by
  refine xb_ofAm (cc := b_M_checkFlow) (by decide) (Nat.le_of_ble_eq_true rfl) ?_
  unfold w_M_checkFlow at hw
  show xb_am l D A σ 6 0 0 h (fun v h _ _ => v = none ∧ Qr h) (fun _ _ _ _ => False) y_M_checkFlow.cls y_M_checkFlow.name b_M_checkFlow 7 ([] : List ExceptionTableEntry) none 0 [(0, .ref x0), (1, .int x1)] [] h 0 0
  obtain ⟨MC, hMC⟩ : ∃ x, x = 0 := ⟨_, rfl⟩
  obtain ⟨MS, hMS⟩ : ∃ x, x = 0 := ⟨_, rfl⟩
  rw [show xb_am l D A σ 6 0 0 = xb_am l D A σ 6 MC MS by rw [hMC, hMS]]
  obtain ⟨h0, hh0⟩ : ∃ x, x = h := ⟨_, rfl⟩
  rw [show xb_am l D A σ 6 MC MS h = xb_am l D A σ 6 MC MS h0 by rw [hh0]]
  intro p e s m args below meth c hC H locs ls k n hE hl hR hS hk hn
  obtain ⟨hx, hb, hown, hlocks, htab, hml, hr, hB, hA, hnm⟩ := id hC
  have hts := hB.1.1.at args
  refine lv_iload_n hx hb (xb_d D_M_checkFlow 0 rfl) rfl (lv_at hl 1 rfl) ?_
  by_cases hc1 : x1 = 0
  · have hw := hw.1 hc1
    refine xt_numi hc1 ?_
    refine lv_tableIn (off := 79) (tgt := 80) hx hb (xb_d D_M_checkFlow 1 rfl) (by decide +kernel) (by decide +kernel) (by decide +kernel) (by decide) ?_
    refine lv_aload_n hx hb (xb_d D_M_checkFlow 2 rfl) rfl (lv_at hl 0 rfl) ?_
    obtain ⟨hk2, hw⟩ := hw
    refine xb_call0 (D := D) (A := A) (σ := σ) (h := h) (d := 2) (maxL := 1) (rest := []) (av := [.ref x0]) (fun T hT X => by obtain ⟨cb9, ra9, rb9, rc9⟩ := xb_recv (ci := 8) hR rfl hk2 (by decide); exact xt_invV X hx hown (hts _ m_3f9bfaa5) (hts _ m_825f0c22) (hts _ m_e55d52e9) (xt_sigOf (hts _ m_e7fd7be8)) nm_M_dead (by rw [hT]; exact ra9) rb9 rc9 (g := F0 m 81 ls [.ref x0]) rfl (argsL := []) (rest := []) rfl rfl (by rw [hb]; exact (xb_d D_M_checkFlow 3 rfl))) (ok_M_dead l hfl D A σ x0 h _ hw) (hml.trans hl.1.symm) (by rw [hb]; exact (xb_d D_M_checkFlow 3 rfl)) (Nat.le_of_ble_eq_true rfl) (Nat.le_of_ble_eq_true rfl) (Nat.le_of_ble_eq_true rfl) (show k ≤ MC by omega) (show n ≤ MS by omega) (xt_w1 hB.1 m_e7fd7be8) (xt_cdOf hB.1 m_e7fd7be8) (hts _ m_d5ed7bed) hB hR hS hA (fun vv h3 H locs hq hEh3 hR hS => ?_)
    obtain ⟨rfl, hw⟩ := hq
    have hw := hw hEh3
    have hE := hE.tr hEh3
    refine W.eq (g2 := F0 m 84 ls []) rfl ?_
    refine lv_goto (tgt := 288) hx hb (xb_d D_M_checkFlow 4 rfl) rfl ?_
    exact am_M_checkFlow_L288 l hfl D A σ MC MS h0 Qr h3 hw p e s m args below meth c hC H locs ls k n hE (lv_sub hl [] rfl) hR hS (by omega) (by omega)
  have hw := hw.2
  by_cases hc5 : x1 = 1
  · have hw := hw.1 hc5
    refine xt_numi hc5 ?_
    refine lv_tableIn (off := 287) (tgt := 288) hx hb (xb_d D_M_checkFlow 1 rfl) (by decide +kernel) (by decide +kernel) (by decide +kernel) (by decide) ?_
    exact am_M_checkFlow_L288 l hfl D A σ MC MS h0 Qr h hw p e s m args below meth c hC H locs ls k n hE (lv_sub hl [] rfl) hR hS (by omega) (by omega)
  have hw := hw.2
  by_cases hc6 : x1 = 2
  · have hw := hw.1 hc6
    refine xt_numi hc6 ?_
    refine lv_tableIn (off := 86) (tgt := 87) hx hb (xb_d D_M_checkFlow 1 rfl) (by decide +kernel) (by decide +kernel) (by decide +kernel) (by decide) ?_
    exact am_M_checkFlow_L87 l hfl D A σ MC MS h0 Qr x0 x1 h hw p e s m args below meth c hC H locs ls k n hE (lv_sub hl [0, 1] rfl) hR hS (by omega) (by omega)
  have hw := hw.2
  by_cases hc7 : x1 = 3
  · have hw := hw.1 hc7
    refine xt_numi hc7 ?_
    refine lv_tableIn (off := 86) (tgt := 87) hx hb (xb_d D_M_checkFlow 1 rfl) (by decide +kernel) (by decide +kernel) (by decide +kernel) (by decide) ?_
    exact am_M_checkFlow_L87 l hfl D A σ MC MS h0 Qr x0 x1 h hw p e s m args below meth c hC H locs ls k n hE (lv_sub hl [0, 1] rfl) hR hS (by omega) (by omega)
  have hw := hw.2
  by_cases hc8 : x1 = 4
  · have hw := hw.1 hc8
    refine xt_numi hc8 ?_
    refine lv_tableIn (off := 86) (tgt := 87) hx hb (xb_d D_M_checkFlow 1 rfl) (by decide +kernel) (by decide +kernel) (by decide +kernel) (by decide) ?_
    exact am_M_checkFlow_L87 l hfl D A σ MC MS h0 Qr x0 x1 h hw p e s m args below meth c hC H locs ls k n hE (lv_sub hl [0, 1] rfl) hR hS (by omega) (by omega)
  have hw := hw.2
  by_cases hc9 : x1 = 5
  · have hw := hw.1 hc9
    refine xt_numi hc9 ?_
    refine lv_tableIn (off := 123) (tgt := 124) hx hb (xb_d D_M_checkFlow 1 rfl) (by decide +kernel) (by decide +kernel) (by decide +kernel) (by decide) ?_
    refine lv_aload_n hx hb (xb_d D_M_checkFlow 26 rfl) rfl (lv_at hl 0 rfl) ?_
    obtain ⟨hk10, hw⟩ := hw
    refine xb_getP (C := R_M) (T := F_M) (N := 97) hx hb 8 26 hts fin_M hown hR hk10 (by decide) rfl (by decide) rfl (hts _ m_b041879a) (fun _ h9 => h9) (xb_d D_M_checkFlow 27 rfl) ?_
    obtain ⟨b11, eb11, hw⟩ := hw
    refine xb_some eb11 ?_
    refine lv_aload_n hx hb (xb_d D_M_checkFlow 28 rfl) rfl (lv_at hl 0 rfl) ?_
    refine xb_getI (C := R_M) (T := F_M) (N := 97) hx hb 8 29 hts fin_M hown hR hk10 (by decide) rfl (by decide) rfl (hts _ m_1024c20b) (fun _ h9 => h9) (xb_d D_M_checkFlow 29 rfl) ?_
    refine lv_iconst (v := 1) hx hb (xb_d D_M_checkFlow 30 rfl) (by decide) ?_
    refine lv_isub hx hb (xb_d D_M_checkFlow 31 rfl) ?_
    obtain ⟨hk13, hw⟩ := hw
    obtain ⟨hi12, hw⟩ := hw
    refine xb_iald hx hb hR hk13 hi12 (xb_d D_M_checkFlow 32 rfl) ?_
    obtain ⟨v14, ev14⟩ : ∃ x : Int32, x = (xb_i h b11 (Int32.toNatClampNeg ((xb_i h x0 29) - 1))) := ⟨_, rfl⟩
    have hw := hw v14 ev14
    refine xt_numi (y := v14) ev14.symm ?_
    refine lv_istore_n hx hb (xb_d D_M_checkFlow 33 rfl) rfl hl (by decide) rfl (fun ls hl => ?_)
    have hl : lv_has ls 7 [(3, .int v14), (0, .ref x0), (1, .int x1)] := hl
    refine lv_aload_n hx hb (xb_d D_M_checkFlow 34 rfl) rfl (lv_at hl 1 rfl) ?_
    refine xb_call0 (D := D) (A := A) (σ := σ) (h := h) (d := 5) (maxL := 1) (rest := []) (av := [.ref x0]) (fun T hT X => by obtain ⟨cb9, ra9, rb9, rc9⟩ := xb_recv (ci := 8) hR rfl hk10 (by decide); exact xt_invV X hx hown (hts _ m_0e76dfec) (hts _ m_46f1e6d7) (hts _ m_a78ebb3d) (xt_sigOf (hts _ m_c752359e)) nm_M_closeOne (by rw [hT]; exact ra9) rb9 rc9 (g := F0 m 137 ls [.ref x0]) rfl (argsL := []) (rest := []) rfl rfl (by rw [hb]; exact (xb_d D_M_checkFlow 35 rfl))) (ok_M_closeOne l hfl D A σ x0 h _ hw) (hml.trans hl.1.symm) (by rw [hb]; exact (xb_d D_M_checkFlow 35 rfl)) (Nat.le_of_ble_eq_true rfl) (Nat.le_of_ble_eq_true rfl) (Nat.le_of_ble_eq_true rfl) (show k ≤ MC by omega) (show n ≤ MS by omega) (xt_w1 hB.1 m_c752359e) (xt_cdOf hB.1 m_c752359e) (hts _ m_d5ed7bed) hB hR hS hA (fun vv h15 H locs hq hEh15 hR hS => ?_)
    obtain ⟨rfl, hw⟩ := hq
    have hw := hw hEh15
    have hE := hE.tr hEh15
    refine W.eq (g2 := F0 m 140 ls []) rfl ?_
    refine lv_aload_n hx hb (xb_d D_M_checkFlow 36 rfl) rfl (lv_at hl 1 rfl) ?_
    refine lv_iconst (v := 5) hx hb (xb_d D_M_checkFlow 37 rfl) (by decide) ?_
    refine lv_iload_n hx hb (xb_d D_M_checkFlow 38 rfl) rfl (lv_at hl 0 rfl) ?_
    refine lv_iload_n hx hb (xb_d D_M_checkFlow 39 rfl) rfl (lv_at hl 0 rfl) ?_
    have hk10 : xb_k h15 x0 = 9 := hEh15.k hk10
    refine xb_call0 (D := D) (A := A) (σ := σ) (h := h15) (d := 2) (maxL := 4) (rest := []) (av := [.ref x0, .int 5, .int v14, .int v14]) (fun T hT X => by obtain ⟨cb9, ra9, rb9, rc9⟩ := xb_recv (ci := 8) hR rfl hk10 (by decide); exact xt_invV X hx hown (hts _ m_0edb37db) (hts _ m_fa0a7aa5) (hts _ m_543d90fc) (xt_sigOf (hts _ m_1218889d)) nm_M_begin (by rw [hT]; exact ra9) rb9 rc9 (g := F0 m 144 ls [.int v14, .int v14, .int 5, .ref x0]) rfl (argsL := [.int 5, .int v14, .int v14]) (rest := []) rfl rfl (by rw [hb]; exact (xb_d D_M_checkFlow 40 rfl))) (ok_M_begin l hfl D A σ x0 5 v14 v14 h15 _ hw) (hml.trans hl.1.symm) (by rw [hb]; exact (xb_d D_M_checkFlow 40 rfl)) (Nat.le_of_ble_eq_true rfl) (Nat.le_of_ble_eq_true rfl) (Nat.le_of_ble_eq_true rfl) (show k ≤ MC by omega) (show n ≤ MS by omega) (xt_w1 hB.1 m_1218889d) (xt_cdOf hB.1 m_1218889d) (hts _ m_d5ed7bed) hB hR hS hA (fun vv h17 H locs hq hEh17 hR hS => ?_)
    obtain ⟨rfl, hw⟩ := hq
    have hw := hw hEh17
    have hE := hE.tr hEh17
    refine W.eq (g2 := F0 m 147 ls []) rfl ?_
    refine lv_goto (tgt := 288) hx hb (xb_d D_M_checkFlow 41 rfl) rfl ?_
    exact am_M_checkFlow_L288 l hfl D A σ MC MS h0 Qr h17 hw p e s m args below meth c hC H locs ls k n hE (lv_sub hl [] rfl) hR hS (by omega) (by omega)
  have hw := hw.2
  by_cases hc19 : x1 = 6
  · have hw := hw.1 hc19
    refine xt_numi hc19 ?_
    refine lv_tableIn (off := 287) (tgt := 288) hx hb (xb_d D_M_checkFlow 1 rfl) (by decide +kernel) (by decide +kernel) (by decide +kernel) (by decide) ?_
    exact am_M_checkFlow_L288 l hfl D A σ MC MS h0 Qr h hw p e s m args below meth c hC H locs ls k n hE (lv_sub hl [] rfl) hR hS (by omega) (by omega)
  have hw := hw.2
  by_cases hc20 : x1 = 7
  · have hw := hw.1 hc20
    refine xt_numi hc20 ?_
    refine lv_tableIn (off := 287) (tgt := 288) hx hb (xb_d D_M_checkFlow 1 rfl) (by decide +kernel) (by decide +kernel) (by decide +kernel) (by decide) ?_
    exact am_M_checkFlow_L288 l hfl D A σ MC MS h0 Qr h hw p e s m args below meth c hC H locs ls k n hE (lv_sub hl [] rfl) hR hS (by omega) (by omega)
  have hw := hw.2
  by_cases hc21 : x1 = 8
  · have hw := hw.1 hc21
    refine xt_numi hc21 ?_
    refine lv_tableIn (off := 287) (tgt := 288) hx hb (xb_d D_M_checkFlow 1 rfl) (by decide +kernel) (by decide +kernel) (by decide +kernel) (by decide) ?_
    exact am_M_checkFlow_L288 l hfl D A σ MC MS h0 Qr h hw p e s m args below meth c hC H locs ls k n hE (lv_sub hl [] rfl) hR hS (by omega) (by omega)
  have hw := hw.2
  by_cases hc22 : x1 = 9
  · have hw := hw.1 hc22
    refine xt_numi hc22 ?_
    refine lv_tableIn (off := 287) (tgt := 288) hx hb (xb_d D_M_checkFlow 1 rfl) (by decide +kernel) (by decide +kernel) (by decide +kernel) (by decide) ?_
    exact am_M_checkFlow_L288 l hfl D A σ MC MS h0 Qr h hw p e s m args below meth c hC H locs ls k n hE (lv_sub hl [] rfl) hR hS (by omega) (by omega)
  have hw := hw.2
  by_cases hc23 : x1 = 10
  · have hw := hw.1 hc23
    refine xt_numi hc23 ?_
    refine lv_tableIn (off := 287) (tgt := 288) hx hb (xb_d D_M_checkFlow 1 rfl) (by decide +kernel) (by decide +kernel) (by decide +kernel) (by decide) ?_
    exact am_M_checkFlow_L288 l hfl D A σ MC MS h0 Qr h hw p e s m args below meth c hC H locs ls k n hE (lv_sub hl [] rfl) hR hS (by omega) (by omega)
  have hw := hw.2
  by_cases hc24 : x1 = 11
  · have hw := hw.1 hc24
    refine xt_numi hc24 ?_
    refine lv_tableIn (off := 149) (tgt := 150) hx hb (xb_d D_M_checkFlow 1 rfl) (by decide +kernel) (by decide +kernel) (by decide +kernel) (by decide) ?_
    refine lv_aload_n hx hb (xb_d D_M_checkFlow 42 rfl) rfl (lv_at hl 0 rfl) ?_
    obtain ⟨hk25, hw⟩ := hw
    refine xb_getP (C := R_M) (T := F_M) (N := 97) hx hb 8 24 hts fin_M hown hR hk25 (by decide) rfl (by decide) rfl (hts _ m_6889d050) (fun _ h9 => h9) (xb_d D_M_checkFlow 43 rfl) ?_
    obtain ⟨b26, eb26, hw⟩ := hw
    refine xb_some eb26 ?_
    refine lv_aload_n hx hb (xb_d D_M_checkFlow 44 rfl) rfl (lv_at hl 0 rfl) ?_
    refine xb_getI (C := R_M) (T := F_M) (N := 97) hx hb 8 29 hts fin_M hown hR hk25 (by decide) rfl (by decide) rfl (hts _ m_1024c20b) (fun _ h9 => h9) (xb_d D_M_checkFlow 45 rfl) ?_
    refine lv_iconst (v := 1) hx hb (xb_d D_M_checkFlow 46 rfl) (by decide) ?_
    refine lv_isub hx hb (xb_d D_M_checkFlow 47 rfl) ?_
    obtain ⟨hk28, hw⟩ := hw
    obtain ⟨hi27, hw⟩ := hw
    refine xb_iald hx hb hR hk28 hi27 (xb_d D_M_checkFlow 48 rfl) ?_
    obtain ⟨v29, ev29⟩ : ∃ x : Int32, x = (xb_i h b26 (Int32.toNatClampNeg ((xb_i h x0 29) - 1))) := ⟨_, rfl⟩
    have hw := hw v29 ev29
    refine xt_numi (y := v29) ev29.symm ?_
    refine lv_istore hx hb (xb_d D_M_checkFlow 49 rfl) hl (by decide) rfl (fun ls hl => ?_)
    have hl : lv_has ls 7 [(4, .int v29), (0, .ref x0), (1, .int x1)] := hl
    refine lv_aload_n hx hb (xb_d D_M_checkFlow 50 rfl) rfl (lv_at hl 1 rfl) ?_
    refine xb_getP (C := R_M) (T := F_M) (N := 97) hx hb 8 26 hts fin_M hown hR hk25 (by decide) rfl (by decide) rfl (hts _ m_b041879a) (fun _ h9 => h9) (xb_d D_M_checkFlow 51 rfl) ?_
    obtain ⟨b30, eb30, hw⟩ := hw
    refine xb_some eb30 ?_
    refine lv_aload_n hx hb (xb_d D_M_checkFlow 52 rfl) rfl (lv_at hl 1 rfl) ?_
    refine xb_getI (C := R_M) (T := F_M) (N := 97) hx hb 8 29 hts fin_M hown hR hk25 (by decide) rfl (by decide) rfl (hts _ m_1024c20b) (fun _ h9 => h9) (xb_d D_M_checkFlow 53 rfl) ?_
    refine lv_iconst (v := 1) hx hb (xb_d D_M_checkFlow 54 rfl) (by decide) ?_
    refine lv_isub hx hb (xb_d D_M_checkFlow 55 rfl) ?_
    obtain ⟨hk32, hw⟩ := hw
    obtain ⟨hi31, hw⟩ := hw
    refine xb_iald hx hb hR hk32 hi31 (xb_d D_M_checkFlow 56 rfl) ?_
    obtain ⟨v33, ev33⟩ : ∃ x : Int32, x = (xb_i h b30 (Int32.toNatClampNeg ((xb_i h x0 29) - 1))) := ⟨_, rfl⟩
    have hw := hw v33 ev33
    refine xt_numi (y := v33) ev33.symm ?_
    refine lv_istore hx hb (xb_d D_M_checkFlow 57 rfl) hl (by decide) rfl (fun ls hl => ?_)
    have hl : lv_has ls 7 [(5, .int v33), (4, .int v29), (0, .ref x0), (1, .int x1)] := hl
    refine lv_aload_n hx hb (xb_d D_M_checkFlow 58 rfl) rfl (lv_at hl 2 rfl) ?_
    refine xb_call0 (D := D) (A := A) (σ := σ) (h := h) (d := 5) (maxL := 1) (rest := []) (av := [.ref x0]) (fun T hT X => by obtain ⟨cb9, ra9, rb9, rc9⟩ := xb_recv (ci := 8) hR rfl hk25 (by decide); exact xt_invV X hx hown (hts _ m_0e76dfec) (hts _ m_46f1e6d7) (hts _ m_a78ebb3d) (xt_sigOf (hts _ m_c752359e)) nm_M_closeOne (by rw [hT]; exact ra9) rb9 rc9 (g := F0 m 177 ls [.ref x0]) rfl (argsL := []) (rest := []) rfl rfl (by rw [hb]; exact (xb_d D_M_checkFlow 59 rfl))) (ok_M_closeOne l hfl D A σ x0 h _ hw) (hml.trans hl.1.symm) (by rw [hb]; exact (xb_d D_M_checkFlow 59 rfl)) (Nat.le_of_ble_eq_true rfl) (Nat.le_of_ble_eq_true rfl) (Nat.le_of_ble_eq_true rfl) (show k ≤ MC by omega) (show n ≤ MS by omega) (xt_w1 hB.1 m_c752359e) (xt_cdOf hB.1 m_c752359e) (hts _ m_d5ed7bed) hB hR hS hA (fun vv h34 H locs hq hEh34 hR hS => ?_)
    obtain ⟨rfl, hw⟩ := hq
    have hw := hw hEh34
    have hE := hE.tr hEh34
    refine W.eq (g2 := F0 m 180 ls []) rfl ?_
    refine lv_aload_n hx hb (xb_d D_M_checkFlow 60 rfl) rfl (lv_at hl 2 rfl) ?_
    refine lv_iload hx hb (xb_d D_M_checkFlow 61 rfl) (lv_at hl 1 rfl) ?_
    refine lv_iconst (v := 4) hx hb (xb_d D_M_checkFlow 62 rfl) (by decide) ?_
    refine lv_icmp_ne (tgt := 194) hx hb (xb_d D_M_checkFlow 63 rfl) rfl (fun hc36 => ?_) (fun hc36 => ?_)
    · have hw := hw.1 hc36
      exact am_M_checkFlow_L194 l hfl D A σ MC MS h0 Qr x0 v33 x0 h34 hw p e s m args below meth c hC H locs ls k n hE (lv_sub hl [2, 0] rfl) hR hS (by omega) (by omega)
    · have hw := hw.2 hc36
      refine lv_iload hx hb (xb_d D_M_checkFlow 64 rfl) (lv_at hl 0 rfl) ?_
      refine lv_bipush (v := 64) hx hb (xb_d D_M_checkFlow 65 rfl) (by decide) ?_
      refine lv_icmp_ne (tgt := 198) hx hb (xb_d D_M_checkFlow 66 rfl) rfl (fun hc37 => ?_) (fun hc37 => ?_)
      · have hw := hw.1 hc37
        refine lv_iconst (v := 0) hx hb (xb_d D_M_checkFlow 69 rfl) (by decide) ?_
        exact am_M_checkFlow_L199 l hfl D A σ MC MS h0 Qr x0 v33 0 x0 h34 hw p e s m args below meth c hC H locs ls k n hE (lv_sub hl [2, 0] rfl) hR hS (by omega) (by omega)
      · have hw := hw.2 hc37
        exact am_M_checkFlow_L194 l hfl D A σ MC MS h0 Qr x0 v33 x0 h34 hw p e s m args below meth c hC H locs ls k n hE (lv_sub hl [2, 0] rfl) hR hS (by omega) (by omega)
  have hw := hw.2
  by_cases hc38 : x1 = 12
  · have hw := hw.1 hc38
    refine xt_numi hc38 ?_
    refine lv_tableIn (off := 212) (tgt := 213) hx hb (xb_d D_M_checkFlow 1 rfl) (by decide +kernel) (by decide +kernel) (by decide +kernel) (by decide) ?_
    refine lv_aload_n hx hb (xb_d D_M_checkFlow 76 rfl) rfl (lv_at hl 0 rfl) ?_
    refine lv_aload_n hx hb (xb_d D_M_checkFlow 77 rfl) rfl (lv_at hl 0 rfl) ?_
    refine lv_aload_n hx hb (xb_d D_M_checkFlow 78 rfl) rfl (lv_at hl 0 rfl) ?_
    obtain ⟨hk39, hw⟩ := hw
    refine xb_call0 (D := D) (A := A) (σ := σ) (h := h) (d := 4) (maxL := 5) (rest := [.ref x0, .ref x0]) (av := [.ref x0]) (fun T hT X => by obtain ⟨cb9, ra9, rb9, rc9⟩ := xb_recv (ci := 8) hR rfl hk39 (by decide); exact xt_invV X hx hown (hts _ m_e991293f) (hts _ m_385a74b3) (hts _ m_c9fbcd02) (xt_sigOf (hts _ m_1f53f210)) nm_M_count (by rw [hT]; exact ra9) rb9 rc9 (g := F0 m 216 ls [.ref x0, .ref x0, .ref x0]) rfl (argsL := []) (rest := [.ref x0, .ref x0]) rfl rfl (by rw [hb]; exact (xb_d D_M_checkFlow 79 rfl))) (ok_M_count l hfl D A σ x0 h _ hw) (hml.trans hl.1.symm) (by rw [hb]; exact (xb_d D_M_checkFlow 79 rfl)) (Nat.le_of_ble_eq_true rfl) (Nat.le_of_ble_eq_true rfl) (Nat.le_of_ble_eq_true rfl) (show k ≤ MC by omega) (show n ≤ MS by omega) (xt_w1 hB.1 m_1f53f210) (xt_cdOf hB.1 m_1f53f210) (hts _ m_d5ed7bed) hB hR hS hA (fun vv h40 H locs hq hEh40 hR hS => ?_)
    obtain ⟨r41, rfl, hw⟩ := hq
    have hw := hw hEh40
    have hE := hE.tr hEh40
    refine W.eq (g2 := F0 m 219 ls [.long r41, .ref x0, .ref x0]) rfl ?_
    have hk39 : xb_k h40 x0 = 9 := hEh40.k hk39
    refine xb_call0 (D := D) (A := A) (σ := σ) (h := h40) (d := 4) (maxL := 3) (rest := [.ref x0]) (av := [.ref x0, .long r41]) (fun T hT X => by obtain ⟨cb9, ra9, rb9, rc9⟩ := xb_recv (ci := 8) hR rfl hk39 (by decide); exact xt_invV X hx hown (hts _ m_c6d30415) (hts _ m_54d56332) (hts _ m_47c4a841) (xt_sigOf (hts _ m_088f6d43)) nm_M_label (by rw [hT]; exact ra9) rb9 rc9 (g := F0 m 219 ls [.long r41, .ref x0, .ref x0]) rfl (argsL := [.long r41]) (rest := [.ref x0]) rfl rfl (by rw [hb]; exact (xb_d D_M_checkFlow 80 rfl))) (ok_M_label l hfl D A σ x0 r41 h40 _ hw) (hml.trans hl.1.symm) (by rw [hb]; exact (xb_d D_M_checkFlow 80 rfl)) (Nat.le_of_ble_eq_true rfl) (Nat.le_of_ble_eq_true rfl) (Nat.le_of_ble_eq_true rfl) (show k ≤ MC by omega) (show n ≤ MS by omega) (xt_w1 hB.1 m_088f6d43) (xt_cdOf hB.1 m_088f6d43) (hts _ m_d5ed7bed) hB hR hS hA (fun vv h42 H locs hq hEh42 hR hS => ?_)
    obtain ⟨r43, rfl, hw⟩ := hq
    have hw := hw hEh42
    have hE := hE.tr hEh42
    refine W.eq (g2 := F0 m 222 ls [.int r43, .ref x0]) rfl ?_
    have hk39 : xb_k h42 x0 = 9 := hEh42.k hk39
    refine xb_call0 (D := D) (A := A) (σ := σ) (h := h42) (d := 4) (maxL := 2) (rest := []) (av := [.ref x0, .int r43]) (fun T hT X => by obtain ⟨cb9, ra9, rb9, rc9⟩ := xb_recv (ci := 8) hR rfl hk39 (by decide); exact xt_invV X hx hown (hts _ m_a3ac02d9) (hts _ m_a1be1a1a) (hts _ m_fd259a5b) (xt_sigOf (hts _ m_f2cfd56a)) nm_M_takeResult (by rw [hT]; exact ra9) rb9 rc9 (g := F0 m 222 ls [.int r43, .ref x0]) rfl (argsL := [.int r43]) (rest := []) rfl rfl (by rw [hb]; exact (xb_d D_M_checkFlow 81 rfl))) (ok_M_takeResult l hfl D A σ x0 r43 h42 _ hw) (hml.trans hl.1.symm) (by rw [hb]; exact (xb_d D_M_checkFlow 81 rfl)) (Nat.le_of_ble_eq_true rfl) (Nat.le_of_ble_eq_true rfl) (Nat.le_of_ble_eq_true rfl) (show k ≤ MC by omega) (show n ≤ MS by omega) (xt_w1 hB.1 m_f2cfd56a) (xt_cdOf hB.1 m_f2cfd56a) (hts _ m_d5ed7bed) hB hR hS hA (fun vv h44 H locs hq hEh44 hR hS => ?_)
    obtain ⟨rfl, hw⟩ := hq
    have hw := hw hEh44
    have hE := hE.tr hEh44
    refine W.eq (g2 := F0 m 225 ls []) rfl ?_
    refine lv_aload_n hx hb (xb_d D_M_checkFlow 82 rfl) rfl (lv_at hl 0 rfl) ?_
    have hk39 : xb_k h44 x0 = 9 := hEh44.k hk39
    refine xb_call0 (D := D) (A := A) (σ := σ) (h := h44) (d := 2) (maxL := 1) (rest := []) (av := [.ref x0]) (fun T hT X => by obtain ⟨cb9, ra9, rb9, rc9⟩ := xb_recv (ci := 8) hR rfl hk39 (by decide); exact xt_invV X hx hown (hts _ m_3f9bfaa5) (hts _ m_825f0c22) (hts _ m_e55d52e9) (xt_sigOf (hts _ m_e7fd7be8)) nm_M_dead (by rw [hT]; exact ra9) rb9 rc9 (g := F0 m 226 ls [.ref x0]) rfl (argsL := []) (rest := []) rfl rfl (by rw [hb]; exact (xb_d D_M_checkFlow 83 rfl))) (ok_M_dead l hfl D A σ x0 h44 _ hw) (hml.trans hl.1.symm) (by rw [hb]; exact (xb_d D_M_checkFlow 83 rfl)) (Nat.le_of_ble_eq_true rfl) (Nat.le_of_ble_eq_true rfl) (Nat.le_of_ble_eq_true rfl) (show k ≤ MC by omega) (show n ≤ MS by omega) (xt_w1 hB.1 m_e7fd7be8) (xt_cdOf hB.1 m_e7fd7be8) (hts _ m_d5ed7bed) hB hR hS hA (fun vv h46 H locs hq hEh46 hR hS => ?_)
    obtain ⟨rfl, hw⟩ := hq
    have hw := hw hEh46
    have hE := hE.tr hEh46
    refine W.eq (g2 := F0 m 229 ls []) rfl ?_
    refine lv_goto (tgt := 288) hx hb (xb_d D_M_checkFlow 84 rfl) rfl ?_
    exact am_M_checkFlow_L288 l hfl D A σ MC MS h0 Qr h46 hw p e s m args below meth c hC H locs ls k n hE (lv_sub hl [] rfl) hR hS (by omega) (by omega)
  have hw := hw.2
  by_cases hc48 : x1 = 13
  · have hw := hw.1 hc48
    refine xt_numi hc48 ?_
    refine lv_tableIn (off := 231) (tgt := 232) hx hb (xb_d D_M_checkFlow 1 rfl) (by decide +kernel) (by decide +kernel) (by decide +kernel) (by decide) ?_
    refine lv_aload_n hx hb (xb_d D_M_checkFlow 85 rfl) rfl (lv_at hl 0 rfl) ?_
    refine lv_aload_n hx hb (xb_d D_M_checkFlow 86 rfl) rfl (lv_at hl 0 rfl) ?_
    obtain ⟨hk49, hw⟩ := hw
    refine xb_call0 (D := D) (A := A) (σ := σ) (h := h) (d := 4) (maxL := 5) (rest := [.ref x0]) (av := [.ref x0]) (fun T hT X => by obtain ⟨cb9, ra9, rb9, rc9⟩ := xb_recv (ci := 8) hR rfl hk49 (by decide); exact xt_invV X hx hown (hts _ m_e991293f) (hts _ m_385a74b3) (hts _ m_c9fbcd02) (xt_sigOf (hts _ m_1f53f210)) nm_M_count (by rw [hT]; exact ra9) rb9 rc9 (g := F0 m 234 ls [.ref x0, .ref x0]) rfl (argsL := []) (rest := [.ref x0]) rfl rfl (by rw [hb]; exact (xb_d D_M_checkFlow 87 rfl))) (ok_M_count l hfl D A σ x0 h _ hw) (hml.trans hl.1.symm) (by rw [hb]; exact (xb_d D_M_checkFlow 87 rfl)) (Nat.le_of_ble_eq_true rfl) (Nat.le_of_ble_eq_true rfl) (Nat.le_of_ble_eq_true rfl) (show k ≤ MC by omega) (show n ≤ MS by omega) (xt_w1 hB.1 m_1f53f210) (xt_cdOf hB.1 m_1f53f210) (hts _ m_d5ed7bed) hB hR hS hA (fun vv h50 H locs hq hEh50 hR hS => ?_)
    obtain ⟨r51, rfl, hw⟩ := hq
    have hw := hw hEh50
    have hE := hE.tr hEh50
    refine W.eq (g2 := F0 m 237 ls [.long r51, .ref x0]) rfl ?_
    have hk49 : xb_k h50 x0 = 9 := hEh50.k hk49
    refine xb_call0 (D := D) (A := A) (σ := σ) (h := h50) (d := 4) (maxL := 3) (rest := []) (av := [.ref x0, .long r51]) (fun T hT X => by obtain ⟨cb9, ra9, rb9, rc9⟩ := xb_recv (ci := 8) hR rfl hk49 (by decide); exact xt_invV X hx hown (hts _ m_c6d30415) (hts _ m_54d56332) (hts _ m_47c4a841) (xt_sigOf (hts _ m_088f6d43)) nm_M_label (by rw [hT]; exact ra9) rb9 rc9 (g := F0 m 237 ls [.long r51, .ref x0]) rfl (argsL := [.long r51]) (rest := []) rfl rfl (by rw [hb]; exact (xb_d D_M_checkFlow 88 rfl))) (ok_M_label l hfl D A σ x0 r51 h50 _ hw) (hml.trans hl.1.symm) (by rw [hb]; exact (xb_d D_M_checkFlow 88 rfl)) (Nat.le_of_ble_eq_true rfl) (Nat.le_of_ble_eq_true rfl) (Nat.le_of_ble_eq_true rfl) (show k ≤ MC by omega) (show n ≤ MS by omega) (xt_w1 hB.1 m_088f6d43) (xt_cdOf hB.1 m_088f6d43) (hts _ m_d5ed7bed) hB hR hS hA (fun vv h52 H locs hq hEh52 hR hS => ?_)
    obtain ⟨r53, rfl, hw⟩ := hq
    have hw := hw hEh52
    have hE := hE.tr hEh52
    refine W.eq (g2 := F0 m 240 ls [.int r53]) rfl ?_
    refine lv_istore hx hb (xb_d D_M_checkFlow 89 rfl) hl (by decide) rfl (fun ls hl => ?_)
    have hl : lv_has ls 7 [(6, .int r53), (0, .ref x0), (1, .int x1)] := hl
    refine lv_aload_n hx hb (xb_d D_M_checkFlow 90 rfl) rfl (lv_at hl 1 rfl) ?_
    refine lv_bipush (v := 127) hx hb (xb_d D_M_checkFlow 91 rfl) (by decide) ?_
    have hk49 : xb_k h52 x0 = 9 := hEh52.k hk49
    refine xb_call0 (D := D) (A := A) (σ := σ) (h := h52) (d := 3) (maxL := 3) (rest := []) (av := [.ref x0, .int 127]) (fun T hT X => by obtain ⟨cb9, ra9, rb9, rc9⟩ := xb_recv (ci := 8) hR rfl hk49 (by decide); exact xt_invV X hx hown (hts _ m_4290bf91) (hts _ m_641dba55) (hts _ m_286bb193) (xt_sigOf (hts _ m_8ef3c792)) nm_M_take (by rw [hT]; exact ra9) rb9 rc9 (g := F0 m 245 ls [.int 127, .ref x0]) rfl (argsL := [.int 127]) (rest := []) rfl rfl (by rw [hb]; exact (xb_d D_M_checkFlow 92 rfl))) (ok_M_take l hfl D A σ x0 127 h52 _ hw) (hml.trans hl.1.symm) (by rw [hb]; exact (xb_d D_M_checkFlow 92 rfl)) (Nat.le_of_ble_eq_true rfl) (Nat.le_of_ble_eq_true rfl) (Nat.le_of_ble_eq_true rfl) (show k ≤ MC by omega) (show n ≤ MS by omega) (xt_w1 hB.1 m_8ef3c792) (xt_cdOf hB.1 m_8ef3c792) (hts _ m_d5ed7bed) hB hR hS hA (fun vv h54 H locs hq hEh54 hR hS => ?_)
    obtain ⟨r55, rfl, hw⟩ := hq
    have hw := hw hEh54
    have hE := hE.tr hEh54
    refine W.eq (g2 := F0 m 248 ls [.int r55]) rfl ?_
    refine lv_pop hx hb (xb_d D_M_checkFlow 93 rfl) rfl ?_
    refine lv_aload_n hx hb (xb_d D_M_checkFlow 94 rfl) rfl (lv_at hl 1 rfl) ?_
    refine lv_iload hx hb (xb_d D_M_checkFlow 95 rfl) (lv_at hl 0 rfl) ?_
    have hk49 : xb_k h54 x0 = 9 := hEh54.k hk49
    refine xb_call0 (D := D) (A := A) (σ := σ) (h := h54) (d := 4) (maxL := 2) (rest := []) (av := [.ref x0, .int r53]) (fun T hT X => by obtain ⟨cb9, ra9, rb9, rc9⟩ := xb_recv (ci := 8) hR rfl hk49 (by decide); exact xt_invV X hx hown (hts _ m_a3ac02d9) (hts _ m_a1be1a1a) (hts _ m_fd259a5b) (xt_sigOf (hts _ m_f2cfd56a)) nm_M_takeResult (by rw [hT]; exact ra9) rb9 rc9 (g := F0 m 252 ls [.int r53, .ref x0]) rfl (argsL := [.int r53]) (rest := []) rfl rfl (by rw [hb]; exact (xb_d D_M_checkFlow 96 rfl))) (ok_M_takeResult l hfl D A σ x0 r53 h54 _ hw) (hml.trans hl.1.symm) (by rw [hb]; exact (xb_d D_M_checkFlow 96 rfl)) (Nat.le_of_ble_eq_true rfl) (Nat.le_of_ble_eq_true rfl) (Nat.le_of_ble_eq_true rfl) (show k ≤ MC by omega) (show n ≤ MS by omega) (xt_w1 hB.1 m_f2cfd56a) (xt_cdOf hB.1 m_f2cfd56a) (hts _ m_d5ed7bed) hB hR hS hA (fun vv h56 H locs hq hEh56 hR hS => ?_)
    obtain ⟨rfl, hw⟩ := hq
    have hw := hw hEh56
    have hE := hE.tr hEh56
    refine W.eq (g2 := F0 m 255 ls []) rfl ?_
    refine lv_aload_n hx hb (xb_d D_M_checkFlow 97 rfl) rfl (lv_at hl 1 rfl) ?_
    refine lv_iload hx hb (xb_d D_M_checkFlow 98 rfl) (lv_at hl 0 rfl) ?_
    have hk49 : xb_k h56 x0 = 9 := hEh56.k hk49
    refine xb_call0 (D := D) (A := A) (σ := σ) (h := h56) (d := 3) (maxL := 2) (rest := []) (av := [.ref x0, .int r53]) (fun T hT X => by obtain ⟨cb9, ra9, rb9, rc9⟩ := xb_recv (ci := 8) hR rfl hk49 (by decide); exact xt_invV X hx hown (hts _ m_62eb1e15) (hts _ m_3d82cebb) (hts _ m_d25c631d) (xt_sigOf (hts _ m_4191cbea)) nm_M_putResult (by rw [hT]; exact ra9) rb9 rc9 (g := F0 m 258 ls [.int r53, .ref x0]) rfl (argsL := [.int r53]) (rest := []) rfl rfl (by rw [hb]; exact (xb_d D_M_checkFlow 99 rfl))) (ok_M_putResult l hfl D A σ x0 r53 h56 _ hw) (hml.trans hl.1.symm) (by rw [hb]; exact (xb_d D_M_checkFlow 99 rfl)) (Nat.le_of_ble_eq_true rfl) (Nat.le_of_ble_eq_true rfl) (Nat.le_of_ble_eq_true rfl) (show k ≤ MC by omega) (show n ≤ MS by omega) (xt_w1 hB.1 m_4191cbea) (xt_cdOf hB.1 m_4191cbea) (hts _ m_d5ed7bed) hB hR hS hA (fun vv h58 H locs hq hEh58 hR hS => ?_)
    obtain ⟨rfl, hw⟩ := hq
    have hw := hw hEh58
    have hE := hE.tr hEh58
    refine W.eq (g2 := F0 m 261 ls []) rfl ?_
    refine lv_goto (tgt := 288) hx hb (xb_d D_M_checkFlow 100 rfl) rfl ?_
    exact am_M_checkFlow_L288 l hfl D A σ MC MS h0 Qr h58 hw p e s m args below meth c hC H locs ls k n hE (lv_sub hl [] rfl) hR hS (by omega) (by omega)
  have hw := hw.2
  by_cases hc60 : x1 = 14
  · have hw := hw.1 hc60
    refine xt_numi hc60 ?_
    refine lv_tableIn (off := 263) (tgt := 264) hx hb (xb_d D_M_checkFlow 1 rfl) (by decide +kernel) (by decide +kernel) (by decide +kernel) (by decide) ?_
    refine lv_aload_n hx hb (xb_d D_M_checkFlow 101 rfl) rfl (lv_at hl 0 rfl) ?_
    obtain ⟨hk61, hw⟩ := hw
    refine xb_call0 (D := D) (A := A) (σ := σ) (h := h) (d := 5) (maxL := 8) (rest := []) (av := [.ref x0]) (fun T hT X => by obtain ⟨cb9, ra9, rb9, rc9⟩ := xb_recv (ci := 8) hR rfl hk61 (by decide); exact xt_invV X hx hown (hts _ m_4f8ea9bb) (hts _ m_17b048cc) (hts _ m_534bcd1e) (xt_sigOf (hts _ m_f237215a)) nm_M_checkTable (by rw [hT]; exact ra9) rb9 rc9 (g := F0 m 265 ls [.ref x0]) rfl (argsL := []) (rest := []) rfl rfl (by rw [hb]; exact (xb_d D_M_checkFlow 102 rfl))) (ok_M_checkTable l hfl D A σ x0 h _ hw) (hml.trans hl.1.symm) (by rw [hb]; exact (xb_d D_M_checkFlow 102 rfl)) (Nat.le_of_ble_eq_true rfl) (Nat.le_of_ble_eq_true rfl) (Nat.le_of_ble_eq_true rfl) (show k ≤ MC by omega) (show n ≤ MS by omega) (xt_w1 hB.1 m_f237215a) (xt_cdOf hB.1 m_f237215a) (hts _ m_d5ed7bed) hB hR hS hA (fun vv h62 H locs hq hEh62 hR hS => ?_)
    obtain ⟨rfl, hw⟩ := hq
    have hw := hw hEh62
    have hE := hE.tr hEh62
    refine W.eq (g2 := F0 m 268 ls []) rfl ?_
    refine lv_goto (tgt := 288) hx hb (xb_d D_M_checkFlow 103 rfl) rfl ?_
    exact am_M_checkFlow_L288 l hfl D A σ MC MS h0 Qr h62 hw p e s m args below meth c hC H locs ls k n hE (lv_sub hl [] rfl) hR hS (by omega) (by omega)
  have hw := hw.2
  by_cases hc64 : x1 = 15
  · have hw := hw.1 hc64
    refine xt_numi hc64 ?_
    refine lv_tableIn (off := 270) (tgt := 271) hx hb (xb_d D_M_checkFlow 1 rfl) (by decide +kernel) (by decide +kernel) (by decide +kernel) (by decide) ?_
    refine lv_aload_n hx hb (xb_d D_M_checkFlow 104 rfl) rfl (lv_at hl 0 rfl) ?_
    refine lv_aload_n hx hb (xb_d D_M_checkFlow 105 rfl) rfl (lv_at hl 0 rfl) ?_
    obtain ⟨hk65, hw⟩ := hw
    refine xb_getP (C := R_M) (T := F_M) (N := 97) hx hb 8 25 hts fin_M hown hR hk65 (by decide) rfl (by decide) rfl (hts _ m_9d087e33) (fun _ h9 => h9) (xb_d D_M_checkFlow 106 rfl) ?_
    obtain ⟨b66, eb66, hw⟩ := hw
    refine xb_some eb66 ?_
    refine lv_iconst (v := 0) hx hb (xb_d D_M_checkFlow 107 rfl) (by decide) ?_
    obtain ⟨hk68, hw⟩ := hw
    obtain ⟨hi67, hw⟩ := hw
    refine xb_iald hx hb hR hk68 hi67 (xb_d D_M_checkFlow 108 rfl) ?_
    refine xt_numi (y := (xb_i h b66 0)) (congrArg (xb_i h b66) (by decide : (0 : Int32).toNatClampNeg = 0)) ?_
    refine xb_call0 (D := D) (A := A) (σ := σ) (h := h) (d := 4) (maxL := 2) (rest := []) (av := [.ref x0, .int (xb_i h b66 0)]) (fun T hT X => by obtain ⟨cb9, ra9, rb9, rc9⟩ := xb_recv (ci := 8) hR rfl hk65 (by decide); exact xt_invV X hx hown (hts _ m_a3ac02d9) (hts _ m_a1be1a1a) (hts _ m_fd259a5b) (xt_sigOf (hts _ m_f2cfd56a)) nm_M_takeResult (by rw [hT]; exact ra9) rb9 rc9 (g := F0 m 278 ls [.int (xb_i h b66 0), .ref x0]) rfl (argsL := [.int (xb_i h b66 0)]) (rest := []) rfl rfl (by rw [hb]; exact (xb_d D_M_checkFlow 109 rfl))) (ok_M_takeResult l hfl D A σ x0 (xb_i h b66 0) h _ hw) (hml.trans hl.1.symm) (by rw [hb]; exact (xb_d D_M_checkFlow 109 rfl)) (Nat.le_of_ble_eq_true rfl) (Nat.le_of_ble_eq_true rfl) (Nat.le_of_ble_eq_true rfl) (show k ≤ MC by omega) (show n ≤ MS by omega) (xt_w1 hB.1 m_f2cfd56a) (xt_cdOf hB.1 m_f2cfd56a) (hts _ m_d5ed7bed) hB hR hS hA (fun vv h69 H locs hq hEh69 hR hS => ?_)
    obtain ⟨rfl, hw⟩ := hq
    have hw := hw hEh69
    have hE := hE.tr hEh69
    refine W.eq (g2 := F0 m 281 ls []) rfl ?_
    refine lv_aload_n hx hb (xb_d D_M_checkFlow 110 rfl) rfl (lv_at hl 0 rfl) ?_
    have hk65 : xb_k h69 x0 = 9 := hEh69.k hk65
    refine xb_call0 (D := D) (A := A) (σ := σ) (h := h69) (d := 2) (maxL := 1) (rest := []) (av := [.ref x0]) (fun T hT X => by obtain ⟨cb9, ra9, rb9, rc9⟩ := xb_recv (ci := 8) hR rfl hk65 (by decide); exact xt_invV X hx hown (hts _ m_3f9bfaa5) (hts _ m_825f0c22) (hts _ m_e55d52e9) (xt_sigOf (hts _ m_e7fd7be8)) nm_M_dead (by rw [hT]; exact ra9) rb9 rc9 (g := F0 m 282 ls [.ref x0]) rfl (argsL := []) (rest := []) rfl rfl (by rw [hb]; exact (xb_d D_M_checkFlow 111 rfl))) (ok_M_dead l hfl D A σ x0 h69 _ hw) (hml.trans hl.1.symm) (by rw [hb]; exact (xb_d D_M_checkFlow 111 rfl)) (Nat.le_of_ble_eq_true rfl) (Nat.le_of_ble_eq_true rfl) (Nat.le_of_ble_eq_true rfl) (show k ≤ MC by omega) (show n ≤ MS by omega) (xt_w1 hB.1 m_e7fd7be8) (xt_cdOf hB.1 m_e7fd7be8) (hts _ m_d5ed7bed) hB hR hS hA (fun vv h71 H locs hq hEh71 hR hS => ?_)
    obtain ⟨rfl, hw⟩ := hq
    have hw := hw hEh71
    have hE := hE.tr hEh71
    refine W.eq (g2 := F0 m 285 ls []) rfl ?_
    refine lv_goto (tgt := 288) hx hb (xb_d D_M_checkFlow 112 rfl) rfl ?_
    exact am_M_checkFlow_L288 l hfl D A σ MC MS h0 Qr h71 hw p e s m args below meth c hC H locs ls k n hE (lv_sub hl [] rfl) hR hS (by omega) (by omega)
  have hw := hw.2
  have hw := hw hc1 hc5 hc6 hc7 hc8 hc9 hc19 hc20 hc21 hc22 hc23 hc24 hc38 hc48 hc60 hc64
  refine lv_tableOut (tgt := 288) hx hb (xb_d D_M_checkFlow 1 rfl) (by have a0 := xb_nl (0) 0 (by decide) hc1; have a1 := xb_nl (1) 1 (by decide) hc5; have a2 := xb_nl (2) 2 (by decide) hc6; have a3 := xb_nl (3) 3 (by decide) hc7; have a4 := xb_nl (4) 4 (by decide) hc8; have a5 := xb_nl (5) 5 (by decide) hc9; have a6 := xb_nl (6) 6 (by decide) hc19; have a7 := xb_nl (7) 7 (by decide) hc20; have a8 := xb_nl (8) 8 (by decide) hc21; have a9 := xb_nl (9) 9 (by decide) hc22; have a10 := xb_nl (10) 10 (by decide) hc23; have a11 := xb_nl (11) 11 (by decide) hc24; have a12 := xb_nl (12) 12 (by decide) hc38; have a13 := xb_nl (13) 13 (by decide) hc48; have a14 := xb_nl (14) 14 (by decide) hc60; have a15 := xb_nl (15) 15 (by decide) hc64; omega) (by decide) ?_
  exact am_M_checkFlow_L288 l hfl D A σ MC MS h0 Qr h hw p e s m args below meth c hC H locs ls k n hE (lv_sub hl [] rfl) hR hS (by omega) (by omega)

