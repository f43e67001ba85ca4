theorem m_2ff4e4ca : (.methodLink "StackHost$Machine" 226 y_Machine_branch : Cond) ∈ xt_tbl := xt_in (xt_t9 (List.mem_of_getElem? (i := 9) (by decide +kernel))) (by decide +kernel)
theorem m_118b24b7 : (.instanceMethod y_Machine_branch : Cond) ∈ xt_tbl := xt_in (xt_t9 (List.mem_of_getElem? (i := 11) (by decide +kernel))) (by decide +kernel)
theorem m_3a3589ee : (.selects "StackHost$Machine" y_Machine_branch y_Machine_branch : Cond) ∈ xt_tbl := xt_in (xt_v8 (q := (⟨"StackHost$Machine", "branch", "(I)V"⟩, 18)) (List.mem_of_getElem? (i := 12) (by decide +kernel))) (by decide +kernel)
theorem m_540952bd : (.code y_Machine_branch b_Machine_branch 4 none : Cond) ∈ xt_tbl := xt_in (xt_t9 (List.mem_of_getElem? (i := 12) (by decide +kernel))) (by decide +kernel)
theorem m_bfca4707 : (.methodLink "StackHost$Machine" 229 y_Machine_chosenLabel : Cond) ∈ xt_tbl := xt_in (xt_t9 (List.mem_of_getElem? (i := 13) (by decide +kernel))) (by decide +kernel)
theorem m_e2b28718 : (.instanceMethod y_Machine_chosenLabel : Cond) ∈ xt_tbl := xt_in (xt_t9 (List.mem_of_getElem? (i := 15) (by decide +kernel))) (by decide +kernel)
theorem m_93b0a8fc : (.selects "StackHost$Machine" y_Machine_chosenLabel y_Machine_chosenLabel : Cond) ∈ xt_tbl := xt_in (xt_v8 (q := (⟨"StackHost$Machine", "chosenLabel", "()I"⟩, 18)) (List.mem_of_getElem? (i := 13) (by decide +kernel))) (by decide +kernel)
theorem m_780abd7a : (.code y_Machine_chosenLabel b_Machine_chosenLabel 3 (some .int) : Cond) ∈ xt_tbl := xt_in (xt_t9 (List.mem_of_getElem? (i := 16) (by decide +kernel))) (by decide +kernel)
theorem m_13027831 : (.methodLink "StackHost$Machine" 233 y_Instance_functionId : Cond) ∈ xt_tbl := xt_in (xt_t9 (List.mem_of_getElem? (i := 17) (by decide +kernel))) (by decide +kernel)
theorem m_2e977ee7 : (.methodLink "StackHost$Machine" 93 y_Machine_call : Cond) ∈ xt_tbl := xt_in (xt_t7 (List.mem_of_getElem? (i := 207) (by decide +kernel))) (by decide +kernel)
theorem m_0a404550 : (.instanceMethod y_Machine_call : Cond) ∈ xt_tbl := xt_in (xt_t7 (List.mem_of_getElem? (i := 209) (by decide +kernel))) (by decide +kernel)
theorem m_a0a488ae : (.selects "StackHost$Machine" y_Machine_call y_Machine_call : Cond) ∈ xt_tbl := xt_in (xt_v6 (q := (⟨"StackHost$Machine", "call", "(II)V"⟩, 18)) (List.mem_of_getElem? (i := 5) (by decide +kernel))) (by decide +kernel)
theorem m_f3390e9e : (.code y_Machine_call b_Machine_call 10 none : Cond) ∈ xt_tbl := xt_in (xt_t7 (List.mem_of_getElem? (i := 210) (by decide +kernel))) (by decide +kernel)
theorem m_0adfe5d3 : (.methodLink "StackHost$Machine" 236 y_Machine_chosenElement : Cond) ∈ xt_tbl := xt_in (xt_t9 (List.mem_of_getElem? (i := 18) (by decide +kernel))) (by decide +kernel)
theorem m_5b2a395b : (.instanceMethod y_Machine_chosenElement : Cond) ∈ xt_tbl := xt_in (xt_t9 (List.mem_of_getElem? (i := 20) (by decide +kernel))) (by decide +kernel)
theorem m_aa9611ca : (.selects "StackHost$Machine" y_Machine_chosenElement y_Machine_chosenElement : Cond) ∈ xt_tbl := xt_in (xt_v8 (q := (⟨"StackHost$Machine", "chosenElement", "()I"⟩, 18)) (List.mem_of_getElem? (i := 14) (by decide +kernel))) (by decide +kernel)
theorem m_639fa9c2 : (.code y_Machine_chosenElement b_Machine_chosenElement 3 (some .int) : Cond) ∈ xt_tbl := xt_in (xt_t9 (List.mem_of_getElem? (i := 21) (by decide +kernel))) (by decide +kernel)
theorem nm_Machine_branch : xt_nm y_Machine_branch 1 := ⟨by decide +kernel, by decide +kernel⟩
theorem nm_Machine_chosenLabel : xt_nm y_Machine_chosenLabel 0 := ⟨by decide +kernel, by decide +kernel⟩
theorem nm_Machine_call : xt_nm y_Machine_call 2 := ⟨by decide +kernel, by decide +kernel⟩
theorem nm_Machine_chosenElement : xt_nm y_Machine_chosenElement 0 := ⟨by decide +kernel, by decide +kernel⟩
set_option maxRecDepth 100000 in
def T_Machine_control : List (Nat × Instr × Nat) := [(0, .iload_n 1, 1), (1, .tableswitch 401 4 27 #[111, 401, 401, 401, 401, 401, 401, 401, 164, 182, 240, 251, 258, 292, 401, 401, 401, 401, 401, 401, 401, 401, 319, 342], 111), (112, .aload_n 0, 1), (113, .dup, 1), (114, .getfield 53, 3), (117, .iconst 1, 1), (118, .isub, 1), (119, .putfield 53, 3), (122, .aload_n 0, 1), (123, .aload_n 0, 1), (124, .getfield 35, 3), (127, .aload_n 0, 1), (128, .getfield 53, 3), (131, .laload, 1), (132, .lconst 0, 1), (133, .lcmp, 1), (134, .ifCond .eq 12, 3), (137, .aload_n 0, 1), (138, .getfield 108, 3), (141, .iconst 2, 1), (142, .iadd, 1), (143, .goto 16, 3), (146, .aload_n 0, 1), (147, .getfield 111, 3), (150, .aload_n 0, 1), (151, .getfield 108, 3), (154, .iconst 1, 1), (155, .iadd, 1), (156, .iaload, 1), (157, .iconst 1, 1), (158, .iadd, 1), (159, .putfield 108, 3), (162, .goto 245, 3), (165, .aload_n 0, 1), (166, .aload_n 0, 1), (167, .getfield 111, 3), (170, .aload_n 0, 1), (171, .getfield 108, 3), (174, .iconst 1, 1), (175, .iadd, 1), (176, .iaload, 1), (177, .invokevirtual 226, 3), (180, .goto 227, 3), (183, .aload_n 0, 1), (184, .dup, 1), (185, .getfield 53, 3), (188, .iconst 1, 1), (189, .isub, 1), (190, .putfield 53, 3), (193, .aload_n 0, 1), (194, .getfield 35, 3), (197, .aload_n 0, 1), (198, .getfield 53, 3), (201, .laload, 1), (202, .lconst 0, 1), (203, .lcmp, 1), (204, .ifCond .eq 21, 3), (207, .aload_n 0, 1), (208, .aload_n 0, 1), (209, .getfield 111, 3), (212, .aload_n 0, 1), (213, .getfield 108, 3), (216, .iconst 1, 1), (217, .iadd, 1), (218, .iaload, 1), (219, .invokevirtual 226, 3), (222, .goto 185, 3), (225, .aload_n 0, 1), (226, .aload_n 0, 1), (227, .getfield 111, 3), (230, .aload_n 0, 1), (231, .getfield 108, 3), (234, .iaload, 1), (235, .putfield 108, 3), (238, .goto 169, 3), (241, .aload_n 0, 1), (242, .aload_n 0, 1), (243, .invokevirtual 229, 3), (246, .invokevirtual 226, 3), (249, .goto 158, 3), (252, .aload_n 0, 1), (253, .invokevirtual 114, 3), (256, .goto 151, 3), (259, .aload_n 0, 1), (260, .aload_n 0, 1), (261, .getfield 117, 3), (264, .aload_n 0, 1), (265, .getfield 111, 3), (268, .aload_n 0, 1), (269, .getfield 108, 3), (272, .iconst 1, 1), (273, .iadd, 1), (274, .iaload, 1), (275, .invokevirtual 233, 3), (278, .aload_n 0, 1), (279, .getfield 111, 3), (282, .aload_n 0, 1), (283, .getfield 108, 3), (286, .iaload, 1), (287, .invokevirtual 93, 3), (290, .goto 117, 3), (293, .aload_n 0, 1), (294, .invokevirtual 236, 3), (297, .istore_n 2, 1), (298, .iload_n 2, 1), (299, .iconst (-1), 1), (300, .if_icmp .eq 107, 3), (303, .aload_n 0, 1), (304, .iload_n 2, 1), (305, .aload_n 0, 1), (306, .getfield 111, 3), (309, .aload_n 0, 1), (310, .getfield 108, 3), (313, .iaload, 1), (314, .invokevirtual 93, 3), (317, .goto 90, 3), (320, .aload_n 0, 1), (321, .dup, 1), (322, .getfield 53, 3), (325, .iconst 1, 1), (326, .isub, 1), (327, .putfield 53, 3), (330, .aload_n 0, 1), (331, .dup, 1), (332, .getfield 108, 3), (335, .iconst 1, 1), (336, .iadd, 1), (337, .putfield 108, 3), (340, .goto 67, 3), (343, .aload_n 0, 1), (344, .dup, 1), (345, .getfield 53, 3), (348, .iconst 2, 1), (349, .isub, 1), (350, .putfield 53, 3), (353, .aload_n 0, 1), (354, .getfield 35, 3), (357, .aload_n 0, 1), (358, .getfield 53, 3), (361, .iconst 1, 1), (362, .iadd, 1), (363, .laload, 1), (364, .lconst 0, 1), (365, .lcmp, 1), (366, .ifCond .ne 23, 3), (369, .aload_n 0, 1), (370, .getfield 35, 3), (373, .aload_n 0, 1), (374, .getfield 53, 3), (377, .iconst 1, 1), (378, .isub, 1), (379, .aload_n 0, 1), (380, .getfield 35, 3), (383, .aload_n 0, 1), (384, .getfield 53, 3), (387, .laload, 1), (388, .lastore, 1), (389, .aload_n 0, 1), (390, .dup, 1), (391, .getfield 108, 3), (394, .iconst 1, 1), (395, .iadd, 1), (396, .putfield 108, 3), (399, .goto 8, 3), (402, .aload_n 0, 1), (403, .iconst 1, 1), (404, .invokevirtual 156, 3), (407, .return_, 1)]
theorem D_Machine_control : ∀ q ∈ T_Machine_control, decode b_Machine_control q.1 = .ok (q.2.1, q.2.2) := by decide +kernel

set_option maxHeartbeats 4000000 in
set_option maxRecDepth 100000 in
theorem am_Machine_control_L407 (l : Launch) (hfl : l.flags = pinnedFlags ++ [noTraceFlag]) (D : va_G) (A : Nat → Prop) (σ MC MS : Nat) (h0 : xb_H) (Qr : xb_H → Nat → Nat → Prop) (h : xb_H) (bc : Nat) (bs : Nat) (hw : w_Machine_control_L407 Qr h bc bs) : xb_am l D A σ 7 MC MS h0 (fun v h bc bs => v = none ∧ Qr h bc bs) (fun _ _ _ _ => False) y_Machine_control.cls y_Machine_control.name b_Machine_control 3 ([] : List ExceptionTableEntry) none 407 [] [] h bc bs := by
  unfold w_Machine_control_L407 at hw
  intro p e s m args below meth c hC H locs ls k n hE hl hR hS hk hn
  obtain ⟨hx, hb, hown, hlocks, htab, hml, hr, hB, hA, hnm⟩ := id hC
  have hts := hB.1.1.at args
  exact xb_vret bc bs hx hb hr hlocks (show k + bc ≤ MC by omega) (show n + bs ≤ MS by omega) hE hR hS (xb_d D_Machine_control 167 rfl) hw

set_option maxHeartbeats 4000000 in
set_option maxRecDepth 100000 in
theorem am_Machine_control_L402 (l : Launch) (hfl : l.flags = pinnedFlags ++ [noTraceFlag]) (D : va_G) (A : Nat → Prop) (σ MC MS : Nat) (h0 : xb_H) (Qr : xb_H → Nat → Nat → Prop) (x0 : Nat) (h : xb_H) (bc : Nat) (bs : Nat) (hw : w_Machine_control_L402 Qr x0 h bc bs) : xb_am l D A σ 7 MC MS h0 (fun v h bc bs => v = none ∧ Qr h bc bs) (fun _ _ _ _ => False) y_Machine_control.cls y_Machine_control.name b_Machine_control 3 ([] : List ExceptionTableEntry) none 402 [(0, .ref x0)] [] h bc bs := by
  unfold w_Machine_control_L402 at hw
  intro p e s m args below meth c hC H locs ls k n hE hl hR hS hk hn
  obtain ⟨hx, hb, hown, hlocks, htab, hml, hr, hB, hA, hnm⟩ := id hC
  have hts := hB.1.1.at args
  refine lv_aload_n hx hb (xb_d D_Machine_control 164 rfl) rfl (lv_at hl 0 rfl) ?_
  refine lv_iconst (v := 1) hx hb (xb_d D_Machine_control 165 rfl) (by decide) ?_
  obtain ⟨hk1, hw⟩ := hw
  refine xb_call0 (D := D) (A := A) (σ := σ) (h := h) (d := 2) (maxL := 3) (rest := []) (av := [.ref x0, .int 1]) (fun T hT X => by obtain ⟨cb9, ra9, rb9, rc9⟩ := xb_recv (ci := 7) hR rfl hk1 (by decide); exact xt_invV X hx hown (hts _ m_8f5db99d) (hts _ m_0ddc8afe) (hts _ m_f5561462) (xt_sigOf (hts _ m_f0d4fd47)) nm_Machine_fall (by rw [hT]; exact ra9) rb9 rc9 (g := F0 m 404 ls [.int 1, .ref x0]) rfl (argsL := [.int 1]) (rest := []) rfl rfl (by rw [hb]; exact (xb_d D_Machine_control 166 rfl))) (ok_Machine_fall l hfl D A σ x0 1 h _ hw) (hml.trans hl.1.symm) (by rw [hb]; exact (xb_d D_Machine_control 166 rfl)) (Nat.le_of_ble_eq_true rfl) (Nat.le_of_ble_eq_true rfl) (Nat.le_of_ble_eq_true rfl) (show k ≤ MC by omega) (show n ≤ MS by omega) (xt_w1 hB.1 m_f0d4fd47) (xt_cdOf hB.1 m_f0d4fd47) (hts _ m_73451f9b) hB hR hS hA (fun vv h2 H locs hq hEh2 hR hS => ?_)
  obtain ⟨rfl, hw⟩ := hq
  have hw := hw hEh2
  have hE := hE.tr hEh2
  refine W.eq (g2 := F0 m 407 ls []) rfl ?_
  exact am_Machine_control_L407 l hfl D A σ MC MS h0 Qr h2 bc bs hw p e s m args below meth c hC H locs ls k n hE (lv_sub hl [] rfl) hR hS (by omega) (by omega)

set_option maxHeartbeats 4000000 in
set_option maxRecDepth 100000 in
theorem am_Machine_control_L389 (l : Launch) (hfl : l.flags = pinnedFlags ++ [noTraceFlag]) (D : va_G) (A : Nat → Prop) (σ MC MS : Nat) (h0 : xb_H) (Qr : xb_H → Nat → Nat → Prop) (x0 : Nat) (h : xb_H) (bc : Nat) (bs : Nat) (hw : w_Machine_control_L389 Qr x0 h bc bs) : xb_am l D A σ 7 MC MS h0 (fun v h bc bs => v = none ∧ Qr h bc bs) (fun _ _ _ _ => False) y_Machine_control.cls y_Machine_control.name b_Machine_control 3 ([] : List ExceptionTableEntry) none 389 [(0, .ref x0)] [] h bc bs := by
  unfold w_Machine_control_L389 at hw
  intro p e s m args below meth c hC H locs ls k n hE hl hR hS hk hn
  obtain ⟨hx, hb, hown, hlocks, htab, hml, hr, hB, hA, hnm⟩ := id hC
  have hts := hB.1.1.at args
  refine lv_aload_n hx hb (xb_d D_Machine_control 157 rfl) rfl (lv_at hl 0 rfl) ?_
  refine lv_dup hx hb (xb_d D_Machine_control 158 rfl) rfl ?_
  obtain ⟨hk1, hw⟩ := hw
  refine xb_getI (C := R_Machine) (T := F_Machine) (N := 18) hx hb 7 15 hts fin_Machine hown hR hk1 (by decide) rfl (by decide) rfl (hts _ m_6a595805) (fun _ h9 => h9) (xb_d D_Machine_control 159 rfl) ?_
  refine lv_iconst (v := 1) hx hb (xb_d D_Machine_control 160 rfl) (by decide) ?_
  refine lv_iadd hx hb (xb_d D_Machine_control 161 rfl) ?_
  refine xb_putI (C := R_Machine) (T := F_Machine) (N := 18) (ty := .int) (x := ((xb_i h x0 15) + 1)) hx hb 7 15 hts fin_Machine t_Machine t_Machine_ok n_Machine hown hR hS hk1 (by decide) rfl (by decide) rfl (hts _ m_6a595805) (fun _ h9 => h9) rfl (by decide +kernel) rfl rfl (xb_d D_Machine_control 162 rfl) (fun H locs hR hS => ?_)
  obtain ⟨h2, eh2⟩ : ∃ x : xb_H, x = xb_I h x0 15 ((xb_i h x0 15) + 1) := ⟨_, rfl⟩
  rw [← eh2] at hR
  have hw := hw h2 eh2
  have hE : xb_ext h0 h2 := by rw [eh2]; exact hE
  refine lv_goto (tgt := 407) hx hb (xb_d D_Machine_control 163 rfl) rfl ?_
  exact am_Machine_control_L407 l hfl D A σ MC MS h0 Qr h2 bc bs hw p e s m args below meth c hC H locs ls k n hE (lv_sub hl [] rfl) hR hS (by omega) (by omega)

set_option maxHeartbeats 4000000 in
set_option maxRecDepth 100000 in
theorem am_Machine_control_L159 (l : Launch) (hfl : l.flags = pinnedFlags ++ [noTraceFlag]) (D : va_G) (A : Nat → Prop) (σ MC MS : Nat) (h0 : xb_H) (Qr : xb_H → Nat → Nat → Prop) (y0 : Int32) (y1 : Nat) (h : xb_H) (bc : Nat) (bs : Nat) (hw : w_Machine_control_L159 Qr y0 y1 h bc bs) : xb_am l D A σ 7 MC MS h0 (fun v h bc bs => v = none ∧ Qr h bc bs) (fun _ _ _ _ => False) y_Machine_control.cls y_Machine_control.name b_Machine_control 3 ([] : List ExceptionTableEntry) none 159 [] [.int y0, .ref y1] h bc bs := by
  unfold w_Machine_control_L159 at hw
  intro p e s m args below meth c hC H locs ls k n hE hl hR hS hk hn
  obtain ⟨hx, hb, hown, hlocks, htab, hml, hr, hB, hA, hnm⟩ := id hC
  have hts := hB.1.1.at args
  obtain ⟨hk1, hw⟩ := hw
  refine xb_putI (C := R_Machine) (T := F_Machine) (N := 18) (ty := .int) (x := y0) hx hb 7 15 hts fin_Machine t_Machine t_Machine_ok n_Machine hown hR hS hk1 (by decide) rfl (by decide) rfl (hts _ m_6a595805) (fun _ h9 => h9) rfl (by decide +kernel) rfl rfl (xb_d D_Machine_control 31 rfl) (fun H locs hR hS => ?_)
  obtain ⟨h2, eh2⟩ : ∃ x : xb_H, x = xb_I h y1 15 y0 := ⟨_, rfl⟩
  rw [← eh2] at hR
  have hw := hw h2 eh2
  have hE : xb_ext h0 h2 := by rw [eh2]; exact hE
  refine lv_goto (tgt := 407) hx hb (xb_d D_Machine_control 32 rfl) rfl ?_
  exact am_Machine_control_L407 l hfl D A σ MC MS h0 Qr h2 bc bs hw p e s m args below meth c hC H locs ls k n hE (lv_sub hl [] rfl) hR hS (by omega) (by omega)

set_option maxHeartbeats 4000000 in
set_option maxRecDepth 100000 in
theorem ok_Machine_control (l : Launch) (hfl : l.flags = pinnedFlags ++ [noTraceFlag]) (D : va_G) (A : Nat → Prop) (σ : Nat) (x0 : Nat) (x1 : Int32) (h : xb_H) (bc : Nat) (bs : Nat) (Qr : xb_H → Nat → Nat → Prop) (hw : w_Machine_control x0 x1 h bc bs Qr) : xb_Met l y_Machine_control [.code y_Machine_control b_Machine_control 3 none] (xb_rm 7 bc bs) (xb_Pc D A σ h [.ref x0, .int x1]) (xb_Qc D A h bc bs (fun v h bc bs => v = none ∧ Qr h bc bs) (fun _ _ _ _ => False)) A := by
  refine xb_ofAm (cc := b_Machine_control) (by decide) (Nat.le_of_ble_eq_true rfl) ?_
  unfold w_Machine_control at hw
  show xb_am l D A σ 7 bc bs h (fun v h bc bs => v = none ∧ Qr h bc bs) (fun _ _ _ _ => False) y_Machine_control.cls y_Machine_control.name b_Machine_control 3 ([] : List ExceptionTableEntry) none 0 [(0, .ref x0), (1, .int x1)] [] h bc bs
  obtain ⟨MC, hMC⟩ : ∃ x, x = bc := ⟨_, rfl⟩
  obtain ⟨MS, hMS⟩ : ∃ x, x = bs := ⟨_, rfl⟩
  rw [show xb_am l D A σ 7 bc bs = xb_am l D A σ 7 MC MS by rw [hMC, hMS]]
  obtain ⟨h0, hh0⟩ : ∃ x, x = h := ⟨_, rfl⟩
  rw [show xb_am l D A σ 7 MC MS h = xb_am l D A σ 7 MC MS h0 by rw [hh0]]
  intro p e s m args below meth c hC H locs ls k n hE hl hR hS hk hn
  obtain ⟨hx, hb, hown, hlocks, htab, hml, hr, hB, hA, hnm⟩ := id hC
  have hts := hB.1.1.at args
  refine lv_iload_n hx hb (xb_d D_Machine_control 0 rfl) rfl (lv_at hl 1 rfl) ?_
  by_cases hc1 : x1 = 4
  · have hw := hw.1 hc1
    refine xt_numi hc1 ?_
    refine lv_tableIn (off := 111) (tgt := 112) hx hb (xb_d D_Machine_control 1 rfl) (by decide +kernel) (by decide +kernel) (by decide +kernel) (by decide) ?_
    refine lv_aload_n hx hb (xb_d D_Machine_control 2 rfl) rfl (lv_at hl 0 rfl) ?_
    refine lv_dup hx hb (xb_d D_Machine_control 3 rfl) rfl ?_
    obtain ⟨hk2, hw⟩ := hw
    refine xb_getI (C := R_Machine) (T := F_Machine) (N := 18) hx hb 7 10 hts fin_Machine hown hR hk2 (by decide) rfl (by decide) rfl (hts _ m_79cf62f6) (fun _ h9 => h9) (xb_d D_Machine_control 4 rfl) ?_
    refine lv_iconst (v := 1) hx hb (xb_d D_Machine_control 5 rfl) (by decide) ?_
    refine lv_isub hx hb (xb_d D_Machine_control 6 rfl) ?_
    refine xb_putI (C := R_Machine) (T := F_Machine) (N := 18) (ty := .int) (x := ((xb_i h x0 10) - 1)) hx hb 7 10 hts fin_Machine t_Machine t_Machine_ok n_Machine hown hR hS hk2 (by decide) rfl (by decide) rfl (hts _ m_79cf62f6) (fun _ h9 => h9) rfl (by decide +kernel) rfl rfl (xb_d D_Machine_control 7 rfl) (fun H locs hR hS => ?_)
    obtain ⟨h3, eh3⟩ : ∃ x : xb_H, x = xb_I h x0 10 ((xb_i h x0 10) - 1) := ⟨_, rfl⟩
    rw [← eh3] at hR
    have hw := hw h3 eh3
    have hE : xb_ext h0 h3 := by rw [eh3]; exact hE
    refine lv_aload_n hx hb (xb_d D_Machine_control 8 rfl) rfl (lv_at hl 0 rfl) ?_
    refine lv_aload_n hx hb (xb_d D_Machine_control 9 rfl) rfl (lv_at hl 0 rfl) ?_
    have hk2 : xb_k h3 x0 = 8 := by rw [eh3]; exact hk2
    refine xb_getP (C := R_Machine) (T := F_Machine) (N := 18) hx hb 7 9 hts fin_Machine hown hR hk2 (by decide) rfl (by decide) rfl (hts _ m_6904195b) (fun _ h9 => h9) (xb_d D_Machine_control 10 rfl) ?_
    obtain ⟨b4, eb4, hw⟩ := hw
    refine xb_some eb4 ?_
    refine lv_aload_n hx hb (xb_d D_Machine_control 11 rfl) rfl (lv_at hl 0 rfl) ?_
    refine xb_getI (C := R_Machine) (T := F_Machine) (N := 18) hx hb 7 10 hts fin_Machine hown hR hk2 (by decide) rfl (by decide) rfl (hts _ m_79cf62f6) (fun _ h9 => h9) (xb_d D_Machine_control 12 rfl) ?_
    obtain ⟨hk6, hw⟩ := hw
    obtain ⟨hi5, hw⟩ := hw
    refine xb_lald hx hb hR hk6 hi5 (xb_d D_Machine_control 13 rfl) ?_
    refine lv_lconst (v := 0) hx hb (xb_d D_Machine_control 14 rfl) (by decide) ?_
    refine xb_lc_eq (tgt := 146) hx hb (xb_d D_Machine_control 15 rfl) (xb_d D_Machine_control 16 rfl) rfl (fun hc7 => ?_) (fun hc7 => ?_)
    · have hw := hw.1 hc7
      refine lv_aload_n hx hb (xb_d D_Machine_control 22 rfl) rfl (lv_at hl 0 rfl) ?_
      refine xb_getP (C := R_Machine) (T := F_Machine) (N := 18) hx hb 7 14 hts fin_Machine hown hR hk2 (by decide) rfl (by decide) rfl (hts _ m_8f763f86) (fun _ h9 => h9) (xb_d D_Machine_control 23 rfl) ?_
      obtain ⟨b8, eb8, hw⟩ := hw
      refine xb_some eb8 ?_
      refine lv_aload_n hx hb (xb_d D_Machine_control 24 rfl) rfl (lv_at hl 0 rfl) ?_
      refine xb_getI (C := R_Machine) (T := F_Machine) (N := 18) hx hb 7 15 hts fin_Machine hown hR hk2 (by decide) rfl (by decide) rfl (hts _ m_6a595805) (fun _ h9 => h9) (xb_d D_Machine_control 25 rfl) ?_
      refine lv_iconst (v := 1) hx hb (xb_d D_Machine_control 26 rfl) (by decide) ?_
      refine lv_iadd hx hb (xb_d D_Machine_control 27 rfl) ?_
      obtain ⟨hk10, hw⟩ := hw
      obtain ⟨hi9, hw⟩ := hw
      refine xb_iald hx hb hR hk10 hi9 (xb_d D_Machine_control 28 rfl) ?_
      refine lv_iconst (v := 1) hx hb (xb_d D_Machine_control 29 rfl) (by decide) ?_
      refine lv_iadd hx hb (xb_d D_Machine_control 30 rfl) ?_
      exact am_Machine_control_L159 l hfl D A σ MC MS h0 Qr ((xb_i h3 b8 (Int32.toNatClampNeg ((xb_i h3 x0 15) + 1))) + 1) x0 h3 bc bs hw p e s m args below meth c hC H locs ls k n hE (lv_sub hl [] rfl) hR hS (by omega) (by omega)
    · have hw := hw.2 hc7
      refine lv_aload_n hx hb (xb_d D_Machine_control 17 rfl) rfl (lv_at hl 0 rfl) ?_
      refine xb_getI (C := R_Machine) (T := F_Machine) (N := 18) hx hb 7 15 hts fin_Machine hown hR hk2 (by decide) rfl (by decide) rfl (hts _ m_6a595805) (fun _ h9 => h9) (xb_d D_Machine_control 18 rfl) ?_
      refine lv_iconst (v := 2) hx hb (xb_d D_Machine_control 19 rfl) (by decide) ?_
      refine lv_iadd hx hb (xb_d D_Machine_control 20 rfl) ?_
      refine lv_goto (tgt := 159) hx hb (xb_d D_Machine_control 21 rfl) rfl ?_
      exact am_Machine_control_L159 l hfl D A σ MC MS h0 Qr ((xb_i h3 x0 15) + 2) x0 h3 bc bs hw p e s m args below meth c hC H locs ls k n hE (lv_sub hl [] rfl) hR hS (by omega) (by omega)
  have hw := hw.2
  by_cases hc11 : x1 = 5
  · have hw := hw.1 hc11
    refine xt_numi hc11 ?_
    refine lv_tableIn (off := 401) (tgt := 402) hx hb (xb_d D_Machine_control 1 rfl) (by decide +kernel) (by decide +kernel) (by decide +kernel) (by decide) ?_
    exact am_Machine_control_L402 l hfl D A σ MC MS h0 Qr x0 h bc bs hw p e s m args below meth c hC H locs ls k n hE (lv_sub hl [0] rfl) hR hS (by omega) (by omega)
  have hw := hw.2
  by_cases hc12 : x1 = 6
  · have hw := hw.1 hc12
    refine xt_numi hc12 ?_
    refine lv_tableIn (off := 401) (tgt := 402) hx hb (xb_d D_Machine_control 1 rfl) (by decide +kernel) (by decide +kernel) (by decide +kernel) (by decide) ?_
    exact am_Machine_control_L402 l hfl D A σ MC MS h0 Qr x0 h bc bs hw p e s m args below meth c hC H locs ls k n hE (lv_sub hl [0] rfl) hR hS (by omega) (by omega)
  have hw := hw.2
  by_cases hc13 : x1 = 7
  · have hw := hw.1 hc13
    refine xt_numi hc13 ?_
    refine lv_tableIn (off := 401) (tgt := 402) hx hb (xb_d D_Machine_control 1 rfl) (by decide +kernel) (by decide +kernel) (by decide +kernel) (by decide) ?_
    exact am_Machine_control_L402 l hfl D A σ MC MS h0 Qr x0 h bc bs hw p e s m args below meth c hC H locs ls k n hE (lv_sub hl [0] rfl) hR hS (by omega) (by omega)
  have hw := hw.2
  by_cases hc14 : x1 = 8
  · have hw := hw.1 hc14
    refine xt_numi hc14 ?_
    refine lv_tableIn (off := 401) (tgt := 402) hx hb (xb_d D_Machine_control 1 rfl) (by decide +kernel) (by decide +kernel) (by decide +kernel) (by decide) ?_
    exact am_Machine_control_L402 l hfl D A σ MC MS h0 Qr x0 h bc bs hw p e s m args below meth c hC H locs ls k n hE (lv_sub hl [0] rfl) hR hS (by omega) (by omega)
  have hw := hw.2
  by_cases hc15 : x1 = 9
  · have hw := hw.1 hc15
    refine xt_numi hc15 ?_
    refine lv_tableIn (off := 401) (tgt := 402) hx hb (xb_d D_Machine_control 1 rfl) (by decide +kernel) (by decide +kernel) (by decide +kernel) (by decide) ?_
    exact am_Machine_control_L402 l hfl D A σ MC MS h0 Qr x0 h bc bs hw p e s m args below meth c hC H locs ls k n hE (lv_sub hl [0] rfl) hR hS (by omega) (by omega)
  have hw := hw.2
  by_cases hc16 : x1 = 10
  · have hw := hw.1 hc16
    refine xt_numi hc16 ?_
    refine lv_tableIn (off := 401) (tgt := 402) hx hb (xb_d D_Machine_control 1 rfl) (by decide +kernel) (by decide +kernel) (by decide +kernel) (by decide) ?_
    exact am_Machine_control_L402 l hfl D A σ MC MS h0 Qr x0 h bc bs hw p e s m args below meth c hC H locs ls k n hE (lv_sub hl [0] rfl) hR hS (by omega) (by omega)
  have hw := hw.2
  by_cases hc17 : x1 = 11
  · have hw := hw.1 hc17
    refine xt_numi hc17 ?_
    refine lv_tableIn (off := 401) (tgt := 402) hx hb (xb_d D_Machine_control 1 rfl) (by decide +kernel) (by decide +kernel) (by decide +kernel) (by decide) ?_
    exact am_Machine_control_L402 l hfl D A σ MC MS h0 Qr x0 h bc bs hw p e s m args below meth c hC H locs ls k n hE (lv_sub hl [0] rfl) hR hS (by omega) (by omega)
  have hw := hw.2
  by_cases hc18 : x1 = 12
  · have hw := hw.1 hc18
    refine xt_numi hc18 ?_
    refine lv_tableIn (off := 164) (tgt := 165) hx hb (xb_d D_Machine_control 1 rfl) (by decide +kernel) (by decide +kernel) (by decide +kernel) (by decide) ?_
    refine lv_aload_n hx hb (xb_d D_Machine_control 33 rfl) rfl (lv_at hl 0 rfl) ?_
    refine lv_aload_n hx hb (xb_d D_Machine_control 34 rfl) rfl (lv_at hl 0 rfl) ?_
    obtain ⟨hk19, hw⟩ := hw
    refine xb_getP (C := R_Machine) (T := F_Machine) (N := 18) hx hb 7 14 hts fin_Machine hown hR hk19 (by decide) rfl (by decide) rfl (hts _ m_8f763f86) (fun _ h9 => h9) (xb_d D_Machine_control 35 rfl) ?_
    obtain ⟨b20, eb20, hw⟩ := hw
    refine xb_some eb20 ?_
    refine lv_aload_n hx hb (xb_d D_Machine_control 36 rfl) rfl (lv_at hl 0 rfl) ?_
    refine xb_getI (C := R_Machine) (T := F_Machine) (N := 18) hx hb 7 15 hts fin_Machine hown hR hk19 (by decide) rfl (by decide) rfl (hts _ m_6a595805) (fun _ h9 => h9) (xb_d D_Machine_control 37 rfl) ?_
    refine lv_iconst (v := 1) hx hb (xb_d D_Machine_control 38 rfl) (by decide) ?_
    refine lv_iadd hx hb (xb_d D_Machine_control 39 rfl) ?_
    obtain ⟨hk22, hw⟩ := hw
    obtain ⟨hi21, hw⟩ := hw
    refine xb_iald hx hb hR hk22 hi21 (xb_d D_Machine_control 40 rfl) ?_
    refine xb_call0 (D := D) (A := A) (σ := σ) (h := h) (d := 5) (maxL := 4) (rest := []) (av := [.ref x0, .int (xb_i h b20 (Int32.toNatClampNeg ((xb_i h x0 15) + 1)))]) (fun T hT X => by obtain ⟨cb9, ra9, rb9, rc9⟩ := xb_recv (ci := 7) hR rfl hk19 (by decide); exact xt_invV X hx hown (hts _ m_2ff4e4ca) (hts _ m_118b24b7) (hts _ m_3a3589ee) (xt_sigOf (hts _ m_540952bd)) nm_Machine_branch (by rw [hT]; exact ra9) rb9 rc9 (g := F0 m 177 ls [.int (xb_i h b20 (Int32.toNatClampNeg ((xb_i h x0 15) + 1))), .ref x0]) rfl (argsL := [.int (xb_i h b20 (Int32.toNatClampNeg ((xb_i h x0 15) + 1)))]) (rest := []) rfl rfl (by rw [hb]; exact (xb_d D_Machine_control 41 rfl))) (ok_Machine_branch l hfl D A σ x0 (xb_i h b20 (Int32.toNatClampNeg ((xb_i h x0 15) + 1))) h _ hw) (hml.trans hl.1.symm) (by rw [hb]; exact (xb_d D_Machine_control 41 rfl)) (Nat.le_of_ble_eq_true rfl) (Nat.le_of_ble_eq_true rfl) (Nat.le_of_ble_eq_true rfl) (show k ≤ MC by omega) (show n ≤ MS by omega) (xt_w1 hB.1 m_540952bd) (xt_cdOf hB.1 m_540952bd) (hts _ m_73451f9b) hB hR hS hA (fun vv h23 H locs hq hEh23 hR hS => ?_)
    obtain ⟨rfl, hw⟩ := hq
    have hw := hw hEh23
    have hE := hE.tr hEh23
    refine W.eq (g2 := F0 m 180 ls []) rfl ?_
    refine lv_goto (tgt := 407) hx hb (xb_d D_Machine_control 42 rfl) rfl ?_
    exact am_Machine_control_L407 l hfl D A σ MC MS h0 Qr h23 bc bs hw p e s m args below meth c hC H locs ls k n hE (lv_sub hl [] rfl) hR hS (by omega) (by omega)
  have hw := hw.2
  by_cases hc25 : x1 = 13
  · have hw := hw.1 hc25
    refine xt_numi hc25 ?_
    refine lv_tableIn (off := 182) (tgt := 183) hx hb (xb_d D_Machine_control 1 rfl) (by decide +kernel) (by decide +kernel) (by decide +kernel) (by decide) ?_
    refine lv_aload_n hx hb (xb_d D_Machine_control 43 rfl) rfl (lv_at hl 0 rfl) ?_
    refine lv_dup hx hb (xb_d D_Machine_control 44 rfl) rfl ?_
    obtain ⟨hk26, hw⟩ := hw
    refine xb_getI (C := R_Machine) (T := F_Machine) (N := 18) hx hb 7 10 hts fin_Machine hown hR hk26 (by decide) rfl (by decide) rfl (hts _ m_79cf62f6) (fun _ h9 => h9) (xb_d D_Machine_control 45 rfl) ?_
    refine lv_iconst (v := 1) hx hb (xb_d D_Machine_control 46 rfl) (by decide) ?_
    refine lv_isub hx hb (xb_d D_Machine_control 47 rfl) ?_
    refine xb_putI (C := R_Machine) (T := F_Machine) (N := 18) (ty := .int) (x := ((xb_i h x0 10) - 1)) hx hb 7 10 hts fin_Machine t_Machine t_Machine_ok n_Machine hown hR hS hk26 (by decide) rfl (by decide) rfl (hts _ m_79cf62f6) (fun _ h9 => h9) rfl (by decide +kernel) rfl rfl (xb_d D_Machine_control 48 rfl) (fun H locs hR hS => ?_)
    obtain ⟨h27, eh27⟩ : ∃ x : xb_H, x = xb_I h x0 10 ((xb_i h x0 10) - 1) := ⟨_, rfl⟩
    rw [← eh27] at hR
    have hw := hw h27 eh27
    have hE : xb_ext h0 h27 := by rw [eh27]; exact hE
    refine lv_aload_n hx hb (xb_d D_Machine_control 49 rfl) rfl (lv_at hl 0 rfl) ?_
    have hk26 : xb_k h27 x0 = 8 := by rw [eh27]; exact hk26
    refine xb_getP (C := R_Machine) (T := F_Machine) (N := 18) hx hb 7 9 hts fin_Machine hown hR hk26 (by decide) rfl (by decide) rfl (hts _ m_6904195b) (fun _ h9 => h9) (xb_d D_Machine_control 50 rfl) ?_
    obtain ⟨b28, eb28, hw⟩ := hw
    refine xb_some eb28 ?_
    refine lv_aload_n hx hb (xb_d D_Machine_control 51 rfl) rfl (lv_at hl 0 rfl) ?_
    refine xb_getI (C := R_Machine) (T := F_Machine) (N := 18) hx hb 7 10 hts fin_Machine hown hR hk26 (by decide) rfl (by decide) rfl (hts _ m_79cf62f6) (fun _ h9 => h9) (xb_d D_Machine_control 52 rfl) ?_
    obtain ⟨hk30, hw⟩ := hw
    obtain ⟨hi29, hw⟩ := hw
    refine xb_lald hx hb hR hk30 hi29 (xb_d D_Machine_control 53 rfl) ?_
    refine lv_lconst (v := 0) hx hb (xb_d D_Machine_control 54 rfl) (by decide) ?_
    refine xb_lc_eq (tgt := 225) hx hb (xb_d D_Machine_control 55 rfl) (xb_d D_Machine_control 56 rfl) rfl (fun hc31 => ?_) (fun hc31 => ?_)
    · have hw := hw.1 hc31
      refine lv_aload_n hx hb (xb_d D_Machine_control 67 rfl) rfl (lv_at hl 0 rfl) ?_
      refine lv_aload_n hx hb (xb_d D_Machine_control 68 rfl) rfl (lv_at hl 0 rfl) ?_
      refine xb_getP (C := R_Machine) (T := F_Machine) (N := 18) hx hb 7 14 hts fin_Machine hown hR hk26 (by decide) rfl (by decide) rfl (hts _ m_8f763f86) (fun _ h9 => h9) (xb_d D_Machine_control 69 rfl) ?_
      obtain ⟨b32, eb32, hw⟩ := hw
      refine xb_some eb32 ?_
      refine lv_aload_n hx hb (xb_d D_Machine_control 70 rfl) rfl (lv_at hl 0 rfl) ?_
      refine xb_getI (C := R_Machine) (T := F_Machine) (N := 18) hx hb 7 15 hts fin_Machine hown hR hk26 (by decide) rfl (by decide) rfl (hts _ m_6a595805) (fun _ h9 => h9) (xb_d D_Machine_control 71 rfl) ?_
      obtain ⟨hk34, hw⟩ := hw
      obtain ⟨hi33, hw⟩ := hw
      refine xb_iald hx hb hR hk34 hi33 (xb_d D_Machine_control 72 rfl) ?_
      refine xb_putI (C := R_Machine) (T := F_Machine) (N := 18) (ty := .int) (x := (xb_i h27 b32 (Int32.toNatClampNeg (xb_i h27 x0 15)))) hx hb 7 15 hts fin_Machine t_Machine t_Machine_ok n_Machine hown hR hS hk26 (by decide) rfl (by decide) rfl (hts _ m_6a595805) (fun _ h9 => h9) rfl (by decide +kernel) rfl rfl (xb_d D_Machine_control 73 rfl) (fun H locs hR hS => ?_)
      obtain ⟨h35, eh35⟩ : ∃ x : xb_H, x = xb_I h27 x0 15 (xb_i h27 b32 (Int32.toNatClampNeg (xb_i h27 x0 15))) := ⟨_, rfl⟩
      rw [← eh35] at hR
      have hw := hw h35 eh35
      have hE : xb_ext h0 h35 := by rw [eh35]; exact hE
      refine lv_goto (tgt := 407) hx hb (xb_d D_Machine_control 74 rfl) rfl ?_
      exact am_Machine_control_L407 l hfl D A σ MC MS h0 Qr h35 bc bs hw p e s m args below meth c hC H locs ls k n hE (lv_sub hl [] rfl) hR hS (by omega) (by omega)
    · have hw := hw.2 hc31
      refine lv_aload_n hx hb (xb_d D_Machine_control 57 rfl) rfl (lv_at hl 0 rfl) ?_
      refine lv_aload_n hx hb (xb_d D_Machine_control 58 rfl) rfl (lv_at hl 0 rfl) ?_
      refine xb_getP (C := R_Machine) (T := F_Machine) (N := 18) hx hb 7 14 hts fin_Machine hown hR hk26 (by decide) rfl (by decide) rfl (hts _ m_8f763f86) (fun _ h9 => h9) (xb_d D_Machine_control 59 rfl) ?_
      obtain ⟨b36, eb36, hw⟩ := hw
      refine xb_some eb36 ?_
      refine lv_aload_n hx hb (xb_d D_Machine_control 60 rfl) rfl (lv_at hl 0 rfl) ?_
      refine xb_getI (C := R_Machine) (T := F_Machine) (N := 18) hx hb 7 15 hts fin_Machine hown hR hk26 (by decide) rfl (by decide) rfl (hts _ m_6a595805) (fun _ h9 => h9) (xb_d D_Machine_control 61 rfl) ?_
      refine lv_iconst (v := 1) hx hb (xb_d D_Machine_control 62 rfl) (by decide) ?_
      refine lv_iadd hx hb (xb_d D_Machine_control 63 rfl) ?_
      obtain ⟨hk38, hw⟩ := hw
      obtain ⟨hi37, hw⟩ := hw
      refine xb_iald hx hb hR hk38 hi37 (xb_d D_Machine_control 64 rfl) ?_
      refine xb_call0 (D := D) (A := A) (σ := σ) (h := h27) (d := 5) (maxL := 4) (rest := []) (av := [.ref x0, .int (xb_i h27 b36 (Int32.toNatClampNeg ((xb_i h27 x0 15) + 1)))]) (fun T hT X => by obtain ⟨cb9, ra9, rb9, rc9⟩ := xb_recv (ci := 7) hR rfl hk26 (by decide); exact xt_invV X hx hown (hts _ m_2ff4e4ca) (hts _ m_118b24b7) (hts _ m_3a3589ee) (xt_sigOf (hts _ m_540952bd)) nm_Machine_branch (by rw [hT]; exact ra9) rb9 rc9 (g := F0 m 219 ls [.int (xb_i h27 b36 (Int32.toNatClampNeg ((xb_i h27 x0 15) + 1))), .ref x0]) rfl (argsL := [.int (xb_i h27 b36 (Int32.toNatClampNeg ((xb_i h27 x0 15) + 1)))]) (rest := []) rfl rfl (by rw [hb]; exact (xb_d D_Machine_control 65 rfl))) (ok_Machine_branch l hfl D A σ x0 (xb_i h27 b36 (Int32.toNatClampNeg ((xb_i h27 x0 15) + 1))) h27 _ hw) (hml.trans hl.1.symm) (by rw [hb]; exact (xb_d D_Machine_control 65 rfl)) (Nat.le_of_ble_eq_true rfl) (Nat.le_of_ble_eq_true rfl) (Nat.le_of_ble_eq_true rfl) (show k ≤ MC by omega) (show n ≤ MS by omega) (xt_w1 hB.1 m_540952bd) (xt_cdOf hB.1 m_540952bd) (hts _ m_73451f9b) hB hR hS hA (fun vv h39 H locs hq hEh39 hR hS => ?_)
      obtain ⟨rfl, hw⟩ := hq
      have hw := hw hEh39
      have hE := hE.tr hEh39
      refine W.eq (g2 := F0 m 222 ls []) rfl ?_
      refine lv_goto (tgt := 407) hx hb (xb_d D_Machine_control 66 rfl) rfl ?_
      exact am_Machine_control_L407 l hfl D A σ MC MS h0 Qr h39 bc bs hw p e s m args below meth c hC H locs ls k n hE (lv_sub hl [] rfl) hR hS (by omega) (by omega)
  have hw := hw.2
  by_cases hc41 : x1 = 14
  · have hw := hw.1 hc41
    refine xt_numi hc41 ?_
    refine lv_tableIn (off := 240) (tgt := 241) hx hb (xb_d D_Machine_control 1 rfl) (by decide +kernel) (by decide +kernel) (by decide +kernel) (by decide) ?_
    refine lv_aload_n hx hb (xb_d D_Machine_control 75 rfl) rfl (lv_at hl 0 rfl) ?_
    refine lv_aload_n hx hb (xb_d D_Machine_control 76 rfl) rfl (lv_at hl 0 rfl) ?_
    obtain ⟨hk42, hw⟩ := hw
    refine xb_call0 (D := D) (A := A) (σ := σ) (h := h) (d := 2) (maxL := 3) (rest := [.ref x0]) (av := [.ref x0]) (fun T hT X => by obtain ⟨cb9, ra9, rb9, rc9⟩ := xb_recv (ci := 7) hR rfl hk42 (by decide); exact xt_invV X hx hown (hts _ m_bfca4707) (hts _ m_e2b28718) (hts _ m_93b0a8fc) (xt_sigOf (hts _ m_780abd7a)) nm_Machine_chosenLabel (by rw [hT]; exact ra9) rb9 rc9 (g := F0 m 243 ls [.ref x0, .ref x0]) rfl (argsL := []) (rest := [.ref x0]) rfl rfl (by rw [hb]; exact (xb_d D_Machine_control 77 rfl))) (ok_Machine_chosenLabel l hfl D A σ x0 h _ hw) (hml.trans hl.1.symm) (by rw [hb]; exact (xb_d D_Machine_control 77 rfl)) (Nat.le_of_ble_eq_true rfl) (Nat.le_of_ble_eq_true rfl) (Nat.le_of_ble_eq_true rfl) (show k ≤ MC by omega) (show n ≤ MS by omega) (xt_w1 hB.1 m_780abd7a) (xt_cdOf hB.1 m_780abd7a) (hts _ m_73451f9b) hB hR hS hA (fun vv h43 H locs hq hEh43 hR hS => ?_)
    obtain ⟨r44, rfl, hw⟩ := hq
    have hw := hw hEh43
    have hE := hE.tr hEh43
    refine W.eq (g2 := F0 m 246 ls [.int r44, .ref x0]) rfl ?_
    have hk42 : xb_k h43 x0 = 8 := hEh43.k hk42
    refine xb_call0 (D := D) (A := A) (σ := σ) (h := h43) (d := 5) (maxL := 4) (rest := []) (av := [.ref x0, .int r44]) (fun T hT X => by obtain ⟨cb9, ra9, rb9, rc9⟩ := xb_recv (ci := 7) hR rfl hk42 (by decide); exact xt_invV X hx hown (hts _ m_2ff4e4ca) (hts _ m_118b24b7) (hts _ m_3a3589ee) (xt_sigOf (hts _ m_540952bd)) nm_Machine_branch (by rw [hT]; exact ra9) rb9 rc9 (g := F0 m 246 ls [.int r44, .ref x0]) rfl (argsL := [.int r44]) (rest := []) rfl rfl (by rw [hb]; exact (xb_d D_Machine_control 78 rfl))) (ok_Machine_branch l hfl D A σ x0 r44 h43 _ hw) (hml.trans hl.1.symm) (by rw [hb]; exact (xb_d D_Machine_control 78 rfl)) (Nat.le_of_ble_eq_true rfl) (Nat.le_of_ble_eq_true rfl) (Nat.le_of_ble_eq_true rfl) (show k ≤ MC by omega) (show n ≤ MS by omega) (xt_w1 hB.1 m_540952bd) (xt_cdOf hB.1 m_540952bd) (hts _ m_73451f9b) hB hR hS hA (fun vv h45 H locs hq hEh45 hR hS => ?_)
    obtain ⟨rfl, hw⟩ := hq
    have hw := hw hEh45
    have hE := hE.tr hEh45
    refine W.eq (g2 := F0 m 249 ls []) rfl ?_
    refine lv_goto (tgt := 407) hx hb (xb_d D_Machine_control 79 rfl) rfl ?_
    exact am_Machine_control_L407 l hfl D A σ MC MS h0 Qr h45 bc bs hw p e s m args below meth c hC H locs ls k n hE (lv_sub hl [] rfl) hR hS (by omega) (by omega)
  have hw := hw.2
  by_cases hc47 : x1 = 15
  · have hw := hw.1 hc47
    refine xt_numi hc47 ?_
    refine lv_tableIn (off := 251) (tgt := 252) hx hb (xb_d D_Machine_control 1 rfl) (by decide +kernel) (by decide +kernel) (by decide +kernel) (by decide) ?_
    refine lv_aload_n hx hb (xb_d D_Machine_control 80 rfl) rfl (lv_at hl 0 rfl) ?_
    obtain ⟨hk48, hw⟩ := hw
    refine xb_call0 (D := D) (A := A) (σ := σ) (h := h) (d := 4) (maxL := 7) (rest := []) (av := [.ref x0]) (fun T hT X => by obtain ⟨cb9, ra9, rb9, rc9⟩ := xb_recv (ci := 7) hR rfl hk48 (by decide); exact xt_invV X hx hown (hts _ m_decb3334) (hts _ m_d830cba0) (hts _ m_0077867b) (xt_sigOf (hts _ m_d7f63aa1)) nm_Machine_endCall (by rw [hT]; exact ra9) rb9 rc9 (g := F0 m 253 ls [.ref x0]) rfl (argsL := []) (rest := []) rfl rfl (by rw [hb]; exact (xb_d D_Machine_control 81 rfl))) (ok_Machine_endCall l hfl D A σ x0 h _ hw) (hml.trans hl.1.symm) (by rw [hb]; exact (xb_d D_Machine_control 81 rfl)) (Nat.le_of_ble_eq_true rfl) (Nat.le_of_ble_eq_true rfl) (Nat.le_of_ble_eq_true rfl) (show k ≤ MC by omega) (show n ≤ MS by omega) (xt_w1 hB.1 m_d7f63aa1) (xt_cdOf hB.1 m_d7f63aa1) (hts _ m_73451f9b) hB hR hS hA (fun vv h49 H locs hq hEh49 hR hS => ?_)
    obtain ⟨rfl, hw⟩ := hq
    have hw := hw hEh49
    have hE := hE.tr hEh49
    refine W.eq (g2 := F0 m 256 ls []) rfl ?_
    refine lv_goto (tgt := 407) hx hb (xb_d D_Machine_control 82 rfl) rfl ?_
    exact am_Machine_control_L407 l hfl D A σ MC MS h0 Qr h49 bc bs hw p e s m args below meth c hC H locs ls k n hE (lv_sub hl [] rfl) hR hS (by omega) (by omega)
  have hw := hw.2
  by_cases hc51 : x1 = 16
  · have hw := hw.1 hc51
    refine xt_numi hc51 ?_
    refine lv_tableIn (off := 258) (tgt := 259) hx hb (xb_d D_Machine_control 1 rfl) (by decide +kernel) (by decide +kernel) (by decide +kernel) (by decide) ?_
    refine lv_aload_n hx hb (xb_d D_Machine_control 83 rfl) rfl (lv_at hl 0 rfl) ?_
    refine lv_aload_n hx hb (xb_d D_Machine_control 84 rfl) rfl (lv_at hl 0 rfl) ?_
    obtain ⟨hk52, hw⟩ := hw
    refine xb_getP (C := R_Machine) (T := F_Machine) (N := 18) hx hb 7 12 hts fin_Machine hown hR hk52 (by decide) rfl (by decide) rfl (hts _ m_a347cb26) (fun _ h9 => h9) (xb_d D_Machine_control 85 rfl) ?_
    obtain ⟨b53, eb53, hw⟩ := hw
    refine xb_some eb53 ?_
    refine lv_aload_n hx hb (xb_d D_Machine_control 86 rfl) rfl (lv_at hl 0 rfl) ?_
    refine xb_getP (C := R_Machine) (T := F_Machine) (N := 18) hx hb 7 14 hts fin_Machine hown hR hk52 (by decide) rfl (by decide) rfl (hts _ m_8f763f86) (fun _ h9 => h9) (xb_d D_Machine_control 87 rfl) ?_
    obtain ⟨b54, eb54, hw⟩ := hw
    refine xb_some eb54 ?_
    refine lv_aload_n hx hb (xb_d D_Machine_control 88 rfl) rfl (lv_at hl 0 rfl) ?_
    refine xb_getI (C := R_Machine) (T := F_Machine) (N := 18) hx hb 7 15 hts fin_Machine hown hR hk52 (by decide) rfl (by decide) rfl (hts _ m_6a595805) (fun _ h9 => h9) (xb_d D_Machine_control 89 rfl) ?_
    refine lv_iconst (v := 1) hx hb (xb_d D_Machine_control 90 rfl) (by decide) ?_
    refine lv_iadd hx hb (xb_d D_Machine_control 91 rfl) ?_
    obtain ⟨hk56, hw⟩ := hw
    obtain ⟨hi55, hw⟩ := hw
    refine xb_iald hx hb hR hk56 hi55 (xb_d D_Machine_control 92 rfl) ?_
    obtain ⟨hk57, hw⟩ := hw
    refine xb_call0 (D := D) (A := A) (σ := σ) (h := h) (d := 2) (maxL := 3) (rest := [.ref x0]) (av := [.ref b53, .int (xb_i h b54 (Int32.toNatClampNeg ((xb_i h x0 15) + 1)))]) (fun T hT X => by obtain ⟨cb9, ra9, rb9, rc9⟩ := xb_recv (ci := 10) hR rfl hk57 (by decide); exact xt_invV X hx hown (hts _ m_13027831) (hts _ m_3dbccea2) (hts _ m_6ce97918) (xt_sigOf (hts _ m_0d2452ce)) nm_Instance_functionId (by rw [hT]; exact ra9) rb9 rc9 (g := F0 m 275 ls [.int (xb_i h b54 (Int32.toNatClampNeg ((xb_i h x0 15) + 1))), .ref b53, .ref x0]) rfl (argsL := [.int (xb_i h b54 (Int32.toNatClampNeg ((xb_i h x0 15) + 1)))]) (rest := [.ref x0]) rfl rfl (by rw [hb]; exact (xb_d D_Machine_control 93 rfl))) (ok_Instance_functionId l hfl D A σ b53 (xb_i h b54 (Int32.toNatClampNeg ((xb_i h x0 15) + 1))) h _ hw) (hml.trans hl.1.symm) (by rw [hb]; exact (xb_d D_Machine_control 93 rfl)) (Nat.le_of_ble_eq_true rfl) (Nat.le_of_ble_eq_true rfl) (Nat.le_of_ble_eq_true rfl) (show k ≤ MC by omega) (show n ≤ MS by omega) (xt_w1 hB.1 m_0d2452ce) (xt_cdOf hB.1 m_0d2452ce) (hts _ m_7a4e907b) hB hR hS hA (fun vv h58 H locs hq hEh58 hR hS => ?_)
    obtain ⟨r59, rfl, hw⟩ := hq
    have hw := hw hEh58
    have hE := hE.tr hEh58
    refine W.eq (g2 := F0 m 278 ls [.int r59, .ref x0]) rfl ?_
    refine lv_aload_n hx hb (xb_d D_Machine_control 94 rfl) rfl (lv_at hl 0 rfl) ?_
    have hk52 : xb_k h58 x0 = 8 := hEh58.k hk52
    refine xb_getP (C := R_Machine) (T := F_Machine) (N := 18) hx hb 7 14 hts fin_Machine hown hR hk52 (by decide) rfl (by decide) rfl (hts _ m_8f763f86) (fun _ h9 => h9) (xb_d D_Machine_control 95 rfl) ?_
    obtain ⟨b60, eb60, hw⟩ := hw
    refine xb_some eb60 ?_
    refine lv_aload_n hx hb (xb_d D_Machine_control 96 rfl) rfl (lv_at hl 0 rfl) ?_
    refine xb_getI (C := R_Machine) (T := F_Machine) (N := 18) hx hb 7 15 hts fin_Machine hown hR hk52 (by decide) rfl (by decide) rfl (hts _ m_6a595805) (fun _ h9 => h9) (xb_d D_Machine_control 97 rfl) ?_
    obtain ⟨hk62, hw⟩ := hw
    obtain ⟨hi61, hw⟩ := hw
    refine xb_iald hx hb hR hk62 hi61 (xb_d D_Machine_control 98 rfl) ?_
    refine xb_call (D := D) (A := A) (σ := σ) (h := h58) (d := 6) (mc := bc) (ms := bs) (maxL := 10) (rest := []) (av := [.ref x0, .int r59, .int (xb_i h58 b60 (Int32.toNatClampNeg (xb_i h58 x0 15)))]) (fun T hT X => by obtain ⟨cb9, ra9, rb9, rc9⟩ := xb_recv (ci := 7) hR rfl hk52 (by decide); exact xt_invV X hx hown (hts _ m_2e977ee7) (hts _ m_0a404550) (hts _ m_a0a488ae) (xt_sigOf (hts _ m_f3390e9e)) nm_Machine_call (by rw [hT]; exact ra9) rb9 rc9 (g := F0 m 287 ls [.int (xb_i h58 b60 (Int32.toNatClampNeg (xb_i h58 x0 15))), .int r59, .ref x0]) rfl (argsL := [.int r59, .int (xb_i h58 b60 (Int32.toNatClampNeg (xb_i h58 x0 15)))]) (rest := []) rfl rfl (by rw [hb]; exact (xb_d D_Machine_control 99 rfl))) (ok_Machine_call l hfl D A σ x0 r59 (xb_i h58 b60 (Int32.toNatClampNeg (xb_i h58 x0 15))) h58 bc bs _ hw) (hml.trans hl.1.symm) (by rw [hb]; exact (xb_d D_Machine_control 99 rfl)) (Nat.le_of_ble_eq_true rfl) (Nat.le_of_ble_eq_true rfl) (Nat.le_of_ble_eq_true rfl) (show k + bc ≤ MC by omega) (show n + bs ≤ MS by omega) (xt_w1 hB.1 m_f3390e9e) (xt_cdOf hB.1 m_f3390e9e) (hts _ m_73451f9b) hB hR hS hA (fun vv h63 bc64 bs64 kk64 nn64 H locs hk64 hn64 hq hEh63 hR hS => ?_) (fun XX ax h63 bc64 bs64 kk64 nn64 H locs hk64 hn64 hq hEh63 hex hR hS => ?_)
    · obtain ⟨rfl, hw⟩ := hq
      have hw := hw hEh63
      have hE := hE.tr hEh63
      refine W.eq (g2 := F0 m 290 ls []) rfl ?_
      refine lv_goto (tgt := 407) hx hb (xb_d D_Machine_control 100 rfl) rfl ?_
      exact am_Machine_control_L407 l hfl D A σ MC MS h0 Qr h63 bc64 bs64 hw p e s m args below meth c hC H locs ls (k + kk64) (n + nn64) hE (lv_sub hl [] rfl) hR hS (by omega) (by omega)
    · exact False.elim hq
  have hw := hw.2
  by_cases hc65 : x1 = 17
  · have hw := hw.1 hc65
    refine xt_numi hc65 ?_
    refine lv_tableIn (off := 292) (tgt := 293) hx hb (xb_d D_Machine_control 1 rfl) (by decide +kernel) (by decide +kernel) (by decide +kernel) (by decide) ?_
    refine lv_aload_n hx hb (xb_d D_Machine_control 101 rfl) rfl (lv_at hl 0 rfl) ?_
    obtain ⟨hk66, hw⟩ := hw
    refine xb_call0 (D := D) (A := A) (σ := σ) (h := h) (d := 5) (maxL := 3) (rest := []) (av := [.ref x0]) (fun T hT X => by obtain ⟨cb9, ra9, rb9, rc9⟩ := xb_recv (ci := 7) hR rfl hk66 (by decide); exact xt_invV X hx hown (hts _ m_0adfe5d3) (hts _ m_5b2a395b) (hts _ m_aa9611ca) (xt_sigOf (hts _ m_639fa9c2)) nm_Machine_chosenElement (by rw [hT]; exact ra9) rb9 rc9 (g := F0 m 294 ls [.ref x0]) rfl (argsL := []) (rest := []) rfl rfl (by rw [hb]; exact (xb_d D_Machine_control 102 rfl))) (ok_Machine_chosenElement l hfl D A σ x0 h _ hw) (hml.trans hl.1.symm) (by rw [hb]; exact (xb_d D_Machine_control 102 rfl)) (Nat.le_of_ble_eq_true rfl) (Nat.le_of_ble_eq_true rfl) (Nat.le_of_ble_eq_true rfl) (show k ≤ MC by omega) (show n ≤ MS by omega) (xt_w1 hB.1 m_639fa9c2) (xt_cdOf hB.1 m_639fa9c2) (hts _ m_73451f9b) hB hR hS hA (fun vv h67 H locs hq hEh67 hR hS => ?_)
    obtain ⟨r68, rfl, hw⟩ := hq
    have hw := hw hEh67
    have hE := hE.tr hEh67
    refine W.eq (g2 := F0 m 297 ls [.int r68]) rfl ?_
    refine lv_istore_n hx hb (xb_d D_Machine_control 103 rfl) rfl hl (by decide) rfl (fun ls hl => ?_)
    have hl : lv_has ls 3 [(2, .int r68), (0, .ref x0), (1, .int x1)] := hl
    refine lv_iload_n hx hb (xb_d D_Machine_control 104 rfl) rfl (lv_at hl 0 rfl) ?_
    refine lv_iconst (v := (-1)) hx hb (xb_d D_Machine_control 105 rfl) (by decide) ?_
    refine lv_icmp_eq (tgt := 407) hx hb (xb_d D_Machine_control 106 rfl) rfl (fun hc69 => ?_) (fun hc69 => ?_)
    · have hw := hw.1 hc69
      exact am_Machine_control_L407 l hfl D A σ MC MS h0 Qr h67 bc bs hw p e s m args below meth c hC H locs ls k n hE (lv_sub hl [] rfl) hR hS (by omega) (by omega)
    · have hw := hw.2 hc69
      refine lv_aload_n hx hb (xb_d D_Machine_control 107 rfl) rfl (lv_at hl 1 rfl) ?_
      refine lv_iload_n hx hb (xb_d D_Machine_control 108 rfl) rfl (lv_at hl 0 rfl) ?_
      refine lv_aload_n hx hb (xb_d D_Machine_control 109 rfl) rfl (lv_at hl 1 rfl) ?_
      have hk66 : xb_k h67 x0 = 8 := hEh67.k hk66
      refine xb_getP (C := R_Machine) (T := F_Machine) (N := 18) hx hb 7 14 hts fin_Machine hown hR hk66 (by decide) rfl (by decide) rfl (hts _ m_8f763f86) (fun _ h9 => h9) (xb_d D_Machine_control 110 rfl) ?_
      obtain ⟨b70, eb70, hw⟩ := hw
      refine xb_some eb70 ?_
      refine lv_aload_n hx hb (xb_d D_Machine_control 111 rfl) rfl (lv_at hl 1 rfl) ?_
      refine xb_getI (C := R_Machine) (T := F_Machine) (N := 18) hx hb 7 15 hts fin_Machine hown hR hk66 (by decide) rfl (by decide) rfl (hts _ m_6a595805) (fun _ h9 => h9) (xb_d D_Machine_control 112 rfl) ?_
      obtain ⟨hk72, hw⟩ := hw
      obtain ⟨hi71, hw⟩ := hw
      refine xb_iald hx hb hR hk72 hi71 (xb_d D_Machine_control 113 rfl) ?_
      refine xb_call (D := D) (A := A) (σ := σ) (h := h67) (d := 6) (mc := bc) (ms := bs) (maxL := 10) (rest := []) (av := [.ref x0, .int r68, .int (xb_i h67 b70 (Int32.toNatClampNeg (xb_i h67 x0 15)))]) (fun T hT X => by obtain ⟨cb9, ra9, rb9, rc9⟩ := xb_recv (ci := 7) hR rfl hk66 (by decide); exact xt_invV X hx hown (hts _ m_2e977ee7) (hts _ m_0a404550) (hts _ m_a0a488ae) (xt_sigOf (hts _ m_f3390e9e)) nm_Machine_call (by rw [hT]; exact ra9) rb9 rc9 (g := F0 m 314 ls [.int (xb_i h67 b70 (Int32.toNatClampNeg (xb_i h67 x0 15))), .int r68, .ref x0]) rfl (argsL := [.int r68, .int (xb_i h67 b70 (Int32.toNatClampNeg (xb_i h67 x0 15)))]) (rest := []) rfl rfl (by rw [hb]; exact (xb_d D_Machine_control 114 rfl))) (ok_Machine_call l hfl D A σ x0 r68 (xb_i h67 b70 (Int32.toNatClampNeg (xb_i h67 x0 15))) h67 bc bs _ hw) (hml.trans hl.1.symm) (by rw [hb]; exact (xb_d D_Machine_control 114 rfl)) (Nat.le_of_ble_eq_true rfl) (Nat.le_of_ble_eq_true rfl) (Nat.le_of_ble_eq_true rfl) (show k + bc ≤ MC by omega) (show n + bs ≤ MS by omega) (xt_w1 hB.1 m_f3390e9e) (xt_cdOf hB.1 m_f3390e9e) (hts _ m_73451f9b) hB hR hS hA (fun vv h73 bc74 bs74 kk74 nn74 H locs hk74 hn74 hq hEh73 hR hS => ?_) (fun XX ax h73 bc74 bs74 kk74 nn74 H locs hk74 hn74 hq hEh73 hex hR hS => ?_)
      · obtain ⟨rfl, hw⟩ := hq
        have hw := hw hEh73
        have hE := hE.tr hEh73
        refine W.eq (g2 := F0 m 317 ls []) rfl ?_
        refine lv_goto (tgt := 407) hx hb (xb_d D_Machine_control 115 rfl) rfl ?_
        exact am_Machine_control_L407 l hfl D A σ MC MS h0 Qr h73 bc74 bs74 hw p e s m args below meth c hC H locs ls (k + kk74) (n + nn74) hE (lv_sub hl [] rfl) hR hS (by omega) (by omega)
      · exact False.elim hq
  have hw := hw.2
  by_cases hc75 : x1 = 18
  · have hw := hw.1 hc75
    refine xt_numi hc75 ?_
    refine lv_tableIn (off := 401) (tgt := 402) hx hb (xb_d D_Machine_control 1 rfl) (by decide +kernel) (by decide +kernel) (by decide +kernel) (by decide) ?_
    exact am_Machine_control_L402 l hfl D A σ MC MS h0 Qr x0 h bc bs hw p e s m args below meth c hC H locs ls k n hE (lv_sub hl [0] rfl) hR hS (by omega) (by omega)
  have hw := hw.2
  by_cases hc76 : x1 = 19
  · have hw := hw.1 hc76
    refine xt_numi hc76 ?_
    refine lv_tableIn (off := 401) (tgt := 402) hx hb (xb_d D_Machine_control 1 rfl) (by decide +kernel) (by decide +kernel) (by decide +kernel) (by decide) ?_
    exact am_Machine_control_L402 l hfl D A σ MC MS h0 Qr x0 h bc bs hw p e s m args below meth c hC H locs ls k n hE (lv_sub hl [0] rfl) hR hS (by omega) (by omega)
  have hw := hw.2
  by_cases hc77 : x1 = 20
  · have hw := hw.1 hc77
    refine xt_numi hc77 ?_
    refine lv_tableIn (off := 401) (tgt := 402) hx hb (xb_d D_Machine_control 1 rfl) (by decide +kernel) (by decide +kernel) (by decide +kernel) (by decide) ?_
    exact am_Machine_control_L402 l hfl D A σ MC MS h0 Qr x0 h bc bs hw p e s m args below meth c hC H locs ls k n hE (lv_sub hl [0] rfl) hR hS (by omega) (by omega)
  have hw := hw.2
  by_cases hc78 : x1 = 21
  · have hw := hw.1 hc78
    refine xt_numi hc78 ?_
    refine lv_tableIn (off := 401) (tgt := 402) hx hb (xb_d D_Machine_control 1 rfl) (by decide +kernel) (by decide +kernel) (by decide +kernel) (by decide) ?_
    exact am_Machine_control_L402 l hfl D A σ MC MS h0 Qr x0 h bc bs hw p e s m args below meth c hC H locs ls k n hE (lv_sub hl [0] rfl) hR hS (by omega) (by omega)
  have hw := hw.2
  by_cases hc79 : x1 = 22
  · have hw := hw.1 hc79
    refine xt_numi hc79 ?_
    refine lv_tableIn (off := 401) (tgt := 402) hx hb (xb_d D_Machine_control 1 rfl) (by decide +kernel) (by decide +kernel) (by decide +kernel) (by decide) ?_
    exact am_Machine_control_L402 l hfl D A σ MC MS h0 Qr x0 h bc bs hw p e s m args below meth c hC H locs ls k n hE (lv_sub hl [0] rfl) hR hS (by omega) (by omega)
  have hw := hw.2
  by_cases hc80 : x1 = 23
  · have hw := hw.1 hc80
    refine xt_numi hc80 ?_
    refine lv_tableIn (off := 401) (tgt := 402) hx hb (xb_d D_Machine_control 1 rfl) (by decide +kernel) (by decide +kernel) (by decide +kernel) (by decide) ?_
    exact am_Machine_control_L402 l hfl D A σ MC MS h0 Qr x0 h bc bs hw p e s m args below meth c hC H locs ls k n hE (lv_sub hl [0] rfl) hR hS (by omega) (by omega)
  have hw := hw.2
  by_cases hc81 : x1 = 24
  · have hw := hw.1 hc81
    refine xt_numi hc81 ?_
    refine lv_tableIn (off := 401) (tgt := 402) hx hb (xb_d D_Machine_control 1 rfl) (by decide +kernel) (by decide +kernel) (by decide +kernel) (by decide) ?_
    exact am_Machine_control_L402 l hfl D A σ MC MS h0 Qr x0 h bc bs hw p e s m args below meth c hC H locs ls k n hE (lv_sub hl [0] rfl) hR hS (by omega) (by omega)
  have hw := hw.2
  by_cases hc82 : x1 = 25
  · have hw := hw.1 hc82
    refine xt_numi hc82 ?_
    refine lv_tableIn (off := 401) (tgt := 402) hx hb (xb_d D_Machine_control 1 rfl) (by decide +kernel) (by decide +kernel) (by decide +kernel) (by decide) ?_
    exact am_Machine_control_L402 l hfl D A σ MC MS h0 Qr x0 h bc bs hw p e s m args below meth c hC H locs ls k n hE (lv_sub hl [0] rfl) hR hS (by omega) (by omega)
  have hw := hw.2
  by_cases hc83 : x1 = 26
  · have hw := hw.1 hc83
    refine xt_numi hc83 ?_
    refine lv_tableIn (off := 319) (tgt := 320) hx hb (xb_d D_Machine_control 1 rfl) (by decide +kernel) (by decide +kernel) (by decide +kernel) (by decide) ?_
    refine lv_aload_n hx hb (xb_d D_Machine_control 116 rfl) rfl (lv_at hl 0 rfl) ?_
    refine lv_dup hx hb (xb_d D_Machine_control 117 rfl) rfl ?_
    obtain ⟨hk84, hw⟩ := hw
    refine xb_getI (C := R_Machine) (T := F_Machine) (N := 18) hx hb 7 10 hts fin_Machine hown hR hk84 (by decide) rfl (by decide) rfl (hts _ m_79cf62f6) (fun _ h9 => h9) (xb_d D_Machine_control 118 rfl) ?_
    refine lv_iconst (v := 1) hx hb (xb_d D_Machine_control 119 rfl) (by decide) ?_
    refine lv_isub hx hb (xb_d D_Machine_control 120 rfl) ?_
    refine xb_putI (C := R_Machine) (T := F_Machine) (N := 18) (ty := .int) (x := ((xb_i h x0 10) - 1)) hx hb 7 10 hts fin_Machine t_Machine t_Machine_ok n_Machine hown hR hS hk84 (by decide) rfl (by decide) rfl (hts _ m_79cf62f6) (fun _ h9 => h9) rfl (by decide +kernel) rfl rfl (xb_d D_Machine_control 121 rfl) (fun H locs hR hS => ?_)
    obtain ⟨h85, eh85⟩ : ∃ x : xb_H, x = xb_I h x0 10 ((xb_i h x0 10) - 1) := ⟨_, rfl⟩
    rw [← eh85] at hR
    have hw := hw h85 eh85
    have hE : xb_ext h0 h85 := by rw [eh85]; exact hE
    refine lv_aload_n hx hb (xb_d D_Machine_control 122 rfl) rfl (lv_at hl 0 rfl) ?_
    refine lv_dup hx hb (xb_d D_Machine_control 123 rfl) rfl ?_
    have hk84 : xb_k h85 x0 = 8 := by rw [eh85]; exact hk84
    refine xb_getI (C := R_Machine) (T := F_Machine) (N := 18) hx hb 7 15 hts fin_Machine hown hR hk84 (by decide) rfl (by decide) rfl (hts _ m_6a595805) (fun _ h9 => h9) (xb_d D_Machine_control 124 rfl) ?_
    refine lv_iconst (v := 1) hx hb (xb_d D_Machine_control 125 rfl) (by decide) ?_
    refine lv_iadd hx hb (xb_d D_Machine_control 126 rfl) ?_
    refine xb_putI (C := R_Machine) (T := F_Machine) (N := 18) (ty := .int) (x := ((xb_i h85 x0 15) + 1)) hx hb 7 15 hts fin_Machine t_Machine t_Machine_ok n_Machine hown hR hS hk84 (by decide) rfl (by decide) rfl (hts _ m_6a595805) (fun _ h9 => h9) rfl (by decide +kernel) rfl rfl (xb_d D_Machine_control 127 rfl) (fun H locs hR hS => ?_)
    obtain ⟨h86, eh86⟩ : ∃ x : xb_H, x = xb_I h85 x0 15 ((xb_i h85 x0 15) + 1) := ⟨_, rfl⟩
    rw [← eh86] at hR
    have hw := hw h86 eh86
    have hE : xb_ext h0 h86 := by rw [eh86]; exact hE
    refine lv_goto (tgt := 407) hx hb (xb_d D_Machine_control 128 rfl) rfl ?_
    exact am_Machine_control_L407 l hfl D A σ MC MS h0 Qr h86 bc bs hw p e s m args below meth c hC H locs ls k n hE (lv_sub hl [] rfl) hR hS (by omega) (by omega)
  have hw := hw.2
  by_cases hc87 : x1 = 27
  · have hw := hw.1 hc87
    refine xt_numi hc87 ?_
    refine lv_tableIn (off := 342) (tgt := 343) hx hb (xb_d D_Machine_control 1 rfl) (by decide +kernel) (by decide +kernel) (by decide +kernel) (by decide) ?_
    refine lv_aload_n hx hb (xb_d D_Machine_control 129 rfl) rfl (lv_at hl 0 rfl) ?_
    refine lv_dup hx hb (xb_d D_Machine_control 130 rfl) rfl ?_
    obtain ⟨hk88, hw⟩ := hw
    refine xb_getI (C := R_Machine) (T := F_Machine) (N := 18) hx hb 7 10 hts fin_Machine hown hR hk88 (by decide) rfl (by decide) rfl (hts _ m_79cf62f6) (fun _ h9 => h9) (xb_d D_Machine_control 131 rfl) ?_
    refine lv_iconst (v := 2) hx hb (xb_d D_Machine_control 132 rfl) (by decide) ?_
    refine lv_isub hx hb (xb_d D_Machine_control 133 rfl) ?_
    refine xb_putI (C := R_Machine) (T := F_Machine) (N := 18) (ty := .int) (x := ((xb_i h x0 10) - 2)) hx hb 7 10 hts fin_Machine t_Machine t_Machine_ok n_Machine hown hR hS hk88 (by decide) rfl (by decide) rfl (hts _ m_79cf62f6) (fun _ h9 => h9) rfl (by decide +kernel) rfl rfl (xb_d D_Machine_control 134 rfl) (fun H locs hR hS => ?_)
    obtain ⟨h89, eh89⟩ : ∃ x : xb_H, x = xb_I h x0 10 ((xb_i h x0 10) - 2) := ⟨_, rfl⟩
    rw [← eh89] at hR
    have hw := hw h89 eh89
    have hE : xb_ext h0 h89 := by rw [eh89]; exact hE
    refine lv_aload_n hx hb (xb_d D_Machine_control 135 rfl) rfl (lv_at hl 0 rfl) ?_
    have hk88 : xb_k h89 x0 = 8 := by rw [eh89]; exact hk88
    refine xb_getP (C := R_Machine) (T := F_Machine) (N := 18) hx hb 7 9 hts fin_Machine hown hR hk88 (by decide) rfl (by decide) rfl (hts _ m_6904195b) (fun _ h9 => h9) (xb_d D_Machine_control 136 rfl) ?_
    obtain ⟨b90, eb90, hw⟩ := hw
    refine xb_some eb90 ?_
    refine lv_aload_n hx hb (xb_d D_Machine_control 137 rfl) rfl (lv_at hl 0 rfl) ?_
    refine xb_getI (C := R_Machine) (T := F_Machine) (N := 18) hx hb 7 10 hts fin_Machine hown hR hk88 (by decide) rfl (by decide) rfl (hts _ m_79cf62f6) (fun _ h9 => h9) (xb_d D_Machine_control 138 rfl) ?_
    refine lv_iconst (v := 1) hx hb (xb_d D_Machine_control 139 rfl) (by decide) ?_
    refine lv_iadd hx hb (xb_d D_Machine_control 140 rfl) ?_
    obtain ⟨hk92, hw⟩ := hw
    obtain ⟨hi91, hw⟩ := hw
    refine xb_lald hx hb hR hk92 hi91 (xb_d D_Machine_control 141 rfl) ?_
    refine lv_lconst (v := 0) hx hb (xb_d D_Machine_control 142 rfl) (by decide) ?_
    refine xb_lc_ne (tgt := 389) hx hb (xb_d D_Machine_control 143 rfl) (xb_d D_Machine_control 144 rfl) rfl (fun hc93 => ?_) (fun hc93 => ?_)
    · have hw := hw.1 hc93
      exact am_Machine_control_L389 l hfl D A σ MC MS h0 Qr x0 h89 bc bs hw p e s m args below meth c hC H locs ls k n hE (lv_sub hl [0] rfl) hR hS (by omega) (by omega)
    · have hw := hw.2 hc93
      refine lv_aload_n hx hb (xb_d D_Machine_control 145 rfl) rfl (lv_at hl 0 rfl) ?_
      refine xb_getP (C := R_Machine) (T := F_Machine) (N := 18) hx hb 7 9 hts fin_Machine hown hR hk88 (by decide) rfl (by decide) rfl (hts _ m_6904195b) (fun _ h9 => h9) (xb_d D_Machine_control 146 rfl) ?_
      obtain ⟨b94, eb94, hw⟩ := hw
      refine xb_some eb94 ?_
      refine lv_aload_n hx hb (xb_d D_Machine_control 147 rfl) rfl (lv_at hl 0 rfl) ?_
      refine xb_getI (C := R_Machine) (T := F_Machine) (N := 18) hx hb 7 10 hts fin_Machine hown hR hk88 (by decide) rfl (by decide) rfl (hts _ m_79cf62f6) (fun _ h9 => h9) (xb_d D_Machine_control 148 rfl) ?_
      refine lv_iconst (v := 1) hx hb (xb_d D_Machine_control 149 rfl) (by decide) ?_
      refine lv_isub hx hb (xb_d D_Machine_control 150 rfl) ?_
      refine lv_aload_n hx hb (xb_d D_Machine_control 151 rfl) rfl (lv_at hl 0 rfl) ?_
      refine xb_getP (C := R_Machine) (T := F_Machine) (N := 18) hx hb 7 9 hts fin_Machine hown hR hk88 (by decide) rfl (by decide) rfl (hts _ m_6904195b) (fun _ h9 => h9) (xb_d D_Machine_control 152 rfl) ?_
      obtain ⟨b95, eb95, hw⟩ := hw
      refine xb_some eb95 ?_
      refine lv_aload_n hx hb (xb_d D_Machine_control 153 rfl) rfl (lv_at hl 0 rfl) ?_
      refine xb_getI (C := R_Machine) (T := F_Machine) (N := 18) hx hb 7 10 hts fin_Machine hown hR hk88 (by decide) rfl (by decide) rfl (hts _ m_79cf62f6) (fun _ h9 => h9) (xb_d D_Machine_control 154 rfl) ?_
      obtain ⟨hk97, hw⟩ := hw
      obtain ⟨hi96, hw⟩ := hw
      refine xb_lald hx hb hR hk97 hi96 (xb_d D_Machine_control 155 rfl) ?_
      obtain ⟨hk98, hw⟩ := hw
      obtain ⟨hi99, hw⟩ := hw
      refine xb_last hx hb hR hS hk98 hi99 (xb_d D_Machine_control 156 rfl) (fun H locs hR hS => ?_)
      obtain ⟨h100, eh100⟩ : ∃ x : xb_H, x = xb_L h89 b94 (Int32.toNatClampNeg ((xb_i h89 x0 10) - 1)) (xb_l h89 b95 (Int32.toNatClampNeg (xb_i h89 x0 10))) := ⟨_, rfl⟩
      rw [← eh100] at hR
      have hw := hw h100 eh100
      have hE : xb_ext h0 h100 := by rw [eh100]; exact hE
      exact am_Machine_control_L389 l hfl D A σ MC MS h0 Qr x0 h100 bc bs hw p e s m args below meth c hC H locs ls k n hE (lv_sub hl [0] rfl) hR hS (by omega) (by omega)
  have hw := hw.2
  have hw := hw hc1 hc11 hc12 hc13 hc14 hc15 hc16 hc17 hc18 hc25 hc41 hc47 hc51 hc65 hc75 hc76 hc77 hc78 hc79 hc80 hc81 hc82 hc83 hc87
  refine lv_tableOut (tgt := 402) hx hb (xb_d D_Machine_control 1 rfl) (by have a0 := xb_nl (4) 4 (by decide) hc1; have a1 := xb_nl (5) 5 (by decide) hc11; have a2 := xb_nl (6) 6 (by decide) hc12; have a3 := xb_nl (7) 7 (by decide) hc13; have a4 := xb_nl (8) 8 (by decide) hc14; have a5 := xb_nl (9) 9 (by decide) hc15; have a6 := xb_nl (10) 10 (by decide) hc16; have a7 := xb_nl (11) 11 (by decide) hc17; have a8 := xb_nl (12) 12 (by decide) hc18; have a9 := xb_nl (13) 13 (by decide) hc25; have a10 := xb_nl (14) 14 (by decide) hc41; have a11 := xb_nl (15) 15 (by decide) hc47; have a12 := xb_nl (16) 16 (by decide) hc51; have a13 := xb_nl (17) 17 (by decide) hc65; have a14 := xb_nl (18) 18 (by decide) hc75; have a15 := xb_nl (19) 19 (by decide) hc76; have a16 := xb_nl (20) 20 (by decide) hc77; have a17 := xb_nl (21) 21 (by decide) hc78; have a18 := xb_nl (22) 22 (by decide) hc79; have a19 := xb_nl (23) 23 (by decide) hc80; have a20 := xb_nl (24) 24 (by decide) hc81; have a21 := xb_nl (25) 25 (by decide) hc82; have a22 := xb_nl (26) 26 (by decide) hc83; have a23 := xb_nl (27) 27 (by decide) hc87; omega) (by decide) ?_
  exact am_Machine_control_L402 l hfl D A σ MC MS h0 Qr x0 h bc bs hw p e s m args below meth c hC H locs ls k n hE (lv_sub hl [0] rfl) hR hS (by omega) (by omega)

theorem m_e2246ce7 : (.methodLink "StackHost$Reader" 81 y_Reader_readType : Cond) ∈ xt_tbl := xt_in (xt_t3 (List.mem_of_getElem? (i := 204) (by decide +kernel))) (by decide +kernel)
theorem m_e2089bd8 : (.instanceMethod y_Reader_readType : Cond) ∈ xt_tbl := xt_in (xt_t3 (List.mem_of_getElem? (i := 206) (by decide +kernel))) (by decide +kernel)
theorem m_b0eb3f01 : (.selects "StackHost$Reader" y_Reader_readType y_Reader_readType : Cond) ∈ xt_tbl := xt_in (xt_v1 (q := (⟨"StackHost$Reader", "readType", "()V"⟩, 6)) (List.mem_of_getElem? (i := 8) (by decide +kernel))) (by decide +kernel)
theorem m_156d2082 : (.code y_Reader_readType b_Reader_readType 5 none : Cond) ∈ xt_tbl := xt_in (xt_t3 (List.mem_of_getElem? (i := 207) (by decide +kernel))) (by decide +kernel)
theorem m_890540f1 : (.methodLink "StackHost$Reader" 84 y_Reader_readImport : Cond) ∈ xt_tbl := xt_in (xt_t4 (List.mem_of_getElem? (i := 2) (by decide +kernel))) (by decide +kernel)
theorem m_a7ea67c0 : (.instanceMethod y_Reader_readImport : Cond) ∈ xt_tbl := xt_in (xt_t4 (List.mem_of_getElem? (i := 4) (by decide +kernel))) (by decide +kernel)
theorem m_0ec57abf : (.selects "StackHost$Reader" y_Reader_readImport y_Reader_readImport : Cond) ∈ xt_tbl := xt_in (xt_v1 (q := (⟨"StackHost$Reader", "readImport", "()V"⟩, 6)) (List.mem_of_getElem? (i := 13) (by decide +kernel))) (by decide +kernel)
theorem m_6a7dd876 : (.code y_Reader_readImport b_Reader_readImport 7 none : Cond) ∈ xt_tbl := xt_in (xt_t4 (List.mem_of_getElem? (i := 5) (by decide +kernel))) (by decide +kernel)
theorem m_145e8a51 : (.methodLink "StackHost$Reader" 91 y_Reader_readTable : Cond) ∈ xt_tbl := xt_in (xt_t4 (List.mem_of_getElem? (i := 19) (by decide +kernel))) (by decide +kernel)
theorem m_817e0cad : (.instanceMethod y_Reader_readTable : Cond) ∈ xt_tbl := xt_in (xt_t4 (List.mem_of_getElem? (i := 21) (by decide +kernel))) (by decide +kernel)
theorem m_1bff1792 : (.selects "StackHost$Reader" y_Reader_readTable y_Reader_readTable : Cond) ∈ xt_tbl := xt_in (xt_v2 (q := (⟨"StackHost$Reader", "readTable", "()V"⟩, 6)) (List.mem_of_getElem? (i := 1) (by decide +kernel))) (by decide +kernel)
theorem m_5723512e : (.code y_Reader_readTable b_Reader_readTable 2 none : Cond) ∈ xt_tbl := xt_in (xt_t4 (List.mem_of_getElem? (i := 22) (by decide +kernel))) (by decide +kernel)
theorem m_bc39abfd : (.methodLink "StackHost$Reader" 101 y_Reader_readVariable : Cond) ∈ xt_tbl := xt_in (xt_t4 (List.mem_of_getElem? (i := 23) (by decide +kernel))) (by decide +kernel)
theorem m_c08b1c59 : (.instanceMethod y_Reader_readVariable : Cond) ∈ xt_tbl := xt_in (xt_t4 (List.mem_of_getElem? (i := 25) (by decide +kernel))) (by decide +kernel)
theorem m_44adf5fa : (.selects "StackHost$Reader" y_Reader_readVariable y_Reader_readVariable : Cond) ∈ xt_tbl := xt_in (xt_v2 (q := (⟨"StackHost$Reader", "readVariable", "()V"⟩, 6)) (List.mem_of_getElem? (i := 2) (by decide +kernel))) (by decide +kernel)
theorem m_9e25c7a7 : (.code y_Reader_readVariable b_Reader_readVariable 1 none : Cond) ∈ xt_tbl := xt_in (xt_t4 (List.mem_of_getElem? (i := 26) (by decide +kernel))) (by decide +kernel)
theorem m_d4969a11 : (.methodLink "StackHost$Reader" 104 y_Reader_readExport : Cond) ∈ xt_tbl := xt_in (xt_t4 (List.mem_of_getElem? (i := 66) (by decide +kernel))) (by decide +kernel)
theorem m_d662381e : (.instanceMethod y_Reader_readExport : Cond) ∈ xt_tbl := xt_in (xt_t4 (List.mem_of_getElem? (i := 68) (by decide +kernel))) (by decide +kernel)
theorem m_9d83f4c7 : (.selects "StackHost$Reader" y_Reader_readExport y_Reader_readExport : Cond) ∈ xt_tbl := xt_in (xt_v2 (q := (⟨"StackHost$Reader", "readExport", "()V"⟩, 6)) (List.mem_of_getElem? (i := 11) (by decide +kernel))) (by decide +kernel)
theorem m_b1035324 : (.code y_Reader_readExport b_Reader_readExport 4 none : Cond) ∈ xt_tbl := xt_in (xt_t4 (List.mem_of_getElem? (i := 69) (by decide +kernel))) (by decide +kernel)
theorem m_e035d4fd : (.fieldLink "StackHost$Reader" 107 "StackHost$StackModule" "startAt" "I" : Cond) ∈ xt_tbl := xt_in (xt_t3 (List.mem_of_getElem? (i := 122) (by decide +kernel))) (by decide +kernel)
theorem m_2b313539 : (.fieldLink "StackHost$Reader" 110 "StackHost$StackModule" "start" "I" : Cond) ∈ xt_tbl := xt_in (xt_t3 (List.mem_of_getElem? (i := 118) (by decide +kernel))) (by decide +kernel)
theorem m_c7f038b2 : (.methodLink "StackHost$Reader" 113 y_Reader_readElements : Cond) ∈ xt_tbl := xt_in (xt_t4 (List.mem_of_getElem? (i := 70) (by decide +kernel))) (by decide +kernel)
theorem m_8e273619 : (.instanceMethod y_Reader_readElements : Cond) ∈ xt_tbl := xt_in (xt_t4 (List.mem_of_getElem? (i := 72) (by decide +kernel))) (by decide +kernel)
theorem m_5ee59b24 : (.selects "StackHost$Reader" y_Reader_readElements y_Reader_readElements : Cond) ∈ xt_tbl := xt_in (xt_v2 (q := (⟨"StackHost$Reader", "readElements", "()V"⟩, 6)) (List.mem_of_getElem? (i := 12) (by decide +kernel))) (by decide +kernel)
theorem m_4b4bb8ff : (.code y_Reader_readElements b_Reader_readElements 5 none : Cond) ∈ xt_tbl := xt_in (xt_t4 (List.mem_of_getElem? (i := 73) (by decide +kernel))) (by decide +kernel)
theorem m_b04cf318 : (.methodLink "StackHost$Reader" 116 y_Reader_readBody : Cond) ∈ xt_tbl := xt_in (xt_t4 (List.mem_of_getElem? (i := 78) (by decide +kernel))) (by decide +kernel)
theorem m_4d70a435 : (.instanceMethod y_Reader_readBody : Cond) ∈ xt_tbl := xt_in (xt_t4 (List.mem_of_getElem? (i := 80) (by decide +kernel))) (by decide +kernel)
theorem m_4252734b : (.selects "StackHost$Reader" y_Reader_readBody y_Reader_readBody : Cond) ∈ xt_tbl := xt_in (xt_v2 (q := (⟨"StackHost$Reader", "readBody", "()V"⟩, 6)) (List.mem_of_getElem? (i := 13) (by decide +kernel))) (by decide +kernel)
theorem m_8ebb0a33 : (.code y_Reader_readBody b_Reader_readBody 4 none : Cond) ∈ xt_tbl := xt_in (xt_t4 (List.mem_of_getElem? (i := 81) (by decide +kernel))) (by decide +kernel)
theorem m_0d56e808 : (.methodLink "StackHost$Reader" 119 y_Reader_readData : Cond) ∈ xt_tbl := xt_in (xt_t4 (List.mem_of_getElem? (i := 87) (by decide +kernel))) (by decide +kernel)
theorem m_dcc11ae1 : (.instanceMethod y_Reader_readData : Cond) ∈ xt_tbl := xt_in (xt_t4 (List.mem_of_getElem? (i := 89) (by decide +kernel))) (by decide +kernel)
theorem m_e58471ef : (.selects "StackHost$Reader" y_Reader_readData y_Reader_readData : Cond) ∈ xt_tbl := xt_in (xt_v2 (q := (⟨"StackHost$Reader", "readData", "()V"⟩, 6)) (List.mem_of_getElem? (i := 15) (by decide +kernel))) (by decide +kernel)
theorem m_43cf7a9b : (.code y_Reader_readData b_Reader_readData 2 none : Cond) ∈ xt_tbl := xt_in (xt_t4 (List.mem_of_getElem? (i := 90) (by decide +kernel))) (by decide +kernel)
theorem nm_Reader_readType : xt_nm y_Reader_readType 0 := ⟨by decide +kernel, by decide +kernel⟩
theorem nm_Reader_readImport : xt_nm y_Reader_readImport 0 := ⟨by decide +kernel, by decide +kernel⟩
theorem nm_Reader_readTable : xt_nm y_Reader_readTable 0 := ⟨by decide +kernel, by decide +kernel⟩
theorem nm_Reader_readVariable : xt_nm y_Reader_readVariable 0 := ⟨by decide +kernel, by decide +kernel⟩
theorem nm_Reader_readExport : xt_nm y_Reader_readExport 0 := ⟨by decide +kernel, by decide +kernel⟩
theorem nm_Reader_readElements : xt_nm y_Reader_readElements 0 := ⟨by decide +kernel, by decide +kernel⟩
theorem nm_Reader_readBody : xt_nm y_Reader_readBody 0 := ⟨by decide +kernel, by decide +kernel⟩
theorem nm_Reader_readData : xt_nm y_Reader_readData 0 := ⟨by decide +kernel, by decide +kernel⟩
set_option maxRecDepth 100000 in
def T_Reader_readSection : List (Nat × Instr × Nat) := [(0, .aload_n 0, 1), (1, .aload_n 0, 1), (2, .invokevirtual 70, 3), (5, .invokevirtual 73, 3), (8, .iload_n 1, 1), (9, .ifCond .eq 13, 3), (12, .iload_n 1, 1), (13, .bipush 8, 2), (15, .if_icmp .eq 7, 3), (18, .iconst 1, 1), (19, .goto 4, 3), (22, .iconst 0, 1), (23, .istore_n 2, 1), (24, .iload_n 2, 1), (25, .ifCond .eq 15, 3), (28, .aload_n 0, 1), (29, .invokevirtual 70, 3), (32, .i2l, 1), (33, .ldc2_w 76, 3), (36, .land, 1), (37, .goto 4, 3), (40, .lconst 1, 1), (41, .lstore_n 3, 1), (42, .lconst 0, 1), (43, .lstore 5, 2), (45, .lload 5, 2), (47, .lload_n 3, 1), (48, .lcmp, 1), (49, .ifCond .ge 221, 3), (52, .iload_n 1, 1), (53, .tableswitch 204 0 10 #[59, 75, 82, 89, 126, 133, 151, 158, 165, 190, 197], 59), (112, .aload_n 0, 1), (113, .invokevirtual 78, 3), (116, .pop, 1), (117, .aload_n 0, 1), (118, .aload_n 0, 1), (119, .getfield 30, 3), (122, .putfield 41, 3), (125, .goto 136, 3), (128, .aload_n 0, 1), (129, .invokevirtual 81, 3), (132, .goto 129, 3), (135, .aload_n 0, 1), (136, .invokevirtual 84, 3), (139, .goto 122, 3), (142, .aload_n 0, 1), (143, .getfield 15, 3), (146, .getfield 64, 3), (149, .aload_n 0, 1), (150, .getfield 41, 3), (153, .i2l, 1), (154, .invokevirtual 87, 3), (157, .aload_n 0, 1), (158, .getfield 15, 3), (161, .getfield 64, 3), (164, .aload_n 0, 1), (165, .invokevirtual 70, 3), (168, .i2l, 1), (169, .ldc2_w 76, 3), (172, .land, 1), (173, .invokevirtual 87, 3), (176, .goto 85, 3), (179, .aload_n 0, 1), (180, .invokevirtual 91, 3), (183, .goto 78, 3), (186, .aload_n 0, 1), (187, .aload_n 0, 1), (188, .getfield 15, 3), (191, .getfield 94, 3), (194, .aload_n 0, 1), (195, .getfield 41, 3), (198, .invokevirtual 97, 3), (201, .goto 60, 3), (204, .aload_n 0, 1), (205, .invokevirtual 101, 3), (208, .goto 53, 3), (211, .aload_n 0, 1), (212, .invokevirtual 104, 3), (215, .goto 46, 3), (218, .aload_n 0, 1), (219, .getfield 15, 3), (222, .aload_n 0, 1), (223, .getfield 41, 3), (226, .putfield 107, 3), (229, .aload_n 0, 1), (230, .getfield 15, 3), (233, .aload_n 0, 1), (234, .invokevirtual 70, 3), (237, .putfield 110, 3), (240, .goto 21, 3), (243, .aload_n 0, 1), (244, .invokevirtual 113, 3), (247, .goto 14, 3), (250, .aload_n 0, 1), (251, .invokevirtual 116, 3), (254, .goto 7, 3), (257, .aload_n 0, 1), (258, .invokevirtual 119, 3), (261, .lload 5, 2), (263, .lconst 1, 1), (264, .ladd, 1), (265, .lstore 5, 2), (267, .goto (-222), 3), (270, .aload_n 0, 1), (271, .getfield 41, 3), (274, .aload_n 0, 1), (275, .getfield 30, 3), (278, .if_icmp .ge 16, 3), (281, .aload_n 0, 1), (282, .getfield 15, 3), (285, .bipush 7, 2), (287, .aload_n 0, 1), (288, .getfield 41, 3), (291, .invokevirtual 37, 3), (294, .aload_n 0, 1), (295, .aload_n 0, 1), (296, .getfield 25, 3), (299, .arraylength, 1), (300, .putfield 30, 3), (303, .return_, 1)]
theorem D_Reader_readSection : ∀ q ∈ T_Reader_readSection, decode b_Reader_readSection q.1 = .ok (q.2.1, q.2.2) := by decide +kernel

set_option maxHeartbeats 4000000 in
set_option maxRecDepth 100000 in
theorem am_Reader_readSection_L294 (l : Launch) (hfl : l.flags = pinnedFlags ++ [noTraceFlag]) (D : va_G) (A : Nat → Prop) (σ MC MS : Nat) (h0 : xb_H) (Qr : xb_H → Nat → Nat → Prop) (Qt : String → xb_H → Nat → Nat → Prop) (x0 : Nat) (h : xb_H) (bc : Nat) (bs : Nat) (hw : w_Reader_readSection_L294 Qr Qt x0 h bc bs) : xb_am l D A σ 7 MC MS h0 (fun v h bc bs => v = none ∧ Qr h bc bs) Qt y_Reader_readSection.cls y_Reader_readSection.name b_Reader_readSection 7 ([] : List ExceptionTableEntry) none 294 [(0, .ref x0)] [] h bc bs := by
  unfold w_Reader_readSection_L294 at hw
  intro p e s m args below meth c hC H locs ls k n hE hl hR hS hk hn
  obtain ⟨hx, hb, hown, hlocks, htab, hml, hr, hB, hA, hnm⟩ := id hC
  have hts := hB.1.1.at args
  refine lv_aload_n hx hb (xb_d D_Reader_readSection 114 rfl) rfl (lv_at hl 0 rfl) ?_
  refine lv_aload_n hx hb (xb_d D_Reader_readSection 115 rfl) rfl (lv_at hl 0 rfl) ?_
  obtain ⟨hk1, hw⟩ := hw
  refine xb_getP (C := R_Reader) (T := F_Reader) (N := 6) hx hb 3 1 hts fin_Reader hown hR hk1 (by decide) rfl (by decide) rfl (hts _ m_d1ba4be8) (fun _ h9 => h9) (xb_d D_Reader_readSection 116 rfl) ?_
  obtain ⟨b2, eb2, hw⟩ := hw
  refine xb_some eb2 ?_
  obtain ⟨hk3, hw⟩ := hw
  refine xb_alen hx hb hR hk3 (by decide) (xb_d D_Reader_readSection 117 rfl) ?_
  refine xb_putI (C := R_Reader) (T := F_Reader) (N := 6) (ty := .int) (x := (nI (xb_n h b2))) hx hb 3 4 hts fin_Reader t_Reader t_Reader_ok n_Reader hown hR hS hk1 (by decide) rfl (by decide) rfl (hts _ m_49916c4b) (fun _ h9 => h9) rfl (by decide +kernel) rfl rfl (xb_d D_Reader_readSection 118 rfl) (fun H locs hR hS => ?_)
  obtain ⟨h4, eh4⟩ : ∃ x : xb_H, x = xb_I h x0 4 (nI (xb_n h b2)) := ⟨_, rfl⟩
  rw [← eh4] at hR
  have hw := hw h4 eh4
  have hE : xb_ext h0 h4 := by rw [eh4]; exact hE
  exact xb_vret bc bs hx hb hr hlocks (show k + bc ≤ MC by omega) (show n + bs ≤ MS by omega) hE hR hS (xb_d D_Reader_readSection 119 rfl) hw

set_option maxHeartbeats 4000000 in
set_option maxRecDepth 100000 in
theorem am_Reader_readSection_L261 (l : Launch) (hfl : l.flags = pinnedFlags ++ [noTraceFlag]) (D : va_G) (A : Nat → Prop) (σ MC MS : Nat) (h0 : xb_H) (Qr : xb_H → Nat → Nat → Prop) (Qt : String → xb_H → Nat → Nat → Prop) (K45 : Nat → Int32 → Int64 → Int64 → xb_H → Nat → Nat → Prop) (hK45 : ∀ (x0 : Nat) (x1 : Int32) (x3 : Int64) (x5 : Int64) (h : xb_H) (bc : Nat) (bs : Nat), K45 x0 x1 x3 x5 h bc bs → xb_am l D A σ 7 MC MS h0 (fun v h bc bs => v = none ∧ Qr h bc bs) Qt y_Reader_readSection.cls y_Reader_readSection.name b_Reader_readSection 7 ([] : List ExceptionTableEntry) none 45 [(0, .ref x0), (1, .int x1), (3, .long x3), (5, .long x5)] [] h bc bs) (x0 : Nat) (x1 : Int32) (x3 : Int64) (x5 : Int64) (h : xb_H) (bc : Nat) (bs : Nat) (hw : w_Reader_readSection_L261 K45 Qr Qt x0 x1 x3 x5 h bc bs) : xb_am l D A σ 7 MC MS h0 (fun v h bc bs => v = none ∧ Qr h bc bs) Qt y_Reader_readSection.cls y_Reader_readSection.name b_Reader_readSection 7 ([] : List ExceptionTableEntry) none 261 [(0, .ref x0), (1, .int x1), (3, .long x3), (5, .long x5)] [] h bc bs := by
  unfold w_Reader_readSection_L261 at hw
  intro p e s m args below meth c hC H locs ls k n hE hl hR hS hk hn
  obtain ⟨hx, hb, hown, hlocks, htab, hml, hr, hB, hA, hnm⟩ := id hC
  have hts := hB.1.1.at args
  refine lv_lload hx hb (xb_d D_Reader_readSection 98 rfl) (lv_at hl 3 rfl) ?_
  refine lv_lconst (v := 1) hx hb (xb_d D_Reader_readSection 99 rfl) (by decide) ?_
  refine lv_ladd hx hb (xb_d D_Reader_readSection 100 rfl) ?_
  obtain ⟨v1, ev1⟩ : ∃ x : Int64, x = (x5 + 1) := ⟨_, rfl⟩
  have hw := hw v1 ev1
  refine xt_numl (y := v1) ev1.symm ?_
  refine lv_lstore hx hb (xb_d D_Reader_readSection 101 rfl) hl (by decide) rfl (fun ls hl => ?_)
  have hl : lv_has ls 7 [(5, .long v1), (0, .ref x0), (1, .int x1), (3, .long x3)] := hl
  refine lv_goto (tgt := 45) hx hb (xb_d D_Reader_readSection 102 rfl) rfl ?_
  exact hK45 x0 x1 x3 v1 h bc bs hw p e s m args below meth c hC H locs ls k n hE (lv_sub hl [1, 2, 3, 0] rfl) hR hS (by omega) (by omega)

set_option maxHeartbeats 4000000 in
set_option maxRecDepth 100000 in
theorem am_Reader_readSection_L45 (l : Launch) (hfl : l.flags = pinnedFlags ++ [noTraceFlag]) (D : va_G) (A : Nat → Prop) (σ MC MS : Nat) (h0 : xb_H) (Qr : xb_H → Nat → Nat → Prop) (Qt : String → xb_H → Nat → Nat → Prop) (n9 : Nat) : ∀ (x0 : Nat) (x1 : Int32) (x3 : Int64) (x5 : Int64) (h : xb_H) (bc : Nat) (bs : Nat), w_Reader_readSection_L45 Qr Qt n9 x0 x1 x3 x5 h bc bs → xb_am l D A σ 7 MC MS h0 (fun v h bc bs => v = none ∧ Qr h bc bs) Qt y_Reader_readSection.cls y_Reader_readSection.name b_Reader_readSection 7 ([] : List ExceptionTableEntry) none 45 [(0, .ref x0), (1, .int x1), (3, .long x3), (5, .long x5)] [] h bc bs := by
  induction n9 with
  | zero => intro x0 x1 x3 x5 h bc bs hw; exact False.elim hw
  | succ n9 ih =>
    intro x0 x1 x3 x5 h bc bs hw
    unfold w_Reader_readSection_L45 at hw
    intro p e s m args below meth c hC H locs ls k n hE hl hR hS hk hn
    obtain ⟨hx, hb, hown, hlocks, htab, hml, hr, hB, hA, hnm⟩ := id hC
    have hts := hB.1.1.at args
    refine lv_lload hx hb (xb_d D_Reader_readSection 25 rfl) (lv_at hl 3 rfl) ?_
    refine lv_lload_n hx hb (xb_d D_Reader_readSection 26 rfl) rfl (lv_at hl 2 rfl) ?_
    refine xb_lc_ge (tgt := 270) hx hb (xb_d D_Reader_readSection 27 rfl) (xb_d D_Reader_readSection 28 rfl) rfl (fun hc1 => ?_) (fun hc1 => ?_)
    · have hw := hw.1 hc1
      refine lv_aload_n hx hb (xb_d D_Reader_readSection 103 rfl) rfl (lv_at hl 0 rfl) ?_
      obtain ⟨hk2, hw⟩ := hw
      refine xb_getI (C := R_Reader) (T := F_Reader) (N := 6) hx hb 3 3 hts fin_Reader hown hR hk2 (by decide) rfl (by decide) rfl (hts _ m_a9b84ac2) (fun _ h9 => h9) (xb_d D_Reader_readSection 104 rfl) ?_
      refine lv_aload_n hx hb (xb_d D_Reader_readSection 105 rfl) rfl (lv_at hl 0 rfl) ?_
      refine xb_getI (C := R_Reader) (T := F_Reader) (N := 6) hx hb 3 4 hts fin_Reader hown hR hk2 (by decide) rfl (by decide) rfl (hts _ m_49916c4b) (fun _ h9 => h9) (xb_d D_Reader_readSection 106 rfl) ?_
      refine lv_icmp_ge (tgt := 294) hx hb (xb_d D_Reader_readSection 107 rfl) rfl (fun hc3 => ?_) (fun hc3 => ?_)
      · have hw := hw.1 hc3
        exact am_Reader_readSection_L294 l hfl D A σ MC MS h0 Qr Qt x0 h bc bs hw p e s m args below meth c hC H locs ls k n hE (lv_sub hl [0] rfl) hR hS (by omega) (by omega)
      · have hw := hw.2 hc3
        refine lv_aload_n hx hb (xb_d D_Reader_readSection 108 rfl) rfl (lv_at hl 0 rfl) ?_
        refine xb_getP (C := R_Reader) (T := F_Reader) (N := 6) hx hb 3 0 hts fin_Reader hown hR hk2 (by decide) rfl (by decide) rfl (hts _ m_76d8349c) (fun _ h9 => h9) (xb_d D_Reader_readSection 109 rfl) ?_
        obtain ⟨b4, eb4, hw⟩ := hw
        refine xb_some eb4 ?_
        refine lv_bipush (v := 7) hx hb (xb_d D_Reader_readSection 110 rfl) (by decide) ?_
        refine lv_aload_n hx hb (xb_d D_Reader_readSection 111 rfl) rfl (lv_at hl 0 rfl) ?_
        refine xb_getI (C := R_Reader) (T := F_Reader) (N := 6) hx hb 3 3 hts fin_Reader hown hR hk2 (by decide) rfl (by decide) rfl (hts _ m_a9b84ac2) (fun _ h9 => h9) (xb_d D_Reader_readSection 112 rfl) ?_
        obtain ⟨hk5, hw⟩ := hw
        refine xb_call (D := D) (A := A) (σ := σ) (h := h) (d := 2) (mc := bc) (ms := bs) (maxL := 3) (rest := []) (av := [.ref b4, .int 7, .int (xb_i h x0 3)]) (fun T hT X => by obtain ⟨cb9, ra9, rb9, rc9⟩ := xb_recv (ci := 2) hR rfl hk5 (by decide); exact xt_invV X hx hown (hts _ m_6fcde429) (hts _ m_865d5b07) (hts _ m_113f8f75) (xt_sigOf (hts _ m_73e65e5f)) nm_StackModule_fail (by rw [hT]; exact ra9) rb9 rc9 (g := F0 m 291 ls [.int (xb_i h x0 3), .int 7, .ref b4]) rfl (argsL := [.int 7, .int (xb_i h x0 3)]) (rest := []) rfl rfl (by rw [hb]; exact (xb_d D_Reader_readSection 113 rfl))) (ok_StackModule_fail l hfl D A σ b4 7 (xb_i h x0 3) h bc bs _ _ hw) (hml.trans hl.1.symm) (by rw [hb]; exact (xb_d D_Reader_readSection 113 rfl)) (Nat.le_of_ble_eq_true rfl) (Nat.le_of_ble_eq_true rfl) (Nat.le_of_ble_eq_true rfl) (show k + bc ≤ MC by omega) (show n + bs ≤ MS by omega) (xt_w1 hB.1 m_73e65e5f) (xt_cdOf hB.1 m_73e65e5f) (hts _ m_9c375545) hB hR hS hA (fun vv h6 bc7 bs7 kk7 nn7 H locs hk7 hn7 hq hEh6 hR hS => ?_) (fun XX ax h6 bc7 bs7 kk7 nn7 H locs hk7 hn7 hq hEh6 hex hR hS => ?_)
        · obtain ⟨rfl, hw⟩ := hq
          have hw := hw hEh6
          have hE := hE.tr hEh6
          refine W.eq (g2 := F0 m 294 ls []) rfl ?_
          exact am_Reader_readSection_L294 l hfl D A σ MC MS h0 Qr Qt x0 h6 bc7 bs7 hw p e s m args below meth c hC H locs ls (k + kk7) (n + nn7) hE (lv_sub hl [0] rfl) hR hS (by omega) (by omega)
        · exact xb_pass hlocks (fun x hx9 => by rw [htab] at hx9; first | (cases hx9; done) | (simp [tableOf] at hx9; subst hx9; decide) | (simp [tableOf] at hx9; rcases hx9 with rfl | rfl <;> decide) | (simp [tableOf] at hx9; rcases hx9 with rfl | rfl | rfl <;> decide)) (show (k + kk7) + bc7 ≤ MC by omega) (show (n + nn7) + bs7 ≤ MS by omega) (hE.tr hEh6) hR hS hex hq
    · have hw := hw.2 hc1
      refine lv_iload_n hx hb (xb_d D_Reader_readSection 29 rfl) rfl (lv_at hl 1 rfl) ?_
      by_cases hc8 : x1 = 0
      · have hw := hw.1 hc8
        refine xt_numi hc8 ?_
        refine lv_tableIn (off := 59) (tgt := 112) hx hb (xb_d D_Reader_readSection 30 rfl) (by decide +kernel) (by decide +kernel) (by decide +kernel) (by decide) ?_
        refine lv_aload_n hx hb (xb_d D_Reader_readSection 31 rfl) rfl (lv_at hl 0 rfl) ?_
        obtain ⟨hk9, hw⟩ := hw
        refine xb_call (D := D) (A := A) (σ := σ) (h := h) (d := 4) (mc := bc) (ms := bs) (maxL := 5) (rest := []) (av := [.ref x0]) (fun T hT X => by obtain ⟨cb9, ra9, rb9, rc9⟩ := xb_recv (ci := 3) hR rfl hk9 (by decide); exact xt_invV X hx hown (hts _ m_fae64a5e) (hts _ m_a35a3722) (hts _ m_7a3ebdc0) (xt_sigOf (hts _ m_76a677e7)) nm_Reader_readName (by rw [hT]; exact ra9) rb9 rc9 (g := F0 m 113 ls [.ref x0]) rfl (argsL := []) (rest := []) rfl rfl (by rw [hb]; exact (xb_d D_Reader_readSection 32 rfl))) (ok_Reader_readName l hfl D A σ x0 h bc bs _ _ hw) (hml.trans hl.1.symm) (by rw [hb]; exact (xb_d D_Reader_readSection 32 rfl)) (Nat.le_of_ble_eq_true rfl) (Nat.le_of_ble_eq_true rfl) (Nat.le_of_ble_eq_true rfl) (show k + bc ≤ MC by omega) (show n + bs ≤ MS by omega) (xt_w1 hB.1 m_76a677e7) (xt_cdOf hB.1 m_76a677e7) (hts _ m_938fcec4) hB hR hS hA (fun vv h10 bc11 bs11 kk11 nn11 H locs hk11 hn11 hq hEh10 hR hS => ?_) (fun XX ax h10 bc11 bs11 kk11 nn11 H locs hk11 hn11 hq hEh10 hex hR hS => ?_)
        · obtain ⟨r11, rfl, hw⟩ := hq
          have hw := hw hEh10
          have hE := hE.tr hEh10
          refine W.eq (g2 := F0 m 116 ls [.int r11]) rfl ?_
          refine lv_pop hx hb (xb_d D_Reader_readSection 33 rfl) rfl ?_
          refine lv_aload_n hx hb (xb_d D_Reader_readSection 34 rfl) rfl (lv_at hl 0 rfl) ?_
          refine lv_aload_n hx hb (xb_d D_Reader_readSection 35 rfl) rfl (lv_at hl 0 rfl) ?_
          have hk9 : xb_k h10 x0 = 4 := hEh10.k hk9
          refine xb_getI (C := R_Reader) (T := F_Reader) (N := 6) hx hb 3 4 hts fin_Reader hown hR hk9 (by decide) rfl (by decide) rfl (hts _ m_49916c4b) (fun _ h9 => h9) (xb_d D_Reader_readSection 36 rfl) ?_
          refine xb_putI (C := R_Reader) (T := F_Reader) (N := 6) (ty := .int) (x := (xb_i h10 x0 4)) hx hb 3 3 hts fin_Reader t_Reader t_Reader_ok n_Reader hown hR hS hk9 (by decide) rfl (by decide) rfl (hts _ m_a9b84ac2) (fun _ h9 => h9) rfl (by decide +kernel) rfl rfl (xb_d D_Reader_readSection 37 rfl) (fun H locs hR hS => ?_)
          obtain ⟨h12, eh12⟩ : ∃ x : xb_H, x = xb_I h10 x0 3 (xb_i h10 x0 4) := ⟨_, rfl⟩
          rw [← eh12] at hR
          have hw := hw h12 eh12
          have hE : xb_ext h0 h12 := by rw [eh12]; exact hE
          refine lv_goto (tgt := 261) hx hb (xb_d D_Reader_readSection 38 rfl) rfl ?_
          exact am_Reader_readSection_L261 l hfl D A σ MC MS h0 Qr Qt (w_Reader_readSection_L45 Qr Qt n9) ih x0 x1 x3 x5 h12 bc11 bs11 hw p e s m args below meth c hC H locs ls (k + kk11) (n + nn11) hE (lv_sub hl [0, 1, 2, 3] rfl) hR hS (by omega) (by omega)
        · exact xb_pass hlocks (fun x hx9 => by rw [htab] at hx9; first | (cases hx9; done) | (simp [tableOf] at hx9; subst hx9; decide) | (simp [tableOf] at hx9; rcases hx9 with rfl | rfl <;> decide) | (simp [tableOf] at hx9; rcases hx9 with rfl | rfl | rfl <;> decide)) (show (k + kk11) + bc11 ≤ MC by omega) (show (n + nn11) + bs11 ≤ MS by omega) (hE.tr hEh10) hR hS hex hq
      have hw := hw.2
      by_cases hc13 : x1 = 1
      · have hw := hw.1 hc13
        refine xt_numi hc13 ?_
        refine lv_tableIn (off := 75) (tgt := 128) hx hb (xb_d D_Reader_readSection 30 rfl) (by decide +kernel) (by decide +kernel) (by decide +kernel) (by decide) ?_
        refine lv_aload_n hx hb (xb_d D_Reader_readSection 39 rfl) rfl (lv_at hl 0 rfl) ?_
        obtain ⟨hk14, hw⟩ := hw
        refine xb_call (D := D) (A := A) (σ := σ) (h := h) (d := 6) (mc := bc) (ms := bs) (maxL := 5) (rest := []) (av := [.ref x0]) (fun T hT X => by obtain ⟨cb9, ra9, rb9, rc9⟩ := xb_recv (ci := 3) hR rfl hk14 (by decide); exact xt_invV X hx hown (hts _ m_e2246ce7) (hts _ m_e2089bd8) (hts _ m_b0eb3f01) (xt_sigOf (hts _ m_156d2082)) nm_Reader_readType (by rw [hT]; exact ra9) rb9 rc9 (g := F0 m 129 ls [.ref x0]) rfl (argsL := []) (rest := []) rfl rfl (by rw [hb]; exact (xb_d D_Reader_readSection 40 rfl))) (ok_Reader_readType l hfl D A σ x0 h bc bs _ _ hw) (hml.trans hl.1.symm) (by rw [hb]; exact (xb_d D_Reader_readSection 40 rfl)) (Nat.le_of_ble_eq_true rfl) (Nat.le_of_ble_eq_true rfl) (Nat.le_of_ble_eq_true rfl) (show k + bc ≤ MC by omega) (show n + bs ≤ MS by omega) (xt_w1 hB.1 m_156d2082) (xt_cdOf hB.1 m_156d2082) (hts _ m_938fcec4) hB hR hS hA (fun vv h15 bc16 bs16 kk16 nn16 H locs hk16 hn16 hq hEh15 hR hS => ?_) (fun XX ax h15 bc16 bs16 kk16 nn16 H locs hk16 hn16 hq hEh15 hex hR hS => ?_)
        · obtain ⟨rfl, hw⟩ := hq
          have hw := hw hEh15
          have hE := hE.tr hEh15
          refine W.eq (g2 := F0 m 132 ls []) rfl ?_
          refine lv_goto (tgt := 261) hx hb (xb_d D_Reader_readSection 41 rfl) rfl ?_
          exact am_Reader_readSection_L261 l hfl D A σ MC MS h0 Qr Qt (w_Reader_readSection_L45 Qr Qt n9) ih x0 x1 x3 x5 h15 bc16 bs16 hw p e s m args below meth c hC H locs ls (k + kk16) (n + nn16) hE (lv_sub hl [0, 1, 2, 3] rfl) hR hS (by omega) (by omega)
        · exact xb_pass hlocks (fun x hx9 => by rw [htab] at hx9; first | (cases hx9; done) | (simp [tableOf] at hx9; subst hx9; decide) | (simp [tableOf] at hx9; rcases hx9 with rfl | rfl <;> decide) | (simp [tableOf] at hx9; rcases hx9 with rfl | rfl | rfl <;> decide)) (show (k + kk16) + bc16 ≤ MC by omega) (show (n + nn16) + bs16 ≤ MS by omega) (hE.tr hEh15) hR hS hex hq
      have hw := hw.2
      by_cases hc17 : x1 = 2
      · have hw := hw.1 hc17
        refine xt_numi hc17 ?_
        refine lv_tableIn (off := 82) (tgt := 135) hx hb (xb_d D_Reader_readSection 30 rfl) (by decide +kernel) (by decide +kernel) (by decide +kernel) (by decide) ?_
        refine lv_aload_n hx hb (xb_d D_Reader_readSection 42 rfl) rfl (lv_at hl 0 rfl) ?_
        obtain ⟨hk18, hw⟩ := hw
        refine xb_call (D := D) (A := A) (σ := σ) (h := h) (d := 6) (mc := bc) (ms := bs) (maxL := 7) (rest := []) (av := [.ref x0]) (fun T hT X => by obtain ⟨cb9, ra9, rb9, rc9⟩ := xb_recv (ci := 3) hR rfl hk18 (by decide); exact xt_invV X hx hown (hts _ m_890540f1) (hts _ m_a7ea67c0) (hts _ m_0ec57abf) (xt_sigOf (hts _ m_6a7dd876)) nm_Reader_readImport (by rw [hT]; exact ra9) rb9 rc9 (g := F0 m 136 ls [.ref x0]) rfl (argsL := []) (rest := []) rfl rfl (by rw [hb]; exact (xb_d D_Reader_readSection 43 rfl))) (ok_Reader_readImport l hfl D A σ x0 h bc bs _ _ hw) (hml.trans hl.1.symm) (by rw [hb]; exact (xb_d D_Reader_readSection 43 rfl)) (Nat.le_of_ble_eq_true rfl) (Nat.le_of_ble_eq_true rfl) (Nat.le_of_ble_eq_true rfl) (show k + bc ≤ MC by omega) (show n + bs ≤ MS by omega) (xt_w1 hB.1 m_6a7dd876) (xt_cdOf hB.1 m_6a7dd876) (hts _ m_938fcec4) hB hR hS hA (fun vv h19 bc20 bs20 kk20 nn20 H locs hk20 hn20 hq hEh19 hR hS => ?_) (fun XX ax h19 bc20 bs20 kk20 nn20 H locs hk20 hn20 hq hEh19 hex hR hS => ?_)
        · obtain ⟨rfl, hw⟩ := hq
          have hw := hw hEh19
          have hE := hE.tr hEh19
          refine W.eq (g2 := F0 m 139 ls []) rfl ?_
          refine lv_goto (tgt := 261) hx hb (xb_d D_Reader_readSection 44 rfl) rfl ?_
          exact am_Reader_readSection_L261 l hfl D A σ MC MS h0 Qr Qt (w_Reader_readSection_L45 Qr Qt n9) ih x0 x1 x3 x5 h19 bc20 bs20 hw p e s m args below meth c hC H locs ls (k + kk20) (n + nn20) hE (lv_sub hl [0, 1, 2, 3] rfl) hR hS (by omega) (by omega)
        · exact xb_pass hlocks (fun x hx9 => by rw [htab] at hx9; first | (cases hx9; done) | (simp [tableOf] at hx9; subst hx9; decide) | (simp [tableOf] at hx9; rcases hx9 with rfl | rfl <;> decide) | (simp [tableOf] at hx9; rcases hx9 with rfl | rfl | rfl <;> decide)) (show (k + kk20) + bc20 ≤ MC by omega) (show (n + nn20) + bs20 ≤ MS by omega) (hE.tr hEh19) hR hS hex hq
      have hw := hw.2
      by_cases hc21 : x1 = 3
      · have hw := hw.1 hc21
        refine xt_numi hc21 ?_
        refine lv_tableIn (off := 89) (tgt := 142) hx hb (xb_d D_Reader_readSection 30 rfl) (by decide +kernel) (by decide +kernel) (by decide +kernel) (by decide) ?_
        refine lv_aload_n hx hb (xb_d D_Reader_readSection 45 rfl) rfl (lv_at hl 0 rfl) ?_
        obtain ⟨hk22, hw⟩ := hw
        refine xb_getP (C := R_Reader) (T := F_Reader) (N := 6) hx hb 3 0 hts fin_Reader hown hR hk22 (by decide) rfl (by decide) rfl (hts _ m_76d8349c) (fun _ h9 => h9) (xb_d D_Reader_readSection 46 rfl) ?_
        obtain ⟨b23, eb23, hw⟩ := hw
        refine xb_some eb23 ?_
        obtain ⟨hk24, hw⟩ := hw
        refine xb_getP (C := R_StackModule) (T := F_StackModule) (N := 19) hx hb 2 4 hts fin_StackModule hown hR hk24 (by decide) rfl (by decide) rfl (hts _ m_08af5762) (fun _ h9 => h9) (xb_d D_Reader_readSection 47 rfl) ?_
        obtain ⟨b25, eb25, hw⟩ := hw
        refine xb_some eb25 ?_
        refine lv_aload_n hx hb (xb_d D_Reader_readSection 48 rfl) rfl (lv_at hl 0 rfl) ?_
        refine xb_getI (C := R_Reader) (T := F_Reader) (N := 6) hx hb 3 3 hts fin_Reader hown hR hk22 (by decide) rfl (by decide) rfl (hts _ m_a9b84ac2) (fun _ h9 => h9) (xb_d D_Reader_readSection 49 rfl) ?_
        refine lv_i2l hx hb (xb_d D_Reader_readSection 50 rfl) rfl ?_
        obtain ⟨hk26, hw⟩ := hw
        refine xb_call (D := D) (A := A) (σ := σ) (h := h) (d := 4) (mc := bc) (ms := bs) (maxL := 3) (rest := []) (av := [.ref b25, .long (Int32.toInt64 (xb_i h x0 3))]) (fun T hT X => by obtain ⟨cb9, ra9, rb9, rc9⟩ := xb_recv (ci := 1) hR rfl hk26 (by decide); exact xt_invV X hx hown (hts _ m_da067afc) (hts _ m_7e8d081f) (hts _ m_4e47f51a) (xt_sigOf (hts _ m_4f1bdc54)) nm_Row_add (by rw [hT]; exact ra9) rb9 rc9 (g := F0 m 154 ls [.long (Int32.toInt64 (xb_i h x0 3)), .ref b25]) rfl (argsL := [.long (Int32.toInt64 (xb_i h x0 3))]) (rest := []) rfl rfl (by rw [hb]; exact (xb_d D_Reader_readSection 51 rfl))) (ok_Row_add l hfl D A σ b25 (Int32.toInt64 (xb_i h x0 3)) h bc bs _ hw) (hml.trans hl.1.symm) (by rw [hb]; exact (xb_d D_Reader_readSection 51 rfl)) (Nat.le_of_ble_eq_true rfl) (Nat.le_of_ble_eq_true rfl) (Nat.le_of_ble_eq_true rfl) (show k + bc ≤ MC by omega) (show n + bs ≤ MS by omega) (xt_w1 hB.1 m_4f1bdc54) (xt_cdOf hB.1 m_4f1bdc54) (hts _ m_c1bef504) hB hR hS hA (fun vv h27 bc28 bs28 kk28 nn28 H locs hk28 hn28 hq hEh27 hR hS => ?_) (fun XX ax h27 bc28 bs28 kk28 nn28 H locs hk28 hn28 hq hEh27 hex hR hS => ?_)
        · obtain ⟨rfl, hw⟩ := hq
          have hw := hw hEh27
          have hE := hE.tr hEh27
          refine W.eq (g2 := F0 m 157 ls []) rfl ?_
          refine lv_aload_n hx hb (xb_d D_Reader_readSection 52 rfl) rfl (lv_at hl 0 rfl) ?_
          have hk22 : xb_k h27 x0 = 4 := hEh27.k hk22
          refine xb_getP (C := R_Reader) (T := F_Reader) (N := 6) hx hb 3 0 hts fin_Reader hown hR hk22 (by decide) rfl (by decide) rfl (hts _ m_76d8349c) (fun _ h9 => h9) (xb_d D_Reader_readSection 53 rfl) ?_
          obtain ⟨b29, eb29, hw⟩ := hw
          refine xb_some eb29 ?_
          obtain ⟨hk30, hw⟩ := hw
          refine xb_getP (C := R_StackModule) (T := F_StackModule) (N := 19) hx hb 2 4 hts fin_StackModule hown hR hk30 (by decide) rfl (by decide) rfl (hts _ m_08af5762) (fun _ h9 => h9) (xb_d D_Reader_readSection 54 rfl) ?_
          obtain ⟨b31, eb31, hw⟩ := hw
          refine xb_some eb31 ?_
          refine lv_aload_n hx hb (xb_d D_Reader_readSection 55 rfl) rfl (lv_at hl 0 rfl) ?_
          refine xb_call (D := D) (A := A) (σ := σ) (h := h27) (d := 3) (mc := bc28) (ms := bs28) (maxL := 4) (rest := [.ref b31]) (av := [.ref x0]) (fun T hT X => by obtain ⟨cb9, ra9, rb9, rc9⟩ := xb_recv (ci := 3) hR rfl hk22 (by decide); exact xt_invV X hx hown (hts _ m_2c379b4d) (hts _ m_a120e786) (hts _ m_e903c73e) (xt_sigOf (hts _ m_99690a98)) nm_Reader_count (by rw [hT]; exact ra9) rb9 rc9 (g := F0 m 165 ls [.ref x0, .ref b31]) rfl (argsL := []) (rest := [.ref b31]) rfl rfl (by rw [hb]; exact (xb_d D_Reader_readSection 56 rfl))) (ok_Reader_count l hfl D A σ x0 h27 bc28 bs28 _ _ hw) (hml.trans hl.1.symm) (by rw [hb]; exact (xb_d D_Reader_readSection 56 rfl)) (Nat.le_of_ble_eq_true rfl) (Nat.le_of_ble_eq_true rfl) (Nat.le_of_ble_eq_true rfl) (show (k + kk28) + bc28 ≤ MC by omega) (show (n + nn28) + bs28 ≤ MS by omega) (xt_w1 hB.1 m_99690a98) (xt_cdOf hB.1 m_99690a98) (hts _ m_938fcec4) hB hR hS hA (fun vv h32 bc33 bs33 kk33 nn33 H locs hk33 hn33 hq hEh32 hR hS => ?_) (fun XX ax h32 bc33 bs33 kk33 nn33 H locs hk33 hn33 hq hEh32 hex hR hS => ?_)
          · obtain ⟨r33, rfl, hw⟩ := hq
            have hw := hw hEh32
            have hE := hE.tr hEh32
            refine W.eq (g2 := F0 m 168 ls [.int r33, .ref b31]) rfl ?_
            refine lv_i2l hx hb (xb_d D_Reader_readSection 57 rfl) rfl ?_
            refine lv_ldc2 (v := 4294967295) hx hb hown (hts _ m_687f726b) (xb_d D_Reader_readSection 58 rfl) ?_
            refine lv_land hx hb (xb_d D_Reader_readSection 59 rfl) ?_
            obtain ⟨hk34, hw⟩ := hw
            refine xb_call (D := D) (A := A) (σ := σ) (h := h32) (d := 4) (mc := bc33) (ms := bs33) (maxL := 3) (rest := []) (av := [.ref b31, .long ((Int32.toInt64 r33) &&& 4294967295)]) (fun T hT X => by obtain ⟨cb9, ra9, rb9, rc9⟩ := xb_recv (ci := 1) hR rfl hk34 (by decide); exact xt_invV X hx hown (hts _ m_da067afc) (hts _ m_7e8d081f) (hts _ m_4e47f51a) (xt_sigOf (hts _ m_4f1bdc54)) nm_Row_add (by rw [hT]; exact ra9) rb9 rc9 (g := F0 m 173 ls [.long ((Int32.toInt64 r33) &&& 4294967295), .ref b31]) rfl (argsL := [.long ((Int32.toInt64 r33) &&& 4294967295)]) (rest := []) rfl rfl (by rw [hb]; exact (xb_d D_Reader_readSection 60 rfl))) (ok_Row_add l hfl D A σ b31 ((Int32.toInt64 r33) &&& 4294967295) h32 bc33 bs33 _ hw) (hml.trans hl.1.symm) (by rw [hb]; exact (xb_d D_Reader_readSection 60 rfl)) (Nat.le_of_ble_eq_true rfl) (Nat.le_of_ble_eq_true rfl) (Nat.le_of_ble_eq_true rfl) (show ((k + kk28) + kk33) + bc33 ≤ MC by omega) (show ((n + nn28) + nn33) + bs33 ≤ MS by omega) (xt_w1 hB.1 m_4f1bdc54) (xt_cdOf hB.1 m_4f1bdc54) (hts _ m_c1bef504) hB hR hS hA (fun vv h35 bc36 bs36 kk36 nn36 H locs hk36 hn36 hq hEh35 hR hS => ?_) (fun XX ax h35 bc36 bs36 kk36 nn36 H locs hk36 hn36 hq hEh35 hex hR hS => ?_)
            · obtain ⟨rfl, hw⟩ := hq
              have hw := hw hEh35
              have hE := hE.tr hEh35
              refine W.eq (g2 := F0 m 176 ls []) rfl ?_
              refine lv_goto (tgt := 261) hx hb (xb_d D_Reader_readSection 61 rfl) rfl ?_
              exact am_Reader_readSection_L261 l hfl D A σ MC MS h0 Qr Qt (w_Reader_readSection_L45 Qr Qt n9) ih x0 x1 x3 x5 h35 bc36 bs36 hw p e s m args below meth c hC H locs ls (((k + kk28) + kk33) + kk36) (((n + nn28) + nn33) + nn36) hE (lv_sub hl [0, 1, 2, 3] rfl) hR hS (by omega) (by omega)
            · exact False.elim hq
          · exact xb_pass hlocks (fun x hx9 => by rw [htab] at hx9; first | (cases hx9; done) | (simp [tableOf] at hx9; subst hx9; decide) | (simp [tableOf] at hx9; rcases hx9 with rfl | rfl <;> decide) | (simp [tableOf] at hx9; rcases hx9 with rfl | rfl | rfl <;> decide)) (show ((k + kk28) + kk33) + bc33 ≤ MC by omega) (show ((n + nn28) + nn33) + bs33 ≤ MS by omega) (hE.tr hEh32) hR hS hex hq
        · exact False.elim hq
      have hw := hw.2
      by_cases hc37 : x1 = 4
      · have hw := hw.1 hc37
        refine xt_numi hc37 ?_
        refine lv_tableIn (off := 126) (tgt := 179) hx hb (xb_d D_Reader_readSection 30 rfl) (by decide +kernel) (by decide +kernel) (by decide +kernel) (by decide) ?_
        refine lv_aload_n hx hb (xb_d D_Reader_readSection 62 rfl) rfl (lv_at hl 0 rfl) ?_
        obtain ⟨hk38, hw⟩ := hw
        refine xb_call (D := D) (A := A) (σ := σ) (h := h) (d := 6) (mc := bc) (ms := bs) (maxL := 2) (rest := []) (av := [.ref x0]) (fun T hT X => by obtain ⟨cb9, ra9, rb9, rc9⟩ := xb_recv (ci := 3) hR rfl hk38 (by decide); exact xt_invV X hx hown (hts _ m_145e8a51) (hts _ m_817e0cad) (hts _ m_1bff1792) (xt_sigOf (hts _ m_5723512e)) nm_Reader_readTable (by rw [hT]; exact ra9) rb9 rc9 (g := F0 m 180 ls [.ref x0]) rfl (argsL := []) (rest := []) rfl rfl (by rw [hb]; exact (xb_d D_Reader_readSection 63 rfl))) (ok_Reader_readTable l hfl D A σ x0 h bc bs _ _ hw) (hml.trans hl.1.symm) (by rw [hb]; exact (xb_d D_Reader_readSection 63 rfl)) (Nat.le_of_ble_eq_true rfl) (Nat.le_of_ble_eq_true rfl) (Nat.le_of_ble_eq_true rfl) (show k + bc ≤ MC by omega) (show n + bs ≤ MS by omega) (xt_w1 hB.1 m_5723512e) (xt_cdOf hB.1 m_5723512e) (hts _ m_938fcec4) hB hR hS hA (fun vv h39 bc40 bs40 kk40 nn40 H locs hk40 hn40 hq hEh39 hR hS => ?_) (fun XX ax h39 bc40 bs40 kk40 nn40 H locs hk40 hn40 hq hEh39 hex hR hS => ?_)
        · obtain ⟨rfl, hw⟩ := hq
          have hw := hw hEh39
          have hE := hE.tr hEh39
          refine W.eq (g2 := F0 m 183 ls []) rfl ?_
          refine lv_goto (tgt := 261) hx hb (xb_d D_Reader_readSection 64 rfl) rfl ?_
          exact am_Reader_readSection_L261 l hfl D A σ MC MS h0 Qr Qt (w_Reader_readSection_L45 Qr Qt n9) ih x0 x1 x3 x5 h39 bc40 bs40 hw p e s m args below meth c hC H locs ls (k + kk40) (n + nn40) hE (lv_sub hl [0, 1, 2, 3] rfl) hR hS (by omega) (by omega)
        · exact xb_pass hlocks (fun x hx9 => by rw [htab] at hx9; first | (cases hx9; done) | (simp [tableOf] at hx9; subst hx9; decide) | (simp [tableOf] at hx9; rcases hx9 with rfl | rfl <;> decide) | (simp [tableOf] at hx9; rcases hx9 with rfl | rfl | rfl <;> decide)) (show (k + kk40) + bc40 ≤ MC by omega) (show (n + nn40) + bs40 ≤ MS by omega) (hE.tr hEh39) hR hS hex hq
      have hw := hw.2
      by_cases hc41 : x1 = 5
      · have hw := hw.1 hc41
        refine xt_numi hc41 ?_
        refine lv_tableIn (off := 133) (tgt := 186) hx hb (xb_d D_Reader_readSection 30 rfl) (by decide +kernel) (by decide +kernel) (by decide +kernel) (by decide) ?_
        refine lv_aload_n hx hb (xb_d D_Reader_readSection 65 rfl) rfl (lv_at hl 0 rfl) ?_
        refine lv_aload_n hx hb (xb_d D_Reader_readSection 66 rfl) rfl (lv_at hl 0 rfl) ?_
        obtain ⟨hk42, hw⟩ := hw
        refine xb_getP (C := R_Reader) (T := F_Reader) (N := 6) hx hb 3 0 hts fin_Reader hown hR hk42 (by decide) rfl (by decide) rfl (hts _ m_76d8349c) (fun _ h9 => h9) (xb_d D_Reader_readSection 67 rfl) ?_
        obtain ⟨b43, eb43, hw⟩ := hw
        refine xb_some eb43 ?_
        obtain ⟨hk44, hw⟩ := hw
        refine xb_getP (C := R_StackModule) (T := F_StackModule) (N := 19) hx hb 2 6 hts fin_StackModule hown hR hk44 (by decide) rfl (by decide) rfl (hts _ m_aacfe790) (fun _ h9 => h9) (xb_d D_Reader_readSection 68 rfl) ?_
        obtain ⟨b45, eb45, hw⟩ := hw
        refine xb_some eb45 ?_
        refine lv_aload_n hx hb (xb_d D_Reader_readSection 69 rfl) rfl (lv_at hl 0 rfl) ?_
        refine xb_getI (C := R_Reader) (T := F_Reader) (N := 6) hx hb 3 3 hts fin_Reader hown hR hk42 (by decide) rfl (by decide) rfl (hts _ m_a9b84ac2) (fun _ h9 => h9) (xb_d D_Reader_readSection 70 rfl) ?_
        refine xb_call (D := D) (A := A) (σ := σ) (h := h) (d := 5) (mc := bc) (ms := bs) (maxL := 4) (rest := []) (av := [.ref x0, .ref b45, .int (xb_i h x0 3)]) (fun T hT X => by obtain ⟨cb9, ra9, rb9, rc9⟩ := xb_recv (ci := 3) hR rfl hk42 (by decide); exact xt_invV X hx hown (hts _ m_8deb7e3b) (hts _ m_592ab943) (hts _ m_602d511d) (xt_sigOf (hts _ m_06c7cb4a)) nm_Reader_readLimits (by rw [hT]; exact ra9) rb9 rc9 (g := F0 m 198 ls [.int (xb_i h x0 3), .ref b45, .ref x0]) rfl (argsL := [.ref b45, .int (xb_i h x0 3)]) (rest := []) rfl rfl (by rw [hb]; exact (xb_d D_Reader_readSection 71 rfl))) (ok_Reader_readLimits l hfl D A σ x0 b45 (xb_i h x0 3) h bc bs _ _ hw) (hml.trans hl.1.symm) (by rw [hb]; exact (xb_d D_Reader_readSection 71 rfl)) (Nat.le_of_ble_eq_true rfl) (Nat.le_of_ble_eq_true rfl) (Nat.le_of_ble_eq_true rfl) (show k + bc ≤ MC by omega) (show n + bs ≤ MS by omega) (xt_w1 hB.1 m_06c7cb4a) (xt_cdOf hB.1 m_06c7cb4a) (hts _ m_938fcec4) hB hR hS hA (fun vv h46 bc47 bs47 kk47 nn47 H locs hk47 hn47 hq hEh46 hR hS => ?_) (fun XX ax h46 bc47 bs47 kk47 nn47 H locs hk47 hn47 hq hEh46 hex hR hS => ?_)
        · obtain ⟨rfl, hw⟩ := hq
          have hw := hw hEh46
          have hE := hE.tr hEh46
          refine W.eq (g2 := F0 m 201 ls []) rfl ?_
          refine lv_goto (tgt := 261) hx hb (xb_d D_Reader_readSection 72 rfl) rfl ?_
          exact am_Reader_readSection_L261 l hfl D A σ MC MS h0 Qr Qt (w_Reader_readSection_L45 Qr Qt n9) ih x0 x1 x3 x5 h46 bc47 bs47 hw p e s m args below meth c hC H locs ls (k + kk47) (n + nn47) hE (lv_sub hl [0, 1, 2, 3] rfl) hR hS (by omega) (by omega)
        · exact xb_pass hlocks (fun x hx9 => by rw [htab] at hx9; first | (cases hx9; done) | (simp [tableOf] at hx9; subst hx9; decide) | (simp [tableOf] at hx9; rcases hx9 with rfl | rfl <;> decide) | (simp [tableOf] at hx9; rcases hx9 with rfl | rfl | rfl <;> decide)) (show (k + kk47) + bc47 ≤ MC by omega) (show (n + nn47) + bs47 ≤ MS by omega) (hE.tr hEh46) hR hS hex hq
      have hw := hw.2
      by_cases hc48 : x1 = 6
      · have hw := hw.1 hc48
        refine xt_numi hc48 ?_
        refine lv_tableIn (off := 151) (tgt := 204) hx hb (xb_d D_Reader_readSection 30 rfl) (by decide +kernel) (by decide +kernel) (by decide +kernel) (by decide) ?_
        refine lv_aload_n hx hb (xb_d D_Reader_readSection 73 rfl) rfl (lv_at hl 0 rfl) ?_
        obtain ⟨hk49, hw⟩ := hw
        refine xb_call (D := D) (A := A) (σ := σ) (h := h) (d := 6) (mc := bc) (ms := bs) (maxL := 1) (rest := []) (av := [.ref x0]) (fun T hT X => by obtain ⟨cb9, ra9, rb9, rc9⟩ := xb_recv (ci := 3) hR rfl hk49 (by decide); exact xt_invV X hx hown (hts _ m_bc39abfd) (hts _ m_c08b1c59) (hts _ m_44adf5fa) (xt_sigOf (hts _ m_9e25c7a7)) nm_Reader_readVariable (by rw [hT]; exact ra9) rb9 rc9 (g := F0 m 205 ls [.ref x0]) rfl (argsL := []) (rest := []) rfl rfl (by rw [hb]; exact (xb_d D_Reader_readSection 74 rfl))) (ok_Reader_readVariable l hfl D A σ x0 h bc bs _ _ hw) (hml.trans hl.1.symm) (by rw [hb]; exact (xb_d D_Reader_readSection 74 rfl)) (Nat.le_of_ble_eq_true rfl) (Nat.le_of_ble_eq_true rfl) (Nat.le_of_ble_eq_true rfl) (show k + bc ≤ MC by omega) (show n + bs ≤ MS by omega) (xt_w1 hB.1 m_9e25c7a7) (xt_cdOf hB.1 m_9e25c7a7) (hts _ m_938fcec4) hB hR hS hA (fun vv h50 bc51 bs51 kk51 nn51 H locs hk51 hn51 hq hEh50 hR hS => ?_) (fun XX ax h50 bc51 bs51 kk51 nn51 H locs hk51 hn51 hq hEh50 hex hR hS => ?_)
        · obtain ⟨rfl, hw⟩ := hq
          have hw := hw hEh50
          have hE := hE.tr hEh50
          refine W.eq (g2 := F0 m 208 ls []) rfl ?_
          refine lv_goto (tgt := 261) hx hb (xb_d D_Reader_readSection 75 rfl) rfl ?_
          exact am_Reader_readSection_L261 l hfl D A σ MC MS h0 Qr Qt (w_Reader_readSection_L45 Qr Qt n9) ih x0 x1 x3 x5 h50 bc51 bs51 hw p e s m args below meth c hC H locs ls (k + kk51) (n + nn51) hE (lv_sub hl [0, 1, 2, 3] rfl) hR hS (by omega) (by omega)
        · exact xb_pass hlocks (fun x hx9 => by rw [htab] at hx9; first | (cases hx9; done) | (simp [tableOf] at hx9; subst hx9; decide) | (simp [tableOf] at hx9; rcases hx9 with rfl | rfl <;> decide) | (simp [tableOf] at hx9; rcases hx9 with rfl | rfl | rfl <;> decide)) (show (k + kk51) + bc51 ≤ MC by omega) (show (n + nn51) + bs51 ≤ MS by omega) (hE.tr hEh50) hR hS hex hq
      have hw := hw.2
      by_cases hc52 : x1 = 7
      · have hw := hw.1 hc52
        refine xt_numi hc52 ?_
        refine lv_tableIn (off := 158) (tgt := 211) hx hb (xb_d D_Reader_readSection 30 rfl) (by decide +kernel) (by decide +kernel) (by decide +kernel) (by decide) ?_
        refine lv_aload_n hx hb (xb_d D_Reader_readSection 76 rfl) rfl (lv_at hl 0 rfl) ?_
        obtain ⟨hk53, hw⟩ := hw
        refine xb_call (D := D) (A := A) (σ := σ) (h := h) (d := 5) (mc := bc) (ms := bs) (maxL := 4) (rest := []) (av := [.ref x0]) (fun T hT X => by obtain ⟨cb9, ra9, rb9, rc9⟩ := xb_recv (ci := 3) hR rfl hk53 (by decide); exact xt_invV X hx hown (hts _ m_d4969a11) (hts _ m_d662381e) (hts _ m_9d83f4c7) (xt_sigOf (hts _ m_b1035324)) nm_Reader_readExport (by rw [hT]; exact ra9) rb9 rc9 (g := F0 m 212 ls [.ref x0]) rfl (argsL := []) (rest := []) rfl rfl (by rw [hb]; exact (xb_d D_Reader_readSection 77 rfl))) (ok_Reader_readExport l hfl D A σ x0 h bc bs _ _ hw) (hml.trans hl.1.symm) (by rw [hb]; exact (xb_d D_Reader_readSection 77 rfl)) (Nat.le_of_ble_eq_true rfl) (Nat.le_of_ble_eq_true rfl) (Nat.le_of_ble_eq_true rfl) (show k + bc ≤ MC by omega) (show n + bs ≤ MS by omega) (xt_w1 hB.1 m_b1035324) (xt_cdOf hB.1 m_b1035324) (hts _ m_938fcec4) hB hR hS hA (fun vv h54 bc55 bs55 kk55 nn55 H locs hk55 hn55 hq hEh54 hR hS => ?_) (fun XX ax h54 bc55 bs55 kk55 nn55 H locs hk55 hn55 hq hEh54 hex hR hS => ?_)
        · obtain ⟨rfl, hw⟩ := hq
          have hw := hw hEh54
          have hE := hE.tr hEh54
          refine W.eq (g2 := F0 m 215 ls []) rfl ?_
          refine lv_goto (tgt := 261) hx hb (xb_d D_Reader_readSection 78 rfl) rfl ?_
          exact am_Reader_readSection_L261 l hfl D A σ MC MS h0 Qr Qt (w_Reader_readSection_L45 Qr Qt n9) ih x0 x1 x3 x5 h54 bc55 bs55 hw p e s m args below meth c hC H locs ls (k + kk55) (n + nn55) hE (lv_sub hl [0, 1, 2, 3] rfl) hR hS (by omega) (by omega)
        · exact xb_pass hlocks (fun x hx9 => by rw [htab] at hx9; first | (cases hx9; done) | (simp [tableOf] at hx9; subst hx9; decide) | (simp [tableOf] at hx9; rcases hx9 with rfl | rfl <;> decide) | (simp [tableOf] at hx9; rcases hx9 with rfl | rfl | rfl <;> decide)) (show (k + kk55) + bc55 ≤ MC by omega) (show (n + nn55) + bs55 ≤ MS by omega) (hE.tr hEh54) hR hS hex hq
      have hw := hw.2
      by_cases hc56 : x1 = 8
      · have hw := hw.1 hc56
        refine xt_numi hc56 ?_
        refine lv_tableIn (off := 165) (tgt := 218) hx hb (xb_d D_Reader_readSection 30 rfl) (by decide +kernel) (by decide +kernel) (by decide +kernel) (by decide) ?_
        refine lv_aload_n hx hb (xb_d D_Reader_readSection 79 rfl) rfl (lv_at hl 0 rfl) ?_
        obtain ⟨hk57, hw⟩ := hw
        refine xb_getP (C := R_Reader) (T := F_Reader) (N := 6) hx hb 3 0 hts fin_Reader hown hR hk57 (by decide) rfl (by decide) rfl (hts _ m_76d8349c) (fun _ h9 => h9) (xb_d D_Reader_readSection 80 rfl) ?_
        obtain ⟨b58, eb58, hw⟩ := hw
        refine xb_some eb58 ?_
        refine lv_aload_n hx hb (xb_d D_Reader_readSection 81 rfl) rfl (lv_at hl 0 rfl) ?_
        refine xb_getI (C := R_Reader) (T := F_Reader) (N := 6) hx hb 3 3 hts fin_Reader hown hR hk57 (by decide) rfl (by decide) rfl (hts _ m_a9b84ac2) (fun _ h9 => h9) (xb_d D_Reader_readSection 82 rfl) ?_
        obtain ⟨hk59, hw⟩ := hw
        refine xb_putI (C := R_StackModule) (T := F_StackModule) (N := 19) (ty := .int) (x := (xb_i h x0 3)) hx hb 2 16 hts fin_StackModule t_StackModule t_StackModule_ok n_StackModule hown hR hS hk59 (by decide) rfl (by decide) rfl (hts _ m_e035d4fd) (fun _ h9 => h9) rfl (by decide +kernel) rfl rfl (xb_d D_Reader_readSection 83 rfl) (fun H locs hR hS => ?_)
        obtain ⟨h60, eh60⟩ : ∃ x : xb_H, x = xb_I h b58 16 (xb_i h x0 3) := ⟨_, rfl⟩
        rw [← eh60] at hR
        have hw := hw h60 eh60
        have hE : xb_ext h0 h60 := by rw [eh60]; exact hE
        refine lv_aload_n hx hb (xb_d D_Reader_readSection 84 rfl) rfl (lv_at hl 0 rfl) ?_
        have hk57 : xb_k h60 x0 = 4 := by rw [eh60]; exact hk57
        refine xb_getP (C := R_Reader) (T := F_Reader) (N := 6) hx hb 3 0 hts fin_Reader hown hR hk57 (by decide) rfl (by decide) rfl (hts _ m_76d8349c) (fun _ h9 => h9) (xb_d D_Reader_readSection 85 rfl) ?_
        obtain ⟨b61, eb61, hw⟩ := hw
        refine xb_some eb61 ?_
        refine lv_aload_n hx hb (xb_d D_Reader_readSection 86 rfl) rfl (lv_at hl 0 rfl) ?_
        refine xb_call (D := D) (A := A) (σ := σ) (h := h60) (d := 3) (mc := bc) (ms := bs) (maxL := 4) (rest := [.ref b61]) (av := [.ref x0]) (fun T hT X => by obtain ⟨cb9, ra9, rb9, rc9⟩ := xb_recv (ci := 3) hR rfl hk57 (by decide); exact xt_invV X hx hown (hts _ m_2c379b4d) (hts _ m_a120e786) (hts _ m_e903c73e) (xt_sigOf (hts _ m_99690a98)) nm_Reader_count (by rw [hT]; exact ra9) rb9 rc9 (g := F0 m 234 ls [.ref x0, .ref b61]) rfl (argsL := []) (rest := [.ref b61]) rfl rfl (by rw [hb]; exact (xb_d D_Reader_readSection 87 rfl))) (ok_Reader_count l hfl D A σ x0 h60 bc bs _ _ hw) (hml.trans hl.1.symm) (by rw [hb]; exact (xb_d D_Reader_readSection 87 rfl)) (Nat.le_of_ble_eq_true rfl) (Nat.le_of_ble_eq_true rfl) (Nat.le_of_ble_eq_true rfl) (show k + bc ≤ MC by omega) (show n + bs ≤ MS by omega) (xt_w1 hB.1 m_99690a98) (xt_cdOf hB.1 m_99690a98) (hts _ m_938fcec4) hB hR hS hA (fun vv h62 bc63 bs63 kk63 nn63 H locs hk63 hn63 hq hEh62 hR hS => ?_) (fun XX ax h62 bc63 bs63 kk63 nn63 H locs hk63 hn63 hq hEh62 hex hR hS => ?_)
        · obtain ⟨r63, rfl, hw⟩ := hq
          have hw := hw hEh62
          have hE := hE.tr hEh62
          refine W.eq (g2 := F0 m 237 ls [.int r63, .ref b61]) rfl ?_
          obtain ⟨hk64, hw⟩ := hw
          refine xb_putI (C := R_StackModule) (T := F_StackModule) (N := 19) (ty := .int) (x := r63) hx hb 2 15 hts fin_StackModule t_StackModule t_StackModule_ok n_StackModule hown hR hS hk64 (by decide) rfl (by decide) rfl (hts _ m_2b313539) (fun _ h9 => h9) rfl (by decide +kernel) rfl rfl (xb_d D_Reader_readSection 88 rfl) (fun H locs hR hS => ?_)
          obtain ⟨h65, eh65⟩ : ∃ x : xb_H, x = xb_I h62 b61 15 r63 := ⟨_, rfl⟩
          rw [← eh65] at hR
          have hw := hw h65 eh65
          have hE : xb_ext h0 h65 := by rw [eh65]; exact hE
          refine lv_goto (tgt := 261) hx hb (xb_d D_Reader_readSection 89 rfl) rfl ?_
          exact am_Reader_readSection_L261 l hfl D A σ MC MS h0 Qr Qt (w_Reader_readSection_L45 Qr Qt n9) ih x0 x1 x3 x5 h65 bc63 bs63 hw p e s m args below meth c hC H locs ls (k + kk63) (n + nn63) hE (lv_sub hl [0, 1, 2, 3] rfl) hR hS (by omega) (by omega)
        · exact xb_pass hlocks (fun x hx9 => by rw [htab] at hx9; first | (cases hx9; done) | (simp [tableOf] at hx9; subst hx9; decide) | (simp [tableOf] at hx9; rcases hx9 with rfl | rfl <;> decide) | (simp [tableOf] at hx9; rcases hx9 with rfl | rfl | rfl <;> decide)) (show (k + kk63) + bc63 ≤ MC by omega) (show (n + nn63) + bs63 ≤ MS by omega) (hE.tr hEh62) hR hS hex hq
      have hw := hw.2
      by_cases hc66 : x1 = 9
      · have hw := hw.1 hc66
        refine xt_numi hc66 ?_
        refine lv_tableIn (off := 190) (tgt := 243) hx hb (xb_d D_Reader_readSection 30 rfl) (by decide +kernel) (by decide +kernel) (by decide +kernel) (by decide) ?_
        refine lv_aload_n hx hb (xb_d D_Reader_readSection 90 rfl) rfl (lv_at hl 0 rfl) ?_
        obtain ⟨hk67, hw⟩ := hw
        refine xb_call (D := D) (A := A) (σ := σ) (h := h) (d := 6) (mc := bc) (ms := bs) (maxL := 5) (rest := []) (av := [.ref x0]) (fun T hT X => by obtain ⟨cb9, ra9, rb9, rc9⟩ := xb_recv (ci := 3) hR rfl hk67 (by decide); exact xt_invV X hx hown (hts _ m_c7f038b2) (hts _ m_8e273619) (hts _ m_5ee59b24) (xt_sigOf (hts _ m_4b4bb8ff)) nm_Reader_readElements (by rw [hT]; exact ra9) rb9 rc9 (g := F0 m 244 ls [.ref x0]) rfl (argsL := []) (rest := []) rfl rfl (by rw [hb]; exact (xb_d D_Reader_readSection 91 rfl))) (ok_Reader_readElements l hfl D A σ x0 h bc bs _ _ hw) (hml.trans hl.1.symm) (by rw [hb]; exact (xb_d D_Reader_readSection 91 rfl)) (Nat.le_of_ble_eq_true rfl) (Nat.le_of_ble_eq_true rfl) (Nat.le_of_ble_eq_true rfl) (show k + bc ≤ MC by omega) (show n + bs ≤ MS by omega) (xt_w1 hB.1 m_4b4bb8ff) (xt_cdOf hB.1 m_4b4bb8ff) (hts _ m_938fcec4) hB hR hS hA (fun vv h68 bc69 bs69 kk69 nn69 H locs hk69 hn69 hq hEh68 hR hS => ?_) (fun XX ax h68 bc69 bs69 kk69 nn69 H locs hk69 hn69 hq hEh68 hex hR hS => ?_)
        · obtain ⟨rfl, hw⟩ := hq
          have hw := hw hEh68
          have hE := hE.tr hEh68
          refine W.eq (g2 := F0 m 247 ls []) rfl ?_
          refine lv_goto (tgt := 261) hx hb (xb_d D_Reader_readSection 92 rfl) rfl ?_
          exact am_Reader_readSection_L261 l hfl D A σ MC MS h0 Qr Qt (w_Reader_readSection_L45 Qr Qt n9) ih x0 x1 x3 x5 h68 bc69 bs69 hw p e s m args below meth c hC H locs ls (k + kk69) (n + nn69) hE (lv_sub hl [0, 1, 2, 3] rfl) hR hS (by omega) (by omega)
        · exact xb_pass hlocks (fun x hx9 => by rw [htab] at hx9; first | (cases hx9; done) | (simp [tableOf] at hx9; subst hx9; decide) | (simp [tableOf] at hx9; rcases hx9 with rfl | rfl <;> decide) | (simp [tableOf] at hx9; rcases hx9 with rfl | rfl | rfl <;> decide)) (show (k + kk69) + bc69 ≤ MC by omega) (show (n + nn69) + bs69 ≤ MS by omega) (hE.tr hEh68) hR hS hex hq
      have hw := hw.2
      by_cases hc70 : x1 = 10
      · have hw := hw.1 hc70
        refine xt_numi hc70 ?_
        refine lv_tableIn (off := 197) (tgt := 250) hx hb (xb_d D_Reader_readSection 30 rfl) (by decide +kernel) (by decide +kernel) (by decide +kernel) (by decide) ?_
        refine lv_aload_n hx hb (xb_d D_Reader_readSection 93 rfl) rfl (lv_at hl 0 rfl) ?_
        obtain ⟨hk71, hw⟩ := hw
        refine xb_call (D := D) (A := A) (σ := σ) (h := h) (d := 6) (mc := bc) (ms := bs) (maxL := 4) (rest := []) (av := [.ref x0]) (fun T hT X => by obtain ⟨cb9, ra9, rb9, rc9⟩ := xb_recv (ci := 3) hR rfl hk71 (by decide); exact xt_invV X hx hown (hts _ m_b04cf318) (hts _ m_4d70a435) (hts _ m_4252734b) (xt_sigOf (hts _ m_8ebb0a33)) nm_Reader_readBody (by rw [hT]; exact ra9) rb9 rc9 (g := F0 m 251 ls [.ref x0]) rfl (argsL := []) (rest := []) rfl rfl (by rw [hb]; exact (xb_d D_Reader_readSection 94 rfl))) (ok_Reader_readBody l hfl D A σ x0 h bc bs _ _ hw) (hml.trans hl.1.symm) (by rw [hb]; exact (xb_d D_Reader_readSection 94 rfl)) (Nat.le_of_ble_eq_true rfl) (Nat.le_of_ble_eq_true rfl) (Nat.le_of_ble_eq_true rfl) (show k + bc ≤ MC by omega) (show n + bs ≤ MS by omega) (xt_w1 hB.1 m_8ebb0a33) (xt_cdOf hB.1 m_8ebb0a33) (hts _ m_938fcec4) hB hR hS hA (fun vv h72 bc73 bs73 kk73 nn73 H locs hk73 hn73 hq hEh72 hR hS => ?_) (fun XX ax h72 bc73 bs73 kk73 nn73 H locs hk73 hn73 hq hEh72 hex hR hS => ?_)
        · obtain ⟨rfl, hw⟩ := hq
          have hw := hw hEh72
          have hE := hE.tr hEh72
          refine W.eq (g2 := F0 m 254 ls []) rfl ?_
          refine lv_goto (tgt := 261) hx hb (xb_d D_Reader_readSection 95 rfl) rfl ?_
          exact am_Reader_readSection_L261 l hfl D A σ MC MS h0 Qr Qt (w_Reader_readSection_L45 Qr Qt n9) ih x0 x1 x3 x5 h72 bc73 bs73 hw p e s m args below meth c hC H locs ls (k + kk73) (n + nn73) hE (lv_sub hl [0, 1, 2, 3] rfl) hR hS (by omega) (by omega)
        · exact xb_pass hlocks (fun x hx9 => by rw [htab] at hx9; first | (cases hx9; done) | (simp [tableOf] at hx9; subst hx9; decide) | (simp [tableOf] at hx9; rcases hx9 with rfl | rfl <;> decide) | (simp [tableOf] at hx9; rcases hx9 with rfl | rfl | rfl <;> decide)) (show (k + kk73) + bc73 ≤ MC by omega) (show (n + nn73) + bs73 ≤ MS by omega) (hE.tr hEh72) hR hS hex hq
      have hw := hw.2
      have hw := hw hc8 hc13 hc17 hc21 hc37 hc41 hc48 hc52 hc56 hc66 hc70
      refine lv_tableOut (tgt := 257) hx hb (xb_d D_Reader_readSection 30 rfl) (by have a0 := xb_nl (0) 0 (by decide) hc8; have a1 := xb_nl (1) 1 (by decide) hc13; have a2 := xb_nl (2) 2 (by decide) hc17; have a3 := xb_nl (3) 3 (by decide) hc21; have a4 := xb_nl (4) 4 (by decide) hc37; have a5 := xb_nl (5) 5 (by decide) hc41; have a6 := xb_nl (6) 6 (by decide) hc48; have a7 := xb_nl (7) 7 (by decide) hc52; have a8 := xb_nl (8) 8 (by decide) hc56; have a9 := xb_nl (9) 9 (by decide) hc66; have a10 := xb_nl (10) 10 (by decide) hc70; omega) (by decide) ?_
      refine lv_aload_n hx hb (xb_d D_Reader_readSection 96 rfl) rfl (lv_at hl 0 rfl) ?_
      obtain ⟨hk74, hw⟩ := hw
      refine xb_call (D := D) (A := A) (σ := σ) (h := h) (d := 6) (mc := bc) (ms := bs) (maxL := 2) (rest := []) (av := [.ref x0]) (fun T hT X => by obtain ⟨cb9, ra9, rb9, rc9⟩ := xb_recv (ci := 3) hR rfl hk74 (by decide); exact xt_invV X hx hown (hts _ m_0d56e808) (hts _ m_dcc11ae1) (hts _ m_e58471ef) (xt_sigOf (hts _ m_43cf7a9b)) nm_Reader_readData (by rw [hT]; exact ra9) rb9 rc9 (g := F0 m 258 ls [.ref x0]) rfl (argsL := []) (rest := []) rfl rfl (by rw [hb]; exact (xb_d D_Reader_readSection 97 rfl))) (ok_Reader_readData l hfl D A σ x0 h bc bs _ _ hw) (hml.trans hl.1.symm) (by rw [hb]; exact (xb_d D_Reader_readSection 97 rfl)) (Nat.le_of_ble_eq_true rfl) (Nat.le_of_ble_eq_true rfl) (Nat.le_of_ble_eq_true rfl) (show k + bc ≤ MC by omega) (show n + bs ≤ MS by omega) (xt_w1 hB.1 m_43cf7a9b) (xt_cdOf hB.1 m_43cf7a9b) (hts _ m_938fcec4) hB hR hS hA (fun vv h75 bc76 bs76 kk76 nn76 H locs hk76 hn76 hq hEh75 hR hS => ?_) (fun XX ax h75 bc76 bs76 kk76 nn76 H locs hk76 hn76 hq hEh75 hex hR hS => ?_)
      · obtain ⟨rfl, hw⟩ := hq
        have hw := hw hEh75
        have hE := hE.tr hEh75
        refine W.eq (g2 := F0 m 261 ls []) rfl ?_
        exact am_Reader_readSection_L261 l hfl D A σ MC MS h0 Qr Qt (w_Reader_readSection_L45 Qr Qt n9) ih x0 x1 x3 x5 h75 bc76 bs76 hw p e s m args below meth c hC H locs ls (k + kk76) (n + nn76) hE (lv_sub hl [0, 1, 2, 3] rfl) hR hS (by omega) (by omega)
      · exact xb_pass hlocks (fun x hx9 => by rw [htab] at hx9; first | (cases hx9; done) | (simp [tableOf] at hx9; subst hx9; decide) | (simp [tableOf] at hx9; rcases hx9 with rfl | rfl <;> decide) | (simp [tableOf] at hx9; rcases hx9 with rfl | rfl | rfl <;> decide)) (show (k + kk76) + bc76 ≤ MC by omega) (show (n + nn76) + bs76 ≤ MS by omega) (hE.tr hEh75) hR hS hex hq

set_option maxHeartbeats 4000000 in
set_option maxRecDepth 100000 in
theorem am_Reader_readSection_L41 (l : Launch) (hfl : l.flags = pinnedFlags ++ [noTraceFlag]) (D : va_G) (A : Nat → Prop) (σ MC MS : Nat) (h0 : xb_H) (Qr : xb_H → Nat → Nat → Prop) (Qt : String → xb_H → Nat → Nat → Prop) (x0 : Nat) (x1 : Int32) (y0 : Int64) (h : xb_H) (bc : Nat) (bs : Nat) (hw : w_Reader_readSection_L41 Qr Qt x0 x1 y0 h bc bs) : xb_am l D A σ 7 MC MS h0 (fun v h bc bs => v = none ∧ Qr h bc bs) Qt y_Reader_readSection.cls y_Reader_readSection.name b_Reader_readSection 7 ([] : List ExceptionTableEntry) none 41 [(0, .ref x0), (1, .int x1)] [.long y0] h bc bs := by
  unfold w_Reader_readSection_L41 at hw
  intro p e s m args below meth c hC H locs ls k n hE hl hR hS hk hn
  obtain ⟨hx, hb, hown, hlocks, htab, hml, hr, hB, hA, hnm⟩ := id hC
  have hts := hB.1.1.at args
  refine lv_lstore_n hx hb (xb_d D_Reader_readSection 22 rfl) rfl hl (by decide) rfl (fun ls hl => ?_)
  have hl : lv_has ls 7 [(3, .long y0), (0, .ref x0), (1, .int x1)] := hl
  refine lv_lconst (v := 0) hx hb (xb_d D_Reader_readSection 23 rfl) (by decide) ?_
  refine lv_lstore hx hb (xb_d D_Reader_readSection 24 rfl) hl (by decide) rfl (fun ls hl => ?_)
  have hl : lv_has ls 7 [(5, .long 0), (3, .long y0), (0, .ref x0), (1, .int x1)] := hl
  obtain ⟨n8, hw⟩ := hw
  exact am_Reader_readSection_L45 l hfl D A σ MC MS h0 Qr Qt n8 x0 x1 y0 0 h bc bs hw p e s m args below meth c hC H locs ls k n hE (lv_sub hl [2, 3, 1, 0] rfl) hR hS (by omega) (by omega)

set_option maxHeartbeats 4000000 in
set_option maxRecDepth 100000 in
theorem am_Reader_readSection_L23 (l : Launch) (hfl : l.flags = pinnedFlags ++ [noTraceFlag]) (D : va_G) (A : Nat → Prop) (σ MC MS : Nat) (h0 : xb_H) (Qr : xb_H → Nat → Nat → Prop) (Qt : String → xb_H → Nat → Nat → Prop) (x0 : Nat) (x1 : Int32) (y0 : Int32) (h : xb_H) (bc : Nat) (bs : Nat) (hw : w_Reader_readSection_L23 Qr Qt x0 x1 y0 h bc bs) : xb_am l D A σ 7 MC MS h0 (fun v h bc bs => v = none ∧ Qr h bc bs) Qt y_Reader_readSection.cls y_Reader_readSection.name b_Reader_readSection 7 ([] : List ExceptionTableEntry) none 23 [(0, .ref x0), (1, .int x1)] [.int y0] h bc bs := by
  unfold w_Reader_readSection_L23 at hw
  intro p e s m args below meth c hC H locs ls k n hE hl hR hS hk hn
  obtain ⟨hx, hb, hown, hlocks, htab, hml, hr, hB, hA, hnm⟩ := id hC
  have hts := hB.1.1.at args
  refine lv_istore_n hx hb (xb_d D_Reader_readSection 12 rfl) rfl hl (by decide) rfl (fun ls hl => ?_)
  have hl : lv_has ls 7 [(2, .int y0), (0, .ref x0), (1, .int x1)] := hl
  refine lv_iload_n hx hb (xb_d D_Reader_readSection 13 rfl) rfl (lv_at hl 0 rfl) ?_
  refine lv_if_eq (tgt := 40) hx hb (xb_d D_Reader_readSection 14 rfl) rfl (fun hc1 => ?_) (fun hc1 => ?_)
  · have hw := hw.1 hc1
    refine lv_lconst (v := 1) hx hb (xb_d D_Reader_readSection 21 rfl) (by decide) ?_
    exact am_Reader_readSection_L41 l hfl D A σ MC MS h0 Qr Qt x0 x1 1 h bc bs hw p e s m args below meth c hC H locs ls k n hE (lv_sub hl [1, 2] rfl) hR hS (by omega) (by omega)
  · have hw := hw.2 hc1
    refine lv_aload_n hx hb (xb_d D_Reader_readSection 15 rfl) rfl (lv_at hl 1 rfl) ?_
    obtain ⟨hk2, hw⟩ := hw
    refine xb_call (D := D) (A := A) (σ := σ) (h := h) (d := 3) (mc := bc) (ms := bs) (maxL := 4) (rest := []) (av := [.ref x0]) (fun T hT X => by obtain ⟨cb9, ra9, rb9, rc9⟩ := xb_recv (ci := 3) hR rfl hk2 (by decide); exact xt_invV X hx hown (hts _ m_2c379b4d) (hts _ m_a120e786) (hts _ m_e903c73e) (xt_sigOf (hts _ m_99690a98)) nm_Reader_count (by rw [hT]; exact ra9) rb9 rc9 (g := F0 m 29 ls [.ref x0]) rfl (argsL := []) (rest := []) rfl rfl (by rw [hb]; exact (xb_d D_Reader_readSection 16 rfl))) (ok_Reader_count l hfl D A σ x0 h bc bs _ _ hw) (hml.trans hl.1.symm) (by rw [hb]; exact (xb_d D_Reader_readSection 16 rfl)) (Nat.le_of_ble_eq_true rfl) (Nat.le_of_ble_eq_true rfl) (Nat.le_of_ble_eq_true rfl) (show k + bc ≤ MC by omega) (show n + bs ≤ MS by omega) (xt_w1 hB.1 m_99690a98) (xt_cdOf hB.1 m_99690a98) (hts _ m_938fcec4) hB hR hS hA (fun vv h3 bc4 bs4 kk4 nn4 H locs hk4 hn4 hq hEh3 hR hS => ?_) (fun XX ax h3 bc4 bs4 kk4 nn4 H locs hk4 hn4 hq hEh3 hex hR hS => ?_)
    · obtain ⟨r4, rfl, hw⟩ := hq
      have hw := hw hEh3
      have hE := hE.tr hEh3
      refine W.eq (g2 := F0 m 32 ls [.int r4]) rfl ?_
      refine lv_i2l hx hb (xb_d D_Reader_readSection 17 rfl) rfl ?_
      refine lv_ldc2 (v := 4294967295) hx hb hown (hts _ m_687f726b) (xb_d D_Reader_readSection 18 rfl) ?_
      refine lv_land hx hb (xb_d D_Reader_readSection 19 rfl) ?_
      refine lv_goto (tgt := 41) hx hb (xb_d D_Reader_readSection 20 rfl) rfl ?_
      exact am_Reader_readSection_L41 l hfl D A σ MC MS h0 Qr Qt x0 x1 ((Int32.toInt64 r4) &&& 4294967295) h3 bc4 bs4 hw p e s m args below meth c hC H locs ls (k + kk4) (n + nn4) hE (lv_sub hl [1, 2] rfl) hR hS (by omega) (by omega)
    · exact xb_pass hlocks (fun x hx9 => by rw [htab] at hx9; first | (cases hx9; done) | (simp [tableOf] at hx9; subst hx9; decide) | (simp [tableOf] at hx9; rcases hx9 with rfl | rfl <;> decide) | (simp [tableOf] at hx9; rcases hx9 with rfl | rfl | rfl <;> decide)) (show (k + kk4) + bc4 ≤ MC by omega) (show (n + nn4) + bs4 ≤ MS by omega) (hE.tr hEh3) hR hS hex hq

set_option maxHeartbeats 4000000 in
set_option maxRecDepth 100000 in
theorem am_Reader_readSection_L22 (l : Launch) (hfl : l.flags = pinnedFlags ++ [noTraceFlag]) (D : va_G) (A : Nat → Prop) (σ MC MS : Nat) (h0 : xb_H) (Qr : xb_H → Nat → Nat → Prop) (Qt : String → xb_H → Nat → Nat → Prop) (x0 : Nat) (x1 : Int32) (h : xb_H) (bc : Nat) (bs : Nat) (hw : w_Reader_readSection_L22 Qr Qt x0 x1 h bc bs) : xb_am l D A σ 7 MC MS h0 (fun v h bc bs => v = none ∧ Qr h bc bs) Qt y_Reader_readSection.cls y_Reader_readSection.name b_Reader_readSection 7 ([] : List ExceptionTableEntry) none 22 [(0, .ref x0), (1, .int x1)] [] h bc bs := by
  unfold w_Reader_readSection_L22 at hw
  intro p e s m args below meth c hC H locs ls k n hE hl hR hS hk hn
  obtain ⟨hx, hb, hown, hlocks, htab, hml, hr, hB, hA, hnm⟩ := id hC
  have hts := hB.1.1.at args
  refine lv_iconst (v := 0) hx hb (xb_d D_Reader_readSection 11 rfl) (by decide) ?_
  exact am_Reader_readSection_L23 l hfl D A σ MC MS h0 Qr Qt x0 x1 0 h bc bs hw p e s m args below meth c hC H locs ls k n hE (lv_sub hl [0, 1] rfl) hR hS (by omega) (by omega)

set_option maxHeartbeats 4000000 in
set_option maxRecDepth 100000 in
theorem ok_Reader_readSection (l : Launch) (hfl : l.flags = pinnedFlags ++ [noTraceFlag]) (D : va_G) (A : Nat → Prop) (σ : Nat) (x0 : Nat) (x1 : Int32) (h : xb_H) (bc : Nat) (bs : Nat) (Qr : xb_H → Nat → Nat → Prop) (Qt : String → xb_H → Nat → Nat → Prop) (hw : w_Reader_readSection x0 x1 h bc bs Qr Qt) : xb_Met l y_Reader_readSection [.code y_Reader_readSection b_Reader_readSection 7 none] (xb_rm 7 bc bs) (xb_Pc D A σ h [.ref x0, .int x1]) (xb_Qc D A h bc bs (fun v h bc bs => v = none ∧ Qr h bc bs) Qt) A := by
  refine xb_ofAm (cc := b_Reader_readSection) (by decide) (Nat.le_of_ble_eq_true rfl) ?_
  unfold w_Reader_readSection at hw
  show xb_am l D A σ 7 bc bs h (fun v h bc bs => v = none ∧ Qr h bc bs) Qt y_Reader_readSection.cls y_Reader_readSection.name b_Reader_readSection 7 ([] : List ExceptionTableEntry) none 0 [(0, .ref x0), (1, .int x1)] [] h bc bs
  obtain ⟨MC, hMC⟩ : ∃ x, x = bc := ⟨_, rfl⟩
  obtain ⟨MS, hMS⟩ : ∃ x, x = bs := ⟨_, rfl⟩
  rw [show xb_am l D A σ 7 bc bs = xb_am l D A σ 7 MC MS by rw [hMC, hMS]]
  obtain ⟨h0, hh0⟩ : ∃ x, x = h := ⟨_, rfl⟩
  rw [show xb_am l D A σ 7 MC MS h = xb_am l D A σ 7 MC MS h0 by rw [hh0]]
  intro p e s m args below meth c hC H locs ls k n hE hl hR hS hk hn
  obtain ⟨hx, hb, hown, hlocks, htab, hml, hr, hB, hA, hnm⟩ := id hC
  have hts := hB.1.1.at args
  refine lv_aload_n hx hb (xb_d D_Reader_readSection 0 rfl) rfl (lv_at hl 0 rfl) ?_
  refine lv_aload_n hx hb (xb_d D_Reader_readSection 1 rfl) rfl (lv_at hl 0 rfl) ?_
  obtain ⟨hk1, hw⟩ := hw
  refine xb_call (D := D) (A := A) (σ := σ) (h := h) (d := 3) (mc := bc) (ms := bs) (maxL := 4) (rest := [.ref x0]) (av := [.ref x0]) (fun T hT X => by obtain ⟨cb9, ra9, rb9, rc9⟩ := xb_recv (ci := 3) hR rfl hk1 (by decide); exact xt_invV X hx hown (hts _ m_2c379b4d) (hts _ m_a120e786) (hts _ m_e903c73e) (xt_sigOf (hts _ m_99690a98)) nm_Reader_count (by rw [hT]; exact ra9) rb9 rc9 (g := F0 m 2 ls [.ref x0, .ref x0]) rfl (argsL := []) (rest := [.ref x0]) rfl rfl (by rw [hb]; exact (xb_d D_Reader_readSection 2 rfl))) (ok_Reader_count l hfl D A σ x0 h bc bs _ _ hw) (hml.trans hl.1.symm) (by rw [hb]; exact (xb_d D_Reader_readSection 2 rfl)) (Nat.le_of_ble_eq_true rfl) (Nat.le_of_ble_eq_true rfl) (Nat.le_of_ble_eq_true rfl) (show k + bc ≤ MC by omega) (show n + bs ≤ MS by omega) (xt_w1 hB.1 m_99690a98) (xt_cdOf hB.1 m_99690a98) (hts _ m_938fcec4) hB hR hS hA (fun vv h2 bc3 bs3 kk3 nn3 H locs hk3 hn3 hq hEh2 hR hS => ?_) (fun XX ax h2 bc3 bs3 kk3 nn3 H locs hk3 hn3 hq hEh2 hex hR hS => ?_)
  · obtain ⟨r3, rfl, hw⟩ := hq
    have hw := hw hEh2
    have hE := hE.tr hEh2
    refine W.eq (g2 := F0 m 5 ls [.int r3, .ref x0]) rfl ?_
    have hk1 : xb_k h2 x0 = 4 := hEh2.k hk1
    refine xb_call (D := D) (A := A) (σ := σ) (h := h2) (d := 3) (mc := bc3) (ms := bs3) (maxL := 2) (rest := []) (av := [.ref x0, .int r3]) (fun T hT X => by obtain ⟨cb9, ra9, rb9, rc9⟩ := xb_recv (ci := 3) hR rfl hk1 (by decide); exact xt_invV X hx hown (hts _ m_325c67ec) (hts _ m_aae9c79d) (hts _ m_77da441a) (xt_sigOf (hts _ m_436ffbb5)) nm_Reader_limitTo (by rw [hT]; exact ra9) rb9 rc9 (g := F0 m 5 ls [.int r3, .ref x0]) rfl (argsL := [.int r3]) (rest := []) rfl rfl (by rw [hb]; exact (xb_d D_Reader_readSection 3 rfl))) (ok_Reader_limitTo l hfl D A σ x0 r3 h2 bc3 bs3 _ _ hw) (hml.trans hl.1.symm) (by rw [hb]; exact (xb_d D_Reader_readSection 3 rfl)) (Nat.le_of_ble_eq_true rfl) (Nat.le_of_ble_eq_true rfl) (Nat.le_of_ble_eq_true rfl) (show (k + kk3) + bc3 ≤ MC by omega) (show (n + nn3) + bs3 ≤ MS by omega) (xt_w1 hB.1 m_436ffbb5) (xt_cdOf hB.1 m_436ffbb5) (hts _ m_938fcec4) hB hR hS hA (fun vv h4 bc5 bs5 kk5 nn5 H locs hk5 hn5 hq hEh4 hR hS => ?_) (fun XX ax h4 bc5 bs5 kk5 nn5 H locs hk5 hn5 hq hEh4 hex hR hS => ?_)
    · obtain ⟨rfl, hw⟩ := hq
      have hw := hw hEh4
      have hE := hE.tr hEh4
      refine W.eq (g2 := F0 m 8 ls []) rfl ?_
      refine lv_iload_n hx hb (xb_d D_Reader_readSection 4 rfl) rfl (lv_at hl 1 rfl) ?_
      refine lv_if_eq (tgt := 22) hx hb (xb_d D_Reader_readSection 5 rfl) rfl (fun hc6 => ?_) (fun hc6 => ?_)
      · have hw := hw.1 hc6
        exact am_Reader_readSection_L22 l hfl D A σ MC MS h0 Qr Qt x0 x1 h4 bc5 bs5 hw p e s m args below meth c hC H locs ls ((k + kk3) + kk5) ((n + nn3) + nn5) hE (lv_sub hl [0, 1] rfl) hR hS (by omega) (by omega)
      · have hw := hw.2 hc6
        refine lv_iload_n hx hb (xb_d D_Reader_readSection 6 rfl) rfl (lv_at hl 1 rfl) ?_
        refine lv_bipush (v := 8) hx hb (xb_d D_Reader_readSection 7 rfl) (by decide) ?_
        refine lv_icmp_eq (tgt := 22) hx hb (xb_d D_Reader_readSection 8 rfl) rfl (fun hc7 => ?_) (fun hc7 => ?_)
        · have hw := hw.1 hc7
          exact am_Reader_readSection_L22 l hfl D A σ MC MS h0 Qr Qt x0 x1 h4 bc5 bs5 hw p e s m args below meth c hC H locs ls ((k + kk3) + kk5) ((n + nn3) + nn5) hE (lv_sub hl [0, 1] rfl) hR hS (by omega) (by omega)
        · have hw := hw.2 hc7
          refine lv_iconst (v := 1) hx hb (xb_d D_Reader_readSection 9 rfl) (by decide) ?_
          refine lv_goto (tgt := 23) hx hb (xb_d D_Reader_readSection 10 rfl) rfl ?_
          exact am_Reader_readSection_L23 l hfl D A σ MC MS h0 Qr Qt x0 x1 1 h4 bc5 bs5 hw p e s m args below meth c hC H locs ls ((k + kk3) + kk5) ((n + nn3) + nn5) hE (lv_sub hl [0, 1] rfl) hR hS (by omega) (by omega)
    · exact xb_pass hlocks (fun x hx9 => by rw [htab] at hx9; first | (cases hx9; done) | (simp [tableOf] at hx9; subst hx9; decide) | (simp [tableOf] at hx9; rcases hx9 with rfl | rfl <;> decide) | (simp [tableOf] at hx9; rcases hx9 with rfl | rfl | rfl <;> decide)) (show ((k + kk3) + kk5) + bc5 ≤ MC by omega) (show ((n + nn3) + nn5) + bs5 ≤ MS by omega) (hE.tr hEh4) hR hS hex hq
  · exact xb_pass hlocks (fun x hx9 => by rw [htab] at hx9; first | (cases hx9; done) | (simp [tableOf] at hx9; subst hx9; decide) | (simp [tableOf] at hx9; rcases hx9 with rfl | rfl <;> decide) | (simp [tableOf] at hx9; rcases hx9 with rfl | rfl | rfl <;> decide)) (show (k + kk3) + bc3 ≤ MC by omega) (show (n + nn3) + bs3 ≤ MS by omega) (hE.tr hEh2) hR hS hex hq

