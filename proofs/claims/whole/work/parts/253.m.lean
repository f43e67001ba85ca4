theorem m_2cb12b25 : (.methodLink "StackHostModel" 700 y_M_byTable : Cond) ∈ xt_tbl := xt_in (xt_t13 (List.mem_of_getElem? (i := 158) (by decide +kernel))) (by decide +kernel)
theorem m_3715d3ad : (.instanceMethod y_M_byTable : Cond) ∈ xt_tbl := xt_in (xt_t13 (List.mem_of_getElem? (i := 160) (by decide +kernel))) (by decide +kernel)
theorem m_66b08ea9 : (.selects "StackHostModel" y_M_byTable y_M_byTable : Cond) ∈ xt_tbl := xt_in (xt_v17 (q := (⟨"StackHostModel", "byTable", "()V"⟩, 97)) (List.mem_of_getElem? (i := 12) (by decide +kernel))) (by decide +kernel)
theorem m_e0576e60 : (.code y_M_byTable b_M_byTable 12 none : Cond) ∈ xt_tbl := xt_in (xt_t13 (List.mem_of_getElem? (i := 161) (by decide +kernel))) (by decide +kernel)
theorem nm_M_byTable : xt_nm y_M_byTable 0 := ⟨by decide +kernel, by decide +kernel⟩
set_option maxRecDepth 100000 in
def T_M_flow : List (Nat × Instr × Nat) := [(0, .iload_n 2, 1), (1, .tableswitch 275 0 15 #[79, 275, 87, 87, 111, 157, 275, 275, 275, 275, 275, 175, 210, 221, 247, 254], 79), (80, .aload_n 0, 1), (81, .iconst 1, 1), (82, .putfield 625, 3), (85, .goto 191, 3), (88, .aload_n 0, 1), (89, .invokevirtual 212, 3), (92, .istore_n 3, 1), (93, .aload_n 0, 1), (94, .iload_n 2, 1), (95, .iload_n 2, 1), (96, .iconst 3, 1), (97, .if_icmp .ne 8, 3), (100, .bipush 64, 2), (102, .goto 4, 3), (105, .iload_n 3, 1), (106, .invokevirtual 632, 3), (109, .goto 167, 3), (112, .aload_n 0, 1), (113, .invokevirtual 212, 3), (116, .istore 4, 2), (118, .aload_n 0, 1), (119, .bipush 127, 2), (121, .invokevirtual 634, 3), (124, .lconst 0, 1), (125, .lcmp, 1), (126, .ifCond .eq 13, 3), (129, .aload_n 0, 1), (130, .iconst 4, 1), (131, .iload 4, 2), (133, .invokevirtual 632, 3), (136, .goto 140, 3), (139, .aload_n 0, 1), (140, .iconst 1, 1), (141, .iconst 1, 1), (142, .invokevirtual 643, 3), (145, .ifCond .eq 131, 3), (148, .aload_n 0, 1), (149, .iconst 5, 1), (150, .iload 4, 2), (152, .invokevirtual 632, 3), (155, .goto 121, 3), (158, .aload_n 0, 1), (159, .iconst 1, 1), (160, .iconst 0, 1), (161, .invokevirtual 643, 3), (164, .pop, 1), (165, .aload_n 0, 1), (166, .aload_n 0, 1), (167, .getfield 637, 3), (170, .putfield 202, 3), (173, .goto 103, 3), (176, .aload_n 0, 1), (177, .getfield 610, 3), (180, .iconst 1, 1), (181, .isub, 1), (182, .aload_n 0, 1), (183, .getfield 151, 3), (186, .iload_n 1, 1), (187, .iaload, 1), (188, .if_icmp .ne 10, 3), (191, .aload_n 0, 1), (192, .invokevirtual 640, 3), (195, .goto 81, 3), (198, .aload_n 0, 1), (199, .dup, 1), (200, .getfield 610, 3), (203, .iconst 1, 1), (204, .isub, 1), (205, .putfield 610, 3), (208, .goto 68, 3), (211, .aload_n 0, 1), (212, .aload_n 0, 1), (213, .invokevirtual 218, 3), (216, .invokevirtual 697, 3), (219, .goto 57, 3), (222, .aload_n 0, 1), (223, .invokevirtual 218, 3), (226, .lstore 5, 2), (228, .aload_n 0, 1), (229, .bipush 127, 2), (231, .invokevirtual 634, 3), (234, .lconst 0, 1), (235, .lcmp, 1), (236, .ifCond .eq 40, 3), (239, .aload_n 0, 1), (240, .lload 5, 2), (242, .invokevirtual 697, 3), (245, .goto 31, 3), (248, .aload_n 0, 1), (249, .invokevirtual 700, 3), (252, .goto 24, 3), (255, .aload_n 0, 1), (256, .aload_n 0, 1), (257, .getfield 610, 3), (260, .iconst 1, 1), (261, .isub, 1), (262, .aload_n 0, 1), (263, .getfield 151, 3), (266, .iload_n 1, 1), (267, .iaload, 1), (268, .isub, 1), (269, .i2l, 1), (270, .invokevirtual 697, 3), (273, .goto 3, 3), (276, .return_, 1)]
theorem D_M_flow : ∀ q ∈ T_M_flow, decode b_M_flow q.1 = .ok (q.2.1, q.2.2) := by decide +kernel
def w_M_flow_L276 (Qr : xb_H → Prop) (h : xb_H) : Prop :=
    Qr h

def w_M_flow_L106 (Qr : xb_H → Prop) (y0 : Int32) (y1 : Int32) (y2 : Nat) (h : xb_H) : Prop :=
    xb_k h y2 = 9 ∧ w_M_open y2 y1 y0 h (fun (h2 : xb_H) => xb_ext h h2 → w_M_flow_L276 Qr h2)

def w_M_flow_L88 (Qr : xb_H → Prop) (x0 : Nat) (x2 : Int32) (h : xb_H) : Prop :=
    xb_k h x0 = 9 ∧ w_M_next x0 h (fun (r3 : Int32) (h2 : xb_H) => xb_ext h h2 → ((¬ x2 = (3 : Int32) → w_M_flow_L106 Qr r3 x2 x0 h2) ∧ (x2 = (3 : Int32) → w_M_flow_L106 Qr 64 x2 x0 h2)))

def w_M_flow (x0 : Nat) (x1 : Int32) (x2 : Int32) (h : xb_H) (Qr : xb_H → Prop) : Prop :=
    ((x2 = 0 → xb_k h x0 = 9 ∧ ∀ h3 : xb_H, h3 = xb_I h x0 82 1 → w_M_flow_L276 Qr h3) ∧ (x2 = 1 → w_M_flow_L276 Qr h) ∧ (x2 = 2 → w_M_flow_L88 Qr x0 x2 h) ∧ (x2 = 3 → w_M_flow_L88 Qr x0 x2 h) ∧ (x2 = 4 → xb_k h x0 = 9 ∧ w_M_next x0 h (fun (r10 : Int32) (h9 : xb_H) => xb_ext h h9 → w_M_pop x0 127 h9 (fun (r12 : Int64) (h11 : xb_H) => xb_ext h9 h11 → ((r12 = (0 : Int64) → w_M_readOn x0 1 1 h11 (fun (r15 : Int32) (h14 : xb_H) => xb_ext h11 h14 → ((r15 = (0 : Int32) → w_M_flow_L276 Qr h14) ∧ (¬ r15 = (0 : Int32) → w_M_open x0 5 r10 h14 (fun (h17 : xb_H) => xb_ext h14 h17 → w_M_flow_L276 Qr h17))))) ∧ (¬ r12 = (0 : Int64) → w_M_open x0 4 r10 h11 (fun (h19 : xb_H) => xb_ext h11 h19 → w_M_flow_L276 Qr h19)))))) ∧ (x2 = 5 → xb_k h x0 = 9 ∧ w_M_readOn x0 1 0 h (fun (r24 : Int32) (h23 : xb_H) => xb_ext h h23 → ∀ h25 : xb_H, h25 = xb_I h23 x0 15 (xb_i h23 x0 96) → w_M_flow_L276 Qr h25)) ∧ (x2 = 6 → w_M_flow_L276 Qr h) ∧ (x2 = 7 → w_M_flow_L276 Qr h) ∧ (x2 = 8 → w_M_flow_L276 Qr h) ∧ (x2 = 9 → w_M_flow_L276 Qr h) ∧ (x2 = 10 → w_M_flow_L276 Qr h) ∧ (x2 = 11 → xb_k h x0 = 9 ∧ ∃ b33 : Nat, (xb_r h x0 73) = some b33 ∧ xb_k h b33 = 102 ∧ vp_in x1 (xb_n h b33) ∧ ((¬ ((xb_i h x0 81) - 1) = (xb_i h b33 (Int32.toNatClampNeg x1)) → ∀ h37 : xb_H, h37 = xb_I h x0 81 ((xb_i h x0 81) - 1) → w_M_flow_L276 Qr h37) ∧ (((xb_i h x0 81) - 1) = (xb_i h b33 (Int32.toNatClampNeg x1)) → w_M_leave x0 h (fun (h38 : xb_H) => xb_ext h h38 → w_M_flow_L276 Qr h38)))) ∧ (x2 = 12 → xb_k h x0 = 9 ∧ w_M_count x0 h (fun (r43 : Int64) (h42 : xb_H) => xb_ext h h42 → w_M_branch x0 r43 h42 (fun (h44 : xb_H) => xb_ext h42 h44 → w_M_flow_L276 Qr h44))) ∧ (x2 = 13 → xb_k h x0 = 9 ∧ w_M_count x0 h (fun (r49 : Int64) (h48 : xb_H) => xb_ext h h48 → w_M_pop x0 127 h48 (fun (r51 : Int64) (h50 : xb_H) => xb_ext h48 h50 → ((r51 = (0 : Int64) → w_M_flow_L276 Qr h50) ∧ (¬ r51 = (0 : Int64) → w_M_branch x0 r49 h50 (fun (h53 : xb_H) => xb_ext h50 h53 → w_M_flow_L276 Qr h53)))))) ∧ (x2 = 14 → xb_k h x0 = 9 ∧ w_M_byTable x0 h (fun (h57 : xb_H) => xb_ext h h57 → w_M_flow_L276 Qr h57)) ∧ (x2 = 15 → xb_k h x0 = 9 ∧ ∃ b61 : Nat, (xb_r h x0 73) = some b61 ∧ xb_k h b61 = 102 ∧ vp_in x1 (xb_n h b61) ∧ w_M_branch x0 (Int32.toInt64 (((xb_i h x0 81) - 1) - (xb_i h b61 (Int32.toNatClampNeg x1)))) h (fun (h64 : xb_H) => xb_ext h h64 → w_M_flow_L276 Qr h64)) ∧ (¬ x2 = 0 → ¬ x2 = 1 → ¬ x2 = 2 → ¬ x2 = 3 → ¬ x2 = 4 → ¬ x2 = 5 → ¬ x2 = 6 → ¬ x2 = 7 → ¬ x2 = 8 → ¬ x2 = 9 → ¬ x2 = 10 → ¬ x2 = 11 → ¬ x2 = 12 → ¬ x2 = 13 → ¬ x2 = 14 → ¬ x2 = 15 → w_M_flow_L276 Qr h))

set_option maxHeartbeats 4000000 in
set_option maxRecDepth 100000 in
theorem am_M_flow_L276 (l : Launch) (hfl : l.flags = pinnedFlags ++ [noTraceFlag]) (D : va_G) (A : Nat → Prop) (σ MC MS : Nat) (h0 : xb_H) (Qr : xb_H → Prop) (h : xb_H) (hw : w_M_flow_L276 Qr h) : xb_am l D A σ 10 MC MS h0 (fun v h => v = none ∧ Qr h) (fun _ _ => False) y_M_flow.cls y_M_flow.name b_M_flow 7 ([] : List ExceptionTableEntry) none 276 [] [] h 0 0 := by
  unfold w_M_flow_L276 at hw
  intro p e s m args below meth c hC H locs ls k n hE hl hR hS hk hn
  obtain ⟨hx, hb, hown, hlocks, htab, hml, hr, hB, hA, hnm⟩ := id hC
  have hts := hB.1.1.at args
  exact xb_vret hx hb hr hlocks (show k ≤ MC by omega) (show n ≤ MS by omega) hE hR hS (xb_d D_M_flow 106 rfl) hw

set_option maxHeartbeats 4000000 in
set_option maxRecDepth 100000 in
theorem am_M_flow_L106 (l : Launch) (hfl : l.flags = pinnedFlags ++ [noTraceFlag]) (D : va_G) (A : Nat → Prop) (σ MC MS : Nat) (h0 : xb_H) (Qr : xb_H → Prop) (y0 : Int32) (y1 : Int32) (y2 : Nat) (h : xb_H) (hw : w_M_flow_L106 Qr y0 y1 y2 h) : xb_am l D A σ 10 MC MS h0 (fun v h => v = none ∧ Qr h) (fun _ _ => False) y_M_flow.cls y_M_flow.name b_M_flow 7 ([] : List ExceptionTableEntry) none 106 [] [.int y0, .int y1, .ref y2] h 0 0 := by
  unfold w_M_flow_L106 at hw
  intro p e s m args below meth c hC H locs ls k n hE hl hR hS hk hn
  obtain ⟨hx, hb, hown, hlocks, htab, hml, hr, hB, hA, hnm⟩ := id hC
  have hts := hB.1.1.at args
  obtain ⟨hk1, hw⟩ := hw
  refine xb_call (D := D) (A := A) (σ := σ) (h := h) (d := 2) (mc := 0) (ms := 0) (maxL := 3) (rest := []) (av := [.ref y2, .int y1, .int y0]) (fun T hT X => by obtain ⟨cb, r1, r2, r3⟩ := xb_recv (ci := 8) hR rfl hk1 (by decide); exact xt_invV X hx hown (hts _ m_746eb9d6) (hts _ m_e9612f4e) (hts _ m_aa122190) (xt_sigOf (hts _ m_7c9641c8)) nm_M_open (by rw [hT]; exact r1) r2 r3 (g := F0 m 106 ls [.int y0, .int y1, .ref y2]) rfl (argsL := [.int y1, .int y0]) (rest := []) rfl rfl (by rw [hb]; exact (xb_d D_M_flow 17 rfl))) (ok_M_open l hfl D A σ y2 y1 y0 h _ hw) (hml.trans hl.1.symm) (by rw [hb]; exact (xb_d D_M_flow 17 rfl)) (Nat.le_of_ble_eq_true rfl) (Nat.le_of_ble_eq_true rfl) (Nat.le_of_ble_eq_true rfl) (show k + 0 ≤ MC by omega) (show n + 0 ≤ MS by omega) (xt_w1 hB.1 m_7c9641c8) (xt_cdOf hB.1 m_7c9641c8) (hts _ m_d5ed7bed) hB hR hS hA (fun vv h2 H locs hq hEh2 hR hS => ?_) (fun XX ax h2 H locs hq hEh2 hex hR hS => ?_)
  · obtain ⟨rfl, hw⟩ := hq
    have hw := hw hEh2
    have hE := hE.tr hEh2
    refine W.eq (g2 := F0 m 109 ls []) rfl ?_
    refine lv_goto (tgt := 276) hx hb (xb_d D_M_flow 18 rfl) rfl ?_
    exact am_M_flow_L276 l hfl D A σ MC MS h0 Qr h2 hw p e s m args below meth c hC H locs ls k n hE (lv_sub hl [] rfl) hR hS (by omega) (by omega)
  · exact False.elim hq

set_option maxHeartbeats 4000000 in
set_option maxRecDepth 100000 in
theorem am_M_flow_L88 (l : Launch) (hfl : l.flags = pinnedFlags ++ [noTraceFlag]) (D : va_G) (A : Nat → Prop) (σ MC MS : Nat) (h0 : xb_H) (Qr : xb_H → Prop) (x0 : Nat) (x2 : Int32) (h : xb_H) (hw : w_M_flow_L88 Qr x0 x2 h) : xb_am l D A σ 10 MC MS h0 (fun v h => v = none ∧ Qr h) (fun _ _ => False) y_M_flow.cls y_M_flow.name b_M_flow 7 ([] : List ExceptionTableEntry) none 88 [(0, .ref x0), (2, .int x2)] [] h 0 0 := by
  unfold w_M_flow_L88 at hw
  intro p e s m args below meth c hC H locs ls k n hE hl hR hS hk hn
  obtain ⟨hx, hb, hown, hlocks, htab, hml, hr, hB, hA, hnm⟩ := id hC
  have hts := hB.1.1.at args
  refine lv_aload_n hx hb (xb_d D_M_flow 6 rfl) rfl (lv_at hl 0 rfl) ?_
  obtain ⟨hk1, hw⟩ := hw
  refine xb_call (D := D) (A := A) (σ := σ) (h := h) (d := 3) (mc := 0) (ms := 0) (maxL := 2) (rest := []) (av := [.ref x0]) (fun T hT X => by obtain ⟨cb, r1, r2, r3⟩ := xb_recv (ci := 8) hR rfl hk1 (by decide); exact xt_invV X hx hown (hts _ m_0e978570) (hts _ m_40099f98) (hts _ m_a7dbfd07) (xt_sigOf (hts _ m_0af1ec6a)) nm_M_next (by rw [hT]; exact r1) r2 r3 (g := F0 m 89 ls [.ref x0]) rfl (argsL := []) (rest := []) rfl rfl (by rw [hb]; exact (xb_d D_M_flow 7 rfl))) (ok_M_next l hfl D A σ x0 h _ hw) (hml.trans hl.1.symm) (by rw [hb]; exact (xb_d D_M_flow 7 rfl)) (Nat.le_of_ble_eq_true rfl) (Nat.le_of_ble_eq_true rfl) (Nat.le_of_ble_eq_true rfl) (show k + 0 ≤ MC by omega) (show n + 0 ≤ MS by omega) (xt_w1 hB.1 m_0af1ec6a) (xt_cdOf hB.1 m_0af1ec6a) (hts _ m_d5ed7bed) hB hR hS hA (fun vv h2 H locs hq hEh2 hR hS => ?_) (fun XX ax h2 H locs hq hEh2 hex hR hS => ?_)
  · obtain ⟨r3, rfl, hw⟩ := hq
    have hw := hw hEh2
    have hE := hE.tr hEh2
    refine W.eq (g2 := F0 m 92 ls [.int r3]) rfl ?_
    refine lv_istore_n hx hb (xb_d D_M_flow 8 rfl) rfl hl (by decide) rfl (fun ls hl => ?_)
    have hl : lv_has ls 7 [(3, .int r3), (0, .ref x0), (2, .int x2)] := hl
    refine lv_aload_n hx hb (xb_d D_M_flow 9 rfl) rfl (lv_at hl 1 rfl) ?_
    refine lv_iload_n hx hb (xb_d D_M_flow 10 rfl) rfl (lv_at hl 2 rfl) ?_
    refine lv_iload_n hx hb (xb_d D_M_flow 11 rfl) rfl (lv_at hl 2 rfl) ?_
    refine lv_iconst (v := 3) hx hb (xb_d D_M_flow 12 rfl) (by decide) ?_
    refine lv_icmp_ne (tgt := 105) hx hb (xb_d D_M_flow 13 rfl) rfl (fun hc4 => ?_) (fun hc4 => ?_)
    · have hw := hw.1 hc4
      refine lv_iload_n hx hb (xb_d D_M_flow 16 rfl) rfl (lv_at hl 0 rfl) ?_
      exact am_M_flow_L106 l hfl D A σ MC MS h0 Qr r3 x2 x0 h2 hw p e s m args below meth c hC H locs ls k n hE (lv_sub hl [] rfl) hR hS (by omega) (by omega)
    · have hw := hw.2 hc4
      refine lv_bipush (v := 64) hx hb (xb_d D_M_flow 14 rfl) (by decide) ?_
      refine lv_goto (tgt := 106) hx hb (xb_d D_M_flow 15 rfl) rfl ?_
      exact am_M_flow_L106 l hfl D A σ MC MS h0 Qr 64 x2 x0 h2 hw p e s m args below meth c hC H locs ls k n hE (lv_sub hl [] rfl) hR hS (by omega) (by omega)
  · exact False.elim hq

set_option maxHeartbeats 4000000 in
set_option maxRecDepth 100000 in
theorem ok_M_flow (l : Launch) (hfl : l.flags = pinnedFlags ++ [noTraceFlag]) (D : va_G) (A : Nat → Prop) (σ : Nat) (x0 : Nat) (x1 : Int32) (x2 : Int32) (h : xb_H) (Qr : xb_H → Prop) (hw : w_M_flow x0 x1 x2 h Qr) : xt_Met l y_M_flow [.code y_M_flow b_M_flow 7 none] (xb_rm 10 0 0) (xb_Pc D A σ h [.ref x0, .int x1, .int x2]) (xb_Qc D A h (fun v h => v = none ∧ Qr h) (fun _ _ => False)) 0 0 A := by
  refine xb_ofAm (cc := b_M_flow) (by decide) (Nat.le_of_ble_eq_true rfl) ?_
  unfold w_M_flow at hw
  show xb_am l D A σ 10 0 0 h (fun v h => v = none ∧ Qr h) (fun _ _ => False) y_M_flow.cls y_M_flow.name b_M_flow 7 ([] : List ExceptionTableEntry) none 0 [(0, .ref x0), (1, .int x1), (2, .int x2)] [] h 0 0
  obtain ⟨MC, hMC⟩ : ∃ x, x = 0 := ⟨_, rfl⟩
  obtain ⟨MS, hMS⟩ : ∃ x, x = 0 := ⟨_, rfl⟩
  rw [show xb_am l D A σ 10 0 0 = xb_am l D A σ 10 MC MS by rw [hMC, hMS]]
  obtain ⟨h0, hh0⟩ : ∃ x, x = h := ⟨_, rfl⟩
  rw [show xb_am l D A σ 10 MC MS h = xb_am l D A σ 10 MC MS h0 by rw [hh0]]
  intro p e s m args below meth c hC H locs ls k n hE hl hR hS hk hn
  obtain ⟨hx, hb, hown, hlocks, htab, hml, hr, hB, hA, hnm⟩ := id hC
  have hts := hB.1.1.at args
  refine lv_iload_n hx hb (xb_d D_M_flow 0 rfl) rfl (lv_at hl 2 rfl) ?_
  by_cases hc1 : x2 = 0
  · have hw := hw.1 hc1
    refine xt_numi hc1 ?_
    refine lv_tableIn (off := 79) (tgt := 80) hx hb (xb_d D_M_flow 1 rfl) (by decide +kernel) (by decide +kernel) (by decide +kernel) (by decide) ?_
    refine lv_aload_n hx hb (xb_d D_M_flow 2 rfl) rfl (lv_at hl 0 rfl) ?_
    refine lv_iconst (v := 1) hx hb (xb_d D_M_flow 3 rfl) (by decide) ?_
    obtain ⟨hk2, hw⟩ := hw
    refine xb_putI (C := R_M) (T := F_M) (N := 97) (ty := .int) (x := 1) hx hb 8 82 hts fin_M t_M t_M_ok n_M hown hR hS hk2 (by decide) rfl (by decide) rfl (hts _ m_ad343437) (fun _ h9 => h9) rfl (by decide +kernel) rfl rfl (xb_d D_M_flow 4 rfl) (fun H locs hR hS => ?_)
    obtain ⟨h3, eh3⟩ : ∃ x : xb_H, x = xb_I h x0 82 1 := ⟨_, rfl⟩
    rw [← eh3] at hR
    have hw := hw h3 eh3
    have hE : xb_ext h0 h3 := by rw [eh3]; exact hE
    refine lv_goto (tgt := 276) hx hb (xb_d D_M_flow 5 rfl) rfl ?_
    exact am_M_flow_L276 l hfl D A σ MC MS h0 Qr h3 hw p e s m args below meth c hC H locs ls k n hE (lv_sub hl [] rfl) hR hS (by omega) (by omega)
  have hw := hw.2
  by_cases hc4 : x2 = 1
  · have hw := hw.1 hc4
    refine xt_numi hc4 ?_
    refine lv_tableIn (off := 275) (tgt := 276) hx hb (xb_d D_M_flow 1 rfl) (by decide +kernel) (by decide +kernel) (by decide +kernel) (by decide) ?_
    exact am_M_flow_L276 l hfl D A σ MC MS h0 Qr h hw p e s m args below meth c hC H locs ls k n hE (lv_sub hl [] rfl) hR hS (by omega) (by omega)
  have hw := hw.2
  by_cases hc5 : x2 = 2
  · have hw := hw.1 hc5
    refine xt_numi hc5 ?_
    refine lv_tableIn (off := 87) (tgt := 88) hx hb (xb_d D_M_flow 1 rfl) (by decide +kernel) (by decide +kernel) (by decide +kernel) (by decide) ?_
    exact am_M_flow_L88 l hfl D A σ MC MS h0 Qr x0 x2 h hw p e s m args below meth c hC H locs ls k n hE (lv_sub hl [0, 2] rfl) hR hS (by omega) (by omega)
  have hw := hw.2
  by_cases hc6 : x2 = 3
  · have hw := hw.1 hc6
    refine xt_numi hc6 ?_
    refine lv_tableIn (off := 87) (tgt := 88) hx hb (xb_d D_M_flow 1 rfl) (by decide +kernel) (by decide +kernel) (by decide +kernel) (by decide) ?_
    exact am_M_flow_L88 l hfl D A σ MC MS h0 Qr x0 x2 h hw p e s m args below meth c hC H locs ls k n hE (lv_sub hl [0, 2] rfl) hR hS (by omega) (by omega)
  have hw := hw.2
  by_cases hc7 : x2 = 4
  · have hw := hw.1 hc7
    refine xt_numi hc7 ?_
    refine lv_tableIn (off := 111) (tgt := 112) hx hb (xb_d D_M_flow 1 rfl) (by decide +kernel) (by decide +kernel) (by decide +kernel) (by decide) ?_
    refine lv_aload_n hx hb (xb_d D_M_flow 19 rfl) rfl (lv_at hl 0 rfl) ?_
    obtain ⟨hk8, hw⟩ := hw
    refine xb_call (D := D) (A := A) (σ := σ) (h := h) (d := 3) (mc := 0) (ms := 0) (maxL := 2) (rest := []) (av := [.ref x0]) (fun T hT X => by obtain ⟨cb, r1, r2, r3⟩ := xb_recv (ci := 8) hR rfl hk8 (by decide); exact xt_invV X hx hown (hts _ m_0e978570) (hts _ m_40099f98) (hts _ m_a7dbfd07) (xt_sigOf (hts _ m_0af1ec6a)) nm_M_next (by rw [hT]; exact r1) r2 r3 (g := F0 m 113 ls [.ref x0]) rfl (argsL := []) (rest := []) rfl rfl (by rw [hb]; exact (xb_d D_M_flow 20 rfl))) (ok_M_next l hfl D A σ x0 h _ hw) (hml.trans hl.1.symm) (by rw [hb]; exact (xb_d D_M_flow 20 rfl)) (Nat.le_of_ble_eq_true rfl) (Nat.le_of_ble_eq_true rfl) (Nat.le_of_ble_eq_true rfl) (show k + 0 ≤ MC by omega) (show n + 0 ≤ MS by omega) (xt_w1 hB.1 m_0af1ec6a) (xt_cdOf hB.1 m_0af1ec6a) (hts _ m_d5ed7bed) hB hR hS hA (fun vv h9 H locs hq hEh9 hR hS => ?_) (fun XX ax h9 H locs hq hEh9 hex hR hS => ?_)
    · obtain ⟨r10, rfl, hw⟩ := hq
      have hw := hw hEh9
      have hE := hE.tr hEh9
      refine W.eq (g2 := F0 m 116 ls [.int r10]) rfl ?_
      refine lv_istore hx hb (xb_d D_M_flow 21 rfl) hl (by decide) rfl (fun ls hl => ?_)
      have hl : lv_has ls 7 [(4, .int r10), (0, .ref x0), (1, .int x1), (2, .int x2)] := hl
      refine lv_aload_n hx hb (xb_d D_M_flow 22 rfl) rfl (lv_at hl 1 rfl) ?_
      refine lv_bipush (v := 127) hx hb (xb_d D_M_flow 23 rfl) (by decide) ?_
      have hk8 : xb_k h9 x0 = 9 := hEh9.k hk8
      refine xb_call (D := D) (A := A) (σ := σ) (h := h9) (d := 2) (mc := 0) (ms := 0) (maxL := 2) (rest := []) (av := [.ref x0, .int 127]) (fun T hT X => by obtain ⟨cb, r1, r2, r3⟩ := xb_recv (ci := 8) hR rfl hk8 (by decide); exact xt_invV X hx hown (hts _ m_ce40dc40) (hts _ m_c3a002b8) (hts _ m_395c99b5) (xt_sigOf (hts _ m_1ea89357)) nm_M_pop (by rw [hT]; exact r1) r2 r3 (g := F0 m 121 ls [.int 127, .ref x0]) rfl (argsL := [.int 127]) (rest := []) rfl rfl (by rw [hb]; exact (xb_d D_M_flow 24 rfl))) (ok_M_pop l hfl D A σ x0 127 h9 _ hw) (hml.trans hl.1.symm) (by rw [hb]; exact (xb_d D_M_flow 24 rfl)) (Nat.le_of_ble_eq_true rfl) (Nat.le_of_ble_eq_true rfl) (Nat.le_of_ble_eq_true rfl) (show k + 0 ≤ MC by omega) (show n + 0 ≤ MS by omega) (xt_w1 hB.1 m_1ea89357) (xt_cdOf hB.1 m_1ea89357) (hts _ m_d5ed7bed) hB hR hS hA (fun vv h11 H locs hq hEh11 hR hS => ?_) (fun XX ax h11 H locs hq hEh11 hex hR hS => ?_)
      · obtain ⟨r12, rfl, hw⟩ := hq
        have hw := hw hEh11
        have hE := hE.tr hEh11
        refine W.eq (g2 := F0 m 124 ls [.long r12]) rfl ?_
        refine lv_lconst (v := 0) hx hb (xb_d D_M_flow 25 rfl) (by decide) ?_
        refine xb_lc_eq (tgt := 139) hx hb (xb_d D_M_flow 26 rfl) (xb_d D_M_flow 27 rfl) rfl (fun hc13 => ?_) (fun hc13 => ?_)
        · have hw := hw.1 hc13
          refine lv_aload_n hx hb (xb_d D_M_flow 33 rfl) rfl (lv_at hl 1 rfl) ?_
          refine lv_iconst (v := 1) hx hb (xb_d D_M_flow 34 rfl) (by decide) ?_
          refine lv_iconst (v := 1) hx hb (xb_d D_M_flow 35 rfl) (by decide) ?_
          have hk8 : xb_k h11 x0 = 9 := hEh11.k hk8
          refine xb_call (D := D) (A := A) (σ := σ) (h := h11) (d := 7) (mc := 0) (ms := 0) (maxL := 5) (rest := []) (av := [.ref x0, .int 1, .int 1]) (fun T hT X => by obtain ⟨cb, r1, r2, r3⟩ := xb_recv (ci := 8) hR rfl hk8 (by decide); exact xt_invV X hx hown (hts _ m_9c9c8605) (hts _ m_05af8ccc) (hts _ m_1b43488f) (xt_sigOf (hts _ m_e000fc68)) nm_M_readOn (by rw [hT]; exact r1) r2 r3 (g := F0 m 142 ls [.int 1, .int 1, .ref x0]) rfl (argsL := [.int 1, .int 1]) (rest := []) rfl rfl (by rw [hb]; exact (xb_d D_M_flow 36 rfl))) (ok_M_readOn l hfl D A σ x0 1 1 h11 _ hw) (hml.trans hl.1.symm) (by rw [hb]; exact (xb_d D_M_flow 36 rfl)) (Nat.le_of_ble_eq_true rfl) (Nat.le_of_ble_eq_true rfl) (Nat.le_of_ble_eq_true rfl) (show k + 0 ≤ MC by omega) (show n + 0 ≤ MS by omega) (xt_w1 hB.1 m_e000fc68) (xt_cdOf hB.1 m_e000fc68) (hts _ m_d5ed7bed) hB hR hS hA (fun vv h14 H locs hq hEh14 hR hS => ?_) (fun XX ax h14 H locs hq hEh14 hex hR hS => ?_)
          · obtain ⟨r15, rfl, hw⟩ := hq
            have hw := hw hEh14
            have hE := hE.tr hEh14
            refine W.eq (g2 := F0 m 145 ls [.int r15]) rfl ?_
            refine lv_if_eq (tgt := 276) hx hb (xb_d D_M_flow 37 rfl) rfl (fun hc16 => ?_) (fun hc16 => ?_)
            · have hw := hw.1 hc16
              exact am_M_flow_L276 l hfl D A σ MC MS h0 Qr h14 hw p e s m args below meth c hC H locs ls k n hE (lv_sub hl [] rfl) hR hS (by omega) (by omega)
            · have hw := hw.2 hc16
              refine lv_aload_n hx hb (xb_d D_M_flow 38 rfl) rfl (lv_at hl 1 rfl) ?_
              refine lv_iconst (v := 5) hx hb (xb_d D_M_flow 39 rfl) (by decide) ?_
              refine lv_iload hx hb (xb_d D_M_flow 40 rfl) (lv_at hl 0 rfl) ?_
              have hk8 : xb_k h14 x0 = 9 := hEh14.k hk8
              refine xb_call (D := D) (A := A) (σ := σ) (h := h14) (d := 2) (mc := 0) (ms := 0) (maxL := 3) (rest := []) (av := [.ref x0, .int 5, .int r10]) (fun T hT X => by obtain ⟨cb, r1, r2, r3⟩ := xb_recv (ci := 8) hR rfl hk8 (by decide); exact xt_invV X hx hown (hts _ m_746eb9d6) (hts _ m_e9612f4e) (hts _ m_aa122190) (xt_sigOf (hts _ m_7c9641c8)) nm_M_open (by rw [hT]; exact r1) r2 r3 (g := F0 m 152 ls [.int r10, .int 5, .ref x0]) rfl (argsL := [.int 5, .int r10]) (rest := []) rfl rfl (by rw [hb]; exact (xb_d D_M_flow 41 rfl))) (ok_M_open l hfl D A σ x0 5 r10 h14 _ hw) (hml.trans hl.1.symm) (by rw [hb]; exact (xb_d D_M_flow 41 rfl)) (Nat.le_of_ble_eq_true rfl) (Nat.le_of_ble_eq_true rfl) (Nat.le_of_ble_eq_true rfl) (show k + 0 ≤ MC by omega) (show n + 0 ≤ MS by omega) (xt_w1 hB.1 m_7c9641c8) (xt_cdOf hB.1 m_7c9641c8) (hts _ m_d5ed7bed) hB hR hS hA (fun vv h17 H locs hq hEh17 hR hS => ?_) (fun XX ax h17 H locs hq hEh17 hex hR hS => ?_)
              · obtain ⟨rfl, hw⟩ := hq
                have hw := hw hEh17
                have hE := hE.tr hEh17
                refine W.eq (g2 := F0 m 155 ls []) rfl ?_
                refine lv_goto (tgt := 276) hx hb (xb_d D_M_flow 42 rfl) rfl ?_
                exact am_M_flow_L276 l hfl D A σ MC MS h0 Qr h17 hw p e s m args below meth c hC H locs ls k n hE (lv_sub hl [] rfl) hR hS (by omega) (by omega)
              · exact False.elim hq
          · exact False.elim hq
        · have hw := hw.2 hc13
          refine lv_aload_n hx hb (xb_d D_M_flow 28 rfl) rfl (lv_at hl 1 rfl) ?_
          refine lv_iconst (v := 4) hx hb (xb_d D_M_flow 29 rfl) (by decide) ?_
          refine lv_iload hx hb (xb_d D_M_flow 30 rfl) (lv_at hl 0 rfl) ?_
          have hk8 : xb_k h11 x0 = 9 := hEh11.k hk8
          refine xb_call (D := D) (A := A) (σ := σ) (h := h11) (d := 2) (mc := 0) (ms := 0) (maxL := 3) (rest := []) (av := [.ref x0, .int 4, .int r10]) (fun T hT X => by obtain ⟨cb, r1, r2, r3⟩ := xb_recv (ci := 8) hR rfl hk8 (by decide); exact xt_invV X hx hown (hts _ m_746eb9d6) (hts _ m_e9612f4e) (hts _ m_aa122190) (xt_sigOf (hts _ m_7c9641c8)) nm_M_open (by rw [hT]; exact r1) r2 r3 (g := F0 m 133 ls [.int r10, .int 4, .ref x0]) rfl (argsL := [.int 4, .int r10]) (rest := []) rfl rfl (by rw [hb]; exact (xb_d D_M_flow 31 rfl))) (ok_M_open l hfl D A σ x0 4 r10 h11 _ hw) (hml.trans hl.1.symm) (by rw [hb]; exact (xb_d D_M_flow 31 rfl)) (Nat.le_of_ble_eq_true rfl) (Nat.le_of_ble_eq_true rfl) (Nat.le_of_ble_eq_true rfl) (show k + 0 ≤ MC by omega) (show n + 0 ≤ MS by omega) (xt_w1 hB.1 m_7c9641c8) (xt_cdOf hB.1 m_7c9641c8) (hts _ m_d5ed7bed) hB hR hS hA (fun vv h19 H locs hq hEh19 hR hS => ?_) (fun XX ax h19 H locs hq hEh19 hex hR hS => ?_)
          · obtain ⟨rfl, hw⟩ := hq
            have hw := hw hEh19
            have hE := hE.tr hEh19
            refine W.eq (g2 := F0 m 136 ls []) rfl ?_
            refine lv_goto (tgt := 276) hx hb (xb_d D_M_flow 32 rfl) rfl ?_
            exact am_M_flow_L276 l hfl D A σ MC MS h0 Qr h19 hw p e s m args below meth c hC H locs ls k n hE (lv_sub hl [] rfl) hR hS (by omega) (by omega)
          · exact False.elim hq
      · exact False.elim hq
    · exact False.elim hq
  have hw := hw.2
  by_cases hc21 : x2 = 5
  · have hw := hw.1 hc21
    refine xt_numi hc21 ?_
    refine lv_tableIn (off := 157) (tgt := 158) hx hb (xb_d D_M_flow 1 rfl) (by decide +kernel) (by decide +kernel) (by decide +kernel) (by decide) ?_
    refine lv_aload_n hx hb (xb_d D_M_flow 43 rfl) rfl (lv_at hl 0 rfl) ?_
    refine lv_iconst (v := 1) hx hb (xb_d D_M_flow 44 rfl) (by decide) ?_
    refine lv_iconst (v := 0) hx hb (xb_d D_M_flow 45 rfl) (by decide) ?_
    obtain ⟨hk22, hw⟩ := hw
    refine xb_call (D := D) (A := A) (σ := σ) (h := h) (d := 7) (mc := 0) (ms := 0) (maxL := 5) (rest := []) (av := [.ref x0, .int 1, .int 0]) (fun T hT X => by obtain ⟨cb, r1, r2, r3⟩ := xb_recv (ci := 8) hR rfl hk22 (by decide); exact xt_invV X hx hown (hts _ m_9c9c8605) (hts _ m_05af8ccc) (hts _ m_1b43488f) (xt_sigOf (hts _ m_e000fc68)) nm_M_readOn (by rw [hT]; exact r1) r2 r3 (g := F0 m 161 ls [.int 0, .int 1, .ref x0]) rfl (argsL := [.int 1, .int 0]) (rest := []) rfl rfl (by rw [hb]; exact (xb_d D_M_flow 46 rfl))) (ok_M_readOn l hfl D A σ x0 1 0 h _ hw) (hml.trans hl.1.symm) (by rw [hb]; exact (xb_d D_M_flow 46 rfl)) (Nat.le_of_ble_eq_true rfl) (Nat.le_of_ble_eq_true rfl) (Nat.le_of_ble_eq_true rfl) (show k + 0 ≤ MC by omega) (show n + 0 ≤ MS by omega) (xt_w1 hB.1 m_e000fc68) (xt_cdOf hB.1 m_e000fc68) (hts _ m_d5ed7bed) hB hR hS hA (fun vv h23 H locs hq hEh23 hR hS => ?_) (fun XX ax h23 H locs hq hEh23 hex hR hS => ?_)
    · obtain ⟨r24, rfl, hw⟩ := hq
      have hw := hw hEh23
      have hE := hE.tr hEh23
      refine W.eq (g2 := F0 m 164 ls [.int r24]) rfl ?_
      refine lv_pop hx hb (xb_d D_M_flow 47 rfl) rfl ?_
      refine lv_aload_n hx hb (xb_d D_M_flow 48 rfl) rfl (lv_at hl 0 rfl) ?_
      refine lv_aload_n hx hb (xb_d D_M_flow 49 rfl) rfl (lv_at hl 0 rfl) ?_
      have hk22 : xb_k h23 x0 = 9 := hEh23.k hk22
      refine xb_getI (C := R_M) (T := F_M) (N := 97) hx hb 8 96 hts fin_M hown hR hk22 (by decide) rfl (by decide) rfl (hts _ m_daabb39f) (fun _ h9 => h9) (xb_d D_M_flow 50 rfl) ?_
      refine xb_putI (C := R_M) (T := F_M) (N := 97) (ty := .int) (x := (xb_i h23 x0 96)) hx hb 8 15 hts fin_M t_M t_M_ok n_M hown hR hS hk22 (by decide) rfl (by decide) rfl (hts _ m_6c2d27ad) (fun _ h9 => h9) rfl (by decide +kernel) rfl rfl (xb_d D_M_flow 51 rfl) (fun H locs hR hS => ?_)
      obtain ⟨h25, eh25⟩ : ∃ x : xb_H, x = xb_I h23 x0 15 (xb_i h23 x0 96) := ⟨_, rfl⟩
      rw [← eh25] at hR
      have hw := hw h25 eh25
      have hE : xb_ext h0 h25 := by rw [eh25]; exact hE
      refine lv_goto (tgt := 276) hx hb (xb_d D_M_flow 52 rfl) rfl ?_
      exact am_M_flow_L276 l hfl D A σ MC MS h0 Qr h25 hw p e s m args below meth c hC H locs ls k n hE (lv_sub hl [] rfl) hR hS (by omega) (by omega)
    · exact False.elim hq
  have hw := hw.2
  by_cases hc26 : x2 = 6
  · have hw := hw.1 hc26
    refine xt_numi hc26 ?_
    refine lv_tableIn (off := 275) (tgt := 276) hx hb (xb_d D_M_flow 1 rfl) (by decide +kernel) (by decide +kernel) (by decide +kernel) (by decide) ?_
    exact am_M_flow_L276 l hfl D A σ MC MS h0 Qr h hw p e s m args below meth c hC H locs ls k n hE (lv_sub hl [] rfl) hR hS (by omega) (by omega)
  have hw := hw.2
  by_cases hc27 : x2 = 7
  · have hw := hw.1 hc27
    refine xt_numi hc27 ?_
    refine lv_tableIn (off := 275) (tgt := 276) hx hb (xb_d D_M_flow 1 rfl) (by decide +kernel) (by decide +kernel) (by decide +kernel) (by decide) ?_
    exact am_M_flow_L276 l hfl D A σ MC MS h0 Qr h hw p e s m args below meth c hC H locs ls k n hE (lv_sub hl [] rfl) hR hS (by omega) (by omega)
  have hw := hw.2
  by_cases hc28 : x2 = 8
  · have hw := hw.1 hc28
    refine xt_numi hc28 ?_
    refine lv_tableIn (off := 275) (tgt := 276) hx hb (xb_d D_M_flow 1 rfl) (by decide +kernel) (by decide +kernel) (by decide +kernel) (by decide) ?_
    exact am_M_flow_L276 l hfl D A σ MC MS h0 Qr h hw p e s m args below meth c hC H locs ls k n hE (lv_sub hl [] rfl) hR hS (by omega) (by omega)
  have hw := hw.2
  by_cases hc29 : x2 = 9
  · have hw := hw.1 hc29
    refine xt_numi hc29 ?_
    refine lv_tableIn (off := 275) (tgt := 276) hx hb (xb_d D_M_flow 1 rfl) (by decide +kernel) (by decide +kernel) (by decide +kernel) (by decide) ?_
    exact am_M_flow_L276 l hfl D A σ MC MS h0 Qr h hw p e s m args below meth c hC H locs ls k n hE (lv_sub hl [] rfl) hR hS (by omega) (by omega)
  have hw := hw.2
  by_cases hc30 : x2 = 10
  · have hw := hw.1 hc30
    refine xt_numi hc30 ?_
    refine lv_tableIn (off := 275) (tgt := 276) hx hb (xb_d D_M_flow 1 rfl) (by decide +kernel) (by decide +kernel) (by decide +kernel) (by decide) ?_
    exact am_M_flow_L276 l hfl D A σ MC MS h0 Qr h hw p e s m args below meth c hC H locs ls k n hE (lv_sub hl [] rfl) hR hS (by omega) (by omega)
  have hw := hw.2
  by_cases hc31 : x2 = 11
  · have hw := hw.1 hc31
    refine xt_numi hc31 ?_
    refine lv_tableIn (off := 175) (tgt := 176) hx hb (xb_d D_M_flow 1 rfl) (by decide +kernel) (by decide +kernel) (by decide +kernel) (by decide) ?_
    refine lv_aload_n hx hb (xb_d D_M_flow 53 rfl) rfl (lv_at hl 0 rfl) ?_
    obtain ⟨hk32, hw⟩ := hw
    refine xb_getI (C := R_M) (T := F_M) (N := 97) hx hb 8 81 hts fin_M hown hR hk32 (by decide) rfl (by decide) rfl (hts _ m_65743087) (fun _ h9 => h9) (xb_d D_M_flow 54 rfl) ?_
    refine lv_iconst (v := 1) hx hb (xb_d D_M_flow 55 rfl) (by decide) ?_
    refine lv_isub hx hb (xb_d D_M_flow 56 rfl) ?_
    refine lv_aload_n hx hb (xb_d D_M_flow 57 rfl) rfl (lv_at hl 0 rfl) ?_
    refine xb_getP (C := R_M) (T := F_M) (N := 97) hx hb 8 73 hts fin_M hown hR hk32 (by decide) rfl (by decide) rfl (hts _ m_6c9efdee) (fun _ h9 => h9) (xb_d D_M_flow 58 rfl) ?_
    obtain ⟨b33, eb33, hw⟩ := hw
    refine xb_some eb33 ?_
    refine lv_iload_n hx hb (xb_d D_M_flow 59 rfl) rfl (lv_at hl 1 rfl) ?_
    obtain ⟨hk35, hw⟩ := hw
    obtain ⟨hi34, hw⟩ := hw
    refine xb_iald hx hb hR hk35 hi34 (xb_d D_M_flow 60 rfl) ?_
    refine lv_icmp_ne (tgt := 198) hx hb (xb_d D_M_flow 61 rfl) rfl (fun hc36 => ?_) (fun hc36 => ?_)
    · have hw := hw.1 hc36
      refine lv_aload_n hx hb (xb_d D_M_flow 65 rfl) rfl (lv_at hl 0 rfl) ?_
      refine lv_dup hx hb (xb_d D_M_flow 66 rfl) rfl ?_
      refine xb_getI (C := R_M) (T := F_M) (N := 97) hx hb 8 81 hts fin_M hown hR hk32 (by decide) rfl (by decide) rfl (hts _ m_65743087) (fun _ h9 => h9) (xb_d D_M_flow 67 rfl) ?_
      refine lv_iconst (v := 1) hx hb (xb_d D_M_flow 68 rfl) (by decide) ?_
      refine lv_isub hx hb (xb_d D_M_flow 69 rfl) ?_
      refine xb_putI (C := R_M) (T := F_M) (N := 97) (ty := .int) (x := ((xb_i h x0 81) - 1)) hx hb 8 81 hts fin_M t_M t_M_ok n_M hown hR hS hk32 (by decide) rfl (by decide) rfl (hts _ m_65743087) (fun _ h9 => h9) rfl (by decide +kernel) rfl rfl (xb_d D_M_flow 70 rfl) (fun H locs hR hS => ?_)
      obtain ⟨h37, eh37⟩ : ∃ x : xb_H, x = xb_I h x0 81 ((xb_i h x0 81) - 1) := ⟨_, rfl⟩
      rw [← eh37] at hR
      have hw := hw h37 eh37
      have hE : xb_ext h0 h37 := by rw [eh37]; exact hE
      refine lv_goto (tgt := 276) hx hb (xb_d D_M_flow 71 rfl) rfl ?_
      exact am_M_flow_L276 l hfl D A σ MC MS h0 Qr h37 hw p e s m args below meth c hC H locs ls k n hE (lv_sub hl [] rfl) hR hS (by omega) (by omega)
    · have hw := hw.2 hc36
      refine lv_aload_n hx hb (xb_d D_M_flow 62 rfl) rfl (lv_at hl 0 rfl) ?_
      refine xb_call (D := D) (A := A) (σ := σ) (h := h) (d := 3) (mc := 0) (ms := 0) (maxL := 5) (rest := []) (av := [.ref x0]) (fun T hT X => by obtain ⟨cb, r1, r2, r3⟩ := xb_recv (ci := 8) hR rfl hk32 (by decide); exact xt_invV X hx hown (hts _ m_b8a8e88c) (hts _ m_4d204536) (hts _ m_5da39f92) (xt_sigOf (hts _ m_5a54079a)) nm_M_leave (by rw [hT]; exact r1) r2 r3 (g := F0 m 192 ls [.ref x0]) rfl (argsL := []) (rest := []) rfl rfl (by rw [hb]; exact (xb_d D_M_flow 63 rfl))) (ok_M_leave l hfl D A σ x0 h _ hw) (hml.trans hl.1.symm) (by rw [hb]; exact (xb_d D_M_flow 63 rfl)) (Nat.le_of_ble_eq_true rfl) (Nat.le_of_ble_eq_true rfl) (Nat.le_of_ble_eq_true rfl) (show k + 0 ≤ MC by omega) (show n + 0 ≤ MS by omega) (xt_w1 hB.1 m_5a54079a) (xt_cdOf hB.1 m_5a54079a) (hts _ m_d5ed7bed) hB hR hS hA (fun vv h38 H locs hq hEh38 hR hS => ?_) (fun XX ax h38 H locs hq hEh38 hex hR hS => ?_)
      · obtain ⟨rfl, hw⟩ := hq
        have hw := hw hEh38
        have hE := hE.tr hEh38
        refine W.eq (g2 := F0 m 195 ls []) rfl ?_
        refine lv_goto (tgt := 276) hx hb (xb_d D_M_flow 64 rfl) rfl ?_
        exact am_M_flow_L276 l hfl D A σ MC MS h0 Qr h38 hw p e s m args below meth c hC H locs ls k n hE (lv_sub hl [] rfl) hR hS (by omega) (by omega)
      · exact False.elim hq
  have hw := hw.2
  by_cases hc40 : x2 = 12
  · have hw := hw.1 hc40
    refine xt_numi hc40 ?_
    refine lv_tableIn (off := 210) (tgt := 211) hx hb (xb_d D_M_flow 1 rfl) (by decide +kernel) (by decide +kernel) (by decide +kernel) (by decide) ?_
    refine lv_aload_n hx hb (xb_d D_M_flow 72 rfl) rfl (lv_at hl 0 rfl) ?_
    refine lv_aload_n hx hb (xb_d D_M_flow 73 rfl) rfl (lv_at hl 0 rfl) ?_
    obtain ⟨hk41, hw⟩ := hw
    refine xb_call (D := D) (A := A) (σ := σ) (h := h) (d := 4) (mc := 0) (ms := 0) (maxL := 5) (rest := [.ref x0]) (av := [.ref x0]) (fun T hT X => by obtain ⟨cb, r1, r2, r3⟩ := xb_recv (ci := 8) hR rfl hk41 (by decide); exact xt_invV X hx hown (hts _ m_e991293f) (hts _ m_385a74b3) (hts _ m_c9fbcd02) (xt_sigOf (hts _ m_1f53f210)) nm_M_count (by rw [hT]; exact r1) r2 r3 (g := F0 m 213 ls [.ref x0, .ref x0]) rfl (argsL := []) (rest := [.ref x0]) rfl rfl (by rw [hb]; exact (xb_d D_M_flow 74 rfl))) (ok_M_count l hfl D A σ x0 h _ hw) (hml.trans hl.1.symm) (by rw [hb]; exact (xb_d D_M_flow 74 rfl)) (Nat.le_of_ble_eq_true rfl) (Nat.le_of_ble_eq_true rfl) (Nat.le_of_ble_eq_true rfl) (show k + 0 ≤ MC by omega) (show n + 0 ≤ MS by omega) (xt_w1 hB.1 m_1f53f210) (xt_cdOf hB.1 m_1f53f210) (hts _ m_d5ed7bed) hB hR hS hA (fun vv h42 H locs hq hEh42 hR hS => ?_) (fun XX ax h42 H locs hq hEh42 hex hR hS => ?_)
    · obtain ⟨r43, rfl, hw⟩ := hq
      have hw := hw hEh42
      have hE := hE.tr hEh42
      refine W.eq (g2 := F0 m 216 ls [.long r43, .ref x0]) rfl ?_
      have hk41 : xb_k h42 x0 = 9 := hEh42.k hk41
      refine xb_call (D := D) (A := A) (σ := σ) (h := h42) (d := 8) (mc := 0) (ms := 0) (maxL := 8) (rest := []) (av := [.ref x0, .long r43]) (fun T hT X => by obtain ⟨cb, r1, r2, r3⟩ := xb_recv (ci := 8) hR rfl hk41 (by decide); exact xt_invV X hx hown (hts _ m_36f12bf0) (hts _ m_cb58d8a1) (hts _ m_c5c944a0) (xt_sigOf (hts _ m_0889f0dc)) nm_M_branch (by rw [hT]; exact r1) r2 r3 (g := F0 m 216 ls [.long r43, .ref x0]) rfl (argsL := [.long r43]) (rest := []) rfl rfl (by rw [hb]; exact (xb_d D_M_flow 75 rfl))) (ok_M_branch l hfl D A σ x0 r43 h42 _ hw) (hml.trans hl.1.symm) (by rw [hb]; exact (xb_d D_M_flow 75 rfl)) (Nat.le_of_ble_eq_true rfl) (Nat.le_of_ble_eq_true rfl) (Nat.le_of_ble_eq_true rfl) (show k + 0 ≤ MC by omega) (show n + 0 ≤ MS by omega) (xt_w1 hB.1 m_0889f0dc) (xt_cdOf hB.1 m_0889f0dc) (hts _ m_d5ed7bed) hB hR hS hA (fun vv h44 H locs hq hEh44 hR hS => ?_) (fun XX ax h44 H locs hq hEh44 hex hR hS => ?_)
      · obtain ⟨rfl, hw⟩ := hq
        have hw := hw hEh44
        have hE := hE.tr hEh44
        refine W.eq (g2 := F0 m 219 ls []) rfl ?_
        refine lv_goto (tgt := 276) hx hb (xb_d D_M_flow 76 rfl) rfl ?_
        exact am_M_flow_L276 l hfl D A σ MC MS h0 Qr h44 hw p e s m args below meth c hC H locs ls k n hE (lv_sub hl [] rfl) hR hS (by omega) (by omega)
      · exact False.elim hq
    · exact False.elim hq
  have hw := hw.2
  by_cases hc46 : x2 = 13
  · have hw := hw.1 hc46
    refine xt_numi hc46 ?_
    refine lv_tableIn (off := 221) (tgt := 222) hx hb (xb_d D_M_flow 1 rfl) (by decide +kernel) (by decide +kernel) (by decide +kernel) (by decide) ?_
    refine lv_aload_n hx hb (xb_d D_M_flow 77 rfl) rfl (lv_at hl 0 rfl) ?_
    obtain ⟨hk47, hw⟩ := hw
    refine xb_call (D := D) (A := A) (σ := σ) (h := h) (d := 4) (mc := 0) (ms := 0) (maxL := 5) (rest := []) (av := [.ref x0]) (fun T hT X => by obtain ⟨cb, r1, r2, r3⟩ := xb_recv (ci := 8) hR rfl hk47 (by decide); exact xt_invV X hx hown (hts _ m_e991293f) (hts _ m_385a74b3) (hts _ m_c9fbcd02) (xt_sigOf (hts _ m_1f53f210)) nm_M_count (by rw [hT]; exact r1) r2 r3 (g := F0 m 223 ls [.ref x0]) rfl (argsL := []) (rest := []) rfl rfl (by rw [hb]; exact (xb_d D_M_flow 78 rfl))) (ok_M_count l hfl D A σ x0 h _ hw) (hml.trans hl.1.symm) (by rw [hb]; exact (xb_d D_M_flow 78 rfl)) (Nat.le_of_ble_eq_true rfl) (Nat.le_of_ble_eq_true rfl) (Nat.le_of_ble_eq_true rfl) (show k + 0 ≤ MC by omega) (show n + 0 ≤ MS by omega) (xt_w1 hB.1 m_1f53f210) (xt_cdOf hB.1 m_1f53f210) (hts _ m_d5ed7bed) hB hR hS hA (fun vv h48 H locs hq hEh48 hR hS => ?_) (fun XX ax h48 H locs hq hEh48 hex hR hS => ?_)
    · obtain ⟨r49, rfl, hw⟩ := hq
      have hw := hw hEh48
      have hE := hE.tr hEh48
      refine W.eq (g2 := F0 m 226 ls [.long r49]) rfl ?_
      refine lv_lstore hx hb (xb_d D_M_flow 79 rfl) hl (by decide) rfl (fun ls hl => ?_)
      have hl : lv_has ls 7 [(5, .long r49), (0, .ref x0), (1, .int x1), (2, .int x2)] := hl
      refine lv_aload_n hx hb (xb_d D_M_flow 80 rfl) rfl (lv_at hl 1 rfl) ?_
      refine lv_bipush (v := 127) hx hb (xb_d D_M_flow 81 rfl) (by decide) ?_
      have hk47 : xb_k h48 x0 = 9 := hEh48.k hk47
      refine xb_call (D := D) (A := A) (σ := σ) (h := h48) (d := 2) (mc := 0) (ms := 0) (maxL := 2) (rest := []) (av := [.ref x0, .int 127]) (fun T hT X => by obtain ⟨cb, r1, r2, r3⟩ := xb_recv (ci := 8) hR rfl hk47 (by decide); exact xt_invV X hx hown (hts _ m_ce40dc40) (hts _ m_c3a002b8) (hts _ m_395c99b5) (xt_sigOf (hts _ m_1ea89357)) nm_M_pop (by rw [hT]; exact r1) r2 r3 (g := F0 m 231 ls [.int 127, .ref x0]) rfl (argsL := [.int 127]) (rest := []) rfl rfl (by rw [hb]; exact (xb_d D_M_flow 82 rfl))) (ok_M_pop l hfl D A σ x0 127 h48 _ hw) (hml.trans hl.1.symm) (by rw [hb]; exact (xb_d D_M_flow 82 rfl)) (Nat.le_of_ble_eq_true rfl) (Nat.le_of_ble_eq_true rfl) (Nat.le_of_ble_eq_true rfl) (show k + 0 ≤ MC by omega) (show n + 0 ≤ MS by omega) (xt_w1 hB.1 m_1ea89357) (xt_cdOf hB.1 m_1ea89357) (hts _ m_d5ed7bed) hB hR hS hA (fun vv h50 H locs hq hEh50 hR hS => ?_) (fun XX ax h50 H locs hq hEh50 hex hR hS => ?_)
      · obtain ⟨r51, rfl, hw⟩ := hq
        have hw := hw hEh50
        have hE := hE.tr hEh50
        refine W.eq (g2 := F0 m 234 ls [.long r51]) rfl ?_
        refine lv_lconst (v := 0) hx hb (xb_d D_M_flow 83 rfl) (by decide) ?_
        refine xb_lc_eq (tgt := 276) hx hb (xb_d D_M_flow 84 rfl) (xb_d D_M_flow 85 rfl) rfl (fun hc52 => ?_) (fun hc52 => ?_)
        · have hw := hw.1 hc52
          exact am_M_flow_L276 l hfl D A σ MC MS h0 Qr h50 hw p e s m args below meth c hC H locs ls k n hE (lv_sub hl [] rfl) hR hS (by omega) (by omega)
        · have hw := hw.2 hc52
          refine lv_aload_n hx hb (xb_d D_M_flow 86 rfl) rfl (lv_at hl 1 rfl) ?_
          refine lv_lload hx hb (xb_d D_M_flow 87 rfl) (lv_at hl 0 rfl) ?_
          have hk47 : xb_k h50 x0 = 9 := hEh50.k hk47
          refine xb_call (D := D) (A := A) (σ := σ) (h := h50) (d := 8) (mc := 0) (ms := 0) (maxL := 8) (rest := []) (av := [.ref x0, .long r49]) (fun T hT X => by obtain ⟨cb, r1, r2, r3⟩ := xb_recv (ci := 8) hR rfl hk47 (by decide); exact xt_invV X hx hown (hts _ m_36f12bf0) (hts _ m_cb58d8a1) (hts _ m_c5c944a0) (xt_sigOf (hts _ m_0889f0dc)) nm_M_branch (by rw [hT]; exact r1) r2 r3 (g := F0 m 242 ls [.long r49, .ref x0]) rfl (argsL := [.long r49]) (rest := []) rfl rfl (by rw [hb]; exact (xb_d D_M_flow 88 rfl))) (ok_M_branch l hfl D A σ x0 r49 h50 _ hw) (hml.trans hl.1.symm) (by rw [hb]; exact (xb_d D_M_flow 88 rfl)) (Nat.le_of_ble_eq_true rfl) (Nat.le_of_ble_eq_true rfl) (Nat.le_of_ble_eq_true rfl) (show k + 0 ≤ MC by omega) (show n + 0 ≤ MS by omega) (xt_w1 hB.1 m_0889f0dc) (xt_cdOf hB.1 m_0889f0dc) (hts _ m_d5ed7bed) hB hR hS hA (fun vv h53 H locs hq hEh53 hR hS => ?_) (fun XX ax h53 H locs hq hEh53 hex hR hS => ?_)
          · obtain ⟨rfl, hw⟩ := hq
            have hw := hw hEh53
            have hE := hE.tr hEh53
            refine W.eq (g2 := F0 m 245 ls []) rfl ?_
            refine lv_goto (tgt := 276) hx hb (xb_d D_M_flow 89 rfl) rfl ?_
            exact am_M_flow_L276 l hfl D A σ MC MS h0 Qr h53 hw p e s m args below meth c hC H locs ls k n hE (lv_sub hl [] rfl) hR hS (by omega) (by omega)
          · exact False.elim hq
      · exact False.elim hq
    · exact False.elim hq
  have hw := hw.2
  by_cases hc55 : x2 = 14
  · have hw := hw.1 hc55
    refine xt_numi hc55 ?_
    refine lv_tableIn (off := 247) (tgt := 248) hx hb (xb_d D_M_flow 1 rfl) (by decide +kernel) (by decide +kernel) (by decide +kernel) (by decide) ?_
    refine lv_aload_n hx hb (xb_d D_M_flow 90 rfl) rfl (lv_at hl 0 rfl) ?_
    obtain ⟨hk56, hw⟩ := hw
    refine xb_call (D := D) (A := A) (σ := σ) (h := h) (d := 9) (mc := 0) (ms := 0) (maxL := 12) (rest := []) (av := [.ref x0]) (fun T hT X => by obtain ⟨cb, r1, r2, r3⟩ := xb_recv (ci := 8) hR rfl hk56 (by decide); exact xt_invV X hx hown (hts _ m_2cb12b25) (hts _ m_3715d3ad) (hts _ m_66b08ea9) (xt_sigOf (hts _ m_e0576e60)) nm_M_byTable (by rw [hT]; exact r1) r2 r3 (g := F0 m 249 ls [.ref x0]) rfl (argsL := []) (rest := []) rfl rfl (by rw [hb]; exact (xb_d D_M_flow 91 rfl))) (ok_M_byTable l hfl D A σ x0 h _ hw) (hml.trans hl.1.symm) (by rw [hb]; exact (xb_d D_M_flow 91 rfl)) (Nat.le_of_ble_eq_true rfl) (Nat.le_of_ble_eq_true rfl) (Nat.le_of_ble_eq_true rfl) (show k + 0 ≤ MC by omega) (show n + 0 ≤ MS by omega) (xt_w1 hB.1 m_e0576e60) (xt_cdOf hB.1 m_e0576e60) (hts _ m_d5ed7bed) hB hR hS hA (fun vv h57 H locs hq hEh57 hR hS => ?_) (fun XX ax h57 H locs hq hEh57 hex hR hS => ?_)
    · obtain ⟨rfl, hw⟩ := hq
      have hw := hw hEh57
      have hE := hE.tr hEh57
      refine W.eq (g2 := F0 m 252 ls []) rfl ?_
      refine lv_goto (tgt := 276) hx hb (xb_d D_M_flow 92 rfl) rfl ?_
      exact am_M_flow_L276 l hfl D A σ MC MS h0 Qr h57 hw p e s m args below meth c hC H locs ls k n hE (lv_sub hl [] rfl) hR hS (by omega) (by omega)
    · exact False.elim hq
  have hw := hw.2
  by_cases hc59 : x2 = 15
  · have hw := hw.1 hc59
    refine xt_numi hc59 ?_
    refine lv_tableIn (off := 254) (tgt := 255) hx hb (xb_d D_M_flow 1 rfl) (by decide +kernel) (by decide +kernel) (by decide +kernel) (by decide) ?_
    refine lv_aload_n hx hb (xb_d D_M_flow 93 rfl) rfl (lv_at hl 0 rfl) ?_
    refine lv_aload_n hx hb (xb_d D_M_flow 94 rfl) rfl (lv_at hl 0 rfl) ?_
    obtain ⟨hk60, hw⟩ := hw
    refine xb_getI (C := R_M) (T := F_M) (N := 97) hx hb 8 81 hts fin_M hown hR hk60 (by decide) rfl (by decide) rfl (hts _ m_65743087) (fun _ h9 => h9) (xb_d D_M_flow 95 rfl) ?_
    refine lv_iconst (v := 1) hx hb (xb_d D_M_flow 96 rfl) (by decide) ?_
    refine lv_isub hx hb (xb_d D_M_flow 97 rfl) ?_
    refine lv_aload_n hx hb (xb_d D_M_flow 98 rfl) rfl (lv_at hl 0 rfl) ?_
    refine xb_getP (C := R_M) (T := F_M) (N := 97) hx hb 8 73 hts fin_M hown hR hk60 (by decide) rfl (by decide) rfl (hts _ m_6c9efdee) (fun _ h9 => h9) (xb_d D_M_flow 99 rfl) ?_
    obtain ⟨b61, eb61, hw⟩ := hw
    refine xb_some eb61 ?_
    refine lv_iload_n hx hb (xb_d D_M_flow 100 rfl) rfl (lv_at hl 1 rfl) ?_
    obtain ⟨hk63, hw⟩ := hw
    obtain ⟨hi62, hw⟩ := hw
    refine xb_iald hx hb hR hk63 hi62 (xb_d D_M_flow 101 rfl) ?_
    refine lv_isub hx hb (xb_d D_M_flow 102 rfl) ?_
    refine lv_i2l hx hb (xb_d D_M_flow 103 rfl) rfl ?_
    refine xb_call (D := D) (A := A) (σ := σ) (h := h) (d := 8) (mc := 0) (ms := 0) (maxL := 8) (rest := []) (av := [.ref x0, .long (Int32.toInt64 (((xb_i h x0 81) - 1) - (xb_i h b61 (Int32.toNatClampNeg x1))))]) (fun T hT X => by obtain ⟨cb, r1, r2, r3⟩ := xb_recv (ci := 8) hR rfl hk60 (by decide); exact xt_invV X hx hown (hts _ m_36f12bf0) (hts _ m_cb58d8a1) (hts _ m_c5c944a0) (xt_sigOf (hts _ m_0889f0dc)) nm_M_branch (by rw [hT]; exact r1) r2 r3 (g := F0 m 270 ls [.long (Int32.toInt64 (((xb_i h x0 81) - 1) - (xb_i h b61 (Int32.toNatClampNeg x1)))), .ref x0]) rfl (argsL := [.long (Int32.toInt64 (((xb_i h x0 81) - 1) - (xb_i h b61 (Int32.toNatClampNeg x1))))]) (rest := []) rfl rfl (by rw [hb]; exact (xb_d D_M_flow 104 rfl))) (ok_M_branch l hfl D A σ x0 (Int32.toInt64 (((xb_i h x0 81) - 1) - (xb_i h b61 (Int32.toNatClampNeg x1)))) h _ hw) (hml.trans hl.1.symm) (by rw [hb]; exact (xb_d D_M_flow 104 rfl)) (Nat.le_of_ble_eq_true rfl) (Nat.le_of_ble_eq_true rfl) (Nat.le_of_ble_eq_true rfl) (show k + 0 ≤ MC by omega) (show n + 0 ≤ MS by omega) (xt_w1 hB.1 m_0889f0dc) (xt_cdOf hB.1 m_0889f0dc) (hts _ m_d5ed7bed) hB hR hS hA (fun vv h64 H locs hq hEh64 hR hS => ?_) (fun XX ax h64 H locs hq hEh64 hex hR hS => ?_)
    · obtain ⟨rfl, hw⟩ := hq
      have hw := hw hEh64
      have hE := hE.tr hEh64
      refine W.eq (g2 := F0 m 273 ls []) rfl ?_
      refine lv_goto (tgt := 276) hx hb (xb_d D_M_flow 105 rfl) rfl ?_
      exact am_M_flow_L276 l hfl D A σ MC MS h0 Qr h64 hw p e s m args below meth c hC H locs ls k n hE (lv_sub hl [] rfl) hR hS (by omega) (by omega)
    · exact False.elim hq
  have hw := hw.2
  have hw := hw hc1 hc4 hc5 hc6 hc7 hc21 hc26 hc27 hc28 hc29 hc30 hc31 hc40 hc46 hc55 hc59
  refine lv_tableOut (tgt := 276) hx hb (xb_d D_M_flow 1 rfl) (by have a0 := xb_nl (0) 0 (by decide) hc1; have a1 := xb_nl (1) 1 (by decide) hc4; have a2 := xb_nl (2) 2 (by decide) hc5; have a3 := xb_nl (3) 3 (by decide) hc6; have a4 := xb_nl (4) 4 (by decide) hc7; have a5 := xb_nl (5) 5 (by decide) hc21; have a6 := xb_nl (6) 6 (by decide) hc26; have a7 := xb_nl (7) 7 (by decide) hc27; have a8 := xb_nl (8) 8 (by decide) hc28; have a9 := xb_nl (9) 9 (by decide) hc29; have a10 := xb_nl (10) 10 (by decide) hc30; have a11 := xb_nl (11) 11 (by decide) hc31; have a12 := xb_nl (12) 12 (by decide) hc40; have a13 := xb_nl (13) 13 (by decide) hc46; have a14 := xb_nl (14) 14 (by decide) hc55; have a15 := xb_nl (15) 15 (by decide) hc59; omega) (by decide) ?_
  exact am_M_flow_L276 l hfl D A σ MC MS h0 Qr h hw p e s m args below meth c hC H locs ls k n hE (lv_sub hl [] rfl) hR hS (by omega) (by omega)

theorem m_7601d8c0 : (.methodLink "StackHostModel" 694 y_M_byteAt : Cond) ∈ xt_tbl := xt_in (xt_t13 (List.mem_of_getElem? (i := 130) (by decide +kernel))) (by decide +kernel)
theorem m_db427bb0 : (.instanceMethod y_M_byteAt : Cond) ∈ xt_tbl := xt_in (xt_t13 (List.mem_of_getElem? (i := 132) (by decide +kernel))) (by decide +kernel)
theorem m_43ee10e5 : (.selects "StackHostModel" y_M_byteAt y_M_byteAt : Cond) ∈ xt_tbl := xt_in (xt_v17 (q := (⟨"StackHostModel", "byteAt", "(IJ)I"⟩, 97)) (List.mem_of_getElem? (i := 5) (by decide +kernel))) (by decide +kernel)
theorem m_51efdffd : (.code y_M_byteAt b_M_byteAt 4 (some .int) : Cond) ∈ xt_tbl := xt_in (xt_t13 (List.mem_of_getElem? (i := 133) (by decide +kernel))) (by decide +kernel)
theorem m_272de6ed : (.methodLink "StackHostModel" 531 y_M_storeByte : Cond) ∈ xt_tbl := xt_in (xt_t12 (List.mem_of_getElem? (i := 109) (by decide +kernel))) (by decide +kernel)
theorem m_ac860a0e : (.instanceMethod y_M_storeByte : Cond) ∈ xt_tbl := xt_in (xt_t12 (List.mem_of_getElem? (i := 111) (by decide +kernel))) (by decide +kernel)
theorem m_c2d1fdae : (.selects "StackHostModel" y_M_storeByte y_M_storeByte : Cond) ∈ xt_tbl := xt_in (xt_v14 (q := (⟨"StackHostModel", "storeByte", "(IJI)V"⟩, 97)) (List.mem_of_getElem? (i := 3) (by decide +kernel))) (by decide +kernel)
theorem m_cf5c56c3 : (.code y_M_storeByte b_M_storeByte 5 none : Cond) ∈ xt_tbl := xt_in (xt_t12 (List.mem_of_getElem? (i := 112) (by decide +kernel))) (by decide +kernel)
theorem m_f1c64150 : (.methodLink "StackHostModel" 691 y_M_pagesOf : Cond) ∈ xt_tbl := xt_in (xt_t13 (List.mem_of_getElem? (i := 126) (by decide +kernel))) (by decide +kernel)
theorem m_314237fa : (.instanceMethod y_M_pagesOf : Cond) ∈ xt_tbl := xt_in (xt_t13 (List.mem_of_getElem? (i := 128) (by decide +kernel))) (by decide +kernel)
theorem m_71118831 : (.selects "StackHostModel" y_M_pagesOf y_M_pagesOf : Cond) ∈ xt_tbl := xt_in (xt_v17 (q := (⟨"StackHostModel", "pagesOf", "(II)V"⟩, 97)) (List.mem_of_getElem? (i := 4) (by decide +kernel))) (by decide +kernel)
theorem m_91172b07 : (.code y_M_pagesOf b_M_pagesOf 10 none : Cond) ∈ xt_tbl := xt_in (xt_t13 (List.mem_of_getElem? (i := 129) (by decide +kernel))) (by decide +kernel)
theorem nm_M_byteAt : xt_nm y_M_byteAt 2 := ⟨by decide +kernel, by decide +kernel⟩
theorem nm_M_storeByte : xt_nm y_M_storeByte 3 := ⟨by decide +kernel, by decide +kernel⟩
theorem nm_M_pagesOf : xt_nm y_M_pagesOf 2 := ⟨by decide +kernel, by decide +kernel⟩
set_option maxRecDepth 100000 in
def T_M_inMemory : List (Nat × Instr × Nat) := [(0, .aload_n 0, 1), (1, .getfield 202, 3), (4, .istore_n 3, 1), (5, .aload_n 0, 1), (6, .iload_n 1, 1), (7, .iconst 2, 1), (8, .invokevirtual 522, 3), (11, .istore 4, 2), (13, .aload_n 0, 1), (14, .aload_n 0, 1), (15, .getfield 62, 3), (18, .iload_n 1, 1), (19, .iaload, 1), (20, .iload_n 3, 1), (21, .invokevirtual 324, 3), (24, .iload_n 2, 1), (25, .bipush 63, 2), (27, .if_icmp .eq 9, 3), (30, .iload_n 2, 1), (31, .bipush 64, 2), (33, .if_icmp .ne 18, 3), (36, .aload_n 0, 1), (37, .iload 4, 2), (39, .iload_n 2, 1), (40, .invokevirtual 691, 3), (43, .aload_n 0, 1), (44, .iload_n 3, 1), (45, .iconst 1, 1), (46, .iadd, 1), (47, .putfield 202, 3), (50, .return_, 1), (51, .aload_n 0, 1), (52, .invokevirtual 218, 3), (55, .pop2, 1), (56, .aload_n 0, 1), (57, .invokevirtual 218, 3), (60, .lstore 5, 2), (62, .aload_n 0, 1), (63, .getfield 202, 3), (66, .istore 7, 2), (68, .iload_n 2, 1), (69, .invokestatic 448, 3), (72, .istore 8, 2), (74, .iload_n 2, 1), (75, .invokestatic 445, 3), (78, .istore 9, 2), (80, .iload_n 2, 1), (81, .bipush 54, 2), (83, .if_icmp .lt 12, 3), (86, .aload_n 0, 1), (87, .iload 8, 2), (89, .invokevirtual 634, 3), (92, .goto 4, 3), (95, .lconst 0, 1), (96, .lstore 10, 2), (98, .aload_n 0, 1), (99, .bipush 127, 2), (101, .invokevirtual 634, 3), (104, .ldc2_w 517, 3), (107, .land, 1), (108, .lload 5, 2), (110, .ladd, 1), (111, .lstore 12, 2), (113, .aload_n 0, 1), (114, .iload 7, 2), (116, .putfield 202, 3), (119, .lload 12, 2), (121, .iload 9, 2), (123, .i2l, 1), (124, .ladd, 1), (125, .ldc2_w 352, 3), (128, .aload_n 0, 1), (129, .getfield 111, 3), (132, .iload 4, 2), (134, .iaload, 1), (135, .i2l, 1), (136, .lmul, 1), (137, .lcmp, 1), (138, .ifCond .le 9, 3), (141, .aload_n 0, 1), (142, .iconst 2, 1), (143, .putfield 625, 3), (146, .return_, 1), (147, .iload_n 2, 1), (148, .bipush 54, 2), (150, .if_icmp .lt 41, 3), (153, .iconst 0, 1), (154, .istore 14, 2), (156, .iload 14, 2), (158, .iload 9, 2), (160, .if_icmp .ge 30, 3), (163, .aload_n 0, 1), (164, .iload 4, 2), (166, .lload 12, 2), (168, .iload 14, 2), (170, .i2l, 1), (171, .ladd, 1), (172, .lload 10, 2), (174, .bipush 8, 2), (176, .iload 14, 2), (178, .imul, 1), (179, .lshr, 1), (180, .l2i, 1), (181, .invokevirtual 531, 3), (184, .iinc 14 1, 3), (187, .goto (-31), 3), (190, .return_, 1), (191, .iload 9, 2), (193, .iconst 1, 1), (194, .isub, 1), (195, .istore 14, 2), (197, .iload 14, 2), (199, .ifCond .lt 30, 3), (202, .lload 10, 2), (204, .bipush 8, 2), (206, .lshl, 1), (207, .aload_n 0, 1), (208, .iload 4, 2), (210, .lload 12, 2), (212, .iload 14, 2), (214, .i2l, 1), (215, .ladd, 1), (216, .invokevirtual 694, 3), (219, .i2l, 1), (220, .lor, 1), (221, .lstore 10, 2), (223, .iinc 14 (-1), 3), (226, .goto (-29), 3), (229, .iload_n 2, 1), (230, .bipush 44, 2), (232, .if_icmp .eq 27, 3), (235, .iload_n 2, 1), (236, .bipush 46, 2), (238, .if_icmp .eq 21, 3), (241, .iload_n 2, 1), (242, .bipush 48, 2), (244, .if_icmp .eq 15, 3), (247, .iload_n 2, 1), (248, .bipush 50, 2), (250, .if_icmp .eq 9, 3), (253, .iload_n 2, 1), (254, .bipush 52, 2), (256, .if_icmp .ne 7, 3), (259, .iconst 1, 1), (260, .goto 4, 3), (263, .iconst 0, 1), (264, .istore 14, 2), (266, .aload_n 0, 1), (267, .iload 14, 2), (269, .ifCond .eq 26, 3), (272, .lload 10, 2), (274, .bipush 64, 2), (276, .bipush 8, 2), (278, .iload 9, 2), (280, .imul, 1), (281, .isub, 1), (282, .lshl, 1), (283, .bipush 64, 2), (285, .bipush 8, 2), (287, .iload 9, 2), (289, .imul, 1), (290, .isub, 1), (291, .lshr, 1), (292, .goto 5, 3), (295, .lload 10, 2), (297, .iload 8, 2), (299, .invokevirtual 628, 3), (302, .return_, 1)]
theorem D_M_inMemory : ∀ q ∈ T_M_inMemory, decode b_M_inMemory q.1 = .ok (q.2.1, q.2.2) := by decide +kernel
def w_M_inMemory_L297 (Qr : xb_H → Prop) (x8 : Int32) (y0 : Int64) (y1 : Nat) (h : xb_H) : Prop :=
    xb_k h y1 = 9 ∧ w_M_add y1 y0 x8 h (fun (h2 : xb_H) => xb_ext h h2 → Qr h2)

def w_M_inMemory_L264 (Qr : xb_H → Prop) (x0 : Nat) (x8 : Int32) (x9 : Int32) (x10 : Int64) (y0 : Int32) (h : xb_H) : Prop :=
    ((y0 = (0 : Int32) → w_M_inMemory_L297 Qr x8 x10 x0 h) ∧ (¬ y0 = (0 : Int32) → w_M_inMemory_L297 Qr x8 (xb_lshr (xb_lshl x10 (64 - (8 * x9))) (64 - (8 * x9))) x0 h))

def w_M_inMemory_L259 (Qr : xb_H → Prop) (x0 : Nat) (x8 : Int32) (x9 : Int32) (x10 : Int64) (h : xb_H) : Prop :=
    w_M_inMemory_L264 Qr x0 x8 x9 x10 1 h

def w_M_inMemory_L197 (Qr : xb_H → Prop) : Nat → Nat → Int32 → Int32 → Int32 → Int32 → Int64 → Int64 → Int32 → xb_H → Prop
  | 0, _, _, _, _, _, _, _, _, _ => False
  | n9 + 1, x0, x2, x4, x8, x9, x10, x12, x14, h =>
    ((x14 < (0 : Int32) → ((x2 = (44 : Int32) → w_M_inMemory_L259 Qr x0 x8 x9 x10 h) ∧ (¬ x2 = (44 : Int32) → ((x2 = (46 : Int32) → w_M_inMemory_L259 Qr x0 x8 x9 x10 h) ∧ (¬ x2 = (46 : Int32) → ((x2 = (48 : Int32) → w_M_inMemory_L259 Qr x0 x8 x9 x10 h) ∧ (¬ x2 = (48 : Int32) → ((x2 = (50 : Int32) → w_M_inMemory_L259 Qr x0 x8 x9 x10 h) ∧ (¬ x2 = (50 : Int32) → ((¬ x2 = (52 : Int32) → w_M_inMemory_L264 Qr x0 x8 x9 x10 0 h) ∧ (x2 = (52 : Int32) → w_M_inMemory_L259 Qr x0 x8 x9 x10 h))))))))))) ∧ (¬ x14 < (0 : Int32) → xb_k h x0 = 9 ∧ w_M_byteAt x0 x4 (x12 + (Int32.toInt64 x14)) h (fun (r9 : Int32) (h8 : xb_H) => xb_ext h h8 → ∀ v10 : Int64, v10 = ((xb_lshl x10 8) ||| (Int32.toInt64 r9)) → w_M_inMemory_L197 Qr n9 x0 x2 x4 x8 x9 v10 x12 (x14 + (-1)) h8)))

def w_M_inMemory_L156 (Qr : xb_H → Prop) : Nat → Nat → Int32 → Int32 → Int64 → Int64 → Int32 → xb_H → Prop
  | 0, _, _, _, _, _, _, _ => False
  | n9 + 1, x0, x4, x9, x10, x12, x14, h =>
    ((x9 ≤ x14 → Qr h) ∧ (¬ x9 ≤ x14 → xb_k h x0 = 9 ∧ w_M_storeByte x0 x4 (x12 + (Int32.toInt64 x14)) (Int64.toInt32 (xb_lshr x10 (8 * x14))) h (fun (h3 : xb_H) => xb_ext h h3 → w_M_inMemory_L156 Qr n9 x0 x4 x9 x10 x12 (x14 + 1) h3)))

def w_M_inMemory_L96 (Qr : xb_H → Prop) (x0 : Nat) (x2 : Int32) (x4 : Int32) (x5 : Int64) (x7 : Int32) (x8 : Int32) (x9 : Int32) (y0 : Int64) (h : xb_H) : Prop :=
    xb_k h x0 = 9 ∧ w_M_pop x0 127 h (fun (r3 : Int64) (h2 : xb_H) => xb_ext h h2 → ∀ v4 : Int64, v4 = ((r3 &&& 4294967295) + x5) → ∀ h5 : xb_H, h5 = xb_I h2 x0 15 x7 → ∃ b6 : Nat, (xb_r h5 x0 54) = some b6 ∧ xb_k h5 b6 = 102 ∧ vp_in x4 (xb_n h5 b6) ∧ (((v4 + (Int32.toInt64 x9)) ≤ (65536 * (Int32.toInt64 (xb_i h5 b6 (Int32.toNatClampNeg x4)))) → ((x2 < (54 : Int32) → ∀ v11 : Int32, v11 = (x9 - 1) → (∃ n8 : Nat, w_M_inMemory_L197 Qr n8 x0 x2 x4 x8 x9 y0 v4 v11 h5)) ∧ (¬ x2 < (54 : Int32) → (∃ n8 : Nat, w_M_inMemory_L156 Qr n8 x0 x4 x9 y0 v4 0 h5)))) ∧ (¬ (v4 + (Int32.toInt64 x9)) ≤ (65536 * (Int32.toInt64 (xb_i h5 b6 (Int32.toNatClampNeg x4)))) → ∀ h12 : xb_H, h12 = xb_I h5 x0 82 2 → Qr h12)))

def w_M_inMemory_L36 (Qr : xb_H → Prop) (x0 : Nat) (x2 : Int32) (x3 : Int32) (x4 : Int32) (h : xb_H) : Prop :=
    xb_k h x0 = 9 ∧ w_M_pagesOf x0 x4 x2 h (fun (h2 : xb_H) => xb_ext h h2 → ∀ h4 : xb_H, h4 = xb_I h2 x0 15 (x3 + 1) → Qr h4)

def w_M_inMemory (x0 : Nat) (x1 : Int32) (x2 : Int32) (h : xb_H) (Qr : xb_H → Prop) : Prop :=
    xb_k h x0 = 9 ∧ ∀ v2 : Int32, v2 = (xb_i h x0 15) → w_M_only x0 x1 2 h (fun (r4 : Int32) (h3 : xb_H) => xb_ext h h3 → ∃ b5 : Nat, (xb_r h3 x0 31) = some b5 ∧ xb_k h3 b5 = 102 ∧ vp_in x1 (xb_n h3 b5) ∧ w_M_go x0 (xb_i h3 b5 (Int32.toNatClampNeg x1)) v2 h3 (fun (h8 : xb_H) => xb_ext h3 h8 → ((x2 = (63 : Int32) → w_M_inMemory_L36 Qr x0 x2 v2 r4 h8) ∧ (¬ x2 = (63 : Int32) → ((¬ x2 = (64 : Int32) → w_M_count x0 h8 (fun (r13 : Int64) (h12 : xb_H) => xb_ext h8 h12 → w_M_count x0 h12 (fun (r15 : Int64) (h14 : xb_H) => xb_ext h12 h14 → ∀ v16 : Int32, v16 = (xb_i h14 x0 15) → w_M_accessType x2 h14 (fun (r18 : Int32) (h17 : xb_H) => xb_ext h14 h17 → w_M_accessBytes x2 h17 (fun (r20 : Int32) (h19 : xb_H) => xb_ext h17 h19 → ((x2 < (54 : Int32) → w_M_inMemory_L96 Qr x0 x2 r4 r15 v16 r18 r20 0 h19) ∧ (¬ x2 < (54 : Int32) → w_M_pop x0 r18 h19 (fun (r23 : Int64) (h22 : xb_H) => xb_ext h19 h22 → w_M_inMemory_L96 Qr x0 x2 r4 r15 v16 r18 r20 r23 h22)))))))) ∧ (x2 = (64 : Int32) → w_M_inMemory_L36 Qr x0 x2 v2 r4 h8))))))

set_option maxHeartbeats 4000000 in
set_option maxRecDepth 100000 in
theorem am_M_inMemory_L297 (l : Launch) (hfl : l.flags = pinnedFlags ++ [noTraceFlag]) (D : va_G) (A : Nat → Prop) (σ MC MS : Nat) (h0 : xb_H) (Qr : xb_H → Prop) (x8 : Int32) (y0 : Int64) (y1 : Nat) (h : xb_H) (hw : w_M_inMemory_L297 Qr x8 y0 y1 h) : xb_am l D A σ 10 MC MS h0 (fun v h => v = none ∧ Qr h) (fun _ _ => False) y_M_inMemory.cls y_M_inMemory.name b_M_inMemory 15 ([] : List ExceptionTableEntry) none 297 [(8, .int x8)] [.long y0, .ref y1] h 0 0 := by
  unfold w_M_inMemory_L297 at hw
  intro p e s m args below meth c hC H locs ls k n hE hl hR hS hk hn
  obtain ⟨hx, hb, hown, hlocks, htab, hml, hr, hB, hA, hnm⟩ := id hC
  have hts := hB.1.1.at args
  refine lv_iload hx hb (xb_d D_M_inMemory 165 rfl) (lv_at hl 0 rfl) ?_
  obtain ⟨hk1, hw⟩ := hw
  refine xb_call (D := D) (A := A) (σ := σ) (h := h) (d := 2) (mc := 0) (ms := 0) (maxL := 4) (rest := []) (av := [.ref y1, .long y0, .int x8]) (fun T hT X => by obtain ⟨cb, r1, r2, r3⟩ := xb_recv (ci := 8) hR rfl hk1 (by decide); exact xt_invV X hx hown (hts _ m_1dd22d11) (hts _ m_e8ae1713) (hts _ m_973b740a) (xt_sigOf (hts _ m_a0d5a63e)) nm_M_add (by rw [hT]; exact r1) r2 r3 (g := F0 m 299 ls [.int x8, .long y0, .ref y1]) rfl (argsL := [.long y0, .int x8]) (rest := []) rfl rfl (by rw [hb]; exact (xb_d D_M_inMemory 166 rfl))) (ok_M_add l hfl D A σ y1 y0 x8 h _ hw) (hml.trans hl.1.symm) (by rw [hb]; exact (xb_d D_M_inMemory 166 rfl)) (Nat.le_of_ble_eq_true rfl) (Nat.le_of_ble_eq_true rfl) (Nat.le_of_ble_eq_true rfl) (show k + 0 ≤ MC by omega) (show n + 0 ≤ MS by omega) (xt_w1 hB.1 m_a0d5a63e) (xt_cdOf hB.1 m_a0d5a63e) (hts _ m_d5ed7bed) hB hR hS hA (fun vv h2 H locs hq hEh2 hR hS => ?_) (fun XX ax h2 H locs hq hEh2 hex hR hS => ?_)
  · obtain ⟨rfl, hw⟩ := hq
    have hw := hw hEh2
    have hE := hE.tr hEh2
    refine W.eq (g2 := F0 m 302 ls []) rfl ?_
    exact xb_vret hx hb hr hlocks (show k ≤ MC by omega) (show n ≤ MS by omega) hE hR hS (xb_d D_M_inMemory 167 rfl) hw
  · exact False.elim hq

set_option maxHeartbeats 4000000 in
set_option maxRecDepth 100000 in
theorem am_M_inMemory_L264 (l : Launch) (hfl : l.flags = pinnedFlags ++ [noTraceFlag]) (D : va_G) (A : Nat → Prop) (σ MC MS : Nat) (h0 : xb_H) (Qr : xb_H → Prop) (x0 : Nat) (x8 : Int32) (x9 : Int32) (x10 : Int64) (y0 : Int32) (h : xb_H) (hw : w_M_inMemory_L264 Qr x0 x8 x9 x10 y0 h) : xb_am l D A σ 10 MC MS h0 (fun v h => v = none ∧ Qr h) (fun _ _ => False) y_M_inMemory.cls y_M_inMemory.name b_M_inMemory 15 ([] : List ExceptionTableEntry) none 264 [(0, .ref x0), (8, .int x8), (9, .int x9), (10, .long x10)] [.int y0] h 0 0 := by
  unfold w_M_inMemory_L264 at hw
  intro p e s m args below meth c hC H locs ls k n hE hl hR hS hk hn
  obtain ⟨hx, hb, hown, hlocks, htab, hml, hr, hB, hA, hnm⟩ := id hC
  have hts := hB.1.1.at args
  refine lv_istore hx hb (xb_d D_M_inMemory 146 rfl) hl (by decide) rfl (fun ls hl => ?_)
  have hl : lv_has ls 15 [(14, .int y0), (0, .ref x0), (8, .int x8), (9, .int x9), (10, .long x10)] := hl
  refine lv_aload_n hx hb (xb_d D_M_inMemory 147 rfl) rfl (lv_at hl 1 rfl) ?_
  refine lv_iload hx hb (xb_d D_M_inMemory 148 rfl) (lv_at hl 0 rfl) ?_
  refine lv_if_eq (tgt := 295) hx hb (xb_d D_M_inMemory 149 rfl) rfl (fun hc1 => ?_) (fun hc1 => ?_)
  · have hw := hw.1 hc1
    refine lv_lload hx hb (xb_d D_M_inMemory 164 rfl) (lv_at hl 4 rfl) ?_
    exact am_M_inMemory_L297 l hfl D A σ MC MS h0 Qr x8 x10 x0 h hw p e s m args below meth c hC H locs ls k n hE (lv_sub hl [2] rfl) hR hS (by omega) (by omega)
  · have hw := hw.2 hc1
    refine lv_lload hx hb (xb_d D_M_inMemory 150 rfl) (lv_at hl 4 rfl) ?_
    refine lv_bipush (v := 64) hx hb (xb_d D_M_inMemory 151 rfl) (by decide) ?_
    refine lv_bipush (v := 8) hx hb (xb_d D_M_inMemory 152 rfl) (by decide) ?_
    refine lv_iload hx hb (xb_d D_M_inMemory 153 rfl) (lv_at hl 3 rfl) ?_
    refine lv_imul hx hb (xb_d D_M_inMemory 154 rfl) ?_
    refine lv_isub hx hb (xb_d D_M_inMemory 155 rfl) ?_
    refine lv_lshl (v := (xb_lshl x10 (64 - (8 * x9)))) hx hb (xb_d D_M_inMemory 156 rfl) rfl ?_
    refine lv_bipush (v := 64) hx hb (xb_d D_M_inMemory 157 rfl) (by decide) ?_
    refine lv_bipush (v := 8) hx hb (xb_d D_M_inMemory 158 rfl) (by decide) ?_
    refine lv_iload hx hb (xb_d D_M_inMemory 159 rfl) (lv_at hl 3 rfl) ?_
    refine lv_imul hx hb (xb_d D_M_inMemory 160 rfl) ?_
    refine lv_isub hx hb (xb_d D_M_inMemory 161 rfl) ?_
    refine lv_lshr (v := (xb_lshr (xb_lshl x10 (64 - (8 * x9))) (64 - (8 * x9)))) hx hb (xb_d D_M_inMemory 162 rfl) rfl ?_
    refine lv_goto (tgt := 297) hx hb (xb_d D_M_inMemory 163 rfl) rfl ?_
    exact am_M_inMemory_L297 l hfl D A σ MC MS h0 Qr x8 (xb_lshr (xb_lshl x10 (64 - (8 * x9))) (64 - (8 * x9))) x0 h hw p e s m args below meth c hC H locs ls k n hE (lv_sub hl [2] rfl) hR hS (by omega) (by omega)

set_option maxHeartbeats 4000000 in
set_option maxRecDepth 100000 in
theorem am_M_inMemory_L259 (l : Launch) (hfl : l.flags = pinnedFlags ++ [noTraceFlag]) (D : va_G) (A : Nat → Prop) (σ MC MS : Nat) (h0 : xb_H) (Qr : xb_H → Prop) (x0 : Nat) (x8 : Int32) (x9 : Int32) (x10 : Int64) (h : xb_H) (hw : w_M_inMemory_L259 Qr x0 x8 x9 x10 h) : xb_am l D A σ 10 MC MS h0 (fun v h => v = none ∧ Qr h) (fun _ _ => False) y_M_inMemory.cls y_M_inMemory.name b_M_inMemory 15 ([] : List ExceptionTableEntry) none 259 [(0, .ref x0), (8, .int x8), (9, .int x9), (10, .long x10)] [] h 0 0 := by
  unfold w_M_inMemory_L259 at hw
  intro p e s m args below meth c hC H locs ls k n hE hl hR hS hk hn
  obtain ⟨hx, hb, hown, hlocks, htab, hml, hr, hB, hA, hnm⟩ := id hC
  have hts := hB.1.1.at args
  refine lv_iconst (v := 1) hx hb (xb_d D_M_inMemory 143 rfl) (by decide) ?_
  refine lv_goto (tgt := 264) hx hb (xb_d D_M_inMemory 144 rfl) rfl ?_
  exact am_M_inMemory_L264 l hfl D A σ MC MS h0 Qr x0 x8 x9 x10 1 h hw p e s m args below meth c hC H locs ls k n hE (lv_sub hl [0, 1, 2, 3] rfl) hR hS (by omega) (by omega)

set_option maxHeartbeats 4000000 in
set_option maxRecDepth 100000 in
theorem am_M_inMemory_L197 (l : Launch) (hfl : l.flags = pinnedFlags ++ [noTraceFlag]) (D : va_G) (A : Nat → Prop) (σ MC MS : Nat) (h0 : xb_H) (Qr : xb_H → Prop) (n9 : Nat) : ∀ (x0 : Nat) (x2 : Int32) (x4 : Int32) (x8 : Int32) (x9 : Int32) (x10 : Int64) (x12 : Int64) (x14 : Int32) (h : xb_H), w_M_inMemory_L197 Qr n9 x0 x2 x4 x8 x9 x10 x12 x14 h → xb_am l D A σ 10 MC MS h0 (fun v h => v = none ∧ Qr h) (fun _ _ => False) y_M_inMemory.cls y_M_inMemory.name b_M_inMemory 15 ([] : List ExceptionTableEntry) none 197 [(0, .ref x0), (2, .int x2), (4, .int x4), (8, .int x8), (9, .int x9), (10, .long x10), (12, .long x12), (14, .int x14)] [] h 0 0 := by
  induction n9 with
  | zero => intro x0 x2 x4 x8 x9 x10 x12 x14 h hw; exact False.elim hw
  | succ n9 ih =>
    intro x0 x2 x4 x8 x9 x10 x12 x14 h hw
    unfold w_M_inMemory_L197 at hw
    intro p e s m args below meth c hC H locs ls k n hE hl hR hS hk hn
    obtain ⟨hx, hb, hown, hlocks, htab, hml, hr, hB, hA, hnm⟩ := id hC
    have hts := hB.1.1.at args
    refine lv_iload hx hb (xb_d D_M_inMemory 111 rfl) (lv_at hl 7 rfl) ?_
    refine lv_if_lt (tgt := 229) hx hb (xb_d D_M_inMemory 112 rfl) rfl (fun hc1 => ?_) (fun hc1 => ?_)
    · have hw := hw.1 hc1
      refine lv_iload_n hx hb (xb_d D_M_inMemory 128 rfl) rfl (lv_at hl 1 rfl) ?_
      refine lv_bipush (v := 44) hx hb (xb_d D_M_inMemory 129 rfl) (by decide) ?_
      refine lv_icmp_eq (tgt := 259) hx hb (xb_d D_M_inMemory 130 rfl) rfl (fun hc2 => ?_) (fun hc2 => ?_)
      · have hw := hw.1 hc2
        exact am_M_inMemory_L259 l hfl D A σ MC MS h0 Qr x0 x8 x9 x10 h hw p e s m args below meth c hC H locs ls k n hE (lv_sub hl [0, 3, 4, 5] rfl) hR hS (by omega) (by omega)
      · have hw := hw.2 hc2
        refine lv_iload_n hx hb (xb_d D_M_inMemory 131 rfl) rfl (lv_at hl 1 rfl) ?_
        refine lv_bipush (v := 46) hx hb (xb_d D_M_inMemory 132 rfl) (by decide) ?_
        refine lv_icmp_eq (tgt := 259) hx hb (xb_d D_M_inMemory 133 rfl) rfl (fun hc3 => ?_) (fun hc3 => ?_)
        · have hw := hw.1 hc3
          exact am_M_inMemory_L259 l hfl D A σ MC MS h0 Qr x0 x8 x9 x10 h hw p e s m args below meth c hC H locs ls k n hE (lv_sub hl [0, 3, 4, 5] rfl) hR hS (by omega) (by omega)
        · have hw := hw.2 hc3
          refine lv_iload_n hx hb (xb_d D_M_inMemory 134 rfl) rfl (lv_at hl 1 rfl) ?_
          refine lv_bipush (v := 48) hx hb (xb_d D_M_inMemory 135 rfl) (by decide) ?_
          refine lv_icmp_eq (tgt := 259) hx hb (xb_d D_M_inMemory 136 rfl) rfl (fun hc4 => ?_) (fun hc4 => ?_)
          · have hw := hw.1 hc4
            exact am_M_inMemory_L259 l hfl D A σ MC MS h0 Qr x0 x8 x9 x10 h hw p e s m args below meth c hC H locs ls k n hE (lv_sub hl [0, 3, 4, 5] rfl) hR hS (by omega) (by omega)
          · have hw := hw.2 hc4
            refine lv_iload_n hx hb (xb_d D_M_inMemory 137 rfl) rfl (lv_at hl 1 rfl) ?_
            refine lv_bipush (v := 50) hx hb (xb_d D_M_inMemory 138 rfl) (by decide) ?_
            refine lv_icmp_eq (tgt := 259) hx hb (xb_d D_M_inMemory 139 rfl) rfl (fun hc5 => ?_) (fun hc5 => ?_)
            · have hw := hw.1 hc5
              exact am_M_inMemory_L259 l hfl D A σ MC MS h0 Qr x0 x8 x9 x10 h hw p e s m args below meth c hC H locs ls k n hE (lv_sub hl [0, 3, 4, 5] rfl) hR hS (by omega) (by omega)
            · have hw := hw.2 hc5
              refine lv_iload_n hx hb (xb_d D_M_inMemory 140 rfl) rfl (lv_at hl 1 rfl) ?_
              refine lv_bipush (v := 52) hx hb (xb_d D_M_inMemory 141 rfl) (by decide) ?_
              refine lv_icmp_ne (tgt := 263) hx hb (xb_d D_M_inMemory 142 rfl) rfl (fun hc6 => ?_) (fun hc6 => ?_)
              · have hw := hw.1 hc6
                refine lv_iconst (v := 0) hx hb (xb_d D_M_inMemory 145 rfl) (by decide) ?_
                exact am_M_inMemory_L264 l hfl D A σ MC MS h0 Qr x0 x8 x9 x10 0 h hw p e s m args below meth c hC H locs ls k n hE (lv_sub hl [0, 3, 4, 5] rfl) hR hS (by omega) (by omega)
              · have hw := hw.2 hc6
                exact am_M_inMemory_L259 l hfl D A σ MC MS h0 Qr x0 x8 x9 x10 h hw p e s m args below meth c hC H locs ls k n hE (lv_sub hl [0, 3, 4, 5] rfl) hR hS (by omega) (by omega)
    · have hw := hw.2 hc1
      refine lv_lload hx hb (xb_d D_M_inMemory 113 rfl) (lv_at hl 5 rfl) ?_
      refine lv_bipush (v := 8) hx hb (xb_d D_M_inMemory 114 rfl) (by decide) ?_
      refine lv_lshl (v := (xb_lshl x10 8)) hx hb (xb_d D_M_inMemory 115 rfl) rfl ?_
      refine lv_aload_n hx hb (xb_d D_M_inMemory 116 rfl) rfl (lv_at hl 0 rfl) ?_
      refine lv_iload hx hb (xb_d D_M_inMemory 117 rfl) (lv_at hl 2 rfl) ?_
      refine lv_lload hx hb (xb_d D_M_inMemory 118 rfl) (lv_at hl 6 rfl) ?_
      refine lv_iload hx hb (xb_d D_M_inMemory 119 rfl) (lv_at hl 7 rfl) ?_
      refine lv_i2l hx hb (xb_d D_M_inMemory 120 rfl) rfl ?_
      refine lv_ladd hx hb (xb_d D_M_inMemory 121 rfl) ?_
      obtain ⟨hk7, hw⟩ := hw
      refine xb_call (D := D) (A := A) (σ := σ) (h := h) (d := 3) (mc := 0) (ms := 0) (maxL := 4) (rest := [.long (xb_lshl x10 8)]) (av := [.ref x0, .int x4, .long (x12 + (Int32.toInt64 x14))]) (fun T hT X => by obtain ⟨cb, r1, r2, r3⟩ := xb_recv (ci := 8) hR rfl hk7 (by decide); exact xt_invV X hx hown (hts _ m_7601d8c0) (hts _ m_db427bb0) (hts _ m_43ee10e5) (xt_sigOf (hts _ m_51efdffd)) nm_M_byteAt (by rw [hT]; exact r1) r2 r3 (g := F0 m 216 ls [.long (x12 + (Int32.toInt64 x14)), .int x4, .ref x0, .long (xb_lshl x10 8)]) rfl (argsL := [.int x4, .long (x12 + (Int32.toInt64 x14))]) (rest := [.long (xb_lshl x10 8)]) rfl rfl (by rw [hb]; exact (xb_d D_M_inMemory 122 rfl))) (ok_M_byteAt l hfl D A σ x0 x4 (x12 + (Int32.toInt64 x14)) h _ hw) (hml.trans hl.1.symm) (by rw [hb]; exact (xb_d D_M_inMemory 122 rfl)) (Nat.le_of_ble_eq_true rfl) (Nat.le_of_ble_eq_true rfl) (Nat.le_of_ble_eq_true rfl) (show k + 0 ≤ MC by omega) (show n + 0 ≤ MS by omega) (xt_w1 hB.1 m_51efdffd) (xt_cdOf hB.1 m_51efdffd) (hts _ m_d5ed7bed) hB hR hS hA (fun vv h8 H locs hq hEh8 hR hS => ?_) (fun XX ax h8 H locs hq hEh8 hex hR hS => ?_)
      · obtain ⟨r9, rfl, hw⟩ := hq
        have hw := hw hEh8
        have hE := hE.tr hEh8
        refine W.eq (g2 := F0 m 219 ls [.int r9, .long (xb_lshl x10 8)]) rfl ?_
        refine lv_i2l hx hb (xb_d D_M_inMemory 123 rfl) rfl ?_
        refine lv_lor hx hb (xb_d D_M_inMemory 124 rfl) ?_
        obtain ⟨v10, ev10⟩ : ∃ x : Int64, x = ((xb_lshl x10 8) ||| (Int32.toInt64 r9)) := ⟨_, rfl⟩
        have hw := hw v10 ev10
        refine xt_numl (y := v10) ev10.symm ?_
        refine lv_lstore hx hb (xb_d D_M_inMemory 125 rfl) hl (by decide) rfl (fun ls hl => ?_)
        have hl : lv_has ls 15 [(10, .long v10), (0, .ref x0), (2, .int x2), (4, .int x4), (8, .int x8), (9, .int x9), (12, .long x12), (14, .int x14)] := hl
        refine lv_iinc (v := (x14 + (-1))) (k := 7) hx hb (xb_d D_M_inMemory 126 rfl) hl rfl (by first | rfl | decide) (by decide) rfl (fun ls hl => ?_)
        have hl : lv_has ls 15 [(14, .int (x14 + (-1))), (10, .long v10), (0, .ref x0), (2, .int x2), (4, .int x4), (8, .int x8), (9, .int x9), (12, .long x12)] := hl
        refine lv_goto (tgt := 197) hx hb (xb_d D_M_inMemory 127 rfl) rfl ?_
        exact ih x0 x2 x4 x8 x9 v10 x12 (x14 + (-1)) h8 hw p e s m args below meth c hC H locs ls k n hE (lv_sub hl [2, 3, 4, 5, 6, 1, 7, 0] rfl) hR hS (by omega) (by omega)
      · exact False.elim hq

set_option maxHeartbeats 4000000 in
set_option maxRecDepth 100000 in
theorem am_M_inMemory_L156 (l : Launch) (hfl : l.flags = pinnedFlags ++ [noTraceFlag]) (D : va_G) (A : Nat → Prop) (σ MC MS : Nat) (h0 : xb_H) (Qr : xb_H → Prop) (n9 : Nat) : ∀ (x0 : Nat) (x4 : Int32) (x9 : Int32) (x10 : Int64) (x12 : Int64) (x14 : Int32) (h : xb_H), w_M_inMemory_L156 Qr n9 x0 x4 x9 x10 x12 x14 h → xb_am l D A σ 10 MC MS h0 (fun v h => v = none ∧ Qr h) (fun _ _ => False) y_M_inMemory.cls y_M_inMemory.name b_M_inMemory 15 ([] : List ExceptionTableEntry) none 156 [(0, .ref x0), (4, .int x4), (9, .int x9), (10, .long x10), (12, .long x12), (14, .int x14)] [] h 0 0 := by
  induction n9 with
  | zero => intro x0 x4 x9 x10 x12 x14 h hw; exact False.elim hw
  | succ n9 ih =>
    intro x0 x4 x9 x10 x12 x14 h hw
    unfold w_M_inMemory_L156 at hw
    intro p e s m args below meth c hC H locs ls k n hE hl hR hS hk hn
    obtain ⟨hx, hb, hown, hlocks, htab, hml, hr, hB, hA, hnm⟩ := id hC
    have hts := hB.1.1.at args
    refine lv_iload hx hb (xb_d D_M_inMemory 88 rfl) (lv_at hl 5 rfl) ?_
    refine lv_iload hx hb (xb_d D_M_inMemory 89 rfl) (lv_at hl 2 rfl) ?_
    refine lv_icmp_ge (tgt := 190) hx hb (xb_d D_M_inMemory 90 rfl) rfl (fun hc1 => ?_) (fun hc1 => ?_)
    · have hw := hw.1 hc1
      exact xb_vret hx hb hr hlocks (show k ≤ MC by omega) (show n ≤ MS by omega) hE hR hS (xb_d D_M_inMemory 106 rfl) hw
    · have hw := hw.2 hc1
      refine lv_aload_n hx hb (xb_d D_M_inMemory 91 rfl) rfl (lv_at hl 0 rfl) ?_
      refine lv_iload hx hb (xb_d D_M_inMemory 92 rfl) (lv_at hl 1 rfl) ?_
      refine lv_lload hx hb (xb_d D_M_inMemory 93 rfl) (lv_at hl 4 rfl) ?_
      refine lv_iload hx hb (xb_d D_M_inMemory 94 rfl) (lv_at hl 5 rfl) ?_
      refine lv_i2l hx hb (xb_d D_M_inMemory 95 rfl) rfl ?_
      refine lv_ladd hx hb (xb_d D_M_inMemory 96 rfl) ?_
      refine lv_lload hx hb (xb_d D_M_inMemory 97 rfl) (lv_at hl 3 rfl) ?_
      refine lv_bipush (v := 8) hx hb (xb_d D_M_inMemory 98 rfl) (by decide) ?_
      refine lv_iload hx hb (xb_d D_M_inMemory 99 rfl) (lv_at hl 5 rfl) ?_
      refine lv_imul hx hb (xb_d D_M_inMemory 100 rfl) ?_
      refine lv_lshr (v := (xb_lshr x10 (8 * x14))) hx hb (xb_d D_M_inMemory 101 rfl) rfl ?_
      refine lv_l2i hx hb (xb_d D_M_inMemory 102 rfl) rfl ?_
      obtain ⟨hk2, hw⟩ := hw
      refine xb_call (D := D) (A := A) (σ := σ) (h := h) (d := 3) (mc := 0) (ms := 0) (maxL := 5) (rest := []) (av := [.ref x0, .int x4, .long (x12 + (Int32.toInt64 x14)), .int (Int64.toInt32 (xb_lshr x10 (8 * x14)))]) (fun T hT X => by obtain ⟨cb, r1, r2, r3⟩ := xb_recv (ci := 8) hR rfl hk2 (by decide); exact xt_invV X hx hown (hts _ m_272de6ed) (hts _ m_ac860a0e) (hts _ m_c2d1fdae) (xt_sigOf (hts _ m_cf5c56c3)) nm_M_storeByte (by rw [hT]; exact r1) r2 r3 (g := F0 m 181 ls [.int (Int64.toInt32 (xb_lshr x10 (8 * x14))), .long (x12 + (Int32.toInt64 x14)), .int x4, .ref x0]) rfl (argsL := [.int x4, .long (x12 + (Int32.toInt64 x14)), .int (Int64.toInt32 (xb_lshr x10 (8 * x14)))]) (rest := []) rfl rfl (by rw [hb]; exact (xb_d D_M_inMemory 103 rfl))) (ok_M_storeByte l hfl D A σ x0 x4 (x12 + (Int32.toInt64 x14)) (Int64.toInt32 (xb_lshr x10 (8 * x14))) h _ hw) (hml.trans hl.1.symm) (by rw [hb]; exact (xb_d D_M_inMemory 103 rfl)) (Nat.le_of_ble_eq_true rfl) (Nat.le_of_ble_eq_true rfl) (Nat.le_of_ble_eq_true rfl) (show k + 0 ≤ MC by omega) (show n + 0 ≤ MS by omega) (xt_w1 hB.1 m_cf5c56c3) (xt_cdOf hB.1 m_cf5c56c3) (hts _ m_d5ed7bed) hB hR hS hA (fun vv h3 H locs hq hEh3 hR hS => ?_) (fun XX ax h3 H locs hq hEh3 hex hR hS => ?_)
      · obtain ⟨rfl, hw⟩ := hq
        have hw := hw hEh3
        have hE := hE.tr hEh3
        refine W.eq (g2 := F0 m 184 ls []) rfl ?_
        refine lv_iinc (v := (x14 + 1)) (k := 5) hx hb (xb_d D_M_inMemory 104 rfl) hl rfl (by first | rfl | decide) (by decide) rfl (fun ls hl => ?_)
        have hl : lv_has ls 15 [(14, .int (x14 + 1)), (0, .ref x0), (4, .int x4), (9, .int x9), (10, .long x10), (12, .long x12)] := hl
        refine lv_goto (tgt := 156) hx hb (xb_d D_M_inMemory 105 rfl) rfl ?_
        exact ih x0 x4 x9 x10 x12 (x14 + 1) h3 hw p e s m args below meth c hC H locs ls k n hE (lv_sub hl [1, 2, 3, 4, 5, 0] rfl) hR hS (by omega) (by omega)
      · exact False.elim hq

set_option maxHeartbeats 4000000 in
set_option maxRecDepth 100000 in
theorem am_M_inMemory_L96 (l : Launch) (hfl : l.flags = pinnedFlags ++ [noTraceFlag]) (D : va_G) (A : Nat → Prop) (σ MC MS : Nat) (h0 : xb_H) (Qr : xb_H → Prop) (x0 : Nat) (x2 : Int32) (x4 : Int32) (x5 : Int64) (x7 : Int32) (x8 : Int32) (x9 : Int32) (y0 : Int64) (h : xb_H) (hw : w_M_inMemory_L96 Qr x0 x2 x4 x5 x7 x8 x9 y0 h) : xb_am l D A σ 10 MC MS h0 (fun v h => v = none ∧ Qr h) (fun _ _ => False) y_M_inMemory.cls y_M_inMemory.name b_M_inMemory 15 ([] : List ExceptionTableEntry) none 96 [(0, .ref x0), (2, .int x2), (4, .int x4), (5, .long x5), (7, .int x7), (8, .int x8), (9, .int x9)] [.long y0] h 0 0 := by
  unfold w_M_inMemory_L96 at hw
  intro p e s m args below meth c hC H locs ls k n hE hl hR hS hk hn
  obtain ⟨hx, hb, hown, hlocks, htab, hml, hr, hB, hA, hnm⟩ := id hC
  have hts := hB.1.1.at args
  refine lv_lstore hx hb (xb_d D_M_inMemory 54 rfl) hl (by decide) rfl (fun ls hl => ?_)
  have hl : lv_has ls 15 [(10, .long y0), (0, .ref x0), (2, .int x2), (4, .int x4), (5, .long x5), (7, .int x7), (8, .int x8), (9, .int x9)] := hl
  refine lv_aload_n hx hb (xb_d D_M_inMemory 55 rfl) rfl (lv_at hl 1 rfl) ?_
  refine lv_bipush (v := 127) hx hb (xb_d D_M_inMemory 56 rfl) (by decide) ?_
  obtain ⟨hk1, hw⟩ := hw
  refine xb_call (D := D) (A := A) (σ := σ) (h := h) (d := 2) (mc := 0) (ms := 0) (maxL := 2) (rest := []) (av := [.ref x0, .int 127]) (fun T hT X => by obtain ⟨cb, r1, r2, r3⟩ := xb_recv (ci := 8) hR rfl hk1 (by decide); exact xt_invV X hx hown (hts _ m_ce40dc40) (hts _ m_c3a002b8) (hts _ m_395c99b5) (xt_sigOf (hts _ m_1ea89357)) nm_M_pop (by rw [hT]; exact r1) r2 r3 (g := F0 m 101 ls [.int 127, .ref x0]) rfl (argsL := [.int 127]) (rest := []) rfl rfl (by rw [hb]; exact (xb_d D_M_inMemory 57 rfl))) (ok_M_pop l hfl D A σ x0 127 h _ hw) (hml.trans hl.1.symm) (by rw [hb]; exact (xb_d D_M_inMemory 57 rfl)) (Nat.le_of_ble_eq_true rfl) (Nat.le_of_ble_eq_true rfl) (Nat.le_of_ble_eq_true rfl) (show k + 0 ≤ MC by omega) (show n + 0 ≤ MS by omega) (xt_w1 hB.1 m_1ea89357) (xt_cdOf hB.1 m_1ea89357) (hts _ m_d5ed7bed) hB hR hS hA (fun vv h2 H locs hq hEh2 hR hS => ?_) (fun XX ax h2 H locs hq hEh2 hex hR hS => ?_)
  · obtain ⟨r3, rfl, hw⟩ := hq
    have hw := hw hEh2
    have hE := hE.tr hEh2
    refine W.eq (g2 := F0 m 104 ls [.long r3]) rfl ?_
    refine lv_ldc2 (v := 4294967295) hx hb hown (hts _ m_92d51c6a) (xb_d D_M_inMemory 58 rfl) ?_
    refine lv_land hx hb (xb_d D_M_inMemory 59 rfl) ?_
    refine lv_lload hx hb (xb_d D_M_inMemory 60 rfl) (lv_at hl 4 rfl) ?_
    refine lv_ladd hx hb (xb_d D_M_inMemory 61 rfl) ?_
    obtain ⟨v4, ev4⟩ : ∃ x : Int64, x = ((r3 &&& 4294967295) + x5) := ⟨_, rfl⟩
    have hw := hw v4 ev4
    refine xt_numl (y := v4) ev4.symm ?_
    refine lv_lstore hx hb (xb_d D_M_inMemory 62 rfl) hl (by decide) rfl (fun ls hl => ?_)
    have hl : lv_has ls 15 [(12, .long v4), (10, .long y0), (0, .ref x0), (2, .int x2), (4, .int x4), (5, .long x5), (7, .int x7), (8, .int x8), (9, .int x9)] := hl
    refine lv_aload_n hx hb (xb_d D_M_inMemory 63 rfl) rfl (lv_at hl 2 rfl) ?_
    refine lv_iload hx hb (xb_d D_M_inMemory 64 rfl) (lv_at hl 6 rfl) ?_
    have hk1 : xb_k h2 x0 = 9 := hEh2.k hk1
    refine xb_putI (C := R_M) (T := F_M) (N := 97) (ty := .int) (x := x7) hx hb 8 15 hts fin_M t_M t_M_ok n_M hown hR hS hk1 (by decide) rfl (by decide) rfl (hts _ m_6c2d27ad) (fun _ h9 => h9) rfl (by decide +kernel) rfl rfl (xb_d D_M_inMemory 65 rfl) (fun H locs hR hS => ?_)
    obtain ⟨h5, eh5⟩ : ∃ x : xb_H, x = xb_I h2 x0 15 x7 := ⟨_, rfl⟩
    rw [← eh5] at hR
    have hw := hw h5 eh5
    have hE : xb_ext h0 h5 := by rw [eh5]; exact hE
    refine lv_lload hx hb (xb_d D_M_inMemory 66 rfl) (lv_at hl 0 rfl) ?_
    refine lv_iload hx hb (xb_d D_M_inMemory 67 rfl) (lv_at hl 8 rfl) ?_
    refine lv_i2l hx hb (xb_d D_M_inMemory 68 rfl) rfl ?_
    refine lv_ladd hx hb (xb_d D_M_inMemory 69 rfl) ?_
    refine lv_ldc2 (v := 65536) hx hb hown (hts _ m_4fda1f04) (xb_d D_M_inMemory 70 rfl) ?_
    refine lv_aload_n hx hb (xb_d D_M_inMemory 71 rfl) rfl (lv_at hl 2 rfl) ?_
    have hk1 : xb_k h5 x0 = 9 := by rw [eh5]; exact hk1
    refine xb_getP (C := R_M) (T := F_M) (N := 97) hx hb 8 54 hts fin_M hown hR hk1 (by decide) rfl (by decide) rfl (hts _ m_605483d9) (fun _ h9 => h9) (xb_d D_M_inMemory 72 rfl) ?_
    obtain ⟨b6, eb6, hw⟩ := hw
    refine xb_some eb6 ?_
    refine lv_iload hx hb (xb_d D_M_inMemory 73 rfl) (lv_at hl 4 rfl) ?_
    obtain ⟨hk8, hw⟩ := hw
    obtain ⟨hi7, hw⟩ := hw
    refine xb_iald hx hb hR hk8 hi7 (xb_d D_M_inMemory 74 rfl) ?_
    refine lv_i2l hx hb (xb_d D_M_inMemory 75 rfl) rfl ?_
    refine lv_lmul hx hb (xb_d D_M_inMemory 76 rfl) ?_
    refine xb_lc_le (tgt := 147) hx hb (xb_d D_M_inMemory 77 rfl) (xb_d D_M_inMemory 78 rfl) rfl (fun hc9 => ?_) (fun hc9 => ?_)
    · have hw := hw.1 hc9
      refine lv_iload_n hx hb (xb_d D_M_inMemory 83 rfl) rfl (lv_at hl 3 rfl) ?_
      refine lv_bipush (v := 54) hx hb (xb_d D_M_inMemory 84 rfl) (by decide) ?_
      refine lv_icmp_lt (tgt := 191) hx hb (xb_d D_M_inMemory 85 rfl) rfl (fun hc10 => ?_) (fun hc10 => ?_)
      · have hw := hw.1 hc10
        refine lv_iload hx hb (xb_d D_M_inMemory 107 rfl) (lv_at hl 8 rfl) ?_
        refine lv_iconst (v := 1) hx hb (xb_d D_M_inMemory 108 rfl) (by decide) ?_
        refine lv_isub hx hb (xb_d D_M_inMemory 109 rfl) ?_
        obtain ⟨v11, ev11⟩ : ∃ x : Int32, x = (x9 - 1) := ⟨_, rfl⟩
        have hw := hw v11 ev11
        refine xt_numi (y := v11) ev11.symm ?_
        refine lv_istore hx hb (xb_d D_M_inMemory 110 rfl) hl (by decide) rfl (fun ls hl => ?_)
        have hl : lv_has ls 15 [(14, .int v11), (12, .long v4), (10, .long y0), (0, .ref x0), (2, .int x2), (4, .int x4), (5, .long x5), (7, .int x7), (8, .int x8), (9, .int x9)] := hl
        obtain ⟨n8, hw⟩ := hw
        exact am_M_inMemory_L197 l hfl D A σ MC MS h0 Qr n8 x0 x2 x4 x8 x9 y0 v4 v11 h5 hw p e s m args below meth c hC H locs ls k n hE (lv_sub hl [3, 4, 5, 8, 9, 2, 1, 0] rfl) hR hS (by omega) (by omega)
      · have hw := hw.2 hc10
        refine lv_iconst (v := 0) hx hb (xb_d D_M_inMemory 86 rfl) (by decide) ?_
        refine lv_istore hx hb (xb_d D_M_inMemory 87 rfl) hl (by decide) rfl (fun ls hl => ?_)
        have hl : lv_has ls 15 [(14, .int 0), (12, .long v4), (10, .long y0), (0, .ref x0), (2, .int x2), (4, .int x4), (5, .long x5), (7, .int x7), (8, .int x8), (9, .int x9)] := hl
        obtain ⟨n8, hw⟩ := hw
        exact am_M_inMemory_L156 l hfl D A σ MC MS h0 Qr n8 x0 x4 x9 y0 v4 0 h5 hw p e s m args below meth c hC H locs ls k n hE (lv_sub hl [3, 5, 9, 2, 1, 0] rfl) hR hS (by omega) (by omega)
    · have hw := hw.2 hc9
      refine lv_aload_n hx hb (xb_d D_M_inMemory 79 rfl) rfl (lv_at hl 2 rfl) ?_
      refine lv_iconst (v := 2) hx hb (xb_d D_M_inMemory 80 rfl) (by decide) ?_
      refine xb_putI (C := R_M) (T := F_M) (N := 97) (ty := .int) (x := 2) hx hb 8 82 hts fin_M t_M t_M_ok n_M hown hR hS hk1 (by decide) rfl (by decide) rfl (hts _ m_ad343437) (fun _ h9 => h9) rfl (by decide +kernel) rfl rfl (xb_d D_M_inMemory 81 rfl) (fun H locs hR hS => ?_)
      obtain ⟨h12, eh12⟩ : ∃ x : xb_H, x = xb_I h5 x0 82 2 := ⟨_, rfl⟩
      rw [← eh12] at hR
      have hw := hw h12 eh12
      have hE : xb_ext h0 h12 := by rw [eh12]; exact hE
      exact xb_vret hx hb hr hlocks (show k ≤ MC by omega) (show n ≤ MS by omega) hE hR hS (xb_d D_M_inMemory 82 rfl) hw
  · exact False.elim hq

set_option maxHeartbeats 4000000 in
set_option maxRecDepth 100000 in
theorem am_M_inMemory_L36 (l : Launch) (hfl : l.flags = pinnedFlags ++ [noTraceFlag]) (D : va_G) (A : Nat → Prop) (σ MC MS : Nat) (h0 : xb_H) (Qr : xb_H → Prop) (x0 : Nat) (x2 : Int32) (x3 : Int32) (x4 : Int32) (h : xb_H) (hw : w_M_inMemory_L36 Qr x0 x2 x3 x4 h) : xb_am l D A σ 10 MC MS h0 (fun v h => v = none ∧ Qr h) (fun _ _ => False) y_M_inMemory.cls y_M_inMemory.name b_M_inMemory 15 ([] : List ExceptionTableEntry) none 36 [(0, .ref x0), (2, .int x2), (3, .int x3), (4, .int x4)] [] h 0 0 := by
  unfold w_M_inMemory_L36 at hw
  intro p e s m args below meth c hC H locs ls k n hE hl hR hS hk hn
  obtain ⟨hx, hb, hown, hlocks, htab, hml, hr, hB, hA, hnm⟩ := id hC
  have hts := hB.1.1.at args
  refine lv_aload_n hx hb (xb_d D_M_inMemory 21 rfl) rfl (lv_at hl 0 rfl) ?_
  refine lv_iload hx hb (xb_d D_M_inMemory 22 rfl) (lv_at hl 3 rfl) ?_
  refine lv_iload_n hx hb (xb_d D_M_inMemory 23 rfl) rfl (lv_at hl 1 rfl) ?_
  obtain ⟨hk1, hw⟩ := hw
  refine xb_call (D := D) (A := A) (σ := σ) (h := h) (d := 3) (mc := 0) (ms := 0) (maxL := 10) (rest := []) (av := [.ref x0, .int x4, .int x2]) (fun T hT X => by obtain ⟨cb, r1, r2, r3⟩ := xb_recv (ci := 8) hR rfl hk1 (by decide); exact xt_invV X hx hown (hts _ m_f1c64150) (hts _ m_314237fa) (hts _ m_71118831) (xt_sigOf (hts _ m_91172b07)) nm_M_pagesOf (by rw [hT]; exact r1) r2 r3 (g := F0 m 40 ls [.int x2, .int x4, .ref x0]) rfl (argsL := [.int x4, .int x2]) (rest := []) rfl rfl (by rw [hb]; exact (xb_d D_M_inMemory 24 rfl))) (ok_M_pagesOf l hfl D A σ x0 x4 x2 h _ hw) (hml.trans hl.1.symm) (by rw [hb]; exact (xb_d D_M_inMemory 24 rfl)) (Nat.le_of_ble_eq_true rfl) (Nat.le_of_ble_eq_true rfl) (Nat.le_of_ble_eq_true rfl) (show k + 0 ≤ MC by omega) (show n + 0 ≤ MS by omega) (xt_w1 hB.1 m_91172b07) (xt_cdOf hB.1 m_91172b07) (hts _ m_d5ed7bed) hB hR hS hA (fun vv h2 H locs hq hEh2 hR hS => ?_) (fun XX ax h2 H locs hq hEh2 hex hR hS => ?_)
  · obtain ⟨rfl, hw⟩ := hq
    have hw := hw hEh2
    have hE := hE.tr hEh2
    refine W.eq (g2 := F0 m 43 ls []) rfl ?_
    refine lv_aload_n hx hb (xb_d D_M_inMemory 25 rfl) rfl (lv_at hl 0 rfl) ?_
    refine lv_iload_n hx hb (xb_d D_M_inMemory 26 rfl) rfl (lv_at hl 2 rfl) ?_
    refine lv_iconst (v := 1) hx hb (xb_d D_M_inMemory 27 rfl) (by decide) ?_
    refine lv_iadd hx hb (xb_d D_M_inMemory 28 rfl) ?_
    have hk1 : xb_k h2 x0 = 9 := hEh2.k hk1
    refine xb_putI (C := R_M) (T := F_M) (N := 97) (ty := .int) (x := (x3 + 1)) hx hb 8 15 hts fin_M t_M t_M_ok n_M hown hR hS hk1 (by decide) rfl (by decide) rfl (hts _ m_6c2d27ad) (fun _ h9 => h9) rfl (by decide +kernel) rfl rfl (xb_d D_M_inMemory 29 rfl) (fun H locs hR hS => ?_)
    obtain ⟨h4, eh4⟩ : ∃ x : xb_H, x = xb_I h2 x0 15 (x3 + 1) := ⟨_, rfl⟩
    rw [← eh4] at hR
    have hw := hw h4 eh4
    have hE : xb_ext h0 h4 := by rw [eh4]; exact hE
    exact xb_vret hx hb hr hlocks (show k ≤ MC by omega) (show n ≤ MS by omega) hE hR hS (xb_d D_M_inMemory 30 rfl) hw
  · exact False.elim hq

set_option maxHeartbeats 4000000 in
set_option maxRecDepth 100000 in
theorem ok_M_inMemory (l : Launch) (hfl : l.flags = pinnedFlags ++ [noTraceFlag]) (D : va_G) (A : Nat → Prop) (σ : Nat) (x0 : Nat) (x1 : Int32) (x2 : Int32) (h : xb_H) (Qr : xb_H → Prop) (hw : w_M_inMemory x0 x1 x2 h Qr) : xt_Met l y_M_inMemory [.code y_M_inMemory b_M_inMemory 15 none] (xb_rm 10 0 0) (xb_Pc D A σ h [.ref x0, .int x1, .int x2]) (xb_Qc D A h (fun v h => v = none ∧ Qr h) (fun _ _ => False)) 0 0 A := by
  refine xb_ofAm (cc := b_M_inMemory) (by decide) (Nat.le_of_ble_eq_true rfl) ?_
  unfold w_M_inMemory at hw
  show xb_am l D A σ 10 0 0 h (fun v h => v = none ∧ Qr h) (fun _ _ => False) y_M_inMemory.cls y_M_inMemory.name b_M_inMemory 15 ([] : List ExceptionTableEntry) none 0 [(0, .ref x0), (1, .int x1), (2, .int x2)] [] h 0 0
  obtain ⟨MC, hMC⟩ : ∃ x, x = 0 := ⟨_, rfl⟩
  obtain ⟨MS, hMS⟩ : ∃ x, x = 0 := ⟨_, rfl⟩
  rw [show xb_am l D A σ 10 0 0 = xb_am l D A σ 10 MC MS by rw [hMC, hMS]]
  obtain ⟨h0, hh0⟩ : ∃ x, x = h := ⟨_, rfl⟩
  rw [show xb_am l D A σ 10 MC MS h = xb_am l D A σ 10 MC MS h0 by rw [hh0]]
  intro p e s m args below meth c hC H locs ls k n hE hl hR hS hk hn
  obtain ⟨hx, hb, hown, hlocks, htab, hml, hr, hB, hA, hnm⟩ := id hC
  have hts := hB.1.1.at args
  refine lv_aload_n hx hb (xb_d D_M_inMemory 0 rfl) rfl (lv_at hl 0 rfl) ?_
  obtain ⟨hk1, hw⟩ := hw
  refine xb_getI (C := R_M) (T := F_M) (N := 97) hx hb 8 15 hts fin_M hown hR hk1 (by decide) rfl (by decide) rfl (hts _ m_6c2d27ad) (fun _ h9 => h9) (xb_d D_M_inMemory 1 rfl) ?_
  obtain ⟨v2, ev2⟩ : ∃ x : Int32, x = (xb_i h x0 15) := ⟨_, rfl⟩
  have hw := hw v2 ev2
  refine xt_numi (y := v2) ev2.symm ?_
  refine lv_istore_n hx hb (xb_d D_M_inMemory 2 rfl) rfl hl (by decide) rfl (fun ls hl => ?_)
  have hl : lv_has ls 15 [(3, .int v2), (0, .ref x0), (1, .int x1), (2, .int x2)] := hl
  refine lv_aload_n hx hb (xb_d D_M_inMemory 3 rfl) rfl (lv_at hl 1 rfl) ?_
  refine lv_iload_n hx hb (xb_d D_M_inMemory 4 rfl) rfl (lv_at hl 2 rfl) ?_
  refine lv_iconst (v := 2) hx hb (xb_d D_M_inMemory 5 rfl) (by decide) ?_
  refine xb_call (D := D) (A := A) (σ := σ) (h := h) (d := 9) (mc := 0) (ms := 0) (maxL := 3) (rest := []) (av := [.ref x0, .int x1, .int 2]) (fun T hT X => by obtain ⟨cb, r1, r2, r3⟩ := xb_recv (ci := 8) hR rfl hk1 (by decide); exact xt_invV X hx hown (hts _ m_392cec72) (hts _ m_982c4770) (hts _ m_e18e99cc) (xt_sigOf (hts _ m_3f9e55aa)) nm_M_only (by rw [hT]; exact r1) r2 r3 (g := F0 m 8 ls [.int 2, .int x1, .ref x0]) rfl (argsL := [.int x1, .int 2]) (rest := []) rfl rfl (by rw [hb]; exact (xb_d D_M_inMemory 6 rfl))) (ok_M_only l hfl D A σ x0 x1 2 h _ hw) (hml.trans hl.1.symm) (by rw [hb]; exact (xb_d D_M_inMemory 6 rfl)) (Nat.le_of_ble_eq_true rfl) (Nat.le_of_ble_eq_true rfl) (Nat.le_of_ble_eq_true rfl) (show k + 0 ≤ MC by omega) (show n + 0 ≤ MS by omega) (xt_w1 hB.1 m_3f9e55aa) (xt_cdOf hB.1 m_3f9e55aa) (hts _ m_d5ed7bed) hB hR hS hA (fun vv h3 H locs hq hEh3 hR hS => ?_) (fun XX ax h3 H locs hq hEh3 hex hR hS => ?_)
  · obtain ⟨r4, rfl, hw⟩ := hq
    have hw := hw hEh3
    have hE := hE.tr hEh3
    refine W.eq (g2 := F0 m 11 ls [.int r4]) rfl ?_
    refine lv_istore hx hb (xb_d D_M_inMemory 7 rfl) hl (by decide) rfl (fun ls hl => ?_)
    have hl : lv_has ls 15 [(4, .int r4), (3, .int v2), (0, .ref x0), (1, .int x1), (2, .int x2)] := hl
    refine lv_aload_n hx hb (xb_d D_M_inMemory 8 rfl) rfl (lv_at hl 2 rfl) ?_
    refine lv_aload_n hx hb (xb_d D_M_inMemory 9 rfl) rfl (lv_at hl 2 rfl) ?_
    have hk1 : xb_k h3 x0 = 9 := hEh3.k hk1
    refine xb_getP (C := R_M) (T := F_M) (N := 97) hx hb 8 31 hts fin_M hown hR hk1 (by decide) rfl (by decide) rfl (hts _ m_691d5f47) (fun _ h9 => h9) (xb_d D_M_inMemory 10 rfl) ?_
    obtain ⟨b5, eb5, hw⟩ := hw
    refine xb_some eb5 ?_
    refine lv_iload_n hx hb (xb_d D_M_inMemory 11 rfl) rfl (lv_at hl 3 rfl) ?_
    obtain ⟨hk7, hw⟩ := hw
    obtain ⟨hi6, hw⟩ := hw
    refine xb_iald hx hb hR hk7 hi6 (xb_d D_M_inMemory 12 rfl) ?_
    refine lv_iload_n hx hb (xb_d D_M_inMemory 13 rfl) rfl (lv_at hl 1 rfl) ?_
    refine xb_call (D := D) (A := A) (σ := σ) (h := h3) (d := 2) (mc := 0) (ms := 0) (maxL := 3) (rest := []) (av := [.ref x0, .int (xb_i h3 b5 (Int32.toNatClampNeg x1)), .int v2]) (fun T hT X => by obtain ⟨cb, r1, r2, r3⟩ := xb_recv (ci := 8) hR rfl hk1 (by decide); exact xt_invV X hx hown (hts _ m_bb531879) (hts _ m_4a6cd4a0) (hts _ m_d1c31e3c) (xt_sigOf (hts _ m_48217fba)) nm_M_go (by rw [hT]; exact r1) r2 r3 (g := F0 m 21 ls [.int v2, .int (xb_i h3 b5 (Int32.toNatClampNeg x1)), .ref x0]) rfl (argsL := [.int (xb_i h3 b5 (Int32.toNatClampNeg x1)), .int v2]) (rest := []) rfl rfl (by rw [hb]; exact (xb_d D_M_inMemory 14 rfl))) (ok_M_go l hfl D A σ x0 (xb_i h3 b5 (Int32.toNatClampNeg x1)) v2 h3 _ hw) (hml.trans hl.1.symm) (by rw [hb]; exact (xb_d D_M_inMemory 14 rfl)) (Nat.le_of_ble_eq_true rfl) (Nat.le_of_ble_eq_true rfl) (Nat.le_of_ble_eq_true rfl) (show k + 0 ≤ MC by omega) (show n + 0 ≤ MS by omega) (xt_w1 hB.1 m_48217fba) (xt_cdOf hB.1 m_48217fba) (hts _ m_d5ed7bed) hB hR hS hA (fun vv h8 H locs hq hEh8 hR hS => ?_) (fun XX ax h8 H locs hq hEh8 hex hR hS => ?_)
    · obtain ⟨rfl, hw⟩ := hq
      have hw := hw hEh8
      have hE := hE.tr hEh8
      refine W.eq (g2 := F0 m 24 ls []) rfl ?_
      refine lv_iload_n hx hb (xb_d D_M_inMemory 15 rfl) rfl (lv_at hl 4 rfl) ?_
      refine lv_bipush (v := 63) hx hb (xb_d D_M_inMemory 16 rfl) (by decide) ?_
      refine lv_icmp_eq (tgt := 36) hx hb (xb_d D_M_inMemory 17 rfl) rfl (fun hc10 => ?_) (fun hc10 => ?_)
      · have hw := hw.1 hc10
        exact am_M_inMemory_L36 l hfl D A σ MC MS h0 Qr x0 x2 v2 r4 h8 hw p e s m args below meth c hC H locs ls k n hE (lv_sub hl [2, 4, 1, 0] rfl) hR hS (by omega) (by omega)
      · have hw := hw.2 hc10
        refine lv_iload_n hx hb (xb_d D_M_inMemory 18 rfl) rfl (lv_at hl 4 rfl) ?_
        refine lv_bipush (v := 64) hx hb (xb_d D_M_inMemory 19 rfl) (by decide) ?_
        refine lv_icmp_ne (tgt := 51) hx hb (xb_d D_M_inMemory 20 rfl) rfl (fun hc11 => ?_) (fun hc11 => ?_)
        · have hw := hw.1 hc11
          refine lv_aload_n hx hb (xb_d D_M_inMemory 31 rfl) rfl (lv_at hl 2 rfl) ?_
          have hk1 : xb_k h8 x0 = 9 := hEh8.k hk1
          refine xb_call (D := D) (A := A) (σ := σ) (h := h8) (d := 4) (mc := 0) (ms := 0) (maxL := 5) (rest := []) (av := [.ref x0]) (fun T hT X => by obtain ⟨cb, r1, r2, r3⟩ := xb_recv (ci := 8) hR rfl hk1 (by decide); exact xt_invV X hx hown (hts _ m_e991293f) (hts _ m_385a74b3) (hts _ m_c9fbcd02) (xt_sigOf (hts _ m_1f53f210)) nm_M_count (by rw [hT]; exact r1) r2 r3 (g := F0 m 52 ls [.ref x0]) rfl (argsL := []) (rest := []) rfl rfl (by rw [hb]; exact (xb_d D_M_inMemory 32 rfl))) (ok_M_count l hfl D A σ x0 h8 _ hw) (hml.trans hl.1.symm) (by rw [hb]; exact (xb_d D_M_inMemory 32 rfl)) (Nat.le_of_ble_eq_true rfl) (Nat.le_of_ble_eq_true rfl) (Nat.le_of_ble_eq_true rfl) (show k + 0 ≤ MC by omega) (show n + 0 ≤ MS by omega) (xt_w1 hB.1 m_1f53f210) (xt_cdOf hB.1 m_1f53f210) (hts _ m_d5ed7bed) hB hR hS hA (fun vv h12 H locs hq hEh12 hR hS => ?_) (fun XX ax h12 H locs hq hEh12 hex hR hS => ?_)
          · obtain ⟨r13, rfl, hw⟩ := hq
            have hw := hw hEh12
            have hE := hE.tr hEh12
            refine W.eq (g2 := F0 m 55 ls [.long r13]) rfl ?_
            refine lv_pop2_2 hx hb (xb_d D_M_inMemory 33 rfl) rfl ?_
            refine lv_aload_n hx hb (xb_d D_M_inMemory 34 rfl) rfl (lv_at hl 2 rfl) ?_
            have hk1 : xb_k h12 x0 = 9 := hEh12.k hk1
            refine xb_call (D := D) (A := A) (σ := σ) (h := h12) (d := 4) (mc := 0) (ms := 0) (maxL := 5) (rest := []) (av := [.ref x0]) (fun T hT X => by obtain ⟨cb, r1, r2, r3⟩ := xb_recv (ci := 8) hR rfl hk1 (by decide); exact xt_invV X hx hown (hts _ m_e991293f) (hts _ m_385a74b3) (hts _ m_c9fbcd02) (xt_sigOf (hts _ m_1f53f210)) nm_M_count (by rw [hT]; exact r1) r2 r3 (g := F0 m 57 ls [.ref x0]) rfl (argsL := []) (rest := []) rfl rfl (by rw [hb]; exact (xb_d D_M_inMemory 35 rfl))) (ok_M_count l hfl D A σ x0 h12 _ hw) (hml.trans hl.1.symm) (by rw [hb]; exact (xb_d D_M_inMemory 35 rfl)) (Nat.le_of_ble_eq_true rfl) (Nat.le_of_ble_eq_true rfl) (Nat.le_of_ble_eq_true rfl) (show k + 0 ≤ MC by omega) (show n + 0 ≤ MS by omega) (xt_w1 hB.1 m_1f53f210) (xt_cdOf hB.1 m_1f53f210) (hts _ m_d5ed7bed) hB hR hS hA (fun vv h14 H locs hq hEh14 hR hS => ?_) (fun XX ax h14 H locs hq hEh14 hex hR hS => ?_)
            · obtain ⟨r15, rfl, hw⟩ := hq
              have hw := hw hEh14
              have hE := hE.tr hEh14
              refine W.eq (g2 := F0 m 60 ls [.long r15]) rfl ?_
              refine lv_lstore hx hb (xb_d D_M_inMemory 36 rfl) hl (by decide) rfl (fun ls hl => ?_)
              have hl : lv_has ls 15 [(5, .long r15), (4, .int r4), (3, .int v2), (0, .ref x0), (1, .int x1), (2, .int x2)] := hl
              refine lv_aload_n hx hb (xb_d D_M_inMemory 37 rfl) rfl (lv_at hl 3 rfl) ?_
              have hk1 : xb_k h14 x0 = 9 := hEh14.k hk1
              refine xb_getI (C := R_M) (T := F_M) (N := 97) hx hb 8 15 hts fin_M hown hR hk1 (by decide) rfl (by decide) rfl (hts _ m_6c2d27ad) (fun _ h9 => h9) (xb_d D_M_inMemory 38 rfl) ?_
              obtain ⟨v16, ev16⟩ : ∃ x : Int32, x = (xb_i h14 x0 15) := ⟨_, rfl⟩
              have hw := hw v16 ev16
              refine xt_numi (y := v16) ev16.symm ?_
              refine lv_istore hx hb (xb_d D_M_inMemory 39 rfl) hl (by decide) rfl (fun ls hl => ?_)
              have hl : lv_has ls 15 [(7, .int v16), (5, .long r15), (4, .int r4), (3, .int v2), (0, .ref x0), (1, .int x1), (2, .int x2)] := hl
              refine lv_iload_n hx hb (xb_d D_M_inMemory 40 rfl) rfl (lv_at hl 6 rfl) ?_
              refine xb_call (D := D) (A := A) (σ := σ) (h := h14) (d := 2) (mc := 0) (ms := 0) (maxL := 1) (rest := []) (av := [.int x2]) (fun T hT X => xt_invS X hx hown (hts _ m_d78a8c8d) (hts _ m_85263add) (hts _ m_d5ed7bed) (xt_sgS (hts _ m_fe1b6fac)).1 (xt_sgS (hts _ m_fe1b6fac)).2 nm_M_accessType (g := F0 m 69 ls [.int x2]) rfl (argsL := [.int x2]) (rest := []) rfl rfl (by rw [hb]; exact (xb_d D_M_inMemory 41 rfl))) (ok_M_accessType l hfl D A σ x2 h14 _ hw) (hml.trans hl.1.symm) (by rw [hb]; exact (xb_d D_M_inMemory 41 rfl)) (Nat.le_of_ble_eq_true rfl) (Nat.le_of_ble_eq_true rfl) (Nat.le_of_ble_eq_true rfl) (show k + 0 ≤ MC by omega) (show n + 0 ≤ MS by omega) (xt_w1 hB.1 m_fe1b6fac) (xt_cdOf hB.1 m_fe1b6fac) (hts _ m_d5ed7bed) hB hR hS hA (fun vv h17 H locs hq hEh17 hR hS => ?_) (fun XX ax h17 H locs hq hEh17 hex hR hS => ?_)
              · obtain ⟨r18, rfl, hw⟩ := hq
                have hw := hw hEh17
                have hE := hE.tr hEh17
                refine W.eq (g2 := F0 m 72 ls [.int r18]) rfl ?_
                refine lv_istore hx hb (xb_d D_M_inMemory 42 rfl) hl (by decide) rfl (fun ls hl => ?_)
                have hl : lv_has ls 15 [(8, .int r18), (7, .int v16), (5, .long r15), (4, .int r4), (3, .int v2), (0, .ref x0), (1, .int x1), (2, .int x2)] := hl
                refine lv_iload_n hx hb (xb_d D_M_inMemory 43 rfl) rfl (lv_at hl 7 rfl) ?_
                refine xb_call (D := D) (A := A) (σ := σ) (h := h17) (d := 2) (mc := 0) (ms := 0) (maxL := 1) (rest := []) (av := [.int x2]) (fun T hT X => xt_invS X hx hown (hts _ m_b1b0175f) (hts _ m_e7cc7e3c) (hts _ m_d5ed7bed) (xt_sgS (hts _ m_06c53581)).1 (xt_sgS (hts _ m_06c53581)).2 nm_M_accessBytes (g := F0 m 75 ls [.int x2]) rfl (argsL := [.int x2]) (rest := []) rfl rfl (by rw [hb]; exact (xb_d D_M_inMemory 44 rfl))) (ok_M_accessBytes l hfl D A σ x2 h17 _ hw) (hml.trans hl.1.symm) (by rw [hb]; exact (xb_d D_M_inMemory 44 rfl)) (Nat.le_of_ble_eq_true rfl) (Nat.le_of_ble_eq_true rfl) (Nat.le_of_ble_eq_true rfl) (show k + 0 ≤ MC by omega) (show n + 0 ≤ MS by omega) (xt_w1 hB.1 m_06c53581) (xt_cdOf hB.1 m_06c53581) (hts _ m_d5ed7bed) hB hR hS hA (fun vv h19 H locs hq hEh19 hR hS => ?_) (fun XX ax h19 H locs hq hEh19 hex hR hS => ?_)
                · obtain ⟨r20, rfl, hw⟩ := hq
                  have hw := hw hEh19
                  have hE := hE.tr hEh19
                  refine W.eq (g2 := F0 m 78 ls [.int r20]) rfl ?_
                  refine lv_istore hx hb (xb_d D_M_inMemory 45 rfl) hl (by decide) rfl (fun ls hl => ?_)
                  have hl : lv_has ls 15 [(9, .int r20), (8, .int r18), (7, .int v16), (5, .long r15), (4, .int r4), (3, .int v2), (0, .ref x0), (1, .int x1), (2, .int x2)] := hl
                  refine lv_iload_n hx hb (xb_d D_M_inMemory 46 rfl) rfl (lv_at hl 8 rfl) ?_
                  refine lv_bipush (v := 54) hx hb (xb_d D_M_inMemory 47 rfl) (by decide) ?_
                  refine lv_icmp_lt (tgt := 95) hx hb (xb_d D_M_inMemory 48 rfl) rfl (fun hc21 => ?_) (fun hc21 => ?_)
                  · have hw := hw.1 hc21
                    refine lv_lconst (v := 0) hx hb (xb_d D_M_inMemory 53 rfl) (by decide) ?_
                    exact am_M_inMemory_L96 l hfl D A σ MC MS h0 Qr x0 x2 r4 r15 v16 r18 r20 0 h19 hw p e s m args below meth c hC H locs ls k n hE (lv_sub hl [6, 8, 4, 3, 2, 1, 0] rfl) hR hS (by omega) (by omega)
                  · have hw := hw.2 hc21
                    refine lv_aload_n hx hb (xb_d D_M_inMemory 49 rfl) rfl (lv_at hl 6 rfl) ?_
                    refine lv_iload hx hb (xb_d D_M_inMemory 50 rfl) (lv_at hl 1 rfl) ?_
                    have hk1 : xb_k h17 x0 = 9 := hEh17.k hk1
                    have hk1 : xb_k h19 x0 = 9 := hEh19.k hk1
                    refine xb_call (D := D) (A := A) (σ := σ) (h := h19) (d := 2) (mc := 0) (ms := 0) (maxL := 2) (rest := []) (av := [.ref x0, .int r18]) (fun T hT X => by obtain ⟨cb, r1, r2, r3⟩ := xb_recv (ci := 8) hR rfl hk1 (by decide); exact xt_invV X hx hown (hts _ m_ce40dc40) (hts _ m_c3a002b8) (hts _ m_395c99b5) (xt_sigOf (hts _ m_1ea89357)) nm_M_pop (by rw [hT]; exact r1) r2 r3 (g := F0 m 89 ls [.int r18, .ref x0]) rfl (argsL := [.int r18]) (rest := []) rfl rfl (by rw [hb]; exact (xb_d D_M_inMemory 51 rfl))) (ok_M_pop l hfl D A σ x0 r18 h19 _ hw) (hml.trans hl.1.symm) (by rw [hb]; exact (xb_d D_M_inMemory 51 rfl)) (Nat.le_of_ble_eq_true rfl) (Nat.le_of_ble_eq_true rfl) (Nat.le_of_ble_eq_true rfl) (show k + 0 ≤ MC by omega) (show n + 0 ≤ MS by omega) (xt_w1 hB.1 m_1ea89357) (xt_cdOf hB.1 m_1ea89357) (hts _ m_d5ed7bed) hB hR hS hA (fun vv h22 H locs hq hEh22 hR hS => ?_) (fun XX ax h22 H locs hq hEh22 hex hR hS => ?_)
                    · obtain ⟨r23, rfl, hw⟩ := hq
                      have hw := hw hEh22
                      have hE := hE.tr hEh22
                      refine W.eq (g2 := F0 m 92 ls [.long r23]) rfl ?_
                      refine lv_goto (tgt := 96) hx hb (xb_d D_M_inMemory 52 rfl) rfl ?_
                      exact am_M_inMemory_L96 l hfl D A σ MC MS h0 Qr x0 x2 r4 r15 v16 r18 r20 r23 h22 hw p e s m args below meth c hC H locs ls k n hE (lv_sub hl [6, 8, 4, 3, 2, 1, 0] rfl) hR hS (by omega) (by omega)
                    · exact False.elim hq
                · exact False.elim hq
              · exact False.elim hq
            · exact False.elim hq
          · exact False.elim hq
        · have hw := hw.2 hc11
          exact am_M_inMemory_L36 l hfl D A σ MC MS h0 Qr x0 x2 v2 r4 h8 hw p e s m args below meth c hC H locs ls k n hE (lv_sub hl [2, 4, 1, 0] rfl) hR hS (by omega) (by omega)
    · exact False.elim hq
  · exact False.elim hq

theorem m_2f4a9320 : (.fieldLink "StackHostModel" 589 "StackHostModel" "passedCount" "I" : Cond) ∈ xt_tbl := xt_in (xt_t9 (List.mem_of_getElem? (i := 231) (by decide +kernel))) (by decide +kernel)
theorem m_df1b4df4 : (.fieldLink "StackHostModel" 583 "StackHostModel" "invoked" "I" : Cond) ∈ xt_tbl := xt_in (xt_t9 (List.mem_of_getElem? (i := 203) (by decide +kernel))) (by decide +kernel)
set_option maxRecDepth 100000 in
def T_M_invoke : List (Nat × Instr × Nat) := [(0, .aload_n 0, 1), (1, .aload_n 0, 1), (2, .iload_n 1, 1), (3, .iload_n 2, 1), (4, .invokevirtual 595, 3), (7, .ifCond .eq 7, 3), (10, .iconst 0, 1), (11, .goto 4, 3), (14, .iconst 1, 1), (15, .putfield 189, 3), (18, .aload_n 0, 1), (19, .getfield 189, 3), (22, .ifCond .le 4, 3), (25, .return_, 1), (26, .aload_n 0, 1), (27, .getfield 62, 3), (30, .iload_n 1, 1), (31, .iaload, 1), (32, .istore_n 3, 1), (33, .aload_n 0, 1), (34, .iload_n 3, 1), (35, .iload_n 2, 1), (36, .invokevirtual 486, 3), (39, .ifCond .ne 7, 3), (42, .iconst 1, 1), (43, .goto 4, 3), (46, .iconst 0, 1), (47, .istore 4, 2), (49, .iload 4, 2), (51, .ifCond .eq 18, 3), (54, .aload_n 0, 1), (55, .iload_n 1, 1), (56, .iconst 0, 1), (57, .aload_n 0, 1), (58, .iload_n 3, 1), (59, .iload_n 2, 1), (60, .invokevirtual 511, 3), (63, .invokevirtual 479, 3), (66, .goto 4, 3), (69, .iconst 0, 1), (70, .istore 5, 2), (72, .aload_n 0, 1), (73, .iload 4, 2), (75, .ifCond .eq 16, 3), (78, .aload_n 0, 1), (79, .iload 5, 2), (81, .invokevirtual 598, 3), (84, .aload_n 0, 1), (85, .getfield 604, 3), (88, .if_icmp .eq 7, 3), (91, .iconst 2, 1), (92, .goto 15, 3), (95, .aload_n 0, 1), (96, .getfield 539, 3), (99, .ifCond .eq 7, 3), (102, .iconst 3, 1), (103, .goto 4, 3), (106, .iconst 0, 1), (107, .putfield 189, 3), (110, .aload_n 0, 1), (111, .getfield 189, 3), (114, .ifCond .le 4, 3), (117, .return_, 1), (118, .iconst 0, 1), (119, .istore 6, 2), (121, .iload 6, 2), (123, .aload_n 0, 1), (124, .getfield 604, 3), (127, .if_icmp .ge 23, 3), (130, .aload_n 0, 1), (131, .getfield 136, 3), (134, .iload 6, 2), (136, .aload_n 0, 1), (137, .getfield 133, 3), (140, .iload 6, 2), (142, .laload, 1), (143, .lastore, 1), (144, .iinc 6 1, 3), (147, .goto (-26), 3), (150, .aload_n 0, 1), (151, .aload_n 0, 1), (152, .getfield 604, 3), (155, .putfield 589, 3), (158, .aload_n 0, 1), (159, .iconst 0, 1), (160, .putfield 604, 3), (163, .aload_n 0, 1), (164, .iload 5, 2), (166, .putfield 583, 3), (169, .aload_n 0, 1), (170, .iconst 1, 1), (171, .putfield 539, 3), (174, .aload_n 0, 1), (175, .iconst 0, 1), (176, .putfield 586, 3), (179, .return_, 1)]
theorem D_M_invoke : ∀ q ∈ T_M_invoke, decode b_M_invoke q.1 = .ok (q.2.1, q.2.2) := by decide +kernel
def w_M_invoke_L121 (Qr : xb_H → Prop) : Nat → Nat → Int32 → Int32 → xb_H → Prop
  | 0, _, _, _, _ => False
  | n9 + 1, x0, x5, x6, h =>
    xb_k h x0 = 9 ∧ (((xb_i h x0 66) ≤ x6 → ∀ h3 : xb_H, h3 = xb_I h x0 93 (xb_i h x0 66) → ∀ h4 : xb_H, h4 = xb_I h3 x0 66 0 → ∀ h5 : xb_H, h5 = xb_I h4 x0 64 x5 → ∀ h6 : xb_H, h6 = xb_I h5 x0 62 1 → ∀ h7 : xb_H, h7 = xb_I h6 x0 63 0 → Qr h7) ∧ (¬ (xb_i h x0 66) ≤ x6 → ∃ b8 : Nat, (xb_r h x0 67) = some b8 ∧ ∃ b9 : Nat, (xb_r h x0 65) = some b9 ∧ xb_k h b9 = 103 ∧ vp_in x6 (xb_n h b9) ∧ xb_k h b8 = 103 ∧ vp_in x6 (xb_n h b8) ∧ ∀ h14 : xb_H, h14 = xb_L h b8 (Int32.toNatClampNeg x6) (xb_l h b9 (Int32.toNatClampNeg x6)) → w_M_invoke_L121 Qr n9 x0 x5 (x6 + 1) h14))

def w_M_invoke_L107 (Qr : xb_H → Prop) (x0 : Nat) (x5 : Int32) (y0 : Int32) (y1 : Nat) (h : xb_H) : Prop :=
    xb_k h y1 = 9 ∧ ∀ h2 : xb_H, h2 = xb_I h y1 0 y0 → xb_k h2 x0 = 9 ∧ (((xb_i h2 x0 0) ≤ (0 : Int32) → (∃ n8 : Nat, w_M_invoke_L121 Qr n8 x0 x5 0 h2)) ∧ (¬ (xb_i h2 x0 0) ≤ (0 : Int32) → Qr h2))

def w_M_invoke_L91 (Qr : xb_H → Prop) (x0 : Nat) (x5 : Int32) (y0 : Nat) (h : xb_H) : Prop :=
    w_M_invoke_L107 Qr x0 x5 2 y0 h

def w_M_invoke_L70 (Qr : xb_H → Prop) (x0 : Nat) (x4 : Int32) (y0 : Int32) (h : xb_H) : Prop :=
    ((x4 = (0 : Int32) → w_M_invoke_L91 Qr x0 y0 x0 h) ∧ (¬ x4 = (0 : Int32) → xb_k h x0 = 9 ∧ w_M_parametersOf x0 y0 h (fun (r4 : Int32) (h3 : xb_H) => xb_ext h h3 → ((r4 = (xb_i h3 x0 66) → (((xb_i h3 x0 62) = (0 : Int32) → w_M_invoke_L107 Qr x0 y0 0 x0 h3) ∧ (¬ (xb_i h3 x0 62) = (0 : Int32) → w_M_invoke_L107 Qr x0 y0 3 x0 h3))) ∧ (¬ r4 = (xb_i h3 x0 66) → w_M_invoke_L91 Qr x0 y0 x0 h3)))))

def w_M_invoke_L47 (Qr : xb_H → Prop) (x0 : Nat) (x1 : Int32) (x2 : Int32) (x3 : Int32) (y0 : Int32) (h : xb_H) : Prop :=
    ((y0 = (0 : Int32) → w_M_invoke_L70 Qr x0 y0 0 h) ∧ (¬ y0 = (0 : Int32) → xb_k h x0 = 9 ∧ w_M_exportNumber x0 x3 x2 h (fun (r4 : Int32) (h3 : xb_H) => xb_ext h h3 → w_M_meant x0 x1 0 r4 h3 (fun (r6 : Int32) (h5 : xb_H) => xb_ext h3 h5 → w_M_invoke_L70 Qr x0 y0 r6 h5))))

def w_M_invoke_L15 (Qr : xb_H → Prop) (x0 : Nat) (x1 : Int32) (x2 : Int32) (y0 : Int32) (y1 : Nat) (h : xb_H) : Prop :=
    xb_k h y1 = 9 ∧ ∀ h2 : xb_H, h2 = xb_I h y1 0 y0 → xb_k h2 x0 = 9 ∧ (((xb_i h2 x0 0) ≤ (0 : Int32) → ∃ b5 : Nat, (xb_r h2 x0 31) = some b5 ∧ xb_k h2 b5 = 102 ∧ vp_in x1 (xb_n h2 b5) ∧ ∀ v8 : Int32, v8 = (xb_i h2 b5 (Int32.toNatClampNeg x1)) → w_M_exportKind x0 v8 x2 h2 (fun (r10 : Int32) (h9 : xb_H) => xb_ext h2 h9 → ((¬ r10 = (0 : Int32) → w_M_invoke_L47 Qr x0 x1 x2 v8 0 h9) ∧ (r10 = (0 : Int32) → w_M_invoke_L47 Qr x0 x1 x2 v8 1 h9)))) ∧ (¬ (xb_i h2 x0 0) ≤ (0 : Int32) → Qr h2))

def w_M_invoke (x0 : Nat) (x1 : Int32) (x2 : Int32) (h : xb_H) (Qr : xb_H → Prop) : Prop :=
    xb_k h x0 = 9 ∧ w_M_isExport x0 x1 x2 h (fun (r3 : Int32) (h2 : xb_H) => xb_ext h h2 → ((r3 = (0 : Int32) → w_M_invoke_L15 Qr x0 x1 x2 1 x0 h2) ∧ (¬ r3 = (0 : Int32) → w_M_invoke_L15 Qr x0 x1 x2 0 x0 h2)))

set_option maxHeartbeats 4000000 in
set_option maxRecDepth 100000 in
theorem am_M_invoke_L121 (l : Launch) (hfl : l.flags = pinnedFlags ++ [noTraceFlag]) (D : va_G) (A : Nat → Prop) (σ MC MS : Nat) (h0 : xb_H) (Qr : xb_H → Prop) (n9 : Nat) : ∀ (x0 : Nat) (x5 : Int32) (x6 : Int32) (h : xb_H), w_M_invoke_L121 Qr n9 x0 x5 x6 h → xb_am l D A σ 10 MC MS h0 (fun v h => v = none ∧ Qr h) (fun _ _ => False) y_M_invoke.cls y_M_invoke.name b_M_invoke 7 ([] : List ExceptionTableEntry) none 121 [(0, .ref x0), (5, .int x5), (6, .int x6)] [] h 0 0 := by
  induction n9 with
  | zero => intro x0 x5 x6 h hw; exact False.elim hw
  | succ n9 ih =>
    intro x0 x5 x6 h hw
    unfold w_M_invoke_L121 at hw
    intro p e s m args below meth c hC H locs ls k n hE hl hR hS hk hn
    obtain ⟨hx, hb, hown, hlocks, htab, hml, hr, hB, hA, hnm⟩ := id hC
    have hts := hB.1.1.at args
    refine lv_iload hx hb (xb_d D_M_invoke 65 rfl) (lv_at hl 2 rfl) ?_
    refine lv_aload_n hx hb (xb_d D_M_invoke 66 rfl) rfl (lv_at hl 0 rfl) ?_
    obtain ⟨hk1, hw⟩ := hw
    refine xb_getI (C := R_M) (T := F_M) (N := 97) hx hb 8 66 hts fin_M hown hR hk1 (by decide) rfl (by decide) rfl (hts _ m_d42439d2) (fun _ h9 => h9) (xb_d D_M_invoke 67 rfl) ?_
    refine lv_icmp_ge (tgt := 150) hx hb (xb_d D_M_invoke 68 rfl) rfl (fun hc2 => ?_) (fun hc2 => ?_)
    · have hw := hw.1 hc2
      refine lv_aload_n hx hb (xb_d D_M_invoke 79 rfl) rfl (lv_at hl 0 rfl) ?_
      refine lv_aload_n hx hb (xb_d D_M_invoke 80 rfl) rfl (lv_at hl 0 rfl) ?_
      refine xb_getI (C := R_M) (T := F_M) (N := 97) hx hb 8 66 hts fin_M hown hR hk1 (by decide) rfl (by decide) rfl (hts _ m_d42439d2) (fun _ h9 => h9) (xb_d D_M_invoke 81 rfl) ?_
      refine xb_putI (C := R_M) (T := F_M) (N := 97) (ty := .int) (x := (xb_i h x0 66)) hx hb 8 93 hts fin_M t_M t_M_ok n_M hown hR hS hk1 (by decide) rfl (by decide) rfl (hts _ m_2f4a9320) (fun _ h9 => h9) rfl (by decide +kernel) rfl rfl (xb_d D_M_invoke 82 rfl) (fun H locs hR hS => ?_)
      obtain ⟨h3, eh3⟩ : ∃ x : xb_H, x = xb_I h x0 93 (xb_i h x0 66) := ⟨_, rfl⟩
      rw [← eh3] at hR
      have hw := hw h3 eh3
      have hE : xb_ext h0 h3 := by rw [eh3]; exact hE
      refine lv_aload_n hx hb (xb_d D_M_invoke 83 rfl) rfl (lv_at hl 0 rfl) ?_
      refine lv_iconst (v := 0) hx hb (xb_d D_M_invoke 84 rfl) (by decide) ?_
      have hk1 : xb_k h3 x0 = 9 := by rw [eh3]; exact hk1
      refine xb_putI (C := R_M) (T := F_M) (N := 97) (ty := .int) (x := 0) hx hb 8 66 hts fin_M t_M t_M_ok n_M hown hR hS hk1 (by decide) rfl (by decide) rfl (hts _ m_d42439d2) (fun _ h9 => h9) rfl (by decide +kernel) rfl rfl (xb_d D_M_invoke 85 rfl) (fun H locs hR hS => ?_)
      obtain ⟨h4, eh4⟩ : ∃ x : xb_H, x = xb_I h3 x0 66 0 := ⟨_, rfl⟩
      rw [← eh4] at hR
      have hw := hw h4 eh4
      have hE : xb_ext h0 h4 := by rw [eh4]; exact hE
      refine lv_aload_n hx hb (xb_d D_M_invoke 86 rfl) rfl (lv_at hl 0 rfl) ?_
      refine lv_iload hx hb (xb_d D_M_invoke 87 rfl) (lv_at hl 1 rfl) ?_
      have hk1 : xb_k h4 x0 = 9 := by rw [eh4]; exact hk1
      refine xb_putI (C := R_M) (T := F_M) (N := 97) (ty := .int) (x := x5) hx hb 8 64 hts fin_M t_M t_M_ok n_M hown hR hS hk1 (by decide) rfl (by decide) rfl (hts _ m_df1b4df4) (fun _ h9 => h9) rfl (by decide +kernel) rfl rfl (xb_d D_M_invoke 88 rfl) (fun H locs hR hS => ?_)
      obtain ⟨h5, eh5⟩ : ∃ x : xb_H, x = xb_I h4 x0 64 x5 := ⟨_, rfl⟩
      rw [← eh5] at hR
      have hw := hw h5 eh5
      have hE : xb_ext h0 h5 := by rw [eh5]; exact hE
      refine lv_aload_n hx hb (xb_d D_M_invoke 89 rfl) rfl (lv_at hl 0 rfl) ?_
      refine lv_iconst (v := 1) hx hb (xb_d D_M_invoke 90 rfl) (by decide) ?_
      have hk1 : xb_k h5 x0 = 9 := by rw [eh5]; exact hk1
      refine xb_putI (C := R_M) (T := F_M) (N := 97) (ty := .boolean) (x := 1) hx hb 8 62 hts fin_M t_M t_M_ok n_M hown hR hS hk1 (by decide) rfl (by decide) rfl (hts _ m_71a5ca12) (fun _ h9 => h9) rfl (by decide +kernel) (by decide) (by decide) (xb_d D_M_invoke 91 rfl) (fun H locs hR hS => ?_)
      obtain ⟨h6, eh6⟩ : ∃ x : xb_H, x = xb_I h5 x0 62 1 := ⟨_, rfl⟩
      rw [← eh6] at hR
      have hw := hw h6 eh6
      have hE : xb_ext h0 h6 := by rw [eh6]; exact hE
      refine lv_aload_n hx hb (xb_d D_M_invoke 92 rfl) rfl (lv_at hl 0 rfl) ?_
      refine lv_iconst (v := 0) hx hb (xb_d D_M_invoke 93 rfl) (by decide) ?_
      have hk1 : xb_k h6 x0 = 9 := by rw [eh6]; exact hk1
      refine xb_putI (C := R_M) (T := F_M) (N := 97) (ty := .boolean) (x := 0) hx hb 8 63 hts fin_M t_M t_M_ok n_M hown hR hS hk1 (by decide) rfl (by decide) rfl (hts _ m_f4296656) (fun _ h9 => h9) rfl (by decide +kernel) (by decide) (by decide) (xb_d D_M_invoke 94 rfl) (fun H locs hR hS => ?_)
      obtain ⟨h7, eh7⟩ : ∃ x : xb_H, x = xb_I h6 x0 63 0 := ⟨_, rfl⟩
      rw [← eh7] at hR
      have hw := hw h7 eh7
      have hE : xb_ext h0 h7 := by rw [eh7]; exact hE
      exact xb_vret hx hb hr hlocks (show k ≤ MC by omega) (show n ≤ MS by omega) hE hR hS (xb_d D_M_invoke 95 rfl) hw
    · have hw := hw.2 hc2
      refine lv_aload_n hx hb (xb_d D_M_invoke 69 rfl) rfl (lv_at hl 0 rfl) ?_
      refine xb_getP (C := R_M) (T := F_M) (N := 97) hx hb 8 67 hts fin_M hown hR hk1 (by decide) rfl (by decide) rfl (hts _ m_8147510a) (fun _ h9 => h9) (xb_d D_M_invoke 70 rfl) ?_
      obtain ⟨b8, eb8, hw⟩ := hw
      refine xb_some eb8 ?_
      refine lv_iload hx hb (xb_d D_M_invoke 71 rfl) (lv_at hl 2 rfl) ?_
      refine lv_aload_n hx hb (xb_d D_M_invoke 72 rfl) rfl (lv_at hl 0 rfl) ?_
      refine xb_getP (C := R_M) (T := F_M) (N := 97) hx hb 8 65 hts fin_M hown hR hk1 (by decide) rfl (by decide) rfl (hts _ m_37875847) (fun _ h9 => h9) (xb_d D_M_invoke 73 rfl) ?_
      obtain ⟨b9, eb9, hw⟩ := hw
      refine xb_some eb9 ?_
      refine lv_iload hx hb (xb_d D_M_invoke 74 rfl) (lv_at hl 2 rfl) ?_
      obtain ⟨hk11, hw⟩ := hw
      obtain ⟨hi10, hw⟩ := hw
      refine xb_lald hx hb hR hk11 hi10 (xb_d D_M_invoke 75 rfl) ?_
      obtain ⟨hk12, hw⟩ := hw
      obtain ⟨hi13, hw⟩ := hw
      refine xb_last hx hb hR hS hk12 hi13 (xb_d D_M_invoke 76 rfl) (fun H locs hR hS => ?_)
      obtain ⟨h14, eh14⟩ : ∃ x : xb_H, x = xb_L h b8 (Int32.toNatClampNeg x6) (xb_l h b9 (Int32.toNatClampNeg x6)) := ⟨_, rfl⟩
      rw [← eh14] at hR
      have hw := hw h14 eh14
      have hE : xb_ext h0 h14 := by rw [eh14]; exact hE
      refine lv_iinc (v := (x6 + 1)) (k := 2) hx hb (xb_d D_M_invoke 77 rfl) hl rfl (by first | rfl | decide) (by decide) rfl (fun ls hl => ?_)
      have hl : lv_has ls 7 [(6, .int (x6 + 1)), (0, .ref x0), (5, .int x5)] := hl
      refine lv_goto (tgt := 121) hx hb (xb_d D_M_invoke 78 rfl) rfl ?_
      exact ih x0 x5 (x6 + 1) h14 hw p e s m args below meth c hC H locs ls k n hE (lv_sub hl [1, 2, 0] rfl) hR hS (by omega) (by omega)

set_option maxHeartbeats 4000000 in
set_option maxRecDepth 100000 in
theorem am_M_invoke_L107 (l : Launch) (hfl : l.flags = pinnedFlags ++ [noTraceFlag]) (D : va_G) (A : Nat → Prop) (σ MC MS : Nat) (h0 : xb_H) (Qr : xb_H → Prop) (x0 : Nat) (x5 : Int32) (y0 : Int32) (y1 : Nat) (h : xb_H) (hw : w_M_invoke_L107 Qr x0 x5 y0 y1 h) : xb_am l D A σ 10 MC MS h0 (fun v h => v = none ∧ Qr h) (fun _ _ => False) y_M_invoke.cls y_M_invoke.name b_M_invoke 7 ([] : List ExceptionTableEntry) none 107 [(0, .ref x0), (5, .int x5)] [.int y0, .ref y1] h 0 0 := by
  unfold w_M_invoke_L107 at hw
  intro p e s m args below meth c hC H locs ls k n hE hl hR hS hk hn
  obtain ⟨hx, hb, hown, hlocks, htab, hml, hr, hB, hA, hnm⟩ := id hC
  have hts := hB.1.1.at args
  obtain ⟨hk1, hw⟩ := hw
  refine xb_putI (C := R_M) (T := F_M) (N := 97) (ty := .int) (x := y0) hx hb 8 0 hts fin_M t_M t_M_ok n_M hown hR hS hk1 (by decide) rfl (by decide) rfl (hts _ m_afabd6a0) (fun _ h9 => h9) rfl (by decide +kernel) rfl rfl (xb_d D_M_invoke 58 rfl) (fun H locs hR hS => ?_)
  obtain ⟨h2, eh2⟩ : ∃ x : xb_H, x = xb_I h y1 0 y0 := ⟨_, rfl⟩
  rw [← eh2] at hR
  have hw := hw h2 eh2
  have hE : xb_ext h0 h2 := by rw [eh2]; exact hE
  refine lv_aload_n hx hb (xb_d D_M_invoke 59 rfl) rfl (lv_at hl 0 rfl) ?_
  obtain ⟨hk3, hw⟩ := hw
  refine xb_getI (C := R_M) (T := F_M) (N := 97) hx hb 8 0 hts fin_M hown hR hk3 (by decide) rfl (by decide) rfl (hts _ m_afabd6a0) (fun _ h9 => h9) (xb_d D_M_invoke 60 rfl) ?_
  refine lv_if_le (tgt := 118) hx hb (xb_d D_M_invoke 61 rfl) rfl (fun hc4 => ?_) (fun hc4 => ?_)
  · have hw := hw.1 hc4
    refine lv_iconst (v := 0) hx hb (xb_d D_M_invoke 63 rfl) (by decide) ?_
    refine lv_istore hx hb (xb_d D_M_invoke 64 rfl) hl (by decide) rfl (fun ls hl => ?_)
    have hl : lv_has ls 7 [(6, .int 0), (0, .ref x0), (5, .int x5)] := hl
    obtain ⟨n8, hw⟩ := hw
    exact am_M_invoke_L121 l hfl D A σ MC MS h0 Qr n8 x0 x5 0 h2 hw p e s m args below meth c hC H locs ls k n hE (lv_sub hl [1, 2, 0] rfl) hR hS (by omega) (by omega)
  · have hw := hw.2 hc4
    exact xb_vret hx hb hr hlocks (show k ≤ MC by omega) (show n ≤ MS by omega) hE hR hS (xb_d D_M_invoke 62 rfl) hw

set_option maxHeartbeats 4000000 in
set_option maxRecDepth 100000 in
theorem am_M_invoke_L91 (l : Launch) (hfl : l.flags = pinnedFlags ++ [noTraceFlag]) (D : va_G) (A : Nat → Prop) (σ MC MS : Nat) (h0 : xb_H) (Qr : xb_H → Prop) (x0 : Nat) (x5 : Int32) (y0 : Nat) (h : xb_H) (hw : w_M_invoke_L91 Qr x0 x5 y0 h) : xb_am l D A σ 10 MC MS h0 (fun v h => v = none ∧ Qr h) (fun _ _ => False) y_M_invoke.cls y_M_invoke.name b_M_invoke 7 ([] : List ExceptionTableEntry) none 91 [(0, .ref x0), (5, .int x5)] [.ref y0] h 0 0 := by
  unfold w_M_invoke_L91 at hw
  intro p e s m args below meth c hC H locs ls k n hE hl hR hS hk hn
  obtain ⟨hx, hb, hown, hlocks, htab, hml, hr, hB, hA, hnm⟩ := id hC
  have hts := hB.1.1.at args
  refine lv_iconst (v := 2) hx hb (xb_d D_M_invoke 50 rfl) (by decide) ?_
  refine lv_goto (tgt := 107) hx hb (xb_d D_M_invoke 51 rfl) rfl ?_
  exact am_M_invoke_L107 l hfl D A σ MC MS h0 Qr x0 x5 2 y0 h hw p e s m args below meth c hC H locs ls k n hE (lv_sub hl [0, 1] rfl) hR hS (by omega) (by omega)

set_option maxHeartbeats 4000000 in
set_option maxRecDepth 100000 in
theorem am_M_invoke_L70 (l : Launch) (hfl : l.flags = pinnedFlags ++ [noTraceFlag]) (D : va_G) (A : Nat → Prop) (σ MC MS : Nat) (h0 : xb_H) (Qr : xb_H → Prop) (x0 : Nat) (x4 : Int32) (y0 : Int32) (h : xb_H) (hw : w_M_invoke_L70 Qr x0 x4 y0 h) : xb_am l D A σ 10 MC MS h0 (fun v h => v = none ∧ Qr h) (fun _ _ => False) y_M_invoke.cls y_M_invoke.name b_M_invoke 7 ([] : List ExceptionTableEntry) none 70 [(0, .ref x0), (4, .int x4)] [.int y0] h 0 0 := by
  unfold w_M_invoke_L70 at hw
  intro p e s m args below meth c hC H locs ls k n hE hl hR hS hk hn
  obtain ⟨hx, hb, hown, hlocks, htab, hml, hr, hB, hA, hnm⟩ := id hC
  have hts := hB.1.1.at args
  refine lv_istore hx hb (xb_d D_M_invoke 40 rfl) hl (by decide) rfl (fun ls hl => ?_)
  have hl : lv_has ls 7 [(5, .int y0), (0, .ref x0), (4, .int x4)] := hl
  refine lv_aload_n hx hb (xb_d D_M_invoke 41 rfl) rfl (lv_at hl 1 rfl) ?_
  refine lv_iload hx hb (xb_d D_M_invoke 42 rfl) (lv_at hl 2 rfl) ?_
  refine lv_if_eq (tgt := 91) hx hb (xb_d D_M_invoke 43 rfl) rfl (fun hc1 => ?_) (fun hc1 => ?_)
  · have hw := hw.1 hc1
    exact am_M_invoke_L91 l hfl D A σ MC MS h0 Qr x0 y0 x0 h hw p e s m args below meth c hC H locs ls k n hE (lv_sub hl [1, 0] rfl) hR hS (by omega) (by omega)
  · have hw := hw.2 hc1
    refine lv_aload_n hx hb (xb_d D_M_invoke 44 rfl) rfl (lv_at hl 1 rfl) ?_
    refine lv_iload hx hb (xb_d D_M_invoke 45 rfl) (lv_at hl 0 rfl) ?_
    obtain ⟨hk2, hw⟩ := hw
    refine xb_call (D := D) (A := A) (σ := σ) (h := h) (d := 9) (mc := 0) (ms := 0) (maxL := 3) (rest := [.ref x0]) (av := [.ref x0, .int y0]) (fun T hT X => by obtain ⟨cb, r1, r2, r3⟩ := xb_recv (ci := 8) hR rfl hk2 (by decide); exact xt_invV X hx hown (hts _ m_e2ba22cc) (hts _ m_0a57baa5) (hts _ m_6f48d886) (xt_sigOf (hts _ m_14db4a29)) nm_M_parametersOf (by rw [hT]; exact r1) r2 r3 (g := F0 m 81 ls [.int y0, .ref x0, .ref x0]) rfl (argsL := [.int y0]) (rest := [.ref x0]) rfl rfl (by rw [hb]; exact (xb_d D_M_invoke 46 rfl))) (ok_M_parametersOf l hfl D A σ x0 y0 h _ hw) (hml.trans hl.1.symm) (by rw [hb]; exact (xb_d D_M_invoke 46 rfl)) (Nat.le_of_ble_eq_true rfl) (Nat.le_of_ble_eq_true rfl) (Nat.le_of_ble_eq_true rfl) (show k + 0 ≤ MC by omega) (show n + 0 ≤ MS by omega) (xt_w1 hB.1 m_14db4a29) (xt_cdOf hB.1 m_14db4a29) (hts _ m_d5ed7bed) hB hR hS hA (fun vv h3 H locs hq hEh3 hR hS => ?_) (fun XX ax h3 H locs hq hEh3 hex hR hS => ?_)
    · obtain ⟨r4, rfl, hw⟩ := hq
      have hw := hw hEh3
      have hE := hE.tr hEh3
      refine W.eq (g2 := F0 m 84 ls [.int r4, .ref x0]) rfl ?_
      refine lv_aload_n hx hb (xb_d D_M_invoke 47 rfl) rfl (lv_at hl 1 rfl) ?_
      have hk2 : xb_k h3 x0 = 9 := hEh3.k hk2
      refine xb_getI (C := R_M) (T := F_M) (N := 97) hx hb 8 66 hts fin_M hown hR hk2 (by decide) rfl (by decide) rfl (hts _ m_d42439d2) (fun _ h9 => h9) (xb_d D_M_invoke 48 rfl) ?_
      refine lv_icmp_eq (tgt := 95) hx hb (xb_d D_M_invoke 49 rfl) rfl (fun hc5 => ?_) (fun hc5 => ?_)
      · have hw := hw.1 hc5
        refine lv_aload_n hx hb (xb_d D_M_invoke 52 rfl) rfl (lv_at hl 1 rfl) ?_
        refine xb_getI (C := R_M) (T := F_M) (N := 97) hx hb 8 62 hts fin_M hown hR hk2 (by decide) rfl (by decide) rfl (hts _ m_71a5ca12) (fun _ h9 => h9) (xb_d D_M_invoke 53 rfl) ?_
        refine lv_if_eq (tgt := 106) hx hb (xb_d D_M_invoke 54 rfl) rfl (fun hc6 => ?_) (fun hc6 => ?_)
        · have hw := hw.1 hc6
          refine lv_iconst (v := 0) hx hb (xb_d D_M_invoke 57 rfl) (by decide) ?_
          exact am_M_invoke_L107 l hfl D A σ MC MS h0 Qr x0 y0 0 x0 h3 hw p e s m args below meth c hC H locs ls k n hE (lv_sub hl [1, 0] rfl) hR hS (by omega) (by omega)
        · have hw := hw.2 hc6
          refine lv_iconst (v := 3) hx hb (xb_d D_M_invoke 55 rfl) (by decide) ?_
          refine lv_goto (tgt := 107) hx hb (xb_d D_M_invoke 56 rfl) rfl ?_
          exact am_M_invoke_L107 l hfl D A σ MC MS h0 Qr x0 y0 3 x0 h3 hw p e s m args below meth c hC H locs ls k n hE (lv_sub hl [1, 0] rfl) hR hS (by omega) (by omega)
      · have hw := hw.2 hc5
        exact am_M_invoke_L91 l hfl D A σ MC MS h0 Qr x0 y0 x0 h3 hw p e s m args below meth c hC H locs ls k n hE (lv_sub hl [1, 0] rfl) hR hS (by omega) (by omega)
    · exact False.elim hq

set_option maxHeartbeats 4000000 in
set_option maxRecDepth 100000 in
theorem am_M_invoke_L47 (l : Launch) (hfl : l.flags = pinnedFlags ++ [noTraceFlag]) (D : va_G) (A : Nat → Prop) (σ MC MS : Nat) (h0 : xb_H) (Qr : xb_H → Prop) (x0 : Nat) (x1 : Int32) (x2 : Int32) (x3 : Int32) (y0 : Int32) (h : xb_H) (hw : w_M_invoke_L47 Qr x0 x1 x2 x3 y0 h) : xb_am l D A σ 10 MC MS h0 (fun v h => v = none ∧ Qr h) (fun _ _ => False) y_M_invoke.cls y_M_invoke.name b_M_invoke 7 ([] : List ExceptionTableEntry) none 47 [(0, .ref x0), (1, .int x1), (2, .int x2), (3, .int x3)] [.int y0] h 0 0 := by
  unfold w_M_invoke_L47 at hw
  intro p e s m args below meth c hC H locs ls k n hE hl hR hS hk hn
  obtain ⟨hx, hb, hown, hlocks, htab, hml, hr, hB, hA, hnm⟩ := id hC
  have hts := hB.1.1.at args
  refine lv_istore hx hb (xb_d D_M_invoke 27 rfl) hl (by decide) rfl (fun ls hl => ?_)
  have hl : lv_has ls 7 [(4, .int y0), (0, .ref x0), (1, .int x1), (2, .int x2), (3, .int x3)] := hl
  refine lv_iload hx hb (xb_d D_M_invoke 28 rfl) (lv_at hl 0 rfl) ?_
  refine lv_if_eq (tgt := 69) hx hb (xb_d D_M_invoke 29 rfl) rfl (fun hc1 => ?_) (fun hc1 => ?_)
  · have hw := hw.1 hc1
    refine lv_iconst (v := 0) hx hb (xb_d D_M_invoke 39 rfl) (by decide) ?_
    exact am_M_invoke_L70 l hfl D A σ MC MS h0 Qr x0 y0 0 h hw p e s m args below meth c hC H locs ls k n hE (lv_sub hl [1, 0] rfl) hR hS (by omega) (by omega)
  · have hw := hw.2 hc1
    refine lv_aload_n hx hb (xb_d D_M_invoke 30 rfl) rfl (lv_at hl 1 rfl) ?_
    refine lv_iload_n hx hb (xb_d D_M_invoke 31 rfl) rfl (lv_at hl 2 rfl) ?_
    refine lv_iconst (v := 0) hx hb (xb_d D_M_invoke 32 rfl) (by decide) ?_
    refine lv_aload_n hx hb (xb_d D_M_invoke 33 rfl) rfl (lv_at hl 1 rfl) ?_
    refine lv_iload_n hx hb (xb_d D_M_invoke 34 rfl) rfl (lv_at hl 4 rfl) ?_
    refine lv_iload_n hx hb (xb_d D_M_invoke 35 rfl) rfl (lv_at hl 3 rfl) ?_
    obtain ⟨hk2, hw⟩ := hw
    refine xb_call (D := D) (A := A) (σ := σ) (h := h) (d := 7) (mc := 0) (ms := 0) (maxL := 3) (rest := [.int 0, .int x1, .ref x0]) (av := [.ref x0, .int x3, .int x2]) (fun T hT X => by obtain ⟨cb, r1, r2, r3⟩ := xb_recv (ci := 8) hR rfl hk2 (by decide); exact xt_invV X hx hown (hts _ m_ffdcfbf2) (hts _ m_0d2cbdfc) (hts _ m_92840f1d) (xt_sigOf (hts _ m_9f02a356)) nm_M_exportNumber (by rw [hT]; exact r1) r2 r3 (g := F0 m 60 ls [.int x2, .int x3, .ref x0, .int 0, .int x1, .ref x0]) rfl (argsL := [.int x3, .int x2]) (rest := [.int 0, .int x1, .ref x0]) rfl rfl (by rw [hb]; exact (xb_d D_M_invoke 36 rfl))) (ok_M_exportNumber l hfl D A σ x0 x3 x2 h _ hw) (hml.trans hl.1.symm) (by rw [hb]; exact (xb_d D_M_invoke 36 rfl)) (Nat.le_of_ble_eq_true rfl) (Nat.le_of_ble_eq_true rfl) (Nat.le_of_ble_eq_true rfl) (show k + 0 ≤ MC by omega) (show n + 0 ≤ MS by omega) (xt_w1 hB.1 m_9f02a356) (xt_cdOf hB.1 m_9f02a356) (hts _ m_d5ed7bed) hB hR hS hA (fun vv h3 H locs hq hEh3 hR hS => ?_) (fun XX ax h3 H locs hq hEh3 hex hR hS => ?_)
    · obtain ⟨r4, rfl, hw⟩ := hq
      have hw := hw hEh3
      have hE := hE.tr hEh3
      refine W.eq (g2 := F0 m 63 ls [.int r4, .int 0, .int x1, .ref x0]) rfl ?_
      have hk2 : xb_k h3 x0 = 9 := hEh3.k hk2
      refine xb_call (D := D) (A := A) (σ := σ) (h := h3) (d := 8) (mc := 0) (ms := 0) (maxL := 6) (rest := []) (av := [.ref x0, .int x1, .int 0, .int r4]) (fun T hT X => by obtain ⟨cb, r1, r2, r3⟩ := xb_recv (ci := 8) hR rfl hk2 (by decide); exact xt_invV X hx hown (hts _ m_5ec466f2) (hts _ m_f0f1d102) (hts _ m_cfa25922) (xt_sigOf (hts _ m_59347bba)) nm_M_meant (by rw [hT]; exact r1) r2 r3 (g := F0 m 63 ls [.int r4, .int 0, .int x1, .ref x0]) rfl (argsL := [.int x1, .int 0, .int r4]) (rest := []) rfl rfl (by rw [hb]; exact (xb_d D_M_invoke 37 rfl))) (ok_M_meant l hfl D A σ x0 x1 0 r4 h3 _ hw) (hml.trans hl.1.symm) (by rw [hb]; exact (xb_d D_M_invoke 37 rfl)) (Nat.le_of_ble_eq_true rfl) (Nat.le_of_ble_eq_true rfl) (Nat.le_of_ble_eq_true rfl) (show k + 0 ≤ MC by omega) (show n + 0 ≤ MS by omega) (xt_w1 hB.1 m_59347bba) (xt_cdOf hB.1 m_59347bba) (hts _ m_d5ed7bed) hB hR hS hA (fun vv h5 H locs hq hEh5 hR hS => ?_) (fun XX ax h5 H locs hq hEh5 hex hR hS => ?_)
      · obtain ⟨r6, rfl, hw⟩ := hq
        have hw := hw hEh5
        have hE := hE.tr hEh5
        refine W.eq (g2 := F0 m 66 ls [.int r6]) rfl ?_
        refine lv_goto (tgt := 70) hx hb (xb_d D_M_invoke 38 rfl) rfl ?_
        exact am_M_invoke_L70 l hfl D A σ MC MS h0 Qr x0 y0 r6 h5 hw p e s m args below meth c hC H locs ls k n hE (lv_sub hl [1, 0] rfl) hR hS (by omega) (by omega)
      · exact False.elim hq
    · exact False.elim hq

set_option maxHeartbeats 4000000 in
set_option maxRecDepth 100000 in
theorem am_M_invoke_L15 (l : Launch) (hfl : l.flags = pinnedFlags ++ [noTraceFlag]) (D : va_G) (A : Nat → Prop) (σ MC MS : Nat) (h0 : xb_H) (Qr : xb_H → Prop) (x0 : Nat) (x1 : Int32) (x2 : Int32) (y0 : Int32) (y1 : Nat) (h : xb_H) (hw : w_M_invoke_L15 Qr x0 x1 x2 y0 y1 h) : xb_am l D A σ 10 MC MS h0 (fun v h => v = none ∧ Qr h) (fun _ _ => False) y_M_invoke.cls y_M_invoke.name b_M_invoke 7 ([] : List ExceptionTableEntry) none 15 [(0, .ref x0), (1, .int x1), (2, .int x2)] [.int y0, .ref y1] h 0 0 := by
  unfold w_M_invoke_L15 at hw
  intro p e s m args below meth c hC H locs ls k n hE hl hR hS hk hn
  obtain ⟨hx, hb, hown, hlocks, htab, hml, hr, hB, hA, hnm⟩ := id hC
  have hts := hB.1.1.at args
  obtain ⟨hk1, hw⟩ := hw
  refine xb_putI (C := R_M) (T := F_M) (N := 97) (ty := .int) (x := y0) hx hb 8 0 hts fin_M t_M t_M_ok n_M hown hR hS hk1 (by decide) rfl (by decide) rfl (hts _ m_afabd6a0) (fun _ h9 => h9) rfl (by decide +kernel) rfl rfl (xb_d D_M_invoke 9 rfl) (fun H locs hR hS => ?_)
  obtain ⟨h2, eh2⟩ : ∃ x : xb_H, x = xb_I h y1 0 y0 := ⟨_, rfl⟩
  rw [← eh2] at hR
  have hw := hw h2 eh2
  have hE : xb_ext h0 h2 := by rw [eh2]; exact hE
  refine lv_aload_n hx hb (xb_d D_M_invoke 10 rfl) rfl (lv_at hl 0 rfl) ?_
  obtain ⟨hk3, hw⟩ := hw
  refine xb_getI (C := R_M) (T := F_M) (N := 97) hx hb 8 0 hts fin_M hown hR hk3 (by decide) rfl (by decide) rfl (hts _ m_afabd6a0) (fun _ h9 => h9) (xb_d D_M_invoke 11 rfl) ?_
  refine lv_if_le (tgt := 26) hx hb (xb_d D_M_invoke 12 rfl) rfl (fun hc4 => ?_) (fun hc4 => ?_)
  · have hw := hw.1 hc4
    refine lv_aload_n hx hb (xb_d D_M_invoke 14 rfl) rfl (lv_at hl 0 rfl) ?_
    refine xb_getP (C := R_M) (T := F_M) (N := 97) hx hb 8 31 hts fin_M hown hR hk3 (by decide) rfl (by decide) rfl (hts _ m_691d5f47) (fun _ h9 => h9) (xb_d D_M_invoke 15 rfl) ?_
    obtain ⟨b5, eb5, hw⟩ := hw
    refine xb_some eb5 ?_
    refine lv_iload_n hx hb (xb_d D_M_invoke 16 rfl) rfl (lv_at hl 1 rfl) ?_
    obtain ⟨hk7, hw⟩ := hw
    obtain ⟨hi6, hw⟩ := hw
    refine xb_iald hx hb hR hk7 hi6 (xb_d D_M_invoke 17 rfl) ?_
    obtain ⟨v8, ev8⟩ : ∃ x : Int32, x = (xb_i h2 b5 (Int32.toNatClampNeg x1)) := ⟨_, rfl⟩
    have hw := hw v8 ev8
    refine xt_numi (y := v8) ev8.symm ?_
    refine lv_istore_n hx hb (xb_d D_M_invoke 18 rfl) rfl hl (by decide) rfl (fun ls hl => ?_)
    have hl : lv_has ls 7 [(3, .int v8), (0, .ref x0), (1, .int x1), (2, .int x2)] := hl
    refine lv_aload_n hx hb (xb_d D_M_invoke 19 rfl) rfl (lv_at hl 1 rfl) ?_
    refine lv_iload_n hx hb (xb_d D_M_invoke 20 rfl) rfl (lv_at hl 0 rfl) ?_
    refine lv_iload_n hx hb (xb_d D_M_invoke 21 rfl) rfl (lv_at hl 3 rfl) ?_
    refine xb_call (D := D) (A := A) (σ := σ) (h := h2) (d := 6) (mc := 0) (ms := 0) (maxL := 3) (rest := []) (av := [.ref x0, .int v8, .int x2]) (fun T hT X => by obtain ⟨cb, r1, r2, r3⟩ := xb_recv (ci := 8) hR rfl hk3 (by decide); exact xt_invV X hx hown (hts _ m_c71d5853) (hts _ m_3fd4c934) (hts _ m_0b430860) (xt_sigOf (hts _ m_c14fc813)) nm_M_exportKind (by rw [hT]; exact r1) r2 r3 (g := F0 m 36 ls [.int x2, .int v8, .ref x0]) rfl (argsL := [.int v8, .int x2]) (rest := []) rfl rfl (by rw [hb]; exact (xb_d D_M_invoke 22 rfl))) (ok_M_exportKind l hfl D A σ x0 v8 x2 h2 _ hw) (hml.trans hl.1.symm) (by rw [hb]; exact (xb_d D_M_invoke 22 rfl)) (Nat.le_of_ble_eq_true rfl) (Nat.le_of_ble_eq_true rfl) (Nat.le_of_ble_eq_true rfl) (show k + 0 ≤ MC by omega) (show n + 0 ≤ MS by omega) (xt_w1 hB.1 m_c14fc813) (xt_cdOf hB.1 m_c14fc813) (hts _ m_d5ed7bed) hB hR hS hA (fun vv h9 H locs hq hEh9 hR hS => ?_) (fun XX ax h9 H locs hq hEh9 hex hR hS => ?_)
    · obtain ⟨r10, rfl, hw⟩ := hq
      have hw := hw hEh9
      have hE := hE.tr hEh9
      refine W.eq (g2 := F0 m 39 ls [.int r10]) rfl ?_
      refine lv_if_ne (tgt := 46) hx hb (xb_d D_M_invoke 23 rfl) rfl (fun hc11 => ?_) (fun hc11 => ?_)
      · have hw := hw.1 hc11
        refine lv_iconst (v := 0) hx hb (xb_d D_M_invoke 26 rfl) (by decide) ?_
        exact am_M_invoke_L47 l hfl D A σ MC MS h0 Qr x0 x1 x2 v8 0 h9 hw p e s m args below meth c hC H locs ls k n hE (lv_sub hl [1, 2, 3, 0] rfl) hR hS (by omega) (by omega)
      · have hw := hw.2 hc11
        refine lv_iconst (v := 1) hx hb (xb_d D_M_invoke 24 rfl) (by decide) ?_
        refine lv_goto (tgt := 47) hx hb (xb_d D_M_invoke 25 rfl) rfl ?_
        exact am_M_invoke_L47 l hfl D A σ MC MS h0 Qr x0 x1 x2 v8 1 h9 hw p e s m args below meth c hC H locs ls k n hE (lv_sub hl [1, 2, 3, 0] rfl) hR hS (by omega) (by omega)
    · exact False.elim hq
  · have hw := hw.2 hc4
    exact xb_vret hx hb hr hlocks (show k ≤ MC by omega) (show n ≤ MS by omega) hE hR hS (xb_d D_M_invoke 13 rfl) hw

set_option maxHeartbeats 4000000 in
set_option maxRecDepth 100000 in
theorem ok_M_invoke (l : Launch) (hfl : l.flags = pinnedFlags ++ [noTraceFlag]) (D : va_G) (A : Nat → Prop) (σ : Nat) (x0 : Nat) (x1 : Int32) (x2 : Int32) (h : xb_H) (Qr : xb_H → Prop) (hw : w_M_invoke x0 x1 x2 h Qr) : xt_Met l y_M_invoke [.code y_M_invoke b_M_invoke 7 none] (xb_rm 10 0 0) (xb_Pc D A σ h [.ref x0, .int x1, .int x2]) (xb_Qc D A h (fun v h => v = none ∧ Qr h) (fun _ _ => False)) 0 0 A := by
  refine xb_ofAm (cc := b_M_invoke) (by decide) (Nat.le_of_ble_eq_true rfl) ?_
  unfold w_M_invoke at hw
  show xb_am l D A σ 10 0 0 h (fun v h => v = none ∧ Qr h) (fun _ _ => False) y_M_invoke.cls y_M_invoke.name b_M_invoke 7 ([] : List ExceptionTableEntry) none 0 [(0, .ref x0), (1, .int x1), (2, .int x2)] [] h 0 0
  obtain ⟨MC, hMC⟩ : ∃ x, x = 0 := ⟨_, rfl⟩
  obtain ⟨MS, hMS⟩ : ∃ x, x = 0 := ⟨_, rfl⟩
  rw [show xb_am l D A σ 10 0 0 = xb_am l D A σ 10 MC MS by rw [hMC, hMS]]
  obtain ⟨h0, hh0⟩ : ∃ x, x = h := ⟨_, rfl⟩
  rw [show xb_am l D A σ 10 MC MS h = xb_am l D A σ 10 MC MS h0 by rw [hh0]]
  intro p e s m args below meth c hC H locs ls k n hE hl hR hS hk hn
  obtain ⟨hx, hb, hown, hlocks, htab, hml, hr, hB, hA, hnm⟩ := id hC
  have hts := hB.1.1.at args
  refine lv_aload_n hx hb (xb_d D_M_invoke 0 rfl) rfl (lv_at hl 0 rfl) ?_
  refine lv_aload_n hx hb (xb_d D_M_invoke 1 rfl) rfl (lv_at hl 0 rfl) ?_
  refine lv_iload_n hx hb (xb_d D_M_invoke 2 rfl) rfl (lv_at hl 1 rfl) ?_
  refine lv_iload_n hx hb (xb_d D_M_invoke 3 rfl) rfl (lv_at hl 2 rfl) ?_
  obtain ⟨hk1, hw⟩ := hw
  refine xb_call (D := D) (A := A) (σ := σ) (h := h) (d := 3) (mc := 0) (ms := 0) (maxL := 3) (rest := [.ref x0]) (av := [.ref x0, .int x1, .int x2]) (fun T hT X => by obtain ⟨cb, r1, r2, r3⟩ := xb_recv (ci := 8) hR rfl hk1 (by decide); exact xt_invV X hx hown (hts _ m_afb711e8) (hts _ m_9932241c) (hts _ m_40c3e47a) (xt_sigOf (hts _ m_ca26fbb4)) nm_M_isExport (by rw [hT]; exact r1) r2 r3 (g := F0 m 4 ls [.int x2, .int x1, .ref x0, .ref x0]) rfl (argsL := [.int x1, .int x2]) (rest := [.ref x0]) rfl rfl (by rw [hb]; exact (xb_d D_M_invoke 4 rfl))) (ok_M_isExport l hfl D A σ x0 x1 x2 h _ hw) (hml.trans hl.1.symm) (by rw [hb]; exact (xb_d D_M_invoke 4 rfl)) (Nat.le_of_ble_eq_true rfl) (Nat.le_of_ble_eq_true rfl) (Nat.le_of_ble_eq_true rfl) (show k + 0 ≤ MC by omega) (show n + 0 ≤ MS by omega) (xt_w1 hB.1 m_ca26fbb4) (xt_cdOf hB.1 m_ca26fbb4) (hts _ m_d5ed7bed) hB hR hS hA (fun vv h2 H locs hq hEh2 hR hS => ?_) (fun XX ax h2 H locs hq hEh2 hex hR hS => ?_)
  · obtain ⟨r3, rfl, hw⟩ := hq
    have hw := hw hEh2
    have hE := hE.tr hEh2
    refine W.eq (g2 := F0 m 7 ls [.int r3, .ref x0]) rfl ?_
    refine lv_if_eq (tgt := 14) hx hb (xb_d D_M_invoke 5 rfl) rfl (fun hc4 => ?_) (fun hc4 => ?_)
    · have hw := hw.1 hc4
      refine lv_iconst (v := 1) hx hb (xb_d D_M_invoke 8 rfl) (by decide) ?_
      exact am_M_invoke_L15 l hfl D A σ MC MS h0 Qr x0 x1 x2 1 x0 h2 hw p e s m args below meth c hC H locs ls k n hE (lv_sub hl [0, 1, 2] rfl) hR hS (by omega) (by omega)
    · have hw := hw.2 hc4
      refine lv_iconst (v := 0) hx hb (xb_d D_M_invoke 6 rfl) (by decide) ?_
      refine lv_goto (tgt := 15) hx hb (xb_d D_M_invoke 7 rfl) rfl ?_
      exact am_M_invoke_L15 l hfl D A σ MC MS h0 Qr x0 x1 x2 0 x0 h2 hw p e s m args below meth c hC H locs ls k n hE (lv_sub hl [0, 1, 2] rfl) hR hS (by omega) (by omega)
  · exact False.elim hq

set_option maxRecDepth 100000 in
def T_M_isByte : List (Nat × Instr × Nat) := [(0, .aload_n 0, 1), (1, .iload_n 1, 1), (2, .invokevirtual 592, 3), (5, .ifCond .ne 5, 3), (8, .iconst 0, 1), (9, .ireturn, 1), (10, .aload_n 0, 1), (11, .iload_n 1, 1), (12, .iconst 2, 1), (13, .invokevirtual 522, 3), (16, .istore_n 3, 1), (17, .iload_n 3, 1), (18, .ifCond .lt 24, 3), (21, .iload_n 2, 1), (22, .ifCond .lt 20, 3), (25, .iload_n 2, 1), (26, .ldc 7, 2), (28, .aload_n 0, 1), (29, .getfield 111, 3), (32, .iload_n 3, 1), (33, .iaload, 1), (34, .imul, 1), (35, .if_icmp .ge 7, 3), (38, .iconst 1, 1), (39, .goto 4, 3), (42, .iconst 0, 1), (43, .ireturn, 1)]
theorem D_M_isByte : ∀ q ∈ T_M_isByte, decode b_M_isByte q.1 = .ok (q.2.1, q.2.2) := by decide +kernel
def w_M_isByte_L43 (Qr : Int32 → xb_H → Prop) (y0 : Int32) (h : xb_H) : Prop :=
    (y0 = 0 ∨ y0 = 1) ∧ Qr y0 h

def w_M_isByte_L42 (Qr : Int32 → xb_H → Prop) (h : xb_H) : Prop :=
    w_M_isByte_L43 Qr 0 h

def w_M_isByte (x0 : Nat) (x1 : Int32) (x2 : Int32) (h : xb_H) (Qr : Int32 → xb_H → Prop) : Prop :=
    xb_k h x0 = 9 ∧ w_M_isInstance x0 x1 h (fun (r3 : Int32) (h2 : xb_H) => xb_ext h h2 → ((¬ r3 = (0 : Int32) → w_M_only x0 x1 2 h2 (fun (r6 : Int32) (h5 : xb_H) => xb_ext h2 h5 → ((r6 < (0 : Int32) → w_M_isByte_L42 Qr h5) ∧ (¬ r6 < (0 : Int32) → ((x2 < (0 : Int32) → w_M_isByte_L42 Qr h5) ∧ (¬ x2 < (0 : Int32) → ∃ b9 : Nat, (xb_r h5 x0 54) = some b9 ∧ xb_k h5 b9 = 102 ∧ vp_in r6 (xb_n h5 b9) ∧ (((65536 * (xb_i h5 b9 (Int32.toNatClampNeg r6))) ≤ x2 → w_M_isByte_L42 Qr h5) ∧ (¬ (65536 * (xb_i h5 b9 (Int32.toNatClampNeg r6))) ≤ x2 → w_M_isByte_L43 Qr 1 h5)))))))) ∧ (r3 = (0 : Int32) → Qr 0 h2)))

set_option maxHeartbeats 4000000 in
set_option maxRecDepth 100000 in
theorem am_M_isByte_L43 (l : Launch) (hfl : l.flags = pinnedFlags ++ [noTraceFlag]) (D : va_G) (A : Nat → Prop) (σ MC MS : Nat) (h0 : xb_H) (Qr : Int32 → xb_H → Prop) (y0 : Int32) (h : xb_H) (hw : w_M_isByte_L43 Qr y0 h) : xb_am l D A σ 10 MC MS h0 (fun v h => ∃ r, v = some (.int r) ∧ Qr r h) (fun _ _ => False) y_M_isByte.cls y_M_isByte.name b_M_isByte 4 ([] : List ExceptionTableEntry) (some .boolean) 43 [] [.int y0] h 0 0 := by
  unfold w_M_isByte_L43 at hw
  intro p e s m args below meth c hC H locs ls k n hE hl hR hS hk hn
  obtain ⟨hx, hb, hown, hlocks, htab, hml, hr, hB, hA, hnm⟩ := id hC
  have hts := hB.1.1.at args
  exact xb_zret hx hb hr hlocks (show k ≤ MC by omega) (show n ≤ MS by omega) hw.1 hE hR hS (xb_d D_M_isByte 26 rfl) hw.2

set_option maxHeartbeats 4000000 in
set_option maxRecDepth 100000 in
theorem am_M_isByte_L42 (l : Launch) (hfl : l.flags = pinnedFlags ++ [noTraceFlag]) (D : va_G) (A : Nat → Prop) (σ MC MS : Nat) (h0 : xb_H) (Qr : Int32 → xb_H → Prop) (h : xb_H) (hw : w_M_isByte_L42 Qr h) : xb_am l D A σ 10 MC MS h0 (fun v h => ∃ r, v = some (.int r) ∧ Qr r h) (fun _ _ => False) y_M_isByte.cls y_M_isByte.name b_M_isByte 4 ([] : List ExceptionTableEntry) (some .boolean) 42 [] [] h 0 0 := by
  unfold w_M_isByte_L42 at hw
  intro p e s m args below meth c hC H locs ls k n hE hl hR hS hk hn
  obtain ⟨hx, hb, hown, hlocks, htab, hml, hr, hB, hA, hnm⟩ := id hC
  have hts := hB.1.1.at args
  refine lv_iconst (v := 0) hx hb (xb_d D_M_isByte 25 rfl) (by decide) ?_
  exact am_M_isByte_L43 l hfl D A σ MC MS h0 Qr 0 h hw p e s m args below meth c hC H locs ls k n hE (lv_sub hl [] rfl) hR hS (by omega) (by omega)

set_option maxHeartbeats 4000000 in
set_option maxRecDepth 100000 in
theorem ok_M_isByte (l : Launch) (hfl : l.flags = pinnedFlags ++ [noTraceFlag]) (D : va_G) (A : Nat → Prop) (σ : Nat) (x0 : Nat) (x1 : Int32) (x2 : Int32) (h : xb_H) (Qr : Int32 → xb_H → Prop) (hw : w_M_isByte x0 x1 x2 h Qr) : xt_Met l y_M_isByte [.code y_M_isByte b_M_isByte 4 (some .boolean)] (xb_rm 10 0 0) (xb_Pc D A σ h [.ref x0, .int x1, .int x2]) (xb_Qc D A h (fun v h => ∃ r, v = some (.int r) ∧ Qr r h) (fun _ _ => False)) 0 0 A := by
  refine xb_ofAm (cc := b_M_isByte) (by decide) (Nat.le_of_ble_eq_true rfl) ?_
  unfold w_M_isByte at hw
  show xb_am l D A σ 10 0 0 h (fun v h => ∃ r, v = some (.int r) ∧ Qr r h) (fun _ _ => False) y_M_isByte.cls y_M_isByte.name b_M_isByte 4 ([] : List ExceptionTableEntry) (some .boolean) 0 [(0, .ref x0), (1, .int x1), (2, .int x2)] [] h 0 0
  obtain ⟨MC, hMC⟩ : ∃ x, x = 0 := ⟨_, rfl⟩
  obtain ⟨MS, hMS⟩ : ∃ x, x = 0 := ⟨_, rfl⟩
  rw [show xb_am l D A σ 10 0 0 = xb_am l D A σ 10 MC MS by rw [hMC, hMS]]
  obtain ⟨h0, hh0⟩ : ∃ x, x = h := ⟨_, rfl⟩
  rw [show xb_am l D A σ 10 MC MS h = xb_am l D A σ 10 MC MS h0 by rw [hh0]]
  intro p e s m args below meth c hC H locs ls k n hE hl hR hS hk hn
  obtain ⟨hx, hb, hown, hlocks, htab, hml, hr, hB, hA, hnm⟩ := id hC
  have hts := hB.1.1.at args
  refine lv_aload_n hx hb (xb_d D_M_isByte 0 rfl) rfl (lv_at hl 0 rfl) ?_
  refine lv_iload_n hx hb (xb_d D_M_isByte 1 rfl) rfl (lv_at hl 1 rfl) ?_
  obtain ⟨hk1, hw⟩ := hw
  refine xb_call (D := D) (A := A) (σ := σ) (h := h) (d := 2) (mc := 0) (ms := 0) (maxL := 2) (rest := []) (av := [.ref x0, .int x1]) (fun T hT X => by obtain ⟨cb, r1, r2, r3⟩ := xb_recv (ci := 8) hR rfl hk1 (by decide); exact xt_invV X hx hown (hts _ m_ec7c79cd) (hts _ m_cefd1701) (hts _ m_d2ca0421) (xt_sigOf (hts _ m_5aaa69eb)) nm_M_isInstance (by rw [hT]; exact r1) r2 r3 (g := F0 m 2 ls [.int x1, .ref x0]) rfl (argsL := [.int x1]) (rest := []) rfl rfl (by rw [hb]; exact (xb_d D_M_isByte 2 rfl))) (ok_M_isInstance l hfl D A σ x0 x1 h _ hw) (hml.trans hl.1.symm) (by rw [hb]; exact (xb_d D_M_isByte 2 rfl)) (Nat.le_of_ble_eq_true rfl) (Nat.le_of_ble_eq_true rfl) (Nat.le_of_ble_eq_true rfl) (show k + 0 ≤ MC by omega) (show n + 0 ≤ MS by omega) (xt_w1 hB.1 m_5aaa69eb) (xt_cdOf hB.1 m_5aaa69eb) (hts _ m_d5ed7bed) hB hR hS hA (fun vv h2 H locs hq hEh2 hR hS => ?_) (fun XX ax h2 H locs hq hEh2 hex hR hS => ?_)
  · obtain ⟨r3, rfl, hw⟩ := hq
    have hw := hw hEh2
    have hE := hE.tr hEh2
    refine W.eq (g2 := F0 m 5 ls [.int r3]) rfl ?_
    refine lv_if_ne (tgt := 10) hx hb (xb_d D_M_isByte 3 rfl) rfl (fun hc4 => ?_) (fun hc4 => ?_)
    · have hw := hw.1 hc4
      refine lv_aload_n hx hb (xb_d D_M_isByte 6 rfl) rfl (lv_at hl 0 rfl) ?_
      refine lv_iload_n hx hb (xb_d D_M_isByte 7 rfl) rfl (lv_at hl 1 rfl) ?_
      refine lv_iconst (v := 2) hx hb (xb_d D_M_isByte 8 rfl) (by decide) ?_
      have hk1 : xb_k h2 x0 = 9 := hEh2.k hk1
      refine xb_call (D := D) (A := A) (σ := σ) (h := h2) (d := 9) (mc := 0) (ms := 0) (maxL := 3) (rest := []) (av := [.ref x0, .int x1, .int 2]) (fun T hT X => by obtain ⟨cb, r1, r2, r3⟩ := xb_recv (ci := 8) hR rfl hk1 (by decide); exact xt_invV X hx hown (hts _ m_392cec72) (hts _ m_982c4770) (hts _ m_e18e99cc) (xt_sigOf (hts _ m_3f9e55aa)) nm_M_only (by rw [hT]; exact r1) r2 r3 (g := F0 m 13 ls [.int 2, .int x1, .ref x0]) rfl (argsL := [.int x1, .int 2]) (rest := []) rfl rfl (by rw [hb]; exact (xb_d D_M_isByte 9 rfl))) (ok_M_only l hfl D A σ x0 x1 2 h2 _ hw) (hml.trans hl.1.symm) (by rw [hb]; exact (xb_d D_M_isByte 9 rfl)) (Nat.le_of_ble_eq_true rfl) (Nat.le_of_ble_eq_true rfl) (Nat.le_of_ble_eq_true rfl) (show k + 0 ≤ MC by omega) (show n + 0 ≤ MS by omega) (xt_w1 hB.1 m_3f9e55aa) (xt_cdOf hB.1 m_3f9e55aa) (hts _ m_d5ed7bed) hB hR hS hA (fun vv h5 H locs hq hEh5 hR hS => ?_) (fun XX ax h5 H locs hq hEh5 hex hR hS => ?_)
      · obtain ⟨r6, rfl, hw⟩ := hq
        have hw := hw hEh5
        have hE := hE.tr hEh5
        refine W.eq (g2 := F0 m 16 ls [.int r6]) rfl ?_
        refine lv_istore_n hx hb (xb_d D_M_isByte 10 rfl) rfl hl (by decide) rfl (fun ls hl => ?_)
        have hl : lv_has ls 4 [(3, .int r6), (0, .ref x0), (1, .int x1), (2, .int x2)] := hl
        refine lv_iload_n hx hb (xb_d D_M_isByte 11 rfl) rfl (lv_at hl 0 rfl) ?_
        refine lv_if_lt (tgt := 42) hx hb (xb_d D_M_isByte 12 rfl) rfl (fun hc7 => ?_) (fun hc7 => ?_)
        · have hw := hw.1 hc7
          exact am_M_isByte_L42 l hfl D A σ MC MS h0 Qr h5 hw p e s m args below meth c hC H locs ls k n hE (lv_sub hl [] rfl) hR hS (by omega) (by omega)
        · have hw := hw.2 hc7
          refine lv_iload_n hx hb (xb_d D_M_isByte 13 rfl) rfl (lv_at hl 3 rfl) ?_
          refine lv_if_lt (tgt := 42) hx hb (xb_d D_M_isByte 14 rfl) rfl (fun hc8 => ?_) (fun hc8 => ?_)
          · have hw := hw.1 hc8
            exact am_M_isByte_L42 l hfl D A σ MC MS h0 Qr h5 hw p e s m args below meth c hC H locs ls k n hE (lv_sub hl [] rfl) hR hS (by omega) (by omega)
          · have hw := hw.2 hc8
            refine lv_iload_n hx hb (xb_d D_M_isByte 15 rfl) rfl (lv_at hl 3 rfl) ?_
            refine lv_ldc (v := 65536) hx hb hown (hts _ m_36de59d5) (xb_d D_M_isByte 16 rfl) ?_
            refine lv_aload_n hx hb (xb_d D_M_isByte 17 rfl) rfl (lv_at hl 1 rfl) ?_
            have hk1 : xb_k h5 x0 = 9 := hEh5.k hk1
            refine xb_getP (C := R_M) (T := F_M) (N := 97) hx hb 8 54 hts fin_M hown hR hk1 (by decide) rfl (by decide) rfl (hts _ m_605483d9) (fun _ h9 => h9) (xb_d D_M_isByte 18 rfl) ?_
            obtain ⟨b9, eb9, hw⟩ := hw
            refine xb_some eb9 ?_
            refine lv_iload_n hx hb (xb_d D_M_isByte 19 rfl) rfl (lv_at hl 0 rfl) ?_
            obtain ⟨hk11, hw⟩ := hw
            obtain ⟨hi10, hw⟩ := hw
            refine xb_iald hx hb hR hk11 hi10 (xb_d D_M_isByte 20 rfl) ?_
            refine lv_imul hx hb (xb_d D_M_isByte 21 rfl) ?_
            refine lv_icmp_ge (tgt := 42) hx hb (xb_d D_M_isByte 22 rfl) rfl (fun hc12 => ?_) (fun hc12 => ?_)
            · have hw := hw.1 hc12
              exact am_M_isByte_L42 l hfl D A σ MC MS h0 Qr h5 hw p e s m args below meth c hC H locs ls k n hE (lv_sub hl [] rfl) hR hS (by omega) (by omega)
            · have hw := hw.2 hc12
              refine lv_iconst (v := 1) hx hb (xb_d D_M_isByte 23 rfl) (by decide) ?_
              refine lv_goto (tgt := 43) hx hb (xb_d D_M_isByte 24 rfl) rfl ?_
              exact am_M_isByte_L43 l hfl D A σ MC MS h0 Qr 1 h5 hw p e s m args below meth c hC H locs ls k n hE (lv_sub hl [] rfl) hR hS (by omega) (by omega)
      · exact False.elim hq
    · have hw := hw.2 hc4
      refine lv_iconst (v := 0) hx hb (xb_d D_M_isByte 4 rfl) (by decide) ?_
      exact xb_zret hx hb hr hlocks (show k ≤ MC by omega) (show n ≤ MS by omega) (by decide) hE hR hS (xb_d D_M_isByte 5 rfl) hw
  · exact False.elim hq

set_option maxRecDepth 100000 in
def T_M_pages : List (Nat × Instr × Nat) := [(0, .aload_n 0, 1), (1, .aload_n 0, 1), (2, .iload_n 1, 1), (3, .invokevirtual 592, 3), (6, .ifCond .eq 7, 3), (9, .iconst 0, 1), (10, .goto 4, 3), (13, .iconst 1, 1), (14, .putfield 189, 3), (17, .aload_n 0, 1), (18, .getfield 189, 3), (21, .ifCond .le 5, 3), (24, .iconst 0, 1), (25, .ireturn, 1), (26, .aload_n 0, 1), (27, .iload_n 1, 1), (28, .iconst 2, 1), (29, .invokevirtual 522, 3), (32, .istore_n 2, 1), (33, .iload_n 2, 1), (34, .ifCond .ge 7, 3), (37, .iconst (-1), 1), (38, .goto 9, 3), (41, .aload_n 0, 1), (42, .getfield 111, 3), (45, .iload_n 2, 1), (46, .iaload, 1), (47, .ireturn, 1)]
theorem D_M_pages : ∀ q ∈ T_M_pages, decode b_M_pages q.1 = .ok (q.2.1, q.2.2) := by decide +kernel
def w_M_pages_L47 (Qr : Int32 → xb_H → Prop) (y0 : Int32) (h : xb_H) : Prop :=
    Qr y0 h

def w_M_pages_L14 (Qr : Int32 → xb_H → Prop) (x0 : Nat) (x1 : Int32) (y0 : Int32) (y1 : Nat) (h : xb_H) : Prop :=
    xb_k h y1 = 9 ∧ ∀ h2 : xb_H, h2 = xb_I h y1 0 y0 → xb_k h2 x0 = 9 ∧ (((xb_i h2 x0 0) ≤ (0 : Int32) → w_M_only x0 x1 2 h2 (fun (r6 : Int32) (h5 : xb_H) => xb_ext h2 h5 → (((0 : Int32) ≤ r6 → ∃ b8 : Nat, (xb_r h5 x0 54) = some b8 ∧ xb_k h5 b8 = 102 ∧ vp_in r6 (xb_n h5 b8) ∧ w_M_pages_L47 Qr (xb_i h5 b8 (Int32.toNatClampNeg r6)) h5) ∧ (¬ (0 : Int32) ≤ r6 → w_M_pages_L47 Qr (-1) h5)))) ∧ (¬ (xb_i h2 x0 0) ≤ (0 : Int32) → Qr 0 h2))

def w_M_pages (x0 : Nat) (x1 : Int32) (h : xb_H) (Qr : Int32 → xb_H → Prop) : Prop :=
    xb_k h x0 = 9 ∧ w_M_isInstance x0 x1 h (fun (r3 : Int32) (h2 : xb_H) => xb_ext h h2 → ((r3 = (0 : Int32) → w_M_pages_L14 Qr x0 x1 1 x0 h2) ∧ (¬ r3 = (0 : Int32) → w_M_pages_L14 Qr x0 x1 0 x0 h2)))

set_option maxHeartbeats 4000000 in
set_option maxRecDepth 100000 in
theorem am_M_pages_L47 (l : Launch) (hfl : l.flags = pinnedFlags ++ [noTraceFlag]) (D : va_G) (A : Nat → Prop) (σ MC MS : Nat) (h0 : xb_H) (Qr : Int32 → xb_H → Prop) (y0 : Int32) (h : xb_H) (hw : w_M_pages_L47 Qr y0 h) : xb_am l D A σ 10 MC MS h0 (fun v h => ∃ r, v = some (.int r) ∧ Qr r h) (fun _ _ => False) y_M_pages.cls y_M_pages.name b_M_pages 3 ([] : List ExceptionTableEntry) (some .int) 47 [] [.int y0] h 0 0 := by
  unfold w_M_pages_L47 at hw
  intro p e s m args below meth c hC H locs ls k n hE hl hR hS hk hn
  obtain ⟨hx, hb, hown, hlocks, htab, hml, hr, hB, hA, hnm⟩ := id hC
  have hts := hB.1.1.at args
  exact xb_iret hx hb hr hlocks (show k ≤ MC by omega) (show n ≤ MS by omega) hE hR hS (xb_d D_M_pages 27 rfl) hw

set_option maxHeartbeats 4000000 in
set_option maxRecDepth 100000 in
theorem am_M_pages_L14 (l : Launch) (hfl : l.flags = pinnedFlags ++ [noTraceFlag]) (D : va_G) (A : Nat → Prop) (σ MC MS : Nat) (h0 : xb_H) (Qr : Int32 → xb_H → Prop) (x0 : Nat) (x1 : Int32) (y0 : Int32) (y1 : Nat) (h : xb_H) (hw : w_M_pages_L14 Qr x0 x1 y0 y1 h) : xb_am l D A σ 10 MC MS h0 (fun v h => ∃ r, v = some (.int r) ∧ Qr r h) (fun _ _ => False) y_M_pages.cls y_M_pages.name b_M_pages 3 ([] : List ExceptionTableEntry) (some .int) 14 [(0, .ref x0), (1, .int x1)] [.int y0, .ref y1] h 0 0 := by
  unfold w_M_pages_L14 at hw
  intro p e s m args below meth c hC H locs ls k n hE hl hR hS hk hn
  obtain ⟨hx, hb, hown, hlocks, htab, hml, hr, hB, hA, hnm⟩ := id hC
  have hts := hB.1.1.at args
  obtain ⟨hk1, hw⟩ := hw
  refine xb_putI (C := R_M) (T := F_M) (N := 97) (ty := .int) (x := y0) hx hb 8 0 hts fin_M t_M t_M_ok n_M hown hR hS hk1 (by decide) rfl (by decide) rfl (hts _ m_afabd6a0) (fun _ h9 => h9) rfl (by decide +kernel) rfl rfl (xb_d D_M_pages 8 rfl) (fun H locs hR hS => ?_)
  obtain ⟨h2, eh2⟩ : ∃ x : xb_H, x = xb_I h y1 0 y0 := ⟨_, rfl⟩
  rw [← eh2] at hR
  have hw := hw h2 eh2
  have hE : xb_ext h0 h2 := by rw [eh2]; exact hE
  refine lv_aload_n hx hb (xb_d D_M_pages 9 rfl) rfl (lv_at hl 0 rfl) ?_
  obtain ⟨hk3, hw⟩ := hw
  refine xb_getI (C := R_M) (T := F_M) (N := 97) hx hb 8 0 hts fin_M hown hR hk3 (by decide) rfl (by decide) rfl (hts _ m_afabd6a0) (fun _ h9 => h9) (xb_d D_M_pages 10 rfl) ?_
  refine lv_if_le (tgt := 26) hx hb (xb_d D_M_pages 11 rfl) rfl (fun hc4 => ?_) (fun hc4 => ?_)
  · have hw := hw.1 hc4
    refine lv_aload_n hx hb (xb_d D_M_pages 14 rfl) rfl (lv_at hl 0 rfl) ?_
    refine lv_iload_n hx hb (xb_d D_M_pages 15 rfl) rfl (lv_at hl 1 rfl) ?_
    refine lv_iconst (v := 2) hx hb (xb_d D_M_pages 16 rfl) (by decide) ?_
    refine xb_call (D := D) (A := A) (σ := σ) (h := h2) (d := 9) (mc := 0) (ms := 0) (maxL := 3) (rest := []) (av := [.ref x0, .int x1, .int 2]) (fun T hT X => by obtain ⟨cb, r1, r2, r3⟩ := xb_recv (ci := 8) hR rfl hk3 (by decide); exact xt_invV X hx hown (hts _ m_392cec72) (hts _ m_982c4770) (hts _ m_e18e99cc) (xt_sigOf (hts _ m_3f9e55aa)) nm_M_only (by rw [hT]; exact r1) r2 r3 (g := F0 m 29 ls [.int 2, .int x1, .ref x0]) rfl (argsL := [.int x1, .int 2]) (rest := []) rfl rfl (by rw [hb]; exact (xb_d D_M_pages 17 rfl))) (ok_M_only l hfl D A σ x0 x1 2 h2 _ hw) (hml.trans hl.1.symm) (by rw [hb]; exact (xb_d D_M_pages 17 rfl)) (Nat.le_of_ble_eq_true rfl) (Nat.le_of_ble_eq_true rfl) (Nat.le_of_ble_eq_true rfl) (show k + 0 ≤ MC by omega) (show n + 0 ≤ MS by omega) (xt_w1 hB.1 m_3f9e55aa) (xt_cdOf hB.1 m_3f9e55aa) (hts _ m_d5ed7bed) hB hR hS hA (fun vv h5 H locs hq hEh5 hR hS => ?_) (fun XX ax h5 H locs hq hEh5 hex hR hS => ?_)
    · obtain ⟨r6, rfl, hw⟩ := hq
      have hw := hw hEh5
      have hE := hE.tr hEh5
      refine W.eq (g2 := F0 m 32 ls [.int r6]) rfl ?_
      refine lv_istore_n hx hb (xb_d D_M_pages 18 rfl) rfl hl (by decide) rfl (fun ls hl => ?_)
      have hl : lv_has ls 3 [(2, .int r6), (0, .ref x0), (1, .int x1)] := hl
      refine lv_iload_n hx hb (xb_d D_M_pages 19 rfl) rfl (lv_at hl 0 rfl) ?_
      refine lv_if_ge (tgt := 41) hx hb (xb_d D_M_pages 20 rfl) rfl (fun hc7 => ?_) (fun hc7 => ?_)
      · have hw := hw.1 hc7
        refine lv_aload_n hx hb (xb_d D_M_pages 23 rfl) rfl (lv_at hl 1 rfl) ?_
        have hk3 : xb_k h5 x0 = 9 := hEh5.k hk3
        refine xb_getP (C := R_M) (T := F_M) (N := 97) hx hb 8 54 hts fin_M hown hR hk3 (by decide) rfl (by decide) rfl (hts _ m_605483d9) (fun _ h9 => h9) (xb_d D_M_pages 24 rfl) ?_
        obtain ⟨b8, eb8, hw⟩ := hw
        refine xb_some eb8 ?_
        refine lv_iload_n hx hb (xb_d D_M_pages 25 rfl) rfl (lv_at hl 0 rfl) ?_
        obtain ⟨hk10, hw⟩ := hw
        obtain ⟨hi9, hw⟩ := hw
        refine xb_iald hx hb hR hk10 hi9 (xb_d D_M_pages 26 rfl) ?_
        exact am_M_pages_L47 l hfl D A σ MC MS h0 Qr (xb_i h5 b8 (Int32.toNatClampNeg r6)) h5 hw p e s m args below meth c hC H locs ls k n hE (lv_sub hl [] rfl) hR hS (by omega) (by omega)
      · have hw := hw.2 hc7
        refine lv_iconst (v := (-1)) hx hb (xb_d D_M_pages 21 rfl) (by decide) ?_
        refine lv_goto (tgt := 47) hx hb (xb_d D_M_pages 22 rfl) rfl ?_
        exact am_M_pages_L47 l hfl D A σ MC MS h0 Qr (-1) h5 hw p e s m args below meth c hC H locs ls k n hE (lv_sub hl [] rfl) hR hS (by omega) (by omega)
    · exact False.elim hq
  · have hw := hw.2 hc4
    refine lv_iconst (v := 0) hx hb (xb_d D_M_pages 12 rfl) (by decide) ?_
    exact xb_iret hx hb hr hlocks (show k ≤ MC by omega) (show n ≤ MS by omega) hE hR hS (xb_d D_M_pages 13 rfl) hw

set_option maxHeartbeats 4000000 in
set_option maxRecDepth 100000 in
theorem ok_M_pages (l : Launch) (hfl : l.flags = pinnedFlags ++ [noTraceFlag]) (D : va_G) (A : Nat → Prop) (σ : Nat) (x0 : Nat) (x1 : Int32) (h : xb_H) (Qr : Int32 → xb_H → Prop) (hw : w_M_pages x0 x1 h Qr) : xt_Met l y_M_pages [.code y_M_pages b_M_pages 3 (some .int)] (xb_rm 10 0 0) (xb_Pc D A σ h [.ref x0, .int x1]) (xb_Qc D A h (fun v h => ∃ r, v = some (.int r) ∧ Qr r h) (fun _ _ => False)) 0 0 A := by
  refine xb_ofAm (cc := b_M_pages) (by decide) (Nat.le_of_ble_eq_true rfl) ?_
  unfold w_M_pages at hw
  show xb_am l D A σ 10 0 0 h (fun v h => ∃ r, v = some (.int r) ∧ Qr r h) (fun _ _ => False) y_M_pages.cls y_M_pages.name b_M_pages 3 ([] : List ExceptionTableEntry) (some .int) 0 [(0, .ref x0), (1, .int x1)] [] h 0 0
  obtain ⟨MC, hMC⟩ : ∃ x, x = 0 := ⟨_, rfl⟩
  obtain ⟨MS, hMS⟩ : ∃ x, x = 0 := ⟨_, rfl⟩
  rw [show xb_am l D A σ 10 0 0 = xb_am l D A σ 10 MC MS by rw [hMC, hMS]]
  obtain ⟨h0, hh0⟩ : ∃ x, x = h := ⟨_, rfl⟩
  rw [show xb_am l D A σ 10 MC MS h = xb_am l D A σ 10 MC MS h0 by rw [hh0]]
  intro p e s m args below meth c hC H locs ls k n hE hl hR hS hk hn
  obtain ⟨hx, hb, hown, hlocks, htab, hml, hr, hB, hA, hnm⟩ := id hC
  have hts := hB.1.1.at args
  refine lv_aload_n hx hb (xb_d D_M_pages 0 rfl) rfl (lv_at hl 0 rfl) ?_
  refine lv_aload_n hx hb (xb_d D_M_pages 1 rfl) rfl (lv_at hl 0 rfl) ?_
  refine lv_iload_n hx hb (xb_d D_M_pages 2 rfl) rfl (lv_at hl 1 rfl) ?_
  obtain ⟨hk1, hw⟩ := hw
  refine xb_call (D := D) (A := A) (σ := σ) (h := h) (d := 2) (mc := 0) (ms := 0) (maxL := 2) (rest := [.ref x0]) (av := [.ref x0, .int x1]) (fun T hT X => by obtain ⟨cb, r1, r2, r3⟩ := xb_recv (ci := 8) hR rfl hk1 (by decide); exact xt_invV X hx hown (hts _ m_ec7c79cd) (hts _ m_cefd1701) (hts _ m_d2ca0421) (xt_sigOf (hts _ m_5aaa69eb)) nm_M_isInstance (by rw [hT]; exact r1) r2 r3 (g := F0 m 3 ls [.int x1, .ref x0, .ref x0]) rfl (argsL := [.int x1]) (rest := [.ref x0]) rfl rfl (by rw [hb]; exact (xb_d D_M_pages 3 rfl))) (ok_M_isInstance l hfl D A σ x0 x1 h _ hw) (hml.trans hl.1.symm) (by rw [hb]; exact (xb_d D_M_pages 3 rfl)) (Nat.le_of_ble_eq_true rfl) (Nat.le_of_ble_eq_true rfl) (Nat.le_of_ble_eq_true rfl) (show k + 0 ≤ MC by omega) (show n + 0 ≤ MS by omega) (xt_w1 hB.1 m_5aaa69eb) (xt_cdOf hB.1 m_5aaa69eb) (hts _ m_d5ed7bed) hB hR hS hA (fun vv h2 H locs hq hEh2 hR hS => ?_) (fun XX ax h2 H locs hq hEh2 hex hR hS => ?_)
  · obtain ⟨r3, rfl, hw⟩ := hq
    have hw := hw hEh2
    have hE := hE.tr hEh2
    refine W.eq (g2 := F0 m 6 ls [.int r3, .ref x0]) rfl ?_
    refine lv_if_eq (tgt := 13) hx hb (xb_d D_M_pages 4 rfl) rfl (fun hc4 => ?_) (fun hc4 => ?_)
    · have hw := hw.1 hc4
      refine lv_iconst (v := 1) hx hb (xb_d D_M_pages 7 rfl) (by decide) ?_
      exact am_M_pages_L14 l hfl D A σ MC MS h0 Qr x0 x1 1 x0 h2 hw p e s m args below meth c hC H locs ls k n hE (lv_sub hl [0, 1] rfl) hR hS (by omega) (by omega)
    · have hw := hw.2 hc4
      refine lv_iconst (v := 0) hx hb (xb_d D_M_pages 5 rfl) (by decide) ?_
      refine lv_goto (tgt := 14) hx hb (xb_d D_M_pages 6 rfl) rfl ?_
      exact am_M_pages_L14 l hfl D A σ MC MS h0 Qr x0 x1 0 x0 h2 hw p e s m args below meth c hC H locs ls k n hE (lv_sub hl [0, 1] rfl) hR hS (by omega) (by omega)
  · exact False.elim hq

