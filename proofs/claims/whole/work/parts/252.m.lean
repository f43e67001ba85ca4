theorem m_40324d32 : (.methodLink "StackHostModel" 358 y_M_changes : Cond) ∈ xt_tbl := xt_in (xt_t11 (List.mem_of_getElem? (i := 101) (by decide +kernel))) (by decide +kernel)
theorem m_58244a27 : (.instanceMethod y_M_changes : Cond) ∈ xt_tbl := xt_in (xt_t11 (List.mem_of_getElem? (i := 103) (by decide +kernel))) (by decide +kernel)
theorem m_041bc6eb : (.selects "StackHostModel" y_M_changes y_M_changes : Cond) ∈ xt_tbl := xt_in (xt_v11 (q := (⟨"StackHostModel", "changes", "(II)Z"⟩, 97)) (List.mem_of_getElem? (i := 1) (by decide +kernel))) (by decide +kernel)
theorem m_a97ef8c2 : (.code y_M_changes b_M_changes 3 (some .boolean) : Cond) ∈ xt_tbl := xt_in (xt_t11 (List.mem_of_getElem? (i := 104) (by decide +kernel))) (by decide +kernel)
theorem nm_M_changes : xt_nm y_M_changes 2 := ⟨by decide +kernel, by decide +kernel⟩
set_option maxRecDepth 100000 in
def T_M_checkConstant : List (Nat × Instr × Nat) := [(0, .aload_n 0, 1), (1, .getfield 202, 3), (4, .istore_n 3, 1), (5, .aload_n 0, 1), (6, .invokevirtual 212, 3), (9, .istore 4, 2), (11, .aload_n 0, 1), (12, .getfield 202, 3), (15, .istore 5, 2), (17, .iload 4, 2), (19, .bipush 35, 2), (21, .if_icmp .ne 98, 3), (24, .aload_n 0, 1), (25, .invokevirtual 218, 3), (28, .lstore 6, 2), (30, .aload_n 0, 1), (31, .getfield 202, 3), (34, .istore 8, 2), (36, .lload 6, 2), (38, .aload_n 0, 1), (39, .getfield 30, 3), (42, .iconst 4, 1), (43, .iload_n 1, 1), (44, .imul, 1), (45, .iconst 3, 1), (46, .iadd, 1), (47, .iaload, 1), (48, .i2l, 1), (49, .lcmp, 1), (50, .ifCond .lt 11, 3), (53, .aload_n 0, 1), (54, .bipush 20, 2), (56, .iload_n 3, 1), (57, .invokevirtual 208, 3), (60, .return_, 1), (61, .aload_n 0, 1), (62, .iload_n 1, 1), (63, .lload 6, 2), (65, .l2i, 1), (66, .invokevirtual 358, 3), (69, .istore 9, 2), (71, .aload_n 0, 1), (72, .iload_n 1, 1), (73, .lload 6, 2), (75, .l2i, 1), (76, .invokevirtual 342, 3), (79, .istore 10, 2), (81, .aload_n 0, 1), (82, .iload_n 1, 1), (83, .iload 8, 2), (85, .invokevirtual 324, 3), (88, .iload 9, 2), (90, .ifCond .eq 13, 3), (93, .aload_n 0, 1), (94, .bipush 26, 2), (96, .iload_n 3, 1), (97, .invokevirtual 208, 3), (100, .goto 16, 3), (103, .iload 10, 2), (105, .iload_n 2, 1), (106, .if_icmp .eq 10, 3), (109, .aload_n 0, 1), (110, .bipush 21, 2), (112, .iload_n 3, 1), (113, .invokevirtual 208, 3), (116, .goto 57, 3), (119, .iload 4, 2), (121, .bipush 65, 2), (123, .if_icmp .lt 43, 3), (126, .iload 4, 2), (128, .bipush 68, 2), (130, .if_icmp .gt 36, 3), (133, .aload_n 0, 1), (134, .iload 5, 2), (136, .putfield 202, 3), (139, .aload_n 0, 1), (140, .iload 4, 2), (142, .iload_n 3, 1), (143, .invokevirtual 259, 3), (146, .iload_n 2, 1), (147, .sipush 192, 3), (150, .iload 4, 2), (152, .isub, 1), (153, .if_icmp .eq 20, 3), (156, .aload_n 0, 1), (157, .bipush 21, 2), (159, .iload_n 3, 1), (160, .invokevirtual 208, 3), (163, .goto 10, 3), (166, .aload_n 0, 1), (167, .bipush 26, 2), (169, .iload_n 3, 1), (170, .invokevirtual 208, 3), (173, .aload_n 0, 1), (174, .getfield 193, 3), (177, .ifCond .ne 26, 3), (180, .aload_n 0, 1), (181, .getfield 202, 3), (184, .istore 6, 2), (186, .aload_n 0, 1), (187, .invokevirtual 212, 3), (190, .bipush 11, 2), (192, .if_icmp .eq 11, 3), (195, .aload_n 0, 1), (196, .bipush 26, 2), (198, .iload 6, 2), (200, .invokevirtual 208, 3), (203, .return_, 1)]
theorem D_M_checkConstant : ∀ q ∈ T_M_checkConstant, decode b_M_checkConstant q.1 = .ok (q.2.1, q.2.2) := by decide +kernel
def w_M_checkConstant_L203 (Qr : xb_H → Prop) (h : xb_H) : Prop :=
    Qr h

def w_M_checkConstant_L173 (Qr : xb_H → Prop) (x0 : Nat) (h : xb_H) : Prop :=
    xb_k h x0 = 9 ∧ ((¬ (xb_i h x0 17) = (0 : Int32) → w_M_checkConstant_L203 Qr h) ∧ ((xb_i h x0 17) = (0 : Int32) → ∀ v3 : Int32, v3 = (xb_i h x0 15) → w_M_next x0 h (fun (r5 : Int32) (h4 : xb_H) => xb_ext h h4 → ((r5 = (11 : Int32) → w_M_checkConstant_L203 Qr h4) ∧ (¬ r5 = (11 : Int32) → w_M_fail x0 26 v3 h4 (fun (h7 : xb_H) => xb_ext h4 h7 → w_M_checkConstant_L203 Qr h7))))))

def w_M_checkConstant_L166 (Qr : xb_H → Prop) (x0 : Nat) (x3 : Int32) (h : xb_H) : Prop :=
    xb_k h x0 = 9 ∧ w_M_fail x0 26 x3 h (fun (h2 : xb_H) => xb_ext h h2 → w_M_checkConstant_L173 Qr x0 h2)

def w_M_checkConstant_L116 (Qr : xb_H → Prop) (x0 : Nat) (h : xb_H) : Prop :=
    w_M_checkConstant_L173 Qr x0 h

def w_M_checkConstant (x0 : Nat) (x1 : Int32) (x2 : Int32) (h : xb_H) (Qr : xb_H → Prop) : Prop :=
    xb_k h x0 = 9 ∧ ∀ v2 : Int32, v2 = (xb_i h x0 15) → w_M_next x0 h (fun (r4 : Int32) (h3 : xb_H) => xb_ext h h3 → ∀ v5 : Int32, v5 = (xb_i h3 x0 15) → ((¬ r4 = (35 : Int32) → ((r4 < (65 : Int32) → w_M_checkConstant_L166 Qr x0 v2 h3) ∧ (¬ r4 < (65 : Int32) → (((68 : Int32) < r4 → w_M_checkConstant_L166 Qr x0 v2 h3) ∧ (¬ (68 : Int32) < r4 → ∀ h9 : xb_H, h9 = xb_I h3 x0 15 v5 → w_M_written x0 r4 v2 h9 (fun (h10 : xb_H) => xb_ext h9 h10 → ((x2 = (192 - r4) → w_M_checkConstant_L173 Qr x0 h10) ∧ (¬ x2 = (192 - r4) → w_M_fail x0 21 v2 h10 (fun (h13 : xb_H) => xb_ext h10 h13 → w_M_checkConstant_L173 Qr x0 h13))))))))) ∧ (r4 = (35 : Int32) → w_M_count x0 h3 (fun (r16 : Int64) (h15 : xb_H) => xb_ext h3 h15 → ∀ v17 : Int32, v17 = (xb_i h15 x0 15) → ∃ b18 : Nat, (xb_r h15 x0 10) = some b18 ∧ xb_k h15 b18 = 102 ∧ vp_in ((4 * x1) + 3) (xb_n h15 b18) ∧ ((r16 < (Int32.toInt64 (xb_i h15 b18 (Int32.toNatClampNeg ((4 * x1) + 3)))) → w_M_changes x0 x1 (Int64.toInt32 r16) h15 (fun (r23 : Int32) (h22 : xb_H) => xb_ext h15 h22 → w_M_variableTypeOf x0 x1 (Int64.toInt32 r16) h22 (fun (r25 : Int32) (h24 : xb_H) => xb_ext h22 h24 → w_M_go x0 x1 v17 h24 (fun (h26 : xb_H) => xb_ext h24 h26 → ((r23 = (0 : Int32) → ((r25 = x2 → w_M_checkConstant_L116 Qr x0 h26) ∧ (¬ r25 = x2 → w_M_fail x0 21 v2 h26 (fun (h30 : xb_H) => xb_ext h26 h30 → w_M_checkConstant_L116 Qr x0 h30)))) ∧ (¬ r23 = (0 : Int32) → w_M_fail x0 26 v2 h26 (fun (h32 : xb_H) => xb_ext h26 h32 → w_M_checkConstant_L116 Qr x0 h32))))))) ∧ (¬ r16 < (Int32.toInt64 (xb_i h15 b18 (Int32.toNatClampNeg ((4 * x1) + 3)))) → w_M_fail x0 20 v2 h15 (fun (h34 : xb_H) => xb_ext h15 h34 → Qr h34)))))))

set_option maxHeartbeats 4000000 in
set_option maxRecDepth 100000 in
theorem am_M_checkConstant_L203 (l : Launch) (hfl : l.flags = pinnedFlags ++ [noTraceFlag]) (D : va_G) (A : Nat → Prop) (σ MC MS : Nat) (h0 : xb_H) (Qr : xb_H → Prop) (h : xb_H) (hw : w_M_checkConstant_L203 Qr h) : xb_am l D A σ 10 MC MS h0 (fun v h => v = none ∧ Qr h) (fun _ _ => False) y_M_checkConstant.cls y_M_checkConstant.name b_M_checkConstant 11 ([] : List ExceptionTableEntry) none 203 [] [] h 0 0 := by
  unfold w_M_checkConstant_L203 at hw
  intro p e s m args below meth c hC H locs ls k n hE hl hR hS hk hn
  obtain ⟨hx, hb, hown, hlocks, htab, hml, hr, hB, hA, hnm⟩ := id hC
  have hts := hB.1.1.at args
  exact xb_vret hx hb hr hlocks (show k ≤ MC by omega) (show n ≤ MS by omega) hE hR hS (xb_d D_M_checkConstant 107 rfl) hw

set_option maxHeartbeats 4000000 in
set_option maxRecDepth 100000 in
theorem am_M_checkConstant_L173 (l : Launch) (hfl : l.flags = pinnedFlags ++ [noTraceFlag]) (D : va_G) (A : Nat → Prop) (σ MC MS : Nat) (h0 : xb_H) (Qr : xb_H → Prop) (x0 : Nat) (h : xb_H) (hw : w_M_checkConstant_L173 Qr x0 h) : xb_am l D A σ 10 MC MS h0 (fun v h => v = none ∧ Qr h) (fun _ _ => False) y_M_checkConstant.cls y_M_checkConstant.name b_M_checkConstant 11 ([] : List ExceptionTableEntry) none 173 [(0, .ref x0)] [] h 0 0 := by
  unfold w_M_checkConstant_L173 at hw
  intro p e s m args below meth c hC H locs ls k n hE hl hR hS hk hn
  obtain ⟨hx, hb, hown, hlocks, htab, hml, hr, hB, hA, hnm⟩ := id hC
  have hts := hB.1.1.at args
  refine lv_aload_n hx hb (xb_d D_M_checkConstant 93 rfl) rfl (lv_at hl 0 rfl) ?_
  obtain ⟨hk1, hw⟩ := hw
  refine xb_getI (C := R_M) (T := F_M) (N := 97) hx hb 8 17 hts fin_M hown hR hk1 (by decide) rfl (by decide) rfl (hts _ m_ff69da61) (fun _ h9 => h9) (xb_d D_M_checkConstant 94 rfl) ?_
  refine lv_if_ne (tgt := 203) hx hb (xb_d D_M_checkConstant 95 rfl) rfl (fun hc2 => ?_) (fun hc2 => ?_)
  · have hw := hw.1 hc2
    exact am_M_checkConstant_L203 l hfl D A σ MC MS h0 Qr h hw p e s m args below meth c hC H locs ls k n hE (lv_sub hl [] rfl) hR hS (by omega) (by omega)
  · have hw := hw.2 hc2
    refine lv_aload_n hx hb (xb_d D_M_checkConstant 96 rfl) rfl (lv_at hl 0 rfl) ?_
    refine xb_getI (C := R_M) (T := F_M) (N := 97) hx hb 8 15 hts fin_M hown hR hk1 (by decide) rfl (by decide) rfl (hts _ m_6c2d27ad) (fun _ h9 => h9) (xb_d D_M_checkConstant 97 rfl) ?_
    obtain ⟨v3, ev3⟩ : ∃ x : Int32, x = (xb_i h x0 15) := ⟨_, rfl⟩
    have hw := hw v3 ev3
    refine xt_numi (y := v3) ev3.symm ?_
    refine lv_istore hx hb (xb_d D_M_checkConstant 98 rfl) hl (by decide) rfl (fun ls hl => ?_)
    have hl : lv_has ls 11 [(6, .int v3), (0, .ref x0)] := hl
    refine lv_aload_n hx hb (xb_d D_M_checkConstant 99 rfl) rfl (lv_at hl 1 rfl) ?_
    refine xb_call (D := D) (A := A) (σ := σ) (h := h) (d := 3) (mc := 0) (ms := 0) (maxL := 2) (rest := []) (av := [.ref x0]) (fun T hT X => by obtain ⟨cb, r1, r2, r3⟩ := xb_recv (ci := 8) hR rfl hk1 (by decide); exact xt_invV X hx hown (hts _ m_0e978570) (hts _ m_40099f98) (hts _ m_a7dbfd07) (xt_sigOf (hts _ m_0af1ec6a)) nm_M_next (by rw [hT]; exact r1) r2 r3 (g := F0 m 187 ls [.ref x0]) rfl (argsL := []) (rest := []) rfl rfl (by rw [hb]; exact (xb_d D_M_checkConstant 100 rfl))) (ok_M_next l hfl D A σ x0 h _ hw) (hml.trans hl.1.symm) (by rw [hb]; exact (xb_d D_M_checkConstant 100 rfl)) (Nat.le_of_ble_eq_true rfl) (Nat.le_of_ble_eq_true rfl) (Nat.le_of_ble_eq_true rfl) (show k + 0 ≤ MC by omega) (show n + 0 ≤ MS by omega) (xt_w1 hB.1 m_0af1ec6a) (xt_cdOf hB.1 m_0af1ec6a) (hts _ m_d5ed7bed) hB hR hS hA (fun vv h4 H locs hq hEh4 hR hS => ?_) (fun XX ax h4 H locs hq hEh4 hex hR hS => ?_)
    · obtain ⟨r5, rfl, hw⟩ := hq
      have hw := hw hEh4
      have hE := hE.tr hEh4
      refine W.eq (g2 := F0 m 190 ls [.int r5]) rfl ?_
      refine lv_bipush (v := 11) hx hb (xb_d D_M_checkConstant 101 rfl) (by decide) ?_
      refine lv_icmp_eq (tgt := 203) hx hb (xb_d D_M_checkConstant 102 rfl) rfl (fun hc6 => ?_) (fun hc6 => ?_)
      · have hw := hw.1 hc6
        exact am_M_checkConstant_L203 l hfl D A σ MC MS h0 Qr h4 hw p e s m args below meth c hC H locs ls k n hE (lv_sub hl [] rfl) hR hS (by omega) (by omega)
      · have hw := hw.2 hc6
        refine lv_aload_n hx hb (xb_d D_M_checkConstant 103 rfl) rfl (lv_at hl 1 rfl) ?_
        refine lv_bipush (v := 26) hx hb (xb_d D_M_checkConstant 104 rfl) (by decide) ?_
        refine lv_iload hx hb (xb_d D_M_checkConstant 105 rfl) (lv_at hl 0 rfl) ?_
        have hk1 : xb_k h4 x0 = 9 := hEh4.k hk1
        refine xb_call (D := D) (A := A) (σ := σ) (h := h4) (d := 2) (mc := 0) (ms := 0) (maxL := 3) (rest := []) (av := [.ref x0, .int 26, .int v3]) (fun T hT X => by obtain ⟨cb, r1, r2, r3⟩ := xb_recv (ci := 8) hR rfl hk1 (by decide); exact xt_invV X hx hown (hts _ m_939052ad) (hts _ m_29cc8c73) (hts _ m_3b1ac7ab) (xt_sigOf (hts _ m_8f062ecd)) nm_M_fail (by rw [hT]; exact r1) r2 r3 (g := F0 m 200 ls [.int v3, .int 26, .ref x0]) rfl (argsL := [.int 26, .int v3]) (rest := []) rfl rfl (by rw [hb]; exact (xb_d D_M_checkConstant 106 rfl))) (ok_M_fail l hfl D A σ x0 26 v3 h4 _ hw) (hml.trans hl.1.symm) (by rw [hb]; exact (xb_d D_M_checkConstant 106 rfl)) (Nat.le_of_ble_eq_true rfl) (Nat.le_of_ble_eq_true rfl) (Nat.le_of_ble_eq_true rfl) (show k + 0 ≤ MC by omega) (show n + 0 ≤ MS by omega) (xt_w1 hB.1 m_8f062ecd) (xt_cdOf hB.1 m_8f062ecd) (hts _ m_d5ed7bed) hB hR hS hA (fun vv h7 H locs hq hEh7 hR hS => ?_) (fun XX ax h7 H locs hq hEh7 hex hR hS => ?_)
        · obtain ⟨rfl, hw⟩ := hq
          have hw := hw hEh7
          have hE := hE.tr hEh7
          refine W.eq (g2 := F0 m 203 ls []) rfl ?_
          exact am_M_checkConstant_L203 l hfl D A σ MC MS h0 Qr h7 hw p e s m args below meth c hC H locs ls k n hE (lv_sub hl [] rfl) hR hS (by omega) (by omega)
        · exact False.elim hq
    · exact False.elim hq

set_option maxHeartbeats 4000000 in
set_option maxRecDepth 100000 in
theorem am_M_checkConstant_L166 (l : Launch) (hfl : l.flags = pinnedFlags ++ [noTraceFlag]) (D : va_G) (A : Nat → Prop) (σ MC MS : Nat) (h0 : xb_H) (Qr : xb_H → Prop) (x0 : Nat) (x3 : Int32) (h : xb_H) (hw : w_M_checkConstant_L166 Qr x0 x3 h) : xb_am l D A σ 10 MC MS h0 (fun v h => v = none ∧ Qr h) (fun _ _ => False) y_M_checkConstant.cls y_M_checkConstant.name b_M_checkConstant 11 ([] : List ExceptionTableEntry) none 166 [(0, .ref x0), (3, .int x3)] [] h 0 0 := by
  unfold w_M_checkConstant_L166 at hw
  intro p e s m args below meth c hC H locs ls k n hE hl hR hS hk hn
  obtain ⟨hx, hb, hown, hlocks, htab, hml, hr, hB, hA, hnm⟩ := id hC
  have hts := hB.1.1.at args
  refine lv_aload_n hx hb (xb_d D_M_checkConstant 89 rfl) rfl (lv_at hl 0 rfl) ?_
  refine lv_bipush (v := 26) hx hb (xb_d D_M_checkConstant 90 rfl) (by decide) ?_
  refine lv_iload_n hx hb (xb_d D_M_checkConstant 91 rfl) rfl (lv_at hl 1 rfl) ?_
  obtain ⟨hk1, hw⟩ := hw
  refine xb_call (D := D) (A := A) (σ := σ) (h := h) (d := 2) (mc := 0) (ms := 0) (maxL := 3) (rest := []) (av := [.ref x0, .int 26, .int x3]) (fun T hT X => by obtain ⟨cb, r1, r2, r3⟩ := xb_recv (ci := 8) hR rfl hk1 (by decide); exact xt_invV X hx hown (hts _ m_939052ad) (hts _ m_29cc8c73) (hts _ m_3b1ac7ab) (xt_sigOf (hts _ m_8f062ecd)) nm_M_fail (by rw [hT]; exact r1) r2 r3 (g := F0 m 170 ls [.int x3, .int 26, .ref x0]) rfl (argsL := [.int 26, .int x3]) (rest := []) rfl rfl (by rw [hb]; exact (xb_d D_M_checkConstant 92 rfl))) (ok_M_fail l hfl D A σ x0 26 x3 h _ hw) (hml.trans hl.1.symm) (by rw [hb]; exact (xb_d D_M_checkConstant 92 rfl)) (Nat.le_of_ble_eq_true rfl) (Nat.le_of_ble_eq_true rfl) (Nat.le_of_ble_eq_true rfl) (show k + 0 ≤ MC by omega) (show n + 0 ≤ MS by omega) (xt_w1 hB.1 m_8f062ecd) (xt_cdOf hB.1 m_8f062ecd) (hts _ m_d5ed7bed) hB hR hS hA (fun vv h2 H locs hq hEh2 hR hS => ?_) (fun XX ax h2 H locs hq hEh2 hex hR hS => ?_)
  · obtain ⟨rfl, hw⟩ := hq
    have hw := hw hEh2
    have hE := hE.tr hEh2
    refine W.eq (g2 := F0 m 173 ls []) rfl ?_
    exact am_M_checkConstant_L173 l hfl D A σ MC MS h0 Qr x0 h2 hw p e s m args below meth c hC H locs ls k n hE (lv_sub hl [0] rfl) hR hS (by omega) (by omega)
  · exact False.elim hq

set_option maxHeartbeats 4000000 in
set_option maxRecDepth 100000 in
theorem am_M_checkConstant_L116 (l : Launch) (hfl : l.flags = pinnedFlags ++ [noTraceFlag]) (D : va_G) (A : Nat → Prop) (σ MC MS : Nat) (h0 : xb_H) (Qr : xb_H → Prop) (x0 : Nat) (h : xb_H) (hw : w_M_checkConstant_L116 Qr x0 h) : xb_am l D A σ 10 MC MS h0 (fun v h => v = none ∧ Qr h) (fun _ _ => False) y_M_checkConstant.cls y_M_checkConstant.name b_M_checkConstant 11 ([] : List ExceptionTableEntry) none 116 [(0, .ref x0)] [] h 0 0 := by
  unfold w_M_checkConstant_L116 at hw
  intro p e s m args below meth c hC H locs ls k n hE hl hR hS hk hn
  obtain ⟨hx, hb, hown, hlocks, htab, hml, hr, hB, hA, hnm⟩ := id hC
  have hts := hB.1.1.at args
  refine lv_goto (tgt := 173) hx hb (xb_d D_M_checkConstant 65 rfl) rfl ?_
  exact am_M_checkConstant_L173 l hfl D A σ MC MS h0 Qr x0 h hw p e s m args below meth c hC H locs ls k n hE (lv_sub hl [0] rfl) hR hS (by omega) (by omega)

set_option maxHeartbeats 4000000 in
set_option maxRecDepth 100000 in
theorem ok_M_checkConstant (l : Launch) (hfl : l.flags = pinnedFlags ++ [noTraceFlag]) (D : va_G) (A : Nat → Prop) (σ : Nat) (x0 : Nat) (x1 : Int32) (x2 : Int32) (h : xb_H) (Qr : xb_H → Prop) (hw : w_M_checkConstant x0 x1 x2 h Qr) : xt_Met l y_M_checkConstant [.code y_M_checkConstant b_M_checkConstant 11 none] (xb_rm 10 0 0) (xb_Pc D A σ h [.ref x0, .int x1, .int x2]) (xb_Qc D A h (fun v h => v = none ∧ Qr h) (fun _ _ => False)) 0 0 A := by
  refine xb_ofAm (cc := b_M_checkConstant) (by decide) (Nat.le_of_ble_eq_true rfl) ?_
  unfold w_M_checkConstant at hw
  show xb_am l D A σ 10 0 0 h (fun v h => v = none ∧ Qr h) (fun _ _ => False) y_M_checkConstant.cls y_M_checkConstant.name b_M_checkConstant 11 ([] : List ExceptionTableEntry) none 0 [(0, .ref x0), (1, .int x1), (2, .int x2)] [] h 0 0
  obtain ⟨MC, hMC⟩ : ∃ x, x = 0 := ⟨_, rfl⟩
  obtain ⟨MS, hMS⟩ : ∃ x, x = 0 := ⟨_, rfl⟩
  rw [show xb_am l D A σ 10 0 0 = xb_am l D A σ 10 MC MS by rw [hMC, hMS]]
  obtain ⟨h0, hh0⟩ : ∃ x, x = h := ⟨_, rfl⟩
  rw [show xb_am l D A σ 10 MC MS h = xb_am l D A σ 10 MC MS h0 by rw [hh0]]
  intro p e s m args below meth c hC H locs ls k n hE hl hR hS hk hn
  obtain ⟨hx, hb, hown, hlocks, htab, hml, hr, hB, hA, hnm⟩ := id hC
  have hts := hB.1.1.at args
  refine lv_aload_n hx hb (xb_d D_M_checkConstant 0 rfl) rfl (lv_at hl 0 rfl) ?_
  obtain ⟨hk1, hw⟩ := hw
  refine xb_getI (C := R_M) (T := F_M) (N := 97) hx hb 8 15 hts fin_M hown hR hk1 (by decide) rfl (by decide) rfl (hts _ m_6c2d27ad) (fun _ h9 => h9) (xb_d D_M_checkConstant 1 rfl) ?_
  obtain ⟨v2, ev2⟩ : ∃ x : Int32, x = (xb_i h x0 15) := ⟨_, rfl⟩
  have hw := hw v2 ev2
  refine xt_numi (y := v2) ev2.symm ?_
  refine lv_istore_n hx hb (xb_d D_M_checkConstant 2 rfl) rfl hl (by decide) rfl (fun ls hl => ?_)
  have hl : lv_has ls 11 [(3, .int v2), (0, .ref x0), (1, .int x1), (2, .int x2)] := hl
  refine lv_aload_n hx hb (xb_d D_M_checkConstant 3 rfl) rfl (lv_at hl 1 rfl) ?_
  refine xb_call (D := D) (A := A) (σ := σ) (h := h) (d := 3) (mc := 0) (ms := 0) (maxL := 2) (rest := []) (av := [.ref x0]) (fun T hT X => by obtain ⟨cb, r1, r2, r3⟩ := xb_recv (ci := 8) hR rfl hk1 (by decide); exact xt_invV X hx hown (hts _ m_0e978570) (hts _ m_40099f98) (hts _ m_a7dbfd07) (xt_sigOf (hts _ m_0af1ec6a)) nm_M_next (by rw [hT]; exact r1) r2 r3 (g := F0 m 6 ls [.ref x0]) rfl (argsL := []) (rest := []) rfl rfl (by rw [hb]; exact (xb_d D_M_checkConstant 4 rfl))) (ok_M_next l hfl D A σ x0 h _ hw) (hml.trans hl.1.symm) (by rw [hb]; exact (xb_d D_M_checkConstant 4 rfl)) (Nat.le_of_ble_eq_true rfl) (Nat.le_of_ble_eq_true rfl) (Nat.le_of_ble_eq_true rfl) (show k + 0 ≤ MC by omega) (show n + 0 ≤ MS by omega) (xt_w1 hB.1 m_0af1ec6a) (xt_cdOf hB.1 m_0af1ec6a) (hts _ m_d5ed7bed) hB hR hS hA (fun vv h3 H locs hq hEh3 hR hS => ?_) (fun XX ax h3 H locs hq hEh3 hex hR hS => ?_)
  · obtain ⟨r4, rfl, hw⟩ := hq
    have hw := hw hEh3
    have hE := hE.tr hEh3
    refine W.eq (g2 := F0 m 9 ls [.int r4]) rfl ?_
    refine lv_istore hx hb (xb_d D_M_checkConstant 5 rfl) hl (by decide) rfl (fun ls hl => ?_)
    have hl : lv_has ls 11 [(4, .int r4), (3, .int v2), (0, .ref x0), (1, .int x1), (2, .int x2)] := hl
    refine lv_aload_n hx hb (xb_d D_M_checkConstant 6 rfl) rfl (lv_at hl 2 rfl) ?_
    have hk1 : xb_k h3 x0 = 9 := hEh3.k hk1
    refine xb_getI (C := R_M) (T := F_M) (N := 97) hx hb 8 15 hts fin_M hown hR hk1 (by decide) rfl (by decide) rfl (hts _ m_6c2d27ad) (fun _ h9 => h9) (xb_d D_M_checkConstant 7 rfl) ?_
    obtain ⟨v5, ev5⟩ : ∃ x : Int32, x = (xb_i h3 x0 15) := ⟨_, rfl⟩
    have hw := hw v5 ev5
    refine xt_numi (y := v5) ev5.symm ?_
    refine lv_istore hx hb (xb_d D_M_checkConstant 8 rfl) hl (by decide) rfl (fun ls hl => ?_)
    have hl : lv_has ls 11 [(5, .int v5), (4, .int r4), (3, .int v2), (0, .ref x0), (1, .int x1), (2, .int x2)] := hl
    refine lv_iload hx hb (xb_d D_M_checkConstant 9 rfl) (lv_at hl 1 rfl) ?_
    refine lv_bipush (v := 35) hx hb (xb_d D_M_checkConstant 10 rfl) (by decide) ?_
    refine lv_icmp_ne (tgt := 119) hx hb (xb_d D_M_checkConstant 11 rfl) rfl (fun hc6 => ?_) (fun hc6 => ?_)
    · have hw := hw.1 hc6
      refine lv_iload hx hb (xb_d D_M_checkConstant 66 rfl) (lv_at hl 1 rfl) ?_
      refine lv_bipush (v := 65) hx hb (xb_d D_M_checkConstant 67 rfl) (by decide) ?_
      refine lv_icmp_lt (tgt := 166) hx hb (xb_d D_M_checkConstant 68 rfl) rfl (fun hc7 => ?_) (fun hc7 => ?_)
      · have hw := hw.1 hc7
        exact am_M_checkConstant_L166 l hfl D A σ MC MS h0 Qr x0 v2 h3 hw p e s m args below meth c hC H locs ls k n hE (lv_sub hl [3, 2] rfl) hR hS (by omega) (by omega)
      · have hw := hw.2 hc7
        refine lv_iload hx hb (xb_d D_M_checkConstant 69 rfl) (lv_at hl 1 rfl) ?_
        refine lv_bipush (v := 68) hx hb (xb_d D_M_checkConstant 70 rfl) (by decide) ?_
        refine lv_icmp_gt (tgt := 166) hx hb (xb_d D_M_checkConstant 71 rfl) rfl (fun hc8 => ?_) (fun hc8 => ?_)
        · have hw := hw.1 hc8
          exact am_M_checkConstant_L166 l hfl D A σ MC MS h0 Qr x0 v2 h3 hw p e s m args below meth c hC H locs ls k n hE (lv_sub hl [3, 2] rfl) hR hS (by omega) (by omega)
        · have hw := hw.2 hc8
          refine lv_aload_n hx hb (xb_d D_M_checkConstant 72 rfl) rfl (lv_at hl 3 rfl) ?_
          refine lv_iload hx hb (xb_d D_M_checkConstant 73 rfl) (lv_at hl 0 rfl) ?_
          refine xb_putI (C := R_M) (T := F_M) (N := 97) (ty := .int) (x := v5) hx hb 8 15 hts fin_M t_M t_M_ok n_M hown hR hS hk1 (by decide) rfl (by decide) rfl (hts _ m_6c2d27ad) (fun _ h9 => h9) rfl (by decide +kernel) rfl rfl (xb_d D_M_checkConstant 74 rfl) (fun H locs hR hS => ?_)
          obtain ⟨h9, eh9⟩ : ∃ x : xb_H, x = xb_I h3 x0 15 v5 := ⟨_, rfl⟩
          rw [← eh9] at hR
          have hw := hw h9 eh9
          have hE : xb_ext h0 h9 := by rw [eh9]; exact hE
          refine lv_aload_n hx hb (xb_d D_M_checkConstant 75 rfl) rfl (lv_at hl 3 rfl) ?_
          refine lv_iload hx hb (xb_d D_M_checkConstant 76 rfl) (lv_at hl 1 rfl) ?_
          refine lv_iload_n hx hb (xb_d D_M_checkConstant 77 rfl) rfl (lv_at hl 2 rfl) ?_
          have hk1 : xb_k h9 x0 = 9 := by rw [eh9]; exact hk1
          refine xb_call (D := D) (A := A) (σ := σ) (h := h9) (d := 6) (mc := 0) (ms := 0) (maxL := 4) (rest := []) (av := [.ref x0, .int r4, .int v2]) (fun T hT X => by obtain ⟨cb, r1, r2, r3⟩ := xb_recv (ci := 8) hR rfl hk1 (by decide); exact xt_invV X hx hown (hts _ m_9a2ddc48) (hts _ m_7986a93e) (hts _ m_abba4888) (xt_sigOf (hts _ m_a433953a)) nm_M_written (by rw [hT]; exact r1) r2 r3 (g := F0 m 143 ls [.int v2, .int r4, .ref x0]) rfl (argsL := [.int r4, .int v2]) (rest := []) rfl rfl (by rw [hb]; exact (xb_d D_M_checkConstant 78 rfl))) (ok_M_written l hfl D A σ x0 r4 v2 h9 _ hw) (hml.trans hl.1.symm) (by rw [hb]; exact (xb_d D_M_checkConstant 78 rfl)) (Nat.le_of_ble_eq_true rfl) (Nat.le_of_ble_eq_true rfl) (Nat.le_of_ble_eq_true rfl) (show k + 0 ≤ MC by omega) (show n + 0 ≤ MS by omega) (xt_w1 hB.1 m_a433953a) (xt_cdOf hB.1 m_a433953a) (hts _ m_d5ed7bed) hB hR hS hA (fun vv h10 H locs hq hEh10 hR hS => ?_) (fun XX ax h10 H locs hq hEh10 hex hR hS => ?_)
          · obtain ⟨rfl, hw⟩ := hq
            have hw := hw hEh10
            have hE := hE.tr hEh10
            refine W.eq (g2 := F0 m 146 ls []) rfl ?_
            refine lv_iload_n hx hb (xb_d D_M_checkConstant 79 rfl) rfl (lv_at hl 5 rfl) ?_
            refine lv_sipush (v := 192) hx hb (xb_d D_M_checkConstant 80 rfl) (by decide) ?_
            refine lv_iload hx hb (xb_d D_M_checkConstant 81 rfl) (lv_at hl 1 rfl) ?_
            refine lv_isub hx hb (xb_d D_M_checkConstant 82 rfl) ?_
            refine lv_icmp_eq (tgt := 173) hx hb (xb_d D_M_checkConstant 83 rfl) rfl (fun hc12 => ?_) (fun hc12 => ?_)
            · have hw := hw.1 hc12
              exact am_M_checkConstant_L173 l hfl D A σ MC MS h0 Qr x0 h10 hw p e s m args below meth c hC H locs ls k n hE (lv_sub hl [3] rfl) hR hS (by omega) (by omega)
            · have hw := hw.2 hc12
              refine lv_aload_n hx hb (xb_d D_M_checkConstant 84 rfl) rfl (lv_at hl 3 rfl) ?_
              refine lv_bipush (v := 21) hx hb (xb_d D_M_checkConstant 85 rfl) (by decide) ?_
              refine lv_iload_n hx hb (xb_d D_M_checkConstant 86 rfl) rfl (lv_at hl 2 rfl) ?_
              have hk1 : xb_k h10 x0 = 9 := hEh10.k hk1
              refine xb_call (D := D) (A := A) (σ := σ) (h := h10) (d := 2) (mc := 0) (ms := 0) (maxL := 3) (rest := []) (av := [.ref x0, .int 21, .int v2]) (fun T hT X => by obtain ⟨cb, r1, r2, r3⟩ := xb_recv (ci := 8) hR rfl hk1 (by decide); exact xt_invV X hx hown (hts _ m_939052ad) (hts _ m_29cc8c73) (hts _ m_3b1ac7ab) (xt_sigOf (hts _ m_8f062ecd)) nm_M_fail (by rw [hT]; exact r1) r2 r3 (g := F0 m 160 ls [.int v2, .int 21, .ref x0]) rfl (argsL := [.int 21, .int v2]) (rest := []) rfl rfl (by rw [hb]; exact (xb_d D_M_checkConstant 87 rfl))) (ok_M_fail l hfl D A σ x0 21 v2 h10 _ hw) (hml.trans hl.1.symm) (by rw [hb]; exact (xb_d D_M_checkConstant 87 rfl)) (Nat.le_of_ble_eq_true rfl) (Nat.le_of_ble_eq_true rfl) (Nat.le_of_ble_eq_true rfl) (show k + 0 ≤ MC by omega) (show n + 0 ≤ MS by omega) (xt_w1 hB.1 m_8f062ecd) (xt_cdOf hB.1 m_8f062ecd) (hts _ m_d5ed7bed) hB hR hS hA (fun vv h13 H locs hq hEh13 hR hS => ?_) (fun XX ax h13 H locs hq hEh13 hex hR hS => ?_)
              · obtain ⟨rfl, hw⟩ := hq
                have hw := hw hEh13
                have hE := hE.tr hEh13
                refine W.eq (g2 := F0 m 163 ls []) rfl ?_
                refine lv_goto (tgt := 173) hx hb (xb_d D_M_checkConstant 88 rfl) rfl ?_
                exact am_M_checkConstant_L173 l hfl D A σ MC MS h0 Qr x0 h13 hw p e s m args below meth c hC H locs ls k n hE (lv_sub hl [3] rfl) hR hS (by omega) (by omega)
              · exact False.elim hq
          · exact False.elim hq
    · have hw := hw.2 hc6
      refine lv_aload_n hx hb (xb_d D_M_checkConstant 12 rfl) rfl (lv_at hl 3 rfl) ?_
      refine xb_call (D := D) (A := A) (σ := σ) (h := h3) (d := 4) (mc := 0) (ms := 0) (maxL := 5) (rest := []) (av := [.ref x0]) (fun T hT X => by obtain ⟨cb, r1, r2, r3⟩ := xb_recv (ci := 8) hR rfl hk1 (by decide); exact xt_invV X hx hown (hts _ m_e991293f) (hts _ m_385a74b3) (hts _ m_c9fbcd02) (xt_sigOf (hts _ m_1f53f210)) nm_M_count (by rw [hT]; exact r1) r2 r3 (g := F0 m 25 ls [.ref x0]) rfl (argsL := []) (rest := []) rfl rfl (by rw [hb]; exact (xb_d D_M_checkConstant 13 rfl))) (ok_M_count l hfl D A σ x0 h3 _ hw) (hml.trans hl.1.symm) (by rw [hb]; exact (xb_d D_M_checkConstant 13 rfl)) (Nat.le_of_ble_eq_true rfl) (Nat.le_of_ble_eq_true rfl) (Nat.le_of_ble_eq_true rfl) (show k + 0 ≤ MC by omega) (show n + 0 ≤ MS by omega) (xt_w1 hB.1 m_1f53f210) (xt_cdOf hB.1 m_1f53f210) (hts _ m_d5ed7bed) hB hR hS hA (fun vv h15 H locs hq hEh15 hR hS => ?_) (fun XX ax h15 H locs hq hEh15 hex hR hS => ?_)
      · obtain ⟨r16, rfl, hw⟩ := hq
        have hw := hw hEh15
        have hE := hE.tr hEh15
        refine W.eq (g2 := F0 m 28 ls [.long r16]) rfl ?_
        refine lv_lstore hx hb (xb_d D_M_checkConstant 14 rfl) hl (by decide) rfl (fun ls hl => ?_)
        have hl : lv_has ls 11 [(6, .long r16), (5, .int v5), (4, .int r4), (3, .int v2), (0, .ref x0), (1, .int x1), (2, .int x2)] := hl
        refine lv_aload_n hx hb (xb_d D_M_checkConstant 15 rfl) rfl (lv_at hl 4 rfl) ?_
        have hk1 : xb_k h15 x0 = 9 := hEh15.k hk1
        refine xb_getI (C := R_M) (T := F_M) (N := 97) hx hb 8 15 hts fin_M hown hR hk1 (by decide) rfl (by decide) rfl (hts _ m_6c2d27ad) (fun _ h9 => h9) (xb_d D_M_checkConstant 16 rfl) ?_
        obtain ⟨v17, ev17⟩ : ∃ x : Int32, x = (xb_i h15 x0 15) := ⟨_, rfl⟩
        have hw := hw v17 ev17
        refine xt_numi (y := v17) ev17.symm ?_
        refine lv_istore hx hb (xb_d D_M_checkConstant 17 rfl) hl (by decide) rfl (fun ls hl => ?_)
        have hl : lv_has ls 11 [(8, .int v17), (6, .long r16), (5, .int v5), (4, .int r4), (3, .int v2), (0, .ref x0), (1, .int x1), (2, .int x2)] := hl
        refine lv_lload hx hb (xb_d D_M_checkConstant 18 rfl) (lv_at hl 1 rfl) ?_
        refine lv_aload_n hx hb (xb_d D_M_checkConstant 19 rfl) rfl (lv_at hl 5 rfl) ?_
        refine xb_getP (C := R_M) (T := F_M) (N := 97) hx hb 8 10 hts fin_M hown hR hk1 (by decide) rfl (by decide) rfl (hts _ m_01d0d957) (fun _ h9 => h9) (xb_d D_M_checkConstant 20 rfl) ?_
        obtain ⟨b18, eb18, hw⟩ := hw
        refine xb_some eb18 ?_
        refine lv_iconst (v := 4) hx hb (xb_d D_M_checkConstant 21 rfl) (by decide) ?_
        refine lv_iload_n hx hb (xb_d D_M_checkConstant 22 rfl) rfl (lv_at hl 6 rfl) ?_
        refine lv_imul hx hb (xb_d D_M_checkConstant 23 rfl) ?_
        refine lv_iconst (v := 3) hx hb (xb_d D_M_checkConstant 24 rfl) (by decide) ?_
        refine lv_iadd hx hb (xb_d D_M_checkConstant 25 rfl) ?_
        obtain ⟨hk20, hw⟩ := hw
        obtain ⟨hi19, hw⟩ := hw
        refine xb_iald hx hb hR hk20 hi19 (xb_d D_M_checkConstant 26 rfl) ?_
        refine lv_i2l hx hb (xb_d D_M_checkConstant 27 rfl) rfl ?_
        refine xb_lc_lt (tgt := 61) hx hb (xb_d D_M_checkConstant 28 rfl) (xb_d D_M_checkConstant 29 rfl) rfl (fun hc21 => ?_) (fun hc21 => ?_)
        · have hw := hw.1 hc21
          refine lv_aload_n hx hb (xb_d D_M_checkConstant 35 rfl) rfl (lv_at hl 5 rfl) ?_
          refine lv_iload_n hx hb (xb_d D_M_checkConstant 36 rfl) rfl (lv_at hl 6 rfl) ?_
          refine lv_lload hx hb (xb_d D_M_checkConstant 37 rfl) (lv_at hl 1 rfl) ?_
          refine lv_l2i hx hb (xb_d D_M_checkConstant 38 rfl) rfl ?_
          refine xb_call (D := D) (A := A) (σ := σ) (h := h15) (d := 9) (mc := 0) (ms := 0) (maxL := 3) (rest := []) (av := [.ref x0, .int x1, .int (Int64.toInt32 r16)]) (fun T hT X => by obtain ⟨cb, r1, r2, r3⟩ := xb_recv (ci := 8) hR rfl hk1 (by decide); exact xt_invV X hx hown (hts _ m_40324d32) (hts _ m_58244a27) (hts _ m_041bc6eb) (xt_sigOf (hts _ m_a97ef8c2)) nm_M_changes (by rw [hT]; exact r1) r2 r3 (g := F0 m 66 ls [.int (Int64.toInt32 r16), .int x1, .ref x0]) rfl (argsL := [.int x1, .int (Int64.toInt32 r16)]) (rest := []) rfl rfl (by rw [hb]; exact (xb_d D_M_checkConstant 39 rfl))) (ok_M_changes l hfl D A σ x0 x1 (Int64.toInt32 r16) h15 _ hw) (hml.trans hl.1.symm) (by rw [hb]; exact (xb_d D_M_checkConstant 39 rfl)) (Nat.le_of_ble_eq_true rfl) (Nat.le_of_ble_eq_true rfl) (Nat.le_of_ble_eq_true rfl) (show k + 0 ≤ MC by omega) (show n + 0 ≤ MS by omega) (xt_w1 hB.1 m_a97ef8c2) (xt_cdOf hB.1 m_a97ef8c2) (hts _ m_d5ed7bed) hB hR hS hA (fun vv h22 H locs hq hEh22 hR hS => ?_) (fun XX ax h22 H locs hq hEh22 hex hR hS => ?_)
          · obtain ⟨r23, rfl, hw⟩ := hq
            have hw := hw hEh22
            have hE := hE.tr hEh22
            refine W.eq (g2 := F0 m 69 ls [.int r23]) rfl ?_
            refine lv_istore hx hb (xb_d D_M_checkConstant 40 rfl) hl (by decide) rfl (fun ls hl => ?_)
            have hl : lv_has ls 11 [(9, .int r23), (8, .int v17), (6, .long r16), (5, .int v5), (4, .int r4), (3, .int v2), (0, .ref x0), (1, .int x1), (2, .int x2)] := hl
            refine lv_aload_n hx hb (xb_d D_M_checkConstant 41 rfl) rfl (lv_at hl 6 rfl) ?_
            refine lv_iload_n hx hb (xb_d D_M_checkConstant 42 rfl) rfl (lv_at hl 7 rfl) ?_
            refine lv_lload hx hb (xb_d D_M_checkConstant 43 rfl) (lv_at hl 2 rfl) ?_
            refine lv_l2i hx hb (xb_d D_M_checkConstant 44 rfl) rfl ?_
            have hk1 : xb_k h22 x0 = 9 := hEh22.k hk1
            refine xb_call (D := D) (A := A) (σ := σ) (h := h22) (d := 8) (mc := 0) (ms := 0) (maxL := 4) (rest := []) (av := [.ref x0, .int x1, .int (Int64.toInt32 r16)]) (fun T hT X => by obtain ⟨cb, r1, r2, r3⟩ := xb_recv (ci := 8) hR rfl hk1 (by decide); exact xt_invV X hx hown (hts _ m_2c44277c) (hts _ m_c17c7356) (hts _ m_60ae6cf3) (xt_sigOf (hts _ m_f93068de)) nm_M_variableTypeOf (by rw [hT]; exact r1) r2 r3 (g := F0 m 76 ls [.int (Int64.toInt32 r16), .int x1, .ref x0]) rfl (argsL := [.int x1, .int (Int64.toInt32 r16)]) (rest := []) rfl rfl (by rw [hb]; exact (xb_d D_M_checkConstant 45 rfl))) (ok_M_variableTypeOf l hfl D A σ x0 x1 (Int64.toInt32 r16) h22 _ hw) (hml.trans hl.1.symm) (by rw [hb]; exact (xb_d D_M_checkConstant 45 rfl)) (Nat.le_of_ble_eq_true rfl) (Nat.le_of_ble_eq_true rfl) (Nat.le_of_ble_eq_true rfl) (show k + 0 ≤ MC by omega) (show n + 0 ≤ MS by omega) (xt_w1 hB.1 m_f93068de) (xt_cdOf hB.1 m_f93068de) (hts _ m_d5ed7bed) hB hR hS hA (fun vv h24 H locs hq hEh24 hR hS => ?_) (fun XX ax h24 H locs hq hEh24 hex hR hS => ?_)
            · obtain ⟨r25, rfl, hw⟩ := hq
              have hw := hw hEh24
              have hE := hE.tr hEh24
              refine W.eq (g2 := F0 m 79 ls [.int r25]) rfl ?_
              refine lv_istore hx hb (xb_d D_M_checkConstant 46 rfl) hl (by decide) rfl (fun ls hl => ?_)
              have hl : lv_has ls 11 [(10, .int r25), (9, .int r23), (8, .int v17), (6, .long r16), (5, .int v5), (4, .int r4), (3, .int v2), (0, .ref x0), (1, .int x1), (2, .int x2)] := hl
              refine lv_aload_n hx hb (xb_d D_M_checkConstant 47 rfl) rfl (lv_at hl 7 rfl) ?_
              refine lv_iload_n hx hb (xb_d D_M_checkConstant 48 rfl) rfl (lv_at hl 8 rfl) ?_
              refine lv_iload hx hb (xb_d D_M_checkConstant 49 rfl) (lv_at hl 2 rfl) ?_
              have hk1 : xb_k h24 x0 = 9 := hEh24.k hk1
              refine xb_call (D := D) (A := A) (σ := σ) (h := h24) (d := 2) (mc := 0) (ms := 0) (maxL := 3) (rest := []) (av := [.ref x0, .int x1, .int v17]) (fun T hT X => by obtain ⟨cb, r1, r2, r3⟩ := xb_recv (ci := 8) hR rfl hk1 (by decide); exact xt_invV X hx hown (hts _ m_bb531879) (hts _ m_4a6cd4a0) (hts _ m_d1c31e3c) (xt_sigOf (hts _ m_48217fba)) nm_M_go (by rw [hT]; exact r1) r2 r3 (g := F0 m 85 ls [.int v17, .int x1, .ref x0]) rfl (argsL := [.int x1, .int v17]) (rest := []) rfl rfl (by rw [hb]; exact (xb_d D_M_checkConstant 50 rfl))) (ok_M_go l hfl D A σ x0 x1 v17 h24 _ hw) (hml.trans hl.1.symm) (by rw [hb]; exact (xb_d D_M_checkConstant 50 rfl)) (Nat.le_of_ble_eq_true rfl) (Nat.le_of_ble_eq_true rfl) (Nat.le_of_ble_eq_true rfl) (show k + 0 ≤ MC by omega) (show n + 0 ≤ MS by omega) (xt_w1 hB.1 m_48217fba) (xt_cdOf hB.1 m_48217fba) (hts _ m_d5ed7bed) hB hR hS hA (fun vv h26 H locs hq hEh26 hR hS => ?_) (fun XX ax h26 H locs hq hEh26 hex hR hS => ?_)
              · obtain ⟨rfl, hw⟩ := hq
                have hw := hw hEh26
                have hE := hE.tr hEh26
                refine W.eq (g2 := F0 m 88 ls []) rfl ?_
                refine lv_iload hx hb (xb_d D_M_checkConstant 51 rfl) (lv_at hl 1 rfl) ?_
                refine lv_if_eq (tgt := 103) hx hb (xb_d D_M_checkConstant 52 rfl) rfl (fun hc28 => ?_) (fun hc28 => ?_)
                · have hw := hw.1 hc28
                  refine lv_iload hx hb (xb_d D_M_checkConstant 58 rfl) (lv_at hl 0 rfl) ?_
                  refine lv_iload_n hx hb (xb_d D_M_checkConstant 59 rfl) rfl (lv_at hl 9 rfl) ?_
                  refine lv_icmp_eq (tgt := 116) hx hb (xb_d D_M_checkConstant 60 rfl) rfl (fun hc29 => ?_) (fun hc29 => ?_)
                  · have hw := hw.1 hc29
                    exact am_M_checkConstant_L116 l hfl D A σ MC MS h0 Qr x0 h26 hw p e s m args below meth c hC H locs ls k n hE (lv_sub hl [7] rfl) hR hS (by omega) (by omega)
                  · have hw := hw.2 hc29
                    refine lv_aload_n hx hb (xb_d D_M_checkConstant 61 rfl) rfl (lv_at hl 7 rfl) ?_
                    refine lv_bipush (v := 21) hx hb (xb_d D_M_checkConstant 62 rfl) (by decide) ?_
                    refine lv_iload_n hx hb (xb_d D_M_checkConstant 63 rfl) rfl (lv_at hl 6 rfl) ?_
                    have hk1 : xb_k h26 x0 = 9 := hEh26.k hk1
                    refine xb_call (D := D) (A := A) (σ := σ) (h := h26) (d := 2) (mc := 0) (ms := 0) (maxL := 3) (rest := []) (av := [.ref x0, .int 21, .int v2]) (fun T hT X => by obtain ⟨cb, r1, r2, r3⟩ := xb_recv (ci := 8) hR rfl hk1 (by decide); exact xt_invV X hx hown (hts _ m_939052ad) (hts _ m_29cc8c73) (hts _ m_3b1ac7ab) (xt_sigOf (hts _ m_8f062ecd)) nm_M_fail (by rw [hT]; exact r1) r2 r3 (g := F0 m 113 ls [.int v2, .int 21, .ref x0]) rfl (argsL := [.int 21, .int v2]) (rest := []) rfl rfl (by rw [hb]; exact (xb_d D_M_checkConstant 64 rfl))) (ok_M_fail l hfl D A σ x0 21 v2 h26 _ hw) (hml.trans hl.1.symm) (by rw [hb]; exact (xb_d D_M_checkConstant 64 rfl)) (Nat.le_of_ble_eq_true rfl) (Nat.le_of_ble_eq_true rfl) (Nat.le_of_ble_eq_true rfl) (show k + 0 ≤ MC by omega) (show n + 0 ≤ MS by omega) (xt_w1 hB.1 m_8f062ecd) (xt_cdOf hB.1 m_8f062ecd) (hts _ m_d5ed7bed) hB hR hS hA (fun vv h30 H locs hq hEh30 hR hS => ?_) (fun XX ax h30 H locs hq hEh30 hex hR hS => ?_)
                    · obtain ⟨rfl, hw⟩ := hq
                      have hw := hw hEh30
                      have hE := hE.tr hEh30
                      refine W.eq (g2 := F0 m 116 ls []) rfl ?_
                      exact am_M_checkConstant_L116 l hfl D A σ MC MS h0 Qr x0 h30 hw p e s m args below meth c hC H locs ls k n hE (lv_sub hl [7] rfl) hR hS (by omega) (by omega)
                    · exact False.elim hq
                · have hw := hw.2 hc28
                  refine lv_aload_n hx hb (xb_d D_M_checkConstant 53 rfl) rfl (lv_at hl 7 rfl) ?_
                  refine lv_bipush (v := 26) hx hb (xb_d D_M_checkConstant 54 rfl) (by decide) ?_
                  refine lv_iload_n hx hb (xb_d D_M_checkConstant 55 rfl) rfl (lv_at hl 6 rfl) ?_
                  have hk1 : xb_k h26 x0 = 9 := hEh26.k hk1
                  refine xb_call (D := D) (A := A) (σ := σ) (h := h26) (d := 2) (mc := 0) (ms := 0) (maxL := 3) (rest := []) (av := [.ref x0, .int 26, .int v2]) (fun T hT X => by obtain ⟨cb, r1, r2, r3⟩ := xb_recv (ci := 8) hR rfl hk1 (by decide); exact xt_invV X hx hown (hts _ m_939052ad) (hts _ m_29cc8c73) (hts _ m_3b1ac7ab) (xt_sigOf (hts _ m_8f062ecd)) nm_M_fail (by rw [hT]; exact r1) r2 r3 (g := F0 m 97 ls [.int v2, .int 26, .ref x0]) rfl (argsL := [.int 26, .int v2]) (rest := []) rfl rfl (by rw [hb]; exact (xb_d D_M_checkConstant 56 rfl))) (ok_M_fail l hfl D A σ x0 26 v2 h26 _ hw) (hml.trans hl.1.symm) (by rw [hb]; exact (xb_d D_M_checkConstant 56 rfl)) (Nat.le_of_ble_eq_true rfl) (Nat.le_of_ble_eq_true rfl) (Nat.le_of_ble_eq_true rfl) (show k + 0 ≤ MC by omega) (show n + 0 ≤ MS by omega) (xt_w1 hB.1 m_8f062ecd) (xt_cdOf hB.1 m_8f062ecd) (hts _ m_d5ed7bed) hB hR hS hA (fun vv h32 H locs hq hEh32 hR hS => ?_) (fun XX ax h32 H locs hq hEh32 hex hR hS => ?_)
                  · obtain ⟨rfl, hw⟩ := hq
                    have hw := hw hEh32
                    have hE := hE.tr hEh32
                    refine W.eq (g2 := F0 m 100 ls []) rfl ?_
                    refine lv_goto (tgt := 116) hx hb (xb_d D_M_checkConstant 57 rfl) rfl ?_
                    exact am_M_checkConstant_L116 l hfl D A σ MC MS h0 Qr x0 h32 hw p e s m args below meth c hC H locs ls k n hE (lv_sub hl [7] rfl) hR hS (by omega) (by omega)
                  · exact False.elim hq
              · exact False.elim hq
            · exact False.elim hq
          · exact False.elim hq
        · have hw := hw.2 hc21
          refine lv_aload_n hx hb (xb_d D_M_checkConstant 30 rfl) rfl (lv_at hl 5 rfl) ?_
          refine lv_bipush (v := 20) hx hb (xb_d D_M_checkConstant 31 rfl) (by decide) ?_
          refine lv_iload_n hx hb (xb_d D_M_checkConstant 32 rfl) rfl (lv_at hl 4 rfl) ?_
          refine xb_call (D := D) (A := A) (σ := σ) (h := h15) (d := 2) (mc := 0) (ms := 0) (maxL := 3) (rest := []) (av := [.ref x0, .int 20, .int v2]) (fun T hT X => by obtain ⟨cb, r1, r2, r3⟩ := xb_recv (ci := 8) hR rfl hk1 (by decide); exact xt_invV X hx hown (hts _ m_939052ad) (hts _ m_29cc8c73) (hts _ m_3b1ac7ab) (xt_sigOf (hts _ m_8f062ecd)) nm_M_fail (by rw [hT]; exact r1) r2 r3 (g := F0 m 57 ls [.int v2, .int 20, .ref x0]) rfl (argsL := [.int 20, .int v2]) (rest := []) rfl rfl (by rw [hb]; exact (xb_d D_M_checkConstant 33 rfl))) (ok_M_fail l hfl D A σ x0 20 v2 h15 _ hw) (hml.trans hl.1.symm) (by rw [hb]; exact (xb_d D_M_checkConstant 33 rfl)) (Nat.le_of_ble_eq_true rfl) (Nat.le_of_ble_eq_true rfl) (Nat.le_of_ble_eq_true rfl) (show k + 0 ≤ MC by omega) (show n + 0 ≤ MS by omega) (xt_w1 hB.1 m_8f062ecd) (xt_cdOf hB.1 m_8f062ecd) (hts _ m_d5ed7bed) hB hR hS hA (fun vv h34 H locs hq hEh34 hR hS => ?_) (fun XX ax h34 H locs hq hEh34 hex hR hS => ?_)
          · obtain ⟨rfl, hw⟩ := hq
            have hw := hw hEh34
            have hE := hE.tr hEh34
            refine W.eq (g2 := F0 m 60 ls []) rfl ?_
            exact xb_vret hx hb hr hlocks (show k ≤ MC by omega) (show n ≤ MS by omega) hE hR hS (xb_d D_M_checkConstant 34 rfl) hw
          · exact False.elim hq
      · exact False.elim hq
  · exact False.elim hq

set_option maxRecDepth 100000 in
def T_M_checkPlace : List (Nat × Instr × Nat) := [(0, .aload_n 0, 1), (1, .invokevirtual 218, 3), (4, .lstore_n 3, 1), (5, .iload_n 2, 1), (6, .bipush 35, 2), (8, .if_icmp .ge 71, 3), (11, .aload_n 0, 1), (12, .lload_n 3, 1), (13, .aload_n 0, 1), (14, .getfield 412, 3), (17, .i2l, 1), (18, .lcmp, 1), (19, .ifCond .ge 7, 3), (22, .iconst 1, 1), (23, .goto 4, 3), (26, .iconst 0, 1), (27, .bipush 20, 2), (29, .invokevirtual 408, 3), (32, .aload_n 0, 1), (33, .getfield 193, 3), (36, .ifCond .ne 13, 3), (39, .aload_n 0, 1), (40, .getfield 40, 3), (43, .lload_n 3, 1), (44, .l2i, 1), (45, .baload, 1), (46, .goto 5, 3), (49, .bipush 127, 2), (51, .istore 5, 2), (53, .iload_n 2, 1), (54, .bipush 32, 2), (56, .if_icmp .le 10, 3), (59, .aload_n 0, 1), (60, .iload 5, 2), (62, .invokevirtual 402, 3), (65, .pop, 1), (66, .iload_n 2, 1), (67, .bipush 33, 2), (69, .if_icmp .eq 9, 3), (72, .aload_n 0, 1), (73, .iload 5, 2), (75, .invokevirtual 405, 3), (78, .return_, 1), (79, .aload_n 0, 1), (80, .lload_n 3, 1), (81, .aload_n 0, 1), (82, .iload_n 1, 1), (83, .iconst 3, 1), (84, .invokevirtual 362, 3), (87, .lcmp, 1), (88, .ifCond .ge 7, 3), (91, .iconst 1, 1), (92, .goto 4, 3), (95, .iconst 0, 1), (96, .bipush 20, 2), (98, .invokevirtual 408, 3), (101, .aload_n 0, 1), (102, .getfield 193, 3), (105, .ifCond .eq 4, 3), (108, .return_, 1), (109, .aload_n 0, 1), (110, .iload_n 1, 1), (111, .lload_n 3, 1), (112, .l2i, 1), (113, .invokevirtual 358, 3), (116, .istore 5, 2), (118, .aload_n 0, 1), (119, .iload_n 1, 1), (120, .lload_n 3, 1), (121, .l2i, 1), (122, .invokevirtual 342, 3), (125, .istore 6, 2), (127, .iload_n 2, 1), (128, .bipush 35, 2), (130, .if_icmp .ne 12, 3), (133, .aload_n 0, 1), (134, .iload 6, 2), (136, .invokevirtual 405, 3), (139, .goto 18, 3), (142, .aload_n 0, 1), (143, .iload 5, 2), (145, .bipush 23, 2), (147, .invokevirtual 408, 3), (150, .aload_n 0, 1), (151, .iload 6, 2), (153, .invokevirtual 402, 3), (156, .pop, 1), (157, .return_, 1)]
theorem D_M_checkPlace : ∀ q ∈ T_M_checkPlace, decode b_M_checkPlace q.1 = .ok (q.2.1, q.2.2) := by decide +kernel
def w_M_checkPlace_L157 (Qr : xb_H → Prop) (h : xb_H) : Prop :=
    Qr h

def w_M_checkPlace_L96 (Qr : xb_H → Prop) (x0 : Nat) (x1 : Int32) (x2 : Int32) (x3 : Int64) (y0 : Int32) (y1 : Nat) (h : xb_H) : Prop :=
    xb_k h y1 = 9 ∧ w_M_need y1 y0 20 h (fun (h2 : xb_H) => xb_ext h h2 → xb_k h2 x0 = 9 ∧ (((xb_i h2 x0 17) = (0 : Int32) → w_M_changes x0 x1 (Int64.toInt32 x3) h2 (fun (r7 : Int32) (h6 : xb_H) => xb_ext h2 h6 → w_M_variableTypeOf x0 x1 (Int64.toInt32 x3) h6 (fun (r9 : Int32) (h8 : xb_H) => xb_ext h6 h8 → ((¬ x2 = (35 : Int32) → w_M_need x0 r7 23 h8 (fun (h11 : xb_H) => xb_ext h8 h11 → w_M_take x0 r9 h11 (fun (r14 : Int32) (h13 : xb_H) => xb_ext h11 h13 → w_M_checkPlace_L157 Qr h13))) ∧ (x2 = (35 : Int32) → w_M_put x0 r9 h8 (fun (h15 : xb_H) => xb_ext h8 h15 → w_M_checkPlace_L157 Qr h15)))))) ∧ (¬ (xb_i h2 x0 17) = (0 : Int32) → Qr h2)))

def w_M_checkPlace_L78 (Qr : xb_H → Prop) (h : xb_H) : Prop :=
    Qr h

def w_M_checkPlace_L66 (Qr : xb_H → Prop) (x0 : Nat) (x2 : Int32) (x5 : Int32) (h : xb_H) : Prop :=
    ((x2 = (33 : Int32) → w_M_checkPlace_L78 Qr h) ∧ (¬ x2 = (33 : Int32) → xb_k h x0 = 9 ∧ w_M_put x0 x5 h (fun (h3 : xb_H) => xb_ext h h3 → w_M_checkPlace_L78 Qr h3)))

def w_M_checkPlace_L51 (Qr : xb_H → Prop) (x0 : Nat) (x2 : Int32) (y0 : Int32) (h : xb_H) : Prop :=
    ((x2 ≤ (32 : Int32) → w_M_checkPlace_L66 Qr x0 x2 y0 h) ∧ (¬ x2 ≤ (32 : Int32) → xb_k h x0 = 9 ∧ w_M_take x0 y0 h (fun (r4 : Int32) (h3 : xb_H) => xb_ext h h3 → w_M_checkPlace_L66 Qr x0 x2 y0 h3)))

def w_M_checkPlace_L27 (Qr : xb_H → Prop) (x0 : Nat) (x2 : Int32) (x3 : Int64) (y0 : Int32) (y1 : Nat) (h : xb_H) : Prop :=
    xb_k h y1 = 9 ∧ w_M_need y1 y0 20 h (fun (h2 : xb_H) => xb_ext h h2 → xb_k h2 x0 = 9 ∧ ((¬ (xb_i h2 x0 17) = (0 : Int32) → w_M_checkPlace_L51 Qr x0 x2 127 h2) ∧ ((xb_i h2 x0 17) = (0 : Int32) → ∃ b6 : Nat, (xb_r h2 x0 19) = some b6 ∧ xb_k h2 b6 = 100 ∧ vp_in (Int64.toInt32 x3) (xb_n h2 b6) ∧ w_M_checkPlace_L51 Qr x0 x2 (xb_i h2 b6 (Int32.toNatClampNeg (Int64.toInt32 x3))) h2)))

def w_M_checkPlace (x0 : Nat) (x1 : Int32) (x2 : Int32) (h : xb_H) (Qr : xb_H → Prop) : Prop :=
    xb_k h x0 = 9 ∧ w_M_count x0 h (fun (r3 : Int64) (h2 : xb_H) => xb_ext h h2 → (((35 : Int32) ≤ x2 → w_M_total x0 x1 3 h2 (fun (r6 : Int64) (h5 : xb_H) => xb_ext h2 h5 → ((r6 ≤ r3 → w_M_checkPlace_L96 Qr x0 x1 x2 r3 0 x0 h5) ∧ (¬ r6 ≤ r3 → w_M_checkPlace_L96 Qr x0 x1 x2 r3 1 x0 h5)))) ∧ (¬ (35 : Int32) ≤ x2 → (((Int32.toInt64 (xb_i h2 x0 20)) ≤ r3 → w_M_checkPlace_L27 Qr x0 x2 r3 0 x0 h2) ∧ (¬ (Int32.toInt64 (xb_i h2 x0 20)) ≤ r3 → w_M_checkPlace_L27 Qr x0 x2 r3 1 x0 h2)))))

set_option maxHeartbeats 4000000 in
set_option maxRecDepth 100000 in
theorem am_M_checkPlace_L157 (l : Launch) (hfl : l.flags = pinnedFlags ++ [noTraceFlag]) (D : va_G) (A : Nat → Prop) (σ MC MS : Nat) (h0 : xb_H) (Qr : xb_H → Prop) (h : xb_H) (hw : w_M_checkPlace_L157 Qr h) : xb_am l D A σ 10 MC MS h0 (fun v h => v = none ∧ Qr h) (fun _ _ => False) y_M_checkPlace.cls y_M_checkPlace.name b_M_checkPlace 7 ([] : List ExceptionTableEntry) none 157 [] [] h 0 0 := by
  unfold w_M_checkPlace_L157 at hw
  intro p e s m args below meth c hC H locs ls k n hE hl hR hS hk hn
  obtain ⟨hx, hb, hown, hlocks, htab, hml, hr, hB, hA, hnm⟩ := id hC
  have hts := hB.1.1.at args
  exact xb_vret hx hb hr hlocks (show k ≤ MC by omega) (show n ≤ MS by omega) hE hR hS (xb_d D_M_checkPlace 87 rfl) hw

set_option maxHeartbeats 4000000 in
set_option maxRecDepth 100000 in
theorem am_M_checkPlace_L96 (l : Launch) (hfl : l.flags = pinnedFlags ++ [noTraceFlag]) (D : va_G) (A : Nat → Prop) (σ MC MS : Nat) (h0 : xb_H) (Qr : xb_H → Prop) (x0 : Nat) (x1 : Int32) (x2 : Int32) (x3 : Int64) (y0 : Int32) (y1 : Nat) (h : xb_H) (hw : w_M_checkPlace_L96 Qr x0 x1 x2 x3 y0 y1 h) : xb_am l D A σ 10 MC MS h0 (fun v h => v = none ∧ Qr h) (fun _ _ => False) y_M_checkPlace.cls y_M_checkPlace.name b_M_checkPlace 7 ([] : List ExceptionTableEntry) none 96 [(0, .ref x0), (1, .int x1), (2, .int x2), (3, .long x3)] [.int y0, .ref y1] h 0 0 := by
  unfold w_M_checkPlace_L96 at hw
  intro p e s m args below meth c hC H locs ls k n hE hl hR hS hk hn
  obtain ⟨hx, hb, hown, hlocks, htab, hml, hr, hB, hA, hnm⟩ := id hC
  have hts := hB.1.1.at args
  refine lv_bipush (v := 20) hx hb (xb_d D_M_checkPlace 54 rfl) (by decide) ?_
  obtain ⟨hk1, hw⟩ := hw
  refine xb_call (D := D) (A := A) (σ := σ) (h := h) (d := 3) (mc := 0) (ms := 0) (maxL := 3) (rest := []) (av := [.ref y1, .int y0, .int 20]) (fun T hT X => by obtain ⟨cb, r1, r2, r3⟩ := xb_recv (ci := 8) hR rfl hk1 (by decide); exact xt_invV X hx hown (hts _ m_3b351fe6) (hts _ m_c9ff1909) (hts _ m_4d34701a) (xt_sigOf (hts _ m_c5aab6b8)) nm_M_need (by rw [hT]; exact r1) r2 r3 (g := F0 m 98 ls [.int 20, .int y0, .ref y1]) rfl (argsL := [.int y0, .int 20]) (rest := []) rfl rfl (by rw [hb]; exact (xb_d D_M_checkPlace 55 rfl))) (ok_M_need l hfl D A σ y1 y0 20 h _ hw) (hml.trans hl.1.symm) (by rw [hb]; exact (xb_d D_M_checkPlace 55 rfl)) (Nat.le_of_ble_eq_true rfl) (Nat.le_of_ble_eq_true rfl) (Nat.le_of_ble_eq_true rfl) (show k + 0 ≤ MC by omega) (show n + 0 ≤ MS by omega) (xt_w1 hB.1 m_c5aab6b8) (xt_cdOf hB.1 m_c5aab6b8) (hts _ m_d5ed7bed) hB hR hS hA (fun vv h2 H locs hq hEh2 hR hS => ?_) (fun XX ax h2 H locs hq hEh2 hex hR hS => ?_)
  · obtain ⟨rfl, hw⟩ := hq
    have hw := hw hEh2
    have hE := hE.tr hEh2
    refine W.eq (g2 := F0 m 101 ls []) rfl ?_
    refine lv_aload_n hx hb (xb_d D_M_checkPlace 56 rfl) rfl (lv_at hl 0 rfl) ?_
    obtain ⟨hk4, hw⟩ := hw
    refine xb_getI (C := R_M) (T := F_M) (N := 97) hx hb 8 17 hts fin_M hown hR hk4 (by decide) rfl (by decide) rfl (hts _ m_ff69da61) (fun _ h9 => h9) (xb_d D_M_checkPlace 57 rfl) ?_
    refine lv_if_eq (tgt := 109) hx hb (xb_d D_M_checkPlace 58 rfl) rfl (fun hc5 => ?_) (fun hc5 => ?_)
    · have hw := hw.1 hc5
      refine lv_aload_n hx hb (xb_d D_M_checkPlace 60 rfl) rfl (lv_at hl 0 rfl) ?_
      refine lv_iload_n hx hb (xb_d D_M_checkPlace 61 rfl) rfl (lv_at hl 1 rfl) ?_
      refine lv_lload_n hx hb (xb_d D_M_checkPlace 62 rfl) rfl (lv_at hl 3 rfl) ?_
      refine lv_l2i hx hb (xb_d D_M_checkPlace 63 rfl) rfl ?_
      refine xb_call (D := D) (A := A) (σ := σ) (h := h2) (d := 9) (mc := 0) (ms := 0) (maxL := 3) (rest := []) (av := [.ref x0, .int x1, .int (Int64.toInt32 x3)]) (fun T hT X => by obtain ⟨cb, r1, r2, r3⟩ := xb_recv (ci := 8) hR rfl hk4 (by decide); exact xt_invV X hx hown (hts _ m_40324d32) (hts _ m_58244a27) (hts _ m_041bc6eb) (xt_sigOf (hts _ m_a97ef8c2)) nm_M_changes (by rw [hT]; exact r1) r2 r3 (g := F0 m 113 ls [.int (Int64.toInt32 x3), .int x1, .ref x0]) rfl (argsL := [.int x1, .int (Int64.toInt32 x3)]) (rest := []) rfl rfl (by rw [hb]; exact (xb_d D_M_checkPlace 64 rfl))) (ok_M_changes l hfl D A σ x0 x1 (Int64.toInt32 x3) h2 _ hw) (hml.trans hl.1.symm) (by rw [hb]; exact (xb_d D_M_checkPlace 64 rfl)) (Nat.le_of_ble_eq_true rfl) (Nat.le_of_ble_eq_true rfl) (Nat.le_of_ble_eq_true rfl) (show k + 0 ≤ MC by omega) (show n + 0 ≤ MS by omega) (xt_w1 hB.1 m_a97ef8c2) (xt_cdOf hB.1 m_a97ef8c2) (hts _ m_d5ed7bed) hB hR hS hA (fun vv h6 H locs hq hEh6 hR hS => ?_) (fun XX ax h6 H locs hq hEh6 hex hR hS => ?_)
      · obtain ⟨r7, rfl, hw⟩ := hq
        have hw := hw hEh6
        have hE := hE.tr hEh6
        refine W.eq (g2 := F0 m 116 ls [.int r7]) rfl ?_
        refine lv_istore hx hb (xb_d D_M_checkPlace 65 rfl) hl (by decide) rfl (fun ls hl => ?_)
        have hl : lv_has ls 7 [(5, .int r7), (0, .ref x0), (1, .int x1), (2, .int x2), (3, .long x3)] := hl
        refine lv_aload_n hx hb (xb_d D_M_checkPlace 66 rfl) rfl (lv_at hl 1 rfl) ?_
        refine lv_iload_n hx hb (xb_d D_M_checkPlace 67 rfl) rfl (lv_at hl 2 rfl) ?_
        refine lv_lload_n hx hb (xb_d D_M_checkPlace 68 rfl) rfl (lv_at hl 4 rfl) ?_
        refine lv_l2i hx hb (xb_d D_M_checkPlace 69 rfl) rfl ?_
        have hk4 : xb_k h6 x0 = 9 := hEh6.k hk4
        refine xb_call (D := D) (A := A) (σ := σ) (h := h6) (d := 8) (mc := 0) (ms := 0) (maxL := 4) (rest := []) (av := [.ref x0, .int x1, .int (Int64.toInt32 x3)]) (fun T hT X => by obtain ⟨cb, r1, r2, r3⟩ := xb_recv (ci := 8) hR rfl hk4 (by decide); exact xt_invV X hx hown (hts _ m_2c44277c) (hts _ m_c17c7356) (hts _ m_60ae6cf3) (xt_sigOf (hts _ m_f93068de)) nm_M_variableTypeOf (by rw [hT]; exact r1) r2 r3 (g := F0 m 122 ls [.int (Int64.toInt32 x3), .int x1, .ref x0]) rfl (argsL := [.int x1, .int (Int64.toInt32 x3)]) (rest := []) rfl rfl (by rw [hb]; exact (xb_d D_M_checkPlace 70 rfl))) (ok_M_variableTypeOf l hfl D A σ x0 x1 (Int64.toInt32 x3) h6 _ hw) (hml.trans hl.1.symm) (by rw [hb]; exact (xb_d D_M_checkPlace 70 rfl)) (Nat.le_of_ble_eq_true rfl) (Nat.le_of_ble_eq_true rfl) (Nat.le_of_ble_eq_true rfl) (show k + 0 ≤ MC by omega) (show n + 0 ≤ MS by omega) (xt_w1 hB.1 m_f93068de) (xt_cdOf hB.1 m_f93068de) (hts _ m_d5ed7bed) hB hR hS hA (fun vv h8 H locs hq hEh8 hR hS => ?_) (fun XX ax h8 H locs hq hEh8 hex hR hS => ?_)
        · obtain ⟨r9, rfl, hw⟩ := hq
          have hw := hw hEh8
          have hE := hE.tr hEh8
          refine W.eq (g2 := F0 m 125 ls [.int r9]) rfl ?_
          refine lv_istore hx hb (xb_d D_M_checkPlace 71 rfl) hl (by decide) rfl (fun ls hl => ?_)
          have hl : lv_has ls 7 [(6, .int r9), (5, .int r7), (0, .ref x0), (1, .int x1), (2, .int x2), (3, .long x3)] := hl
          refine lv_iload_n hx hb (xb_d D_M_checkPlace 72 rfl) rfl (lv_at hl 4 rfl) ?_
          refine lv_bipush (v := 35) hx hb (xb_d D_M_checkPlace 73 rfl) (by decide) ?_
          refine lv_icmp_ne (tgt := 142) hx hb (xb_d D_M_checkPlace 74 rfl) rfl (fun hc10 => ?_) (fun hc10 => ?_)
          · have hw := hw.1 hc10
            refine lv_aload_n hx hb (xb_d D_M_checkPlace 79 rfl) rfl (lv_at hl 2 rfl) ?_
            refine lv_iload hx hb (xb_d D_M_checkPlace 80 rfl) (lv_at hl 1 rfl) ?_
            refine lv_bipush (v := 23) hx hb (xb_d D_M_checkPlace 81 rfl) (by decide) ?_
            have hk4 : xb_k h8 x0 = 9 := hEh8.k hk4
            refine xb_call (D := D) (A := A) (σ := σ) (h := h8) (d := 3) (mc := 0) (ms := 0) (maxL := 3) (rest := []) (av := [.ref x0, .int r7, .int 23]) (fun T hT X => by obtain ⟨cb, r1, r2, r3⟩ := xb_recv (ci := 8) hR rfl hk4 (by decide); exact xt_invV X hx hown (hts _ m_3b351fe6) (hts _ m_c9ff1909) (hts _ m_4d34701a) (xt_sigOf (hts _ m_c5aab6b8)) nm_M_need (by rw [hT]; exact r1) r2 r3 (g := F0 m 147 ls [.int 23, .int r7, .ref x0]) rfl (argsL := [.int r7, .int 23]) (rest := []) rfl rfl (by rw [hb]; exact (xb_d D_M_checkPlace 82 rfl))) (ok_M_need l hfl D A σ x0 r7 23 h8 _ hw) (hml.trans hl.1.symm) (by rw [hb]; exact (xb_d D_M_checkPlace 82 rfl)) (Nat.le_of_ble_eq_true rfl) (Nat.le_of_ble_eq_true rfl) (Nat.le_of_ble_eq_true rfl) (show k + 0 ≤ MC by omega) (show n + 0 ≤ MS by omega) (xt_w1 hB.1 m_c5aab6b8) (xt_cdOf hB.1 m_c5aab6b8) (hts _ m_d5ed7bed) hB hR hS hA (fun vv h11 H locs hq hEh11 hR hS => ?_) (fun XX ax h11 H locs hq hEh11 hex hR hS => ?_)
            · obtain ⟨rfl, hw⟩ := hq
              have hw := hw hEh11
              have hE := hE.tr hEh11
              refine W.eq (g2 := F0 m 150 ls []) rfl ?_
              refine lv_aload_n hx hb (xb_d D_M_checkPlace 83 rfl) rfl (lv_at hl 2 rfl) ?_
              refine lv_iload hx hb (xb_d D_M_checkPlace 84 rfl) (lv_at hl 0 rfl) ?_
              have hk4 : xb_k h11 x0 = 9 := hEh11.k hk4
              refine xb_call (D := D) (A := A) (σ := σ) (h := h11) (d := 3) (mc := 0) (ms := 0) (maxL := 3) (rest := []) (av := [.ref x0, .int r9]) (fun T hT X => by obtain ⟨cb, r1, r2, r3⟩ := xb_recv (ci := 8) hR rfl hk4 (by decide); exact xt_invV X hx hown (hts _ m_4290bf91) (hts _ m_641dba55) (hts _ m_286bb193) (xt_sigOf (hts _ m_8ef3c792)) nm_M_take (by rw [hT]; exact r1) r2 r3 (g := F0 m 153 ls [.int r9, .ref x0]) rfl (argsL := [.int r9]) (rest := []) rfl rfl (by rw [hb]; exact (xb_d D_M_checkPlace 85 rfl))) (ok_M_take l hfl D A σ x0 r9 h11 _ hw) (hml.trans hl.1.symm) (by rw [hb]; exact (xb_d D_M_checkPlace 85 rfl)) (Nat.le_of_ble_eq_true rfl) (Nat.le_of_ble_eq_true rfl) (Nat.le_of_ble_eq_true rfl) (show k + 0 ≤ MC by omega) (show n + 0 ≤ MS by omega) (xt_w1 hB.1 m_8ef3c792) (xt_cdOf hB.1 m_8ef3c792) (hts _ m_d5ed7bed) hB hR hS hA (fun vv h13 H locs hq hEh13 hR hS => ?_) (fun XX ax h13 H locs hq hEh13 hex hR hS => ?_)
              · obtain ⟨r14, rfl, hw⟩ := hq
                have hw := hw hEh13
                have hE := hE.tr hEh13
                refine W.eq (g2 := F0 m 156 ls [.int r14]) rfl ?_
                refine lv_pop hx hb (xb_d D_M_checkPlace 86 rfl) rfl ?_
                exact am_M_checkPlace_L157 l hfl D A σ MC MS h0 Qr h13 hw p e s m args below meth c hC H locs ls k n hE (lv_sub hl [] rfl) hR hS (by omega) (by omega)
              · exact False.elim hq
            · exact False.elim hq
          · have hw := hw.2 hc10
            refine lv_aload_n hx hb (xb_d D_M_checkPlace 75 rfl) rfl (lv_at hl 2 rfl) ?_
            refine lv_iload hx hb (xb_d D_M_checkPlace 76 rfl) (lv_at hl 0 rfl) ?_
            have hk4 : xb_k h8 x0 = 9 := hEh8.k hk4
            refine xb_call (D := D) (A := A) (σ := σ) (h := h8) (d := 2) (mc := 0) (ms := 0) (maxL := 2) (rest := []) (av := [.ref x0, .int r9]) (fun T hT X => by obtain ⟨cb, r1, r2, r3⟩ := xb_recv (ci := 8) hR rfl hk4 (by decide); exact xt_invV X hx hown (hts _ m_3308f884) (hts _ m_052429f9) (hts _ m_8c0b8095) (xt_sigOf (hts _ m_98c8d9b3)) nm_M_put (by rw [hT]; exact r1) r2 r3 (g := F0 m 136 ls [.int r9, .ref x0]) rfl (argsL := [.int r9]) (rest := []) rfl rfl (by rw [hb]; exact (xb_d D_M_checkPlace 77 rfl))) (ok_M_put l hfl D A σ x0 r9 h8 _ hw) (hml.trans hl.1.symm) (by rw [hb]; exact (xb_d D_M_checkPlace 77 rfl)) (Nat.le_of_ble_eq_true rfl) (Nat.le_of_ble_eq_true rfl) (Nat.le_of_ble_eq_true rfl) (show k + 0 ≤ MC by omega) (show n + 0 ≤ MS by omega) (xt_w1 hB.1 m_98c8d9b3) (xt_cdOf hB.1 m_98c8d9b3) (hts _ m_d5ed7bed) hB hR hS hA (fun vv h15 H locs hq hEh15 hR hS => ?_) (fun XX ax h15 H locs hq hEh15 hex hR hS => ?_)
            · obtain ⟨rfl, hw⟩ := hq
              have hw := hw hEh15
              have hE := hE.tr hEh15
              refine W.eq (g2 := F0 m 139 ls []) rfl ?_
              refine lv_goto (tgt := 157) hx hb (xb_d D_M_checkPlace 78 rfl) rfl ?_
              exact am_M_checkPlace_L157 l hfl D A σ MC MS h0 Qr h15 hw p e s m args below meth c hC H locs ls k n hE (lv_sub hl [] rfl) hR hS (by omega) (by omega)
            · exact False.elim hq
        · exact False.elim hq
      · exact False.elim hq
    · have hw := hw.2 hc5
      exact xb_vret hx hb hr hlocks (show k ≤ MC by omega) (show n ≤ MS by omega) hE hR hS (xb_d D_M_checkPlace 59 rfl) hw
  · exact False.elim hq

set_option maxHeartbeats 4000000 in
set_option maxRecDepth 100000 in
theorem am_M_checkPlace_L78 (l : Launch) (hfl : l.flags = pinnedFlags ++ [noTraceFlag]) (D : va_G) (A : Nat → Prop) (σ MC MS : Nat) (h0 : xb_H) (Qr : xb_H → Prop) (h : xb_H) (hw : w_M_checkPlace_L78 Qr h) : xb_am l D A σ 10 MC MS h0 (fun v h => v = none ∧ Qr h) (fun _ _ => False) y_M_checkPlace.cls y_M_checkPlace.name b_M_checkPlace 7 ([] : List ExceptionTableEntry) none 78 [] [] h 0 0 := by
  unfold w_M_checkPlace_L78 at hw
  intro p e s m args below meth c hC H locs ls k n hE hl hR hS hk hn
  obtain ⟨hx, hb, hown, hlocks, htab, hml, hr, hB, hA, hnm⟩ := id hC
  have hts := hB.1.1.at args
  exact xb_vret hx hb hr hlocks (show k ≤ MC by omega) (show n ≤ MS by omega) hE hR hS (xb_d D_M_checkPlace 42 rfl) hw

set_option maxHeartbeats 4000000 in
set_option maxRecDepth 100000 in
theorem am_M_checkPlace_L66 (l : Launch) (hfl : l.flags = pinnedFlags ++ [noTraceFlag]) (D : va_G) (A : Nat → Prop) (σ MC MS : Nat) (h0 : xb_H) (Qr : xb_H → Prop) (x0 : Nat) (x2 : Int32) (x5 : Int32) (h : xb_H) (hw : w_M_checkPlace_L66 Qr x0 x2 x5 h) : xb_am l D A σ 10 MC MS h0 (fun v h => v = none ∧ Qr h) (fun _ _ => False) y_M_checkPlace.cls y_M_checkPlace.name b_M_checkPlace 7 ([] : List ExceptionTableEntry) none 66 [(0, .ref x0), (2, .int x2), (5, .int x5)] [] h 0 0 := by
  unfold w_M_checkPlace_L66 at hw
  intro p e s m args below meth c hC H locs ls k n hE hl hR hS hk hn
  obtain ⟨hx, hb, hown, hlocks, htab, hml, hr, hB, hA, hnm⟩ := id hC
  have hts := hB.1.1.at args
  refine lv_iload_n hx hb (xb_d D_M_checkPlace 36 rfl) rfl (lv_at hl 1 rfl) ?_
  refine lv_bipush (v := 33) hx hb (xb_d D_M_checkPlace 37 rfl) (by decide) ?_
  refine lv_icmp_eq (tgt := 78) hx hb (xb_d D_M_checkPlace 38 rfl) rfl (fun hc1 => ?_) (fun hc1 => ?_)
  · have hw := hw.1 hc1
    exact am_M_checkPlace_L78 l hfl D A σ MC MS h0 Qr h hw p e s m args below meth c hC H locs ls k n hE (lv_sub hl [] rfl) hR hS (by omega) (by omega)
  · have hw := hw.2 hc1
    refine lv_aload_n hx hb (xb_d D_M_checkPlace 39 rfl) rfl (lv_at hl 0 rfl) ?_
    refine lv_iload hx hb (xb_d D_M_checkPlace 40 rfl) (lv_at hl 2 rfl) ?_
    obtain ⟨hk2, hw⟩ := hw
    refine xb_call (D := D) (A := A) (σ := σ) (h := h) (d := 2) (mc := 0) (ms := 0) (maxL := 2) (rest := []) (av := [.ref x0, .int x5]) (fun T hT X => by obtain ⟨cb, r1, r2, r3⟩ := xb_recv (ci := 8) hR rfl hk2 (by decide); exact xt_invV X hx hown (hts _ m_3308f884) (hts _ m_052429f9) (hts _ m_8c0b8095) (xt_sigOf (hts _ m_98c8d9b3)) nm_M_put (by rw [hT]; exact r1) r2 r3 (g := F0 m 75 ls [.int x5, .ref x0]) rfl (argsL := [.int x5]) (rest := []) rfl rfl (by rw [hb]; exact (xb_d D_M_checkPlace 41 rfl))) (ok_M_put l hfl D A σ x0 x5 h _ hw) (hml.trans hl.1.symm) (by rw [hb]; exact (xb_d D_M_checkPlace 41 rfl)) (Nat.le_of_ble_eq_true rfl) (Nat.le_of_ble_eq_true rfl) (Nat.le_of_ble_eq_true rfl) (show k + 0 ≤ MC by omega) (show n + 0 ≤ MS by omega) (xt_w1 hB.1 m_98c8d9b3) (xt_cdOf hB.1 m_98c8d9b3) (hts _ m_d5ed7bed) hB hR hS hA (fun vv h3 H locs hq hEh3 hR hS => ?_) (fun XX ax h3 H locs hq hEh3 hex hR hS => ?_)
    · obtain ⟨rfl, hw⟩ := hq
      have hw := hw hEh3
      have hE := hE.tr hEh3
      refine W.eq (g2 := F0 m 78 ls []) rfl ?_
      exact am_M_checkPlace_L78 l hfl D A σ MC MS h0 Qr h3 hw p e s m args below meth c hC H locs ls k n hE (lv_sub hl [] rfl) hR hS (by omega) (by omega)
    · exact False.elim hq

set_option maxHeartbeats 4000000 in
set_option maxRecDepth 100000 in
theorem am_M_checkPlace_L51 (l : Launch) (hfl : l.flags = pinnedFlags ++ [noTraceFlag]) (D : va_G) (A : Nat → Prop) (σ MC MS : Nat) (h0 : xb_H) (Qr : xb_H → Prop) (x0 : Nat) (x2 : Int32) (y0 : Int32) (h : xb_H) (hw : w_M_checkPlace_L51 Qr x0 x2 y0 h) : xb_am l D A σ 10 MC MS h0 (fun v h => v = none ∧ Qr h) (fun _ _ => False) y_M_checkPlace.cls y_M_checkPlace.name b_M_checkPlace 7 ([] : List ExceptionTableEntry) none 51 [(0, .ref x0), (2, .int x2)] [.int y0] h 0 0 := by
  unfold w_M_checkPlace_L51 at hw
  intro p e s m args below meth c hC H locs ls k n hE hl hR hS hk hn
  obtain ⟨hx, hb, hown, hlocks, htab, hml, hr, hB, hA, hnm⟩ := id hC
  have hts := hB.1.1.at args
  refine lv_istore hx hb (xb_d D_M_checkPlace 28 rfl) hl (by decide) rfl (fun ls hl => ?_)
  have hl : lv_has ls 7 [(5, .int y0), (0, .ref x0), (2, .int x2)] := hl
  refine lv_iload_n hx hb (xb_d D_M_checkPlace 29 rfl) rfl (lv_at hl 2 rfl) ?_
  refine lv_bipush (v := 32) hx hb (xb_d D_M_checkPlace 30 rfl) (by decide) ?_
  refine lv_icmp_le (tgt := 66) hx hb (xb_d D_M_checkPlace 31 rfl) rfl (fun hc1 => ?_) (fun hc1 => ?_)
  · have hw := hw.1 hc1
    exact am_M_checkPlace_L66 l hfl D A σ MC MS h0 Qr x0 x2 y0 h hw p e s m args below meth c hC H locs ls k n hE (lv_sub hl [1, 2, 0] rfl) hR hS (by omega) (by omega)
  · have hw := hw.2 hc1
    refine lv_aload_n hx hb (xb_d D_M_checkPlace 32 rfl) rfl (lv_at hl 1 rfl) ?_
    refine lv_iload hx hb (xb_d D_M_checkPlace 33 rfl) (lv_at hl 0 rfl) ?_
    obtain ⟨hk2, hw⟩ := hw
    refine xb_call (D := D) (A := A) (σ := σ) (h := h) (d := 3) (mc := 0) (ms := 0) (maxL := 3) (rest := []) (av := [.ref x0, .int y0]) (fun T hT X => by obtain ⟨cb, r1, r2, r3⟩ := xb_recv (ci := 8) hR rfl hk2 (by decide); exact xt_invV X hx hown (hts _ m_4290bf91) (hts _ m_641dba55) (hts _ m_286bb193) (xt_sigOf (hts _ m_8ef3c792)) nm_M_take (by rw [hT]; exact r1) r2 r3 (g := F0 m 62 ls [.int y0, .ref x0]) rfl (argsL := [.int y0]) (rest := []) rfl rfl (by rw [hb]; exact (xb_d D_M_checkPlace 34 rfl))) (ok_M_take l hfl D A σ x0 y0 h _ hw) (hml.trans hl.1.symm) (by rw [hb]; exact (xb_d D_M_checkPlace 34 rfl)) (Nat.le_of_ble_eq_true rfl) (Nat.le_of_ble_eq_true rfl) (Nat.le_of_ble_eq_true rfl) (show k + 0 ≤ MC by omega) (show n + 0 ≤ MS by omega) (xt_w1 hB.1 m_8ef3c792) (xt_cdOf hB.1 m_8ef3c792) (hts _ m_d5ed7bed) hB hR hS hA (fun vv h3 H locs hq hEh3 hR hS => ?_) (fun XX ax h3 H locs hq hEh3 hex hR hS => ?_)
    · obtain ⟨r4, rfl, hw⟩ := hq
      have hw := hw hEh3
      have hE := hE.tr hEh3
      refine W.eq (g2 := F0 m 65 ls [.int r4]) rfl ?_
      refine lv_pop hx hb (xb_d D_M_checkPlace 35 rfl) rfl ?_
      exact am_M_checkPlace_L66 l hfl D A σ MC MS h0 Qr x0 x2 y0 h3 hw p e s m args below meth c hC H locs ls k n hE (lv_sub hl [1, 2, 0] rfl) hR hS (by omega) (by omega)
    · exact False.elim hq

set_option maxHeartbeats 4000000 in
set_option maxRecDepth 100000 in
theorem am_M_checkPlace_L27 (l : Launch) (hfl : l.flags = pinnedFlags ++ [noTraceFlag]) (D : va_G) (A : Nat → Prop) (σ MC MS : Nat) (h0 : xb_H) (Qr : xb_H → Prop) (x0 : Nat) (x2 : Int32) (x3 : Int64) (y0 : Int32) (y1 : Nat) (h : xb_H) (hw : w_M_checkPlace_L27 Qr x0 x2 x3 y0 y1 h) : xb_am l D A σ 10 MC MS h0 (fun v h => v = none ∧ Qr h) (fun _ _ => False) y_M_checkPlace.cls y_M_checkPlace.name b_M_checkPlace 7 ([] : List ExceptionTableEntry) none 27 [(0, .ref x0), (2, .int x2), (3, .long x3)] [.int y0, .ref y1] h 0 0 := by
  unfold w_M_checkPlace_L27 at hw
  intro p e s m args below meth c hC H locs ls k n hE hl hR hS hk hn
  obtain ⟨hx, hb, hown, hlocks, htab, hml, hr, hB, hA, hnm⟩ := id hC
  have hts := hB.1.1.at args
  refine lv_bipush (v := 20) hx hb (xb_d D_M_checkPlace 16 rfl) (by decide) ?_
  obtain ⟨hk1, hw⟩ := hw
  refine xb_call (D := D) (A := A) (σ := σ) (h := h) (d := 3) (mc := 0) (ms := 0) (maxL := 3) (rest := []) (av := [.ref y1, .int y0, .int 20]) (fun T hT X => by obtain ⟨cb, r1, r2, r3⟩ := xb_recv (ci := 8) hR rfl hk1 (by decide); exact xt_invV X hx hown (hts _ m_3b351fe6) (hts _ m_c9ff1909) (hts _ m_4d34701a) (xt_sigOf (hts _ m_c5aab6b8)) nm_M_need (by rw [hT]; exact r1) r2 r3 (g := F0 m 29 ls [.int 20, .int y0, .ref y1]) rfl (argsL := [.int y0, .int 20]) (rest := []) rfl rfl (by rw [hb]; exact (xb_d D_M_checkPlace 17 rfl))) (ok_M_need l hfl D A σ y1 y0 20 h _ hw) (hml.trans hl.1.symm) (by rw [hb]; exact (xb_d D_M_checkPlace 17 rfl)) (Nat.le_of_ble_eq_true rfl) (Nat.le_of_ble_eq_true rfl) (Nat.le_of_ble_eq_true rfl) (show k + 0 ≤ MC by omega) (show n + 0 ≤ MS by omega) (xt_w1 hB.1 m_c5aab6b8) (xt_cdOf hB.1 m_c5aab6b8) (hts _ m_d5ed7bed) hB hR hS hA (fun vv h2 H locs hq hEh2 hR hS => ?_) (fun XX ax h2 H locs hq hEh2 hex hR hS => ?_)
  · obtain ⟨rfl, hw⟩ := hq
    have hw := hw hEh2
    have hE := hE.tr hEh2
    refine W.eq (g2 := F0 m 32 ls []) rfl ?_
    refine lv_aload_n hx hb (xb_d D_M_checkPlace 18 rfl) rfl (lv_at hl 0 rfl) ?_
    obtain ⟨hk4, hw⟩ := hw
    refine xb_getI (C := R_M) (T := F_M) (N := 97) hx hb 8 17 hts fin_M hown hR hk4 (by decide) rfl (by decide) rfl (hts _ m_ff69da61) (fun _ h9 => h9) (xb_d D_M_checkPlace 19 rfl) ?_
    refine lv_if_ne (tgt := 49) hx hb (xb_d D_M_checkPlace 20 rfl) rfl (fun hc5 => ?_) (fun hc5 => ?_)
    · have hw := hw.1 hc5
      refine lv_bipush (v := 127) hx hb (xb_d D_M_checkPlace 27 rfl) (by decide) ?_
      exact am_M_checkPlace_L51 l hfl D A σ MC MS h0 Qr x0 x2 127 h2 hw p e s m args below meth c hC H locs ls k n hE (lv_sub hl [0, 1] rfl) hR hS (by omega) (by omega)
    · have hw := hw.2 hc5
      refine lv_aload_n hx hb (xb_d D_M_checkPlace 21 rfl) rfl (lv_at hl 0 rfl) ?_
      refine xb_getP (C := R_M) (T := F_M) (N := 97) hx hb 8 19 hts fin_M hown hR hk4 (by decide) rfl (by decide) rfl (hts _ m_cede1946) (fun _ h9 => h9) (xb_d D_M_checkPlace 22 rfl) ?_
      obtain ⟨b6, eb6, hw⟩ := hw
      refine xb_some eb6 ?_
      refine lv_lload_n hx hb (xb_d D_M_checkPlace 23 rfl) rfl (lv_at hl 2 rfl) ?_
      refine lv_l2i hx hb (xb_d D_M_checkPlace 24 rfl) rfl ?_
      obtain ⟨hk8, hw⟩ := hw
      obtain ⟨hi7, hw⟩ := hw
      refine xb_bald hx hb hR hk8 hi7 (xb_d D_M_checkPlace 25 rfl) ?_
      refine lv_goto (tgt := 51) hx hb (xb_d D_M_checkPlace 26 rfl) rfl ?_
      exact am_M_checkPlace_L51 l hfl D A σ MC MS h0 Qr x0 x2 (xb_i h2 b6 (Int32.toNatClampNeg (Int64.toInt32 x3))) h2 hw p e s m args below meth c hC H locs ls k n hE (lv_sub hl [0, 1] rfl) hR hS (by omega) (by omega)
  · exact False.elim hq

set_option maxHeartbeats 4000000 in
set_option maxRecDepth 100000 in
theorem ok_M_checkPlace (l : Launch) (hfl : l.flags = pinnedFlags ++ [noTraceFlag]) (D : va_G) (A : Nat → Prop) (σ : Nat) (x0 : Nat) (x1 : Int32) (x2 : Int32) (h : xb_H) (Qr : xb_H → Prop) (hw : w_M_checkPlace x0 x1 x2 h Qr) : xt_Met l y_M_checkPlace [.code y_M_checkPlace b_M_checkPlace 7 none] (xb_rm 10 0 0) (xb_Pc D A σ h [.ref x0, .int x1, .int x2]) (xb_Qc D A h (fun v h => v = none ∧ Qr h) (fun _ _ => False)) 0 0 A := by
  refine xb_ofAm (cc := b_M_checkPlace) (by decide) (Nat.le_of_ble_eq_true rfl) ?_
  unfold w_M_checkPlace at hw
  show xb_am l D A σ 10 0 0 h (fun v h => v = none ∧ Qr h) (fun _ _ => False) y_M_checkPlace.cls y_M_checkPlace.name b_M_checkPlace 7 ([] : List ExceptionTableEntry) none 0 [(0, .ref x0), (1, .int x1), (2, .int x2)] [] h 0 0
  obtain ⟨MC, hMC⟩ : ∃ x, x = 0 := ⟨_, rfl⟩
  obtain ⟨MS, hMS⟩ : ∃ x, x = 0 := ⟨_, rfl⟩
  rw [show xb_am l D A σ 10 0 0 = xb_am l D A σ 10 MC MS by rw [hMC, hMS]]
  obtain ⟨h0, hh0⟩ : ∃ x, x = h := ⟨_, rfl⟩
  rw [show xb_am l D A σ 10 MC MS h = xb_am l D A σ 10 MC MS h0 by rw [hh0]]
  intro p e s m args below meth c hC H locs ls k n hE hl hR hS hk hn
  obtain ⟨hx, hb, hown, hlocks, htab, hml, hr, hB, hA, hnm⟩ := id hC
  have hts := hB.1.1.at args
  refine lv_aload_n hx hb (xb_d D_M_checkPlace 0 rfl) rfl (lv_at hl 0 rfl) ?_
  obtain ⟨hk1, hw⟩ := hw
  refine xb_call (D := D) (A := A) (σ := σ) (h := h) (d := 4) (mc := 0) (ms := 0) (maxL := 5) (rest := []) (av := [.ref x0]) (fun T hT X => by obtain ⟨cb, r1, r2, r3⟩ := xb_recv (ci := 8) hR rfl hk1 (by decide); exact xt_invV X hx hown (hts _ m_e991293f) (hts _ m_385a74b3) (hts _ m_c9fbcd02) (xt_sigOf (hts _ m_1f53f210)) nm_M_count (by rw [hT]; exact r1) r2 r3 (g := F0 m 1 ls [.ref x0]) rfl (argsL := []) (rest := []) rfl rfl (by rw [hb]; exact (xb_d D_M_checkPlace 1 rfl))) (ok_M_count l hfl D A σ x0 h _ hw) (hml.trans hl.1.symm) (by rw [hb]; exact (xb_d D_M_checkPlace 1 rfl)) (Nat.le_of_ble_eq_true rfl) (Nat.le_of_ble_eq_true rfl) (Nat.le_of_ble_eq_true rfl) (show k + 0 ≤ MC by omega) (show n + 0 ≤ MS by omega) (xt_w1 hB.1 m_1f53f210) (xt_cdOf hB.1 m_1f53f210) (hts _ m_d5ed7bed) hB hR hS hA (fun vv h2 H locs hq hEh2 hR hS => ?_) (fun XX ax h2 H locs hq hEh2 hex hR hS => ?_)
  · obtain ⟨r3, rfl, hw⟩ := hq
    have hw := hw hEh2
    have hE := hE.tr hEh2
    refine W.eq (g2 := F0 m 4 ls [.long r3]) rfl ?_
    refine lv_lstore_n hx hb (xb_d D_M_checkPlace 2 rfl) rfl hl (by decide) rfl (fun ls hl => ?_)
    have hl : lv_has ls 7 [(3, .long r3), (0, .ref x0), (1, .int x1), (2, .int x2)] := hl
    refine lv_iload_n hx hb (xb_d D_M_checkPlace 3 rfl) rfl (lv_at hl 3 rfl) ?_
    refine lv_bipush (v := 35) hx hb (xb_d D_M_checkPlace 4 rfl) (by decide) ?_
    refine lv_icmp_ge (tgt := 79) hx hb (xb_d D_M_checkPlace 5 rfl) rfl (fun hc4 => ?_) (fun hc4 => ?_)
    · have hw := hw.1 hc4
      refine lv_aload_n hx hb (xb_d D_M_checkPlace 43 rfl) rfl (lv_at hl 1 rfl) ?_
      refine lv_lload_n hx hb (xb_d D_M_checkPlace 44 rfl) rfl (lv_at hl 0 rfl) ?_
      refine lv_aload_n hx hb (xb_d D_M_checkPlace 45 rfl) rfl (lv_at hl 1 rfl) ?_
      refine lv_iload_n hx hb (xb_d D_M_checkPlace 46 rfl) rfl (lv_at hl 2 rfl) ?_
      refine lv_iconst (v := 3) hx hb (xb_d D_M_checkPlace 47 rfl) (by decide) ?_
      have hk1 : xb_k h2 x0 = 9 := hEh2.k hk1
      refine xb_call (D := D) (A := A) (σ := σ) (h := h2) (d := 3) (mc := 0) (ms := 0) (maxL := 3) (rest := [.long r3, .ref x0]) (av := [.ref x0, .int x1, .int 3]) (fun T hT X => by obtain ⟨cb, r1, r2, r3⟩ := xb_recv (ci := 8) hR rfl hk1 (by decide); exact xt_invV X hx hown (hts _ m_940fb65e) (hts _ m_342c0f16) (hts _ m_c0324d76) (xt_sigOf (hts _ m_feaaa075)) nm_M_total (by rw [hT]; exact r1) r2 r3 (g := F0 m 84 ls [.int 3, .int x1, .ref x0, .long r3, .ref x0]) rfl (argsL := [.int x1, .int 3]) (rest := [.long r3, .ref x0]) rfl rfl (by rw [hb]; exact (xb_d D_M_checkPlace 48 rfl))) (ok_M_total l hfl D A σ x0 x1 3 h2 _ hw) (hml.trans hl.1.symm) (by rw [hb]; exact (xb_d D_M_checkPlace 48 rfl)) (Nat.le_of_ble_eq_true rfl) (Nat.le_of_ble_eq_true rfl) (Nat.le_of_ble_eq_true rfl) (show k + 0 ≤ MC by omega) (show n + 0 ≤ MS by omega) (xt_w1 hB.1 m_feaaa075) (xt_cdOf hB.1 m_feaaa075) (hts _ m_d5ed7bed) hB hR hS hA (fun vv h5 H locs hq hEh5 hR hS => ?_) (fun XX ax h5 H locs hq hEh5 hex hR hS => ?_)
      · obtain ⟨r6, rfl, hw⟩ := hq
        have hw := hw hEh5
        have hE := hE.tr hEh5
        refine W.eq (g2 := F0 m 87 ls [.long r6, .long r3, .ref x0]) rfl ?_
        refine xb_lc_ge (tgt := 95) hx hb (xb_d D_M_checkPlace 49 rfl) (xb_d D_M_checkPlace 50 rfl) rfl (fun hc7 => ?_) (fun hc7 => ?_)
        · have hw := hw.1 hc7
          refine lv_iconst (v := 0) hx hb (xb_d D_M_checkPlace 53 rfl) (by decide) ?_
          exact am_M_checkPlace_L96 l hfl D A σ MC MS h0 Qr x0 x1 x2 r3 0 x0 h5 hw p e s m args below meth c hC H locs ls k n hE (lv_sub hl [1, 2, 3, 0] rfl) hR hS (by omega) (by omega)
        · have hw := hw.2 hc7
          refine lv_iconst (v := 1) hx hb (xb_d D_M_checkPlace 51 rfl) (by decide) ?_
          refine lv_goto (tgt := 96) hx hb (xb_d D_M_checkPlace 52 rfl) rfl ?_
          exact am_M_checkPlace_L96 l hfl D A σ MC MS h0 Qr x0 x1 x2 r3 1 x0 h5 hw p e s m args below meth c hC H locs ls k n hE (lv_sub hl [1, 2, 3, 0] rfl) hR hS (by omega) (by omega)
      · exact False.elim hq
    · have hw := hw.2 hc4
      refine lv_aload_n hx hb (xb_d D_M_checkPlace 6 rfl) rfl (lv_at hl 1 rfl) ?_
      refine lv_lload_n hx hb (xb_d D_M_checkPlace 7 rfl) rfl (lv_at hl 0 rfl) ?_
      refine lv_aload_n hx hb (xb_d D_M_checkPlace 8 rfl) rfl (lv_at hl 1 rfl) ?_
      have hk1 : xb_k h2 x0 = 9 := hEh2.k hk1
      refine xb_getI (C := R_M) (T := F_M) (N := 97) hx hb 8 20 hts fin_M hown hR hk1 (by decide) rfl (by decide) rfl (hts _ m_160f9bc8) (fun _ h9 => h9) (xb_d D_M_checkPlace 9 rfl) ?_
      refine lv_i2l hx hb (xb_d D_M_checkPlace 10 rfl) rfl ?_
      refine xb_lc_ge (tgt := 26) hx hb (xb_d D_M_checkPlace 11 rfl) (xb_d D_M_checkPlace 12 rfl) rfl (fun hc8 => ?_) (fun hc8 => ?_)
      · have hw := hw.1 hc8
        refine lv_iconst (v := 0) hx hb (xb_d D_M_checkPlace 15 rfl) (by decide) ?_
        exact am_M_checkPlace_L27 l hfl D A σ MC MS h0 Qr x0 x2 r3 0 x0 h2 hw p e s m args below meth c hC H locs ls k n hE (lv_sub hl [1, 3, 0] rfl) hR hS (by omega) (by omega)
      · have hw := hw.2 hc8
        refine lv_iconst (v := 1) hx hb (xb_d D_M_checkPlace 13 rfl) (by decide) ?_
        refine lv_goto (tgt := 27) hx hb (xb_d D_M_checkPlace 14 rfl) rfl ?_
        exact am_M_checkPlace_L27 l hfl D A σ MC MS h0 Qr x0 x2 r3 1 x0 h2 hw p e s m args below meth c hC H locs ls k n hE (lv_sub hl [1, 3, 0] rfl) hR hS (by omega) (by omega)
  · exact False.elim hq

theorem m_4c124df6 : (.constant "StackHostModel" 706 2147418112 : Cond) ∈ xt_tbl := xt_in (xt_t13 (List.mem_of_getElem? (i := 206) (by decide +kernel))) (by decide +kernel)
theorem m_392cec72 : (.methodLink "StackHostModel" 522 y_M_only : Cond) ∈ xt_tbl := xt_in (xt_t12 (List.mem_of_getElem? (i := 97) (by decide +kernel))) (by decide +kernel)
theorem m_982c4770 : (.instanceMethod y_M_only : Cond) ∈ xt_tbl := xt_in (xt_t12 (List.mem_of_getElem? (i := 99) (by decide +kernel))) (by decide +kernel)
theorem m_e18e99cc : (.selects "StackHostModel" y_M_only y_M_only : Cond) ∈ xt_tbl := xt_in (xt_v14 (q := (⟨"StackHostModel", "only", "(II)I"⟩, 97)) (List.mem_of_getElem? (i := 0) (by decide +kernel))) (by decide +kernel)
theorem m_3f9e55aa : (.code y_M_only b_M_only 3 (some .int) : Cond) ∈ xt_tbl := xt_in (xt_t12 (List.mem_of_getElem? (i := 100) (by decide +kernel))) (by decide +kernel)
theorem nm_M_only : xt_nm y_M_only 2 := ⟨by decide +kernel, by decide +kernel⟩
set_option maxRecDepth 100000 in
def T_M_element : List (Nat × Instr × Nat) := [(0, .aload_n 0, 1), (1, .iload_n 1, 1), (2, .invokevirtual 592, 3), (5, .ifCond .eq 12, 3), (8, .aload_n 0, 1), (9, .iload_n 1, 1), (10, .iconst 1, 1), (11, .invokevirtual 522, 3), (14, .goto 4, 3), (17, .iconst (-1), 1), (18, .istore_n 3, 1), (19, .aload_n 0, 1), (20, .iload_n 3, 1), (21, .ifCond .lt 21, 3), (24, .iload_n 2, 1), (25, .ifCond .lt 17, 3), (28, .iload_n 2, 1), (29, .aload_n 0, 1), (30, .getfield 101, 3), (33, .iload_n 3, 1), (34, .iaload, 1), (35, .if_icmp .ge 7, 3), (38, .iconst 0, 1), (39, .goto 4, 3), (42, .iconst 1, 1), (43, .putfield 189, 3), (46, .aload_n 0, 1), (47, .getfield 189, 3), (50, .ifCond .le 5, 3), (53, .iconst 0, 1), (54, .ireturn, 1), (55, .aload_n 0, 1), (56, .getfield 108, 3), (59, .aload_n 0, 1), (60, .getfield 98, 3), (63, .iload_n 3, 1), (64, .iaload, 1), (65, .iload_n 2, 1), (66, .iadd, 1), (67, .iaload, 1), (68, .iconst 1, 1), (69, .isub, 1), (70, .istore 4, 2), (72, .iload 4, 2), (74, .ifCond .ge 5, 3), (77, .iconst (-1), 1), (78, .ireturn, 1), (79, .iload 4, 2), (81, .ldc_w 489, 3), (84, .if_icmp .lt 14, 3), (87, .ldc_w 706, 3), (90, .iload 4, 2), (92, .iadd, 1), (93, .ldc_w 489, 3), (96, .isub, 1), (97, .ireturn, 1), (98, .ldc 7, 2), (100, .aload_n 0, 1), (101, .getfield 92, 3), (104, .iload 4, 2), (106, .iaload, 1), (107, .imul, 1), (108, .aload_n 0, 1), (109, .getfield 30, 3), (112, .iconst 4, 1), (113, .aload_n 0, 1), (114, .getfield 62, 3), (117, .aload_n 0, 1), (118, .getfield 92, 3), (121, .iload 4, 2), (123, .iaload, 1), (124, .iaload, 1), (125, .imul, 1), (126, .iaload, 1), (127, .iadd, 1), (128, .aload_n 0, 1), (129, .getfield 95, 3), (132, .iload 4, 2), (134, .iaload, 1), (135, .iadd, 1), (136, .ireturn, 1)]
theorem D_M_element : ∀ q ∈ T_M_element, decode b_M_element q.1 = .ok (q.2.1, q.2.2) := by decide +kernel
def w_M_element_L43 (Qr : Int32 → xb_H → Prop) (x0 : Nat) (x2 : Int32) (x3 : Int32) (y0 : Int32) (y1 : Nat) (h : xb_H) : Prop :=
    xb_k h y1 = 9 ∧ ∀ h2 : xb_H, h2 = xb_I h y1 0 y0 → xb_k h2 x0 = 9 ∧ (((xb_i h2 x0 0) ≤ (0 : Int32) → ∃ b5 : Nat, (xb_r h2 x0 51) = some b5 ∧ ∃ b6 : Nat, (xb_r h2 x0 48) = some b6 ∧ xb_k h2 b6 = 102 ∧ vp_in x3 (xb_n h2 b6) ∧ xb_k h2 b5 = 102 ∧ vp_in ((xb_i h2 b6 (Int32.toNatClampNeg x3)) + x2) (xb_n h2 b5) ∧ ∀ v11 : Int32, v11 = ((xb_i h2 b5 (Int32.toNatClampNeg ((xb_i h2 b6 (Int32.toNatClampNeg x3)) + x2))) - 1) → (((0 : Int32) ≤ v11 → ((v11 < (100000 : Int32) → ∃ b14 : Nat, (xb_r h2 x0 44) = some b14 ∧ xb_k h2 b14 = 102 ∧ vp_in v11 (xb_n h2 b14) ∧ ∃ b17 : Nat, (xb_r h2 x0 10) = some b17 ∧ ∃ b18 : Nat, (xb_r h2 x0 31) = some b18 ∧ ∃ b19 : Nat, (xb_r h2 x0 44) = some b19 ∧ xb_k h2 b19 = 102 ∧ vp_in v11 (xb_n h2 b19) ∧ xb_k h2 b18 = 102 ∧ vp_in (xb_i h2 b19 (Int32.toNatClampNeg v11)) (xb_n h2 b18) ∧ xb_k h2 b17 = 102 ∧ vp_in (4 * (xb_i h2 b18 (Int32.toNatClampNeg (xb_i h2 b19 (Int32.toNatClampNeg v11))))) (xb_n h2 b17) ∧ ∃ b26 : Nat, (xb_r h2 x0 45) = some b26 ∧ xb_k h2 b26 = 102 ∧ vp_in v11 (xb_n h2 b26) ∧ Qr (((65536 * (xb_i h2 b14 (Int32.toNatClampNeg v11))) + (xb_i h2 b17 (Int32.toNatClampNeg (4 * (xb_i h2 b18 (Int32.toNatClampNeg (xb_i h2 b19 (Int32.toNatClampNeg v11)))))))) + (xb_i h2 b26 (Int32.toNatClampNeg v11))) h2) ∧ (¬ v11 < (100000 : Int32) → Qr ((2147418112 + v11) - 100000) h2))) ∧ (¬ (0 : Int32) ≤ v11 → Qr (-1) h2))) ∧ (¬ (xb_i h2 x0 0) ≤ (0 : Int32) → Qr 0 h2))

def w_M_element_L42 (Qr : Int32 → xb_H → Prop) (x0 : Nat) (x2 : Int32) (x3 : Int32) (y0 : Nat) (h : xb_H) : Prop :=
    w_M_element_L43 Qr x0 x2 x3 1 y0 h

def w_M_element_L18 (Qr : Int32 → xb_H → Prop) (x0 : Nat) (x2 : Int32) (y0 : Int32) (h : xb_H) : Prop :=
    ((y0 < (0 : Int32) → w_M_element_L42 Qr x0 x2 y0 x0 h) ∧ (¬ y0 < (0 : Int32) → ((x2 < (0 : Int32) → w_M_element_L42 Qr x0 x2 y0 x0 h) ∧ (¬ x2 < (0 : Int32) → xb_k h x0 = 9 ∧ ∃ b4 : Nat, (xb_r h x0 49) = some b4 ∧ xb_k h b4 = 102 ∧ vp_in y0 (xb_n h b4) ∧ (((xb_i h b4 (Int32.toNatClampNeg y0)) ≤ x2 → w_M_element_L42 Qr x0 x2 y0 x0 h) ∧ (¬ (xb_i h b4 (Int32.toNatClampNeg y0)) ≤ x2 → w_M_element_L43 Qr x0 x2 y0 0 x0 h))))))

def w_M_element (x0 : Nat) (x1 : Int32) (x2 : Int32) (h : xb_H) (Qr : Int32 → xb_H → Prop) : Prop :=
    xb_k h x0 = 9 ∧ w_M_isInstance x0 x1 h (fun (r3 : Int32) (h2 : xb_H) => xb_ext h h2 → ((r3 = (0 : Int32) → w_M_element_L18 Qr x0 x2 (-1) h2) ∧ (¬ r3 = (0 : Int32) → w_M_only x0 x1 1 h2 (fun (r6 : Int32) (h5 : xb_H) => xb_ext h2 h5 → w_M_element_L18 Qr x0 x2 r6 h5))))

set_option maxHeartbeats 4000000 in
set_option maxRecDepth 100000 in
theorem am_M_element_L43 (l : Launch) (hfl : l.flags = pinnedFlags ++ [noTraceFlag]) (D : va_G) (A : Nat → Prop) (σ MC MS : Nat) (h0 : xb_H) (Qr : Int32 → xb_H → Prop) (x0 : Nat) (x2 : Int32) (x3 : Int32) (y0 : Int32) (y1 : Nat) (h : xb_H) (hw : w_M_element_L43 Qr x0 x2 x3 y0 y1 h) : xb_am l D A σ 10 MC MS h0 (fun v h => ∃ r, v = some (.int r) ∧ Qr r h) (fun _ _ => False) y_M_element.cls y_M_element.name b_M_element 5 ([] : List ExceptionTableEntry) (some .int) 43 [(0, .ref x0), (2, .int x2), (3, .int x3)] [.int y0, .ref y1] h 0 0 := by
  unfold w_M_element_L43 at hw
  intro p e s m args below meth c hC H locs ls k n hE hl hR hS hk hn
  obtain ⟨hx, hb, hown, hlocks, htab, hml, hr, hB, hA, hnm⟩ := id hC
  have hts := hB.1.1.at args
  obtain ⟨hk1, hw⟩ := hw
  refine xb_putI (C := R_M) (T := F_M) (N := 97) (ty := .int) (x := y0) hx hb 8 0 hts fin_M t_M t_M_ok n_M hown hR hS hk1 (by decide) rfl (by decide) rfl (hts _ m_afabd6a0) (fun _ h9 => h9) rfl (by decide +kernel) rfl rfl (xb_d D_M_element 25 rfl) (fun H locs hR hS => ?_)
  obtain ⟨h2, eh2⟩ : ∃ x : xb_H, x = xb_I h y1 0 y0 := ⟨_, rfl⟩
  rw [← eh2] at hR
  have hw := hw h2 eh2
  have hE : xb_ext h0 h2 := by rw [eh2]; exact hE
  refine lv_aload_n hx hb (xb_d D_M_element 26 rfl) rfl (lv_at hl 0 rfl) ?_
  obtain ⟨hk3, hw⟩ := hw
  refine xb_getI (C := R_M) (T := F_M) (N := 97) hx hb 8 0 hts fin_M hown hR hk3 (by decide) rfl (by decide) rfl (hts _ m_afabd6a0) (fun _ h9 => h9) (xb_d D_M_element 27 rfl) ?_
  refine lv_if_le (tgt := 55) hx hb (xb_d D_M_element 28 rfl) rfl (fun hc4 => ?_) (fun hc4 => ?_)
  · have hw := hw.1 hc4
    refine lv_aload_n hx hb (xb_d D_M_element 31 rfl) rfl (lv_at hl 0 rfl) ?_
    refine xb_getP (C := R_M) (T := F_M) (N := 97) hx hb 8 51 hts fin_M hown hR hk3 (by decide) rfl (by decide) rfl (hts _ m_c18d3c89) (fun _ h9 => h9) (xb_d D_M_element 32 rfl) ?_
    obtain ⟨b5, eb5, hw⟩ := hw
    refine xb_some eb5 ?_
    refine lv_aload_n hx hb (xb_d D_M_element 33 rfl) rfl (lv_at hl 0 rfl) ?_
    refine xb_getP (C := R_M) (T := F_M) (N := 97) hx hb 8 48 hts fin_M hown hR hk3 (by decide) rfl (by decide) rfl (hts _ m_f28a3cfc) (fun _ h9 => h9) (xb_d D_M_element 34 rfl) ?_
    obtain ⟨b6, eb6, hw⟩ := hw
    refine xb_some eb6 ?_
    refine lv_iload_n hx hb (xb_d D_M_element 35 rfl) rfl (lv_at hl 2 rfl) ?_
    obtain ⟨hk8, hw⟩ := hw
    obtain ⟨hi7, hw⟩ := hw
    refine xb_iald hx hb hR hk8 hi7 (xb_d D_M_element 36 rfl) ?_
    refine lv_iload_n hx hb (xb_d D_M_element 37 rfl) rfl (lv_at hl 1 rfl) ?_
    refine lv_iadd hx hb (xb_d D_M_element 38 rfl) ?_
    obtain ⟨hk10, hw⟩ := hw
    obtain ⟨hi9, hw⟩ := hw
    refine xb_iald hx hb hR hk10 hi9 (xb_d D_M_element 39 rfl) ?_
    refine lv_iconst (v := 1) hx hb (xb_d D_M_element 40 rfl) (by decide) ?_
    refine lv_isub hx hb (xb_d D_M_element 41 rfl) ?_
    obtain ⟨v11, ev11⟩ : ∃ x : Int32, x = ((xb_i h2 b5 (Int32.toNatClampNeg ((xb_i h2 b6 (Int32.toNatClampNeg x3)) + x2))) - 1) := ⟨_, rfl⟩
    have hw := hw v11 ev11
    refine xt_numi (y := v11) ev11.symm ?_
    refine lv_istore hx hb (xb_d D_M_element 42 rfl) hl (by decide) rfl (fun ls hl => ?_)
    have hl : lv_has ls 5 [(4, .int v11), (0, .ref x0), (2, .int x2), (3, .int x3)] := hl
    refine lv_iload hx hb (xb_d D_M_element 43 rfl) (lv_at hl 0 rfl) ?_
    refine lv_if_ge (tgt := 79) hx hb (xb_d D_M_element 44 rfl) rfl (fun hc12 => ?_) (fun hc12 => ?_)
    · have hw := hw.1 hc12
      refine lv_iload hx hb (xb_d D_M_element 47 rfl) (lv_at hl 0 rfl) ?_
      refine lv_ldcw (v := 100000) hx hb hown (hts _ m_0517c3da) (xb_d D_M_element 48 rfl) ?_
      refine lv_icmp_lt (tgt := 98) hx hb (xb_d D_M_element 49 rfl) rfl (fun hc13 => ?_) (fun hc13 => ?_)
      · have hw := hw.1 hc13
        refine lv_ldc (v := 65536) hx hb hown (hts _ m_36de59d5) (xb_d D_M_element 56 rfl) ?_
        refine lv_aload_n hx hb (xb_d D_M_element 57 rfl) rfl (lv_at hl 1 rfl) ?_
        refine xb_getP (C := R_M) (T := F_M) (N := 97) hx hb 8 44 hts fin_M hown hR hk3 (by decide) rfl (by decide) rfl (hts _ m_ad0cc5a3) (fun _ h9 => h9) (xb_d D_M_element 58 rfl) ?_
        obtain ⟨b14, eb14, hw⟩ := hw
        refine xb_some eb14 ?_
        refine lv_iload hx hb (xb_d D_M_element 59 rfl) (lv_at hl 0 rfl) ?_
        obtain ⟨hk16, hw⟩ := hw
        obtain ⟨hi15, hw⟩ := hw
        refine xb_iald hx hb hR hk16 hi15 (xb_d D_M_element 60 rfl) ?_
        refine lv_imul hx hb (xb_d D_M_element 61 rfl) ?_
        refine lv_aload_n hx hb (xb_d D_M_element 62 rfl) rfl (lv_at hl 1 rfl) ?_
        refine xb_getP (C := R_M) (T := F_M) (N := 97) hx hb 8 10 hts fin_M hown hR hk3 (by decide) rfl (by decide) rfl (hts _ m_01d0d957) (fun _ h9 => h9) (xb_d D_M_element 63 rfl) ?_
        obtain ⟨b17, eb17, hw⟩ := hw
        refine xb_some eb17 ?_
        refine lv_iconst (v := 4) hx hb (xb_d D_M_element 64 rfl) (by decide) ?_
        refine lv_aload_n hx hb (xb_d D_M_element 65 rfl) rfl (lv_at hl 1 rfl) ?_
        refine xb_getP (C := R_M) (T := F_M) (N := 97) hx hb 8 31 hts fin_M hown hR hk3 (by decide) rfl (by decide) rfl (hts _ m_691d5f47) (fun _ h9 => h9) (xb_d D_M_element 66 rfl) ?_
        obtain ⟨b18, eb18, hw⟩ := hw
        refine xb_some eb18 ?_
        refine lv_aload_n hx hb (xb_d D_M_element 67 rfl) rfl (lv_at hl 1 rfl) ?_
        refine xb_getP (C := R_M) (T := F_M) (N := 97) hx hb 8 44 hts fin_M hown hR hk3 (by decide) rfl (by decide) rfl (hts _ m_ad0cc5a3) (fun _ h9 => h9) (xb_d D_M_element 68 rfl) ?_
        obtain ⟨b19, eb19, hw⟩ := hw
        refine xb_some eb19 ?_
        refine lv_iload hx hb (xb_d D_M_element 69 rfl) (lv_at hl 0 rfl) ?_
        obtain ⟨hk21, hw⟩ := hw
        obtain ⟨hi20, hw⟩ := hw
        refine xb_iald hx hb hR hk21 hi20 (xb_d D_M_element 70 rfl) ?_
        obtain ⟨hk23, hw⟩ := hw
        obtain ⟨hi22, hw⟩ := hw
        refine xb_iald hx hb hR hk23 hi22 (xb_d D_M_element 71 rfl) ?_
        refine lv_imul hx hb (xb_d D_M_element 72 rfl) ?_
        obtain ⟨hk25, hw⟩ := hw
        obtain ⟨hi24, hw⟩ := hw
        refine xb_iald hx hb hR hk25 hi24 (xb_d D_M_element 73 rfl) ?_
        refine lv_iadd hx hb (xb_d D_M_element 74 rfl) ?_
        refine lv_aload_n hx hb (xb_d D_M_element 75 rfl) rfl (lv_at hl 1 rfl) ?_
        refine xb_getP (C := R_M) (T := F_M) (N := 97) hx hb 8 45 hts fin_M hown hR hk3 (by decide) rfl (by decide) rfl (hts _ m_4c98e665) (fun _ h9 => h9) (xb_d D_M_element 76 rfl) ?_
        obtain ⟨b26, eb26, hw⟩ := hw
        refine xb_some eb26 ?_
        refine lv_iload hx hb (xb_d D_M_element 77 rfl) (lv_at hl 0 rfl) ?_
        obtain ⟨hk28, hw⟩ := hw
        obtain ⟨hi27, hw⟩ := hw
        refine xb_iald hx hb hR hk28 hi27 (xb_d D_M_element 78 rfl) ?_
        refine lv_iadd hx hb (xb_d D_M_element 79 rfl) ?_
        exact xb_iret hx hb hr hlocks (show k ≤ MC by omega) (show n ≤ MS by omega) hE hR hS (xb_d D_M_element 80 rfl) hw
      · have hw := hw.2 hc13
        refine lv_ldcw (v := 2147418112) hx hb hown (hts _ m_4c124df6) (xb_d D_M_element 50 rfl) ?_
        refine lv_iload hx hb (xb_d D_M_element 51 rfl) (lv_at hl 0 rfl) ?_
        refine lv_iadd hx hb (xb_d D_M_element 52 rfl) ?_
        refine lv_ldcw (v := 100000) hx hb hown (hts _ m_0517c3da) (xb_d D_M_element 53 rfl) ?_
        refine lv_isub hx hb (xb_d D_M_element 54 rfl) ?_
        exact xb_iret hx hb hr hlocks (show k ≤ MC by omega) (show n ≤ MS by omega) hE hR hS (xb_d D_M_element 55 rfl) hw
    · have hw := hw.2 hc12
      refine lv_iconst (v := (-1)) hx hb (xb_d D_M_element 45 rfl) (by decide) ?_
      exact xb_iret hx hb hr hlocks (show k ≤ MC by omega) (show n ≤ MS by omega) hE hR hS (xb_d D_M_element 46 rfl) hw
  · have hw := hw.2 hc4
    refine lv_iconst (v := 0) hx hb (xb_d D_M_element 29 rfl) (by decide) ?_
    exact xb_iret hx hb hr hlocks (show k ≤ MC by omega) (show n ≤ MS by omega) hE hR hS (xb_d D_M_element 30 rfl) hw

set_option maxHeartbeats 4000000 in
set_option maxRecDepth 100000 in
theorem am_M_element_L42 (l : Launch) (hfl : l.flags = pinnedFlags ++ [noTraceFlag]) (D : va_G) (A : Nat → Prop) (σ MC MS : Nat) (h0 : xb_H) (Qr : Int32 → xb_H → Prop) (x0 : Nat) (x2 : Int32) (x3 : Int32) (y0 : Nat) (h : xb_H) (hw : w_M_element_L42 Qr x0 x2 x3 y0 h) : xb_am l D A σ 10 MC MS h0 (fun v h => ∃ r, v = some (.int r) ∧ Qr r h) (fun _ _ => False) y_M_element.cls y_M_element.name b_M_element 5 ([] : List ExceptionTableEntry) (some .int) 42 [(0, .ref x0), (2, .int x2), (3, .int x3)] [.ref y0] h 0 0 := by
  unfold w_M_element_L42 at hw
  intro p e s m args below meth c hC H locs ls k n hE hl hR hS hk hn
  obtain ⟨hx, hb, hown, hlocks, htab, hml, hr, hB, hA, hnm⟩ := id hC
  have hts := hB.1.1.at args
  refine lv_iconst (v := 1) hx hb (xb_d D_M_element 24 rfl) (by decide) ?_
  exact am_M_element_L43 l hfl D A σ MC MS h0 Qr x0 x2 x3 1 y0 h hw p e s m args below meth c hC H locs ls k n hE (lv_sub hl [0, 1, 2] rfl) hR hS (by omega) (by omega)

set_option maxHeartbeats 4000000 in
set_option maxRecDepth 100000 in
theorem am_M_element_L18 (l : Launch) (hfl : l.flags = pinnedFlags ++ [noTraceFlag]) (D : va_G) (A : Nat → Prop) (σ MC MS : Nat) (h0 : xb_H) (Qr : Int32 → xb_H → Prop) (x0 : Nat) (x2 : Int32) (y0 : Int32) (h : xb_H) (hw : w_M_element_L18 Qr x0 x2 y0 h) : xb_am l D A σ 10 MC MS h0 (fun v h => ∃ r, v = some (.int r) ∧ Qr r h) (fun _ _ => False) y_M_element.cls y_M_element.name b_M_element 5 ([] : List ExceptionTableEntry) (some .int) 18 [(0, .ref x0), (2, .int x2)] [.int y0] h 0 0 := by
  unfold w_M_element_L18 at hw
  intro p e s m args below meth c hC H locs ls k n hE hl hR hS hk hn
  obtain ⟨hx, hb, hown, hlocks, htab, hml, hr, hB, hA, hnm⟩ := id hC
  have hts := hB.1.1.at args
  refine lv_istore_n hx hb (xb_d D_M_element 10 rfl) rfl hl (by decide) rfl (fun ls hl => ?_)
  have hl : lv_has ls 5 [(3, .int y0), (0, .ref x0), (2, .int x2)] := hl
  refine lv_aload_n hx hb (xb_d D_M_element 11 rfl) rfl (lv_at hl 1 rfl) ?_
  refine lv_iload_n hx hb (xb_d D_M_element 12 rfl) rfl (lv_at hl 0 rfl) ?_
  refine lv_if_lt (tgt := 42) hx hb (xb_d D_M_element 13 rfl) rfl (fun hc1 => ?_) (fun hc1 => ?_)
  · have hw := hw.1 hc1
    exact am_M_element_L42 l hfl D A σ MC MS h0 Qr x0 x2 y0 x0 h hw p e s m args below meth c hC H locs ls k n hE (lv_sub hl [1, 2, 0] rfl) hR hS (by omega) (by omega)
  · have hw := hw.2 hc1
    refine lv_iload_n hx hb (xb_d D_M_element 14 rfl) rfl (lv_at hl 2 rfl) ?_
    refine lv_if_lt (tgt := 42) hx hb (xb_d D_M_element 15 rfl) rfl (fun hc2 => ?_) (fun hc2 => ?_)
    · have hw := hw.1 hc2
      exact am_M_element_L42 l hfl D A σ MC MS h0 Qr x0 x2 y0 x0 h hw p e s m args below meth c hC H locs ls k n hE (lv_sub hl [1, 2, 0] rfl) hR hS (by omega) (by omega)
    · have hw := hw.2 hc2
      refine lv_iload_n hx hb (xb_d D_M_element 16 rfl) rfl (lv_at hl 2 rfl) ?_
      refine lv_aload_n hx hb (xb_d D_M_element 17 rfl) rfl (lv_at hl 1 rfl) ?_
      obtain ⟨hk3, hw⟩ := hw
      refine xb_getP (C := R_M) (T := F_M) (N := 97) hx hb 8 49 hts fin_M hown hR hk3 (by decide) rfl (by decide) rfl (hts _ m_0c329d74) (fun _ h9 => h9) (xb_d D_M_element 18 rfl) ?_
      obtain ⟨b4, eb4, hw⟩ := hw
      refine xb_some eb4 ?_
      refine lv_iload_n hx hb (xb_d D_M_element 19 rfl) rfl (lv_at hl 0 rfl) ?_
      obtain ⟨hk6, hw⟩ := hw
      obtain ⟨hi5, hw⟩ := hw
      refine xb_iald hx hb hR hk6 hi5 (xb_d D_M_element 20 rfl) ?_
      refine lv_icmp_ge (tgt := 42) hx hb (xb_d D_M_element 21 rfl) rfl (fun hc7 => ?_) (fun hc7 => ?_)
      · have hw := hw.1 hc7
        exact am_M_element_L42 l hfl D A σ MC MS h0 Qr x0 x2 y0 x0 h hw p e s m args below meth c hC H locs ls k n hE (lv_sub hl [1, 2, 0] rfl) hR hS (by omega) (by omega)
      · have hw := hw.2 hc7
        refine lv_iconst (v := 0) hx hb (xb_d D_M_element 22 rfl) (by decide) ?_
        refine lv_goto (tgt := 43) hx hb (xb_d D_M_element 23 rfl) rfl ?_
        exact am_M_element_L43 l hfl D A σ MC MS h0 Qr x0 x2 y0 0 x0 h hw p e s m args below meth c hC H locs ls k n hE (lv_sub hl [1, 2, 0] rfl) hR hS (by omega) (by omega)

set_option maxHeartbeats 4000000 in
set_option maxRecDepth 100000 in
theorem ok_M_element (l : Launch) (hfl : l.flags = pinnedFlags ++ [noTraceFlag]) (D : va_G) (A : Nat → Prop) (σ : Nat) (x0 : Nat) (x1 : Int32) (x2 : Int32) (h : xb_H) (Qr : Int32 → xb_H → Prop) (hw : w_M_element x0 x1 x2 h Qr) : xt_Met l y_M_element [.code y_M_element b_M_element 5 (some .int)] (xb_rm 10 0 0) (xb_Pc D A σ h [.ref x0, .int x1, .int x2]) (xb_Qc D A h (fun v h => ∃ r, v = some (.int r) ∧ Qr r h) (fun _ _ => False)) 0 0 A := by
  refine xb_ofAm (cc := b_M_element) (by decide) (Nat.le_of_ble_eq_true rfl) ?_
  unfold w_M_element at hw
  show xb_am l D A σ 10 0 0 h (fun v h => ∃ r, v = some (.int r) ∧ Qr r h) (fun _ _ => False) y_M_element.cls y_M_element.name b_M_element 5 ([] : List ExceptionTableEntry) (some .int) 0 [(0, .ref x0), (1, .int x1), (2, .int x2)] [] h 0 0
  obtain ⟨MC, hMC⟩ : ∃ x, x = 0 := ⟨_, rfl⟩
  obtain ⟨MS, hMS⟩ : ∃ x, x = 0 := ⟨_, rfl⟩
  rw [show xb_am l D A σ 10 0 0 = xb_am l D A σ 10 MC MS by rw [hMC, hMS]]
  obtain ⟨h0, hh0⟩ : ∃ x, x = h := ⟨_, rfl⟩
  rw [show xb_am l D A σ 10 MC MS h = xb_am l D A σ 10 MC MS h0 by rw [hh0]]
  intro p e s m args below meth c hC H locs ls k n hE hl hR hS hk hn
  obtain ⟨hx, hb, hown, hlocks, htab, hml, hr, hB, hA, hnm⟩ := id hC
  have hts := hB.1.1.at args
  refine lv_aload_n hx hb (xb_d D_M_element 0 rfl) rfl (lv_at hl 0 rfl) ?_
  refine lv_iload_n hx hb (xb_d D_M_element 1 rfl) rfl (lv_at hl 1 rfl) ?_
  obtain ⟨hk1, hw⟩ := hw
  refine xb_call (D := D) (A := A) (σ := σ) (h := h) (d := 2) (mc := 0) (ms := 0) (maxL := 2) (rest := []) (av := [.ref x0, .int x1]) (fun T hT X => by obtain ⟨cb, r1, r2, r3⟩ := xb_recv (ci := 8) hR rfl hk1 (by decide); exact xt_invV X hx hown (hts _ m_ec7c79cd) (hts _ m_cefd1701) (hts _ m_d2ca0421) (xt_sigOf (hts _ m_5aaa69eb)) nm_M_isInstance (by rw [hT]; exact r1) r2 r3 (g := F0 m 2 ls [.int x1, .ref x0]) rfl (argsL := [.int x1]) (rest := []) rfl rfl (by rw [hb]; exact (xb_d D_M_element 2 rfl))) (ok_M_isInstance l hfl D A σ x0 x1 h _ hw) (hml.trans hl.1.symm) (by rw [hb]; exact (xb_d D_M_element 2 rfl)) (Nat.le_of_ble_eq_true rfl) (Nat.le_of_ble_eq_true rfl) (Nat.le_of_ble_eq_true rfl) (show k + 0 ≤ MC by omega) (show n + 0 ≤ MS by omega) (xt_w1 hB.1 m_5aaa69eb) (xt_cdOf hB.1 m_5aaa69eb) (hts _ m_d5ed7bed) hB hR hS hA (fun vv h2 H locs hq hEh2 hR hS => ?_) (fun XX ax h2 H locs hq hEh2 hex hR hS => ?_)
  · obtain ⟨r3, rfl, hw⟩ := hq
    have hw := hw hEh2
    have hE := hE.tr hEh2
    refine W.eq (g2 := F0 m 5 ls [.int r3]) rfl ?_
    refine lv_if_eq (tgt := 17) hx hb (xb_d D_M_element 3 rfl) rfl (fun hc4 => ?_) (fun hc4 => ?_)
    · have hw := hw.1 hc4
      refine lv_iconst (v := (-1)) hx hb (xb_d D_M_element 9 rfl) (by decide) ?_
      exact am_M_element_L18 l hfl D A σ MC MS h0 Qr x0 x2 (-1) h2 hw p e s m args below meth c hC H locs ls k n hE (lv_sub hl [0, 2] rfl) hR hS (by omega) (by omega)
    · have hw := hw.2 hc4
      refine lv_aload_n hx hb (xb_d D_M_element 4 rfl) rfl (lv_at hl 0 rfl) ?_
      refine lv_iload_n hx hb (xb_d D_M_element 5 rfl) rfl (lv_at hl 1 rfl) ?_
      refine lv_iconst (v := 1) hx hb (xb_d D_M_element 6 rfl) (by decide) ?_
      have hk1 : xb_k h2 x0 = 9 := hEh2.k hk1
      refine xb_call (D := D) (A := A) (σ := σ) (h := h2) (d := 9) (mc := 0) (ms := 0) (maxL := 3) (rest := []) (av := [.ref x0, .int x1, .int 1]) (fun T hT X => by obtain ⟨cb, r1, r2, r3⟩ := xb_recv (ci := 8) hR rfl hk1 (by decide); exact xt_invV X hx hown (hts _ m_392cec72) (hts _ m_982c4770) (hts _ m_e18e99cc) (xt_sigOf (hts _ m_3f9e55aa)) nm_M_only (by rw [hT]; exact r1) r2 r3 (g := F0 m 11 ls [.int 1, .int x1, .ref x0]) rfl (argsL := [.int x1, .int 1]) (rest := []) rfl rfl (by rw [hb]; exact (xb_d D_M_element 7 rfl))) (ok_M_only l hfl D A σ x0 x1 1 h2 _ hw) (hml.trans hl.1.symm) (by rw [hb]; exact (xb_d D_M_element 7 rfl)) (Nat.le_of_ble_eq_true rfl) (Nat.le_of_ble_eq_true rfl) (Nat.le_of_ble_eq_true rfl) (show k + 0 ≤ MC by omega) (show n + 0 ≤ MS by omega) (xt_w1 hB.1 m_3f9e55aa) (xt_cdOf hB.1 m_3f9e55aa) (hts _ m_d5ed7bed) hB hR hS hA (fun vv h5 H locs hq hEh5 hR hS => ?_) (fun XX ax h5 H locs hq hEh5 hex hR hS => ?_)
      · obtain ⟨r6, rfl, hw⟩ := hq
        have hw := hw hEh5
        have hE := hE.tr hEh5
        refine W.eq (g2 := F0 m 14 ls [.int r6]) rfl ?_
        refine lv_goto (tgt := 18) hx hb (xb_d D_M_element 8 rfl) rfl ?_
        exact am_M_element_L18 l hfl D A σ MC MS h0 Qr x0 x2 r6 h5 hw p e s m args below meth c hC H locs ls k n hE (lv_sub hl [0, 2] rfl) hR hS (by omega) (by omega)
      · exact False.elim hq
  · exact False.elim hq

theorem m_ffdcfbf2 : (.methodLink "StackHostModel" 511 y_M_exportNumber : Cond) ∈ xt_tbl := xt_in (xt_t12 (List.mem_of_getElem? (i := 58) (by decide +kernel))) (by decide +kernel)
theorem m_0d2cbdfc : (.instanceMethod y_M_exportNumber : Cond) ∈ xt_tbl := xt_in (xt_t12 (List.mem_of_getElem? (i := 60) (by decide +kernel))) (by decide +kernel)
theorem m_92840f1d : (.selects "StackHostModel" y_M_exportNumber y_M_exportNumber : Cond) ∈ xt_tbl := xt_in (xt_v13 (q := (⟨"StackHostModel", "exportNumber", "(II)I"⟩, 97)) (List.mem_of_getElem? (i := 7) (by decide +kernel))) (by decide +kernel)
theorem m_9f02a356 : (.code y_M_exportNumber b_M_exportNumber 3 (some .int) : Cond) ∈ xt_tbl := xt_in (xt_t12 (List.mem_of_getElem? (i := 61) (by decide +kernel))) (by decide +kernel)
theorem m_93ee92a3 : (.methodLink "StackHostModel" 601 y_M_resultTypeOf : Cond) ∈ xt_tbl := xt_in (xt_t12 (List.mem_of_getElem? (i := 141) (by decide +kernel))) (by decide +kernel)
theorem m_c47b9967 : (.instanceMethod y_M_resultTypeOf : Cond) ∈ xt_tbl := xt_in (xt_t12 (List.mem_of_getElem? (i := 143) (by decide +kernel))) (by decide +kernel)
theorem m_f83be30f : (.selects "StackHostModel" y_M_resultTypeOf y_M_resultTypeOf : Cond) ∈ xt_tbl := xt_in (xt_v14 (q := (⟨"StackHostModel", "resultTypeOf", "(I)I"⟩, 97)) (List.mem_of_getElem? (i := 8) (by decide +kernel))) (by decide +kernel)
theorem m_ecd46614 : (.code y_M_resultTypeOf b_M_resultTypeOf 3 (some .int) : Cond) ∈ xt_tbl := xt_in (xt_t12 (List.mem_of_getElem? (i := 144) (by decide +kernel))) (by decide +kernel)
theorem m_afb711e8 : (.methodLink "StackHostModel" 595 y_M_isExport : Cond) ∈ xt_tbl := xt_in (xt_t12 (List.mem_of_getElem? (i := 133) (by decide +kernel))) (by decide +kernel)
theorem m_9932241c : (.instanceMethod y_M_isExport : Cond) ∈ xt_tbl := xt_in (xt_t12 (List.mem_of_getElem? (i := 135) (by decide +kernel))) (by decide +kernel)
theorem m_40c3e47a : (.selects "StackHostModel" y_M_isExport y_M_isExport : Cond) ∈ xt_tbl := xt_in (xt_v14 (q := (⟨"StackHostModel", "isExport", "(II)Z"⟩, 97)) (List.mem_of_getElem? (i := 6) (by decide +kernel))) (by decide +kernel)
theorem m_ca26fbb4 : (.code y_M_isExport b_M_isExport 3 (some .boolean) : Cond) ∈ xt_tbl := xt_in (xt_t12 (List.mem_of_getElem? (i := 136) (by decide +kernel))) (by decide +kernel)
theorem nm_M_exportNumber : xt_nm y_M_exportNumber 2 := ⟨by decide +kernel, by decide +kernel⟩
theorem nm_M_resultTypeOf : xt_nm y_M_resultTypeOf 1 := ⟨by decide +kernel, by decide +kernel⟩
theorem nm_M_isExport : xt_nm y_M_isExport 2 := ⟨by decide +kernel, by decide +kernel⟩
set_option maxRecDepth 100000 in
def T_M_exported : List (Nat × Instr × Nat) := [(0, .aload_n 0, 1), (1, .aload_n 0, 1), (2, .iload_n 1, 1), (3, .iload_n 2, 1), (4, .invokevirtual 595, 3), (7, .ifCond .eq 16, 3), (10, .iload_n 3, 1), (11, .ifCond .lt 12, 3), (14, .iload_n 3, 1), (15, .iconst 4, 1), (16, .if_icmp .ge 7, 3), (19, .iconst 0, 1), (20, .goto 4, 3), (23, .iconst 1, 1), (24, .putfield 189, 3), (27, .aload_n 0, 1), (28, .getfield 189, 3), (31, .ifCond .le 5, 3), (34, .iconst 0, 1), (35, .ireturn, 1), (36, .aload_n 0, 1), (37, .getfield 62, 3), (40, .iload_n 1, 1), (41, .iaload, 1), (42, .istore 4, 2), (44, .aload_n 0, 1), (45, .iload 4, 2), (47, .iload_n 2, 1), (48, .invokevirtual 486, 3), (51, .istore 5, 2), (53, .aload_n 0, 1), (54, .iload 4, 2), (56, .iload_n 2, 1), (57, .invokevirtual 511, 3), (60, .istore 6, 2), (62, .iload_n 3, 1), (63, .iconst 2, 1), (64, .if_icmp .ge 15, 3), (67, .iload_n 3, 1), (68, .ifCond .ne 8, 3), (71, .iload 5, 2), (73, .goto 5, 3), (76, .iload 6, 2), (78, .ireturn, 1), (79, .iload 5, 2), (81, .ifCond .eq 5, 3), (84, .iconst 0, 1), (85, .ireturn, 1), (86, .aload_n 0, 1), (87, .iload_n 1, 1), (88, .iconst 0, 1), (89, .iload 6, 2), (91, .invokevirtual 479, 3), (94, .istore 7, 2), (96, .iload_n 3, 1), (97, .iconst 2, 1), (98, .if_icmp .ne 12, 3), (101, .aload_n 0, 1), (102, .iload 7, 2), (104, .invokevirtual 598, 3), (107, .goto 19, 3), (110, .aload_n 0, 1), (111, .iload 7, 2), (113, .invokevirtual 601, 3), (116, .bipush 64, 2), (118, .if_icmp .ne 7, 3), (121, .iconst 0, 1), (122, .goto 4, 3), (125, .iconst 1, 1), (126, .ireturn, 1)]
theorem D_M_exported : ∀ q ∈ T_M_exported, decode b_M_exported q.1 = .ok (q.2.1, q.2.2) := by decide +kernel
def w_M_exported_L126 (Qr : Int32 → xb_H → Prop) (y0 : Int32) (h : xb_H) : Prop :=
    Qr y0 h

def w_M_exported_L78 (Qr : Int32 → xb_H → Prop) (y0 : Int32) (h : xb_H) : Prop :=
    Qr y0 h

def w_M_exported_L24 (Qr : Int32 → xb_H → Prop) (x0 : Nat) (x1 : Int32) (x2 : Int32) (x3 : Int32) (y0 : Int32) (y1 : Nat) (h : xb_H) : Prop :=
    xb_k h y1 = 9 ∧ ∀ h2 : xb_H, h2 = xb_I h y1 0 y0 → xb_k h2 x0 = 9 ∧ (((xb_i h2 x0 0) ≤ (0 : Int32) → ∃ b5 : Nat, (xb_r h2 x0 31) = some b5 ∧ xb_k h2 b5 = 102 ∧ vp_in x1 (xb_n h2 b5) ∧ ∀ v8 : Int32, v8 = (xb_i h2 b5 (Int32.toNatClampNeg x1)) → w_M_exportKind x0 v8 x2 h2 (fun (r10 : Int32) (h9 : xb_H) => xb_ext h2 h9 → w_M_exportNumber x0 v8 x2 h9 (fun (r12 : Int32) (h11 : xb_H) => xb_ext h9 h11 → (((2 : Int32) ≤ x3 → ((r10 = (0 : Int32) → w_M_meant x0 x1 0 r12 h11 (fun (r16 : Int32) (h15 : xb_H) => xb_ext h11 h15 → ((¬ x3 = (2 : Int32) → w_M_resultTypeOf x0 r16 h15 (fun (r19 : Int32) (h18 : xb_H) => xb_ext h15 h18 → ((¬ r19 = (64 : Int32) → w_M_exported_L126 Qr 1 h18) ∧ (r19 = (64 : Int32) → w_M_exported_L126 Qr 0 h18)))) ∧ (x3 = (2 : Int32) → w_M_parametersOf x0 r16 h15 (fun (r22 : Int32) (h21 : xb_H) => xb_ext h15 h21 → w_M_exported_L126 Qr r22 h21))))) ∧ (¬ r10 = (0 : Int32) → Qr 0 h11))) ∧ (¬ (2 : Int32) ≤ x3 → ((¬ x3 = (0 : Int32) → w_M_exported_L78 Qr r12 h11) ∧ (x3 = (0 : Int32) → w_M_exported_L78 Qr r10 h11))))))) ∧ (¬ (xb_i h2 x0 0) ≤ (0 : Int32) → Qr 0 h2))

def w_M_exported_L23 (Qr : Int32 → xb_H → Prop) (x0 : Nat) (x1 : Int32) (x2 : Int32) (x3 : Int32) (y0 : Nat) (h : xb_H) : Prop :=
    w_M_exported_L24 Qr x0 x1 x2 x3 1 y0 h

def w_M_exported (x0 : Nat) (x1 : Int32) (x2 : Int32) (x3 : Int32) (h : xb_H) (Qr : Int32 → xb_H → Prop) : Prop :=
    xb_k h x0 = 9 ∧ w_M_isExport x0 x1 x2 h (fun (r3 : Int32) (h2 : xb_H) => xb_ext h h2 → ((r3 = (0 : Int32) → w_M_exported_L23 Qr x0 x1 x2 x3 x0 h2) ∧ (¬ r3 = (0 : Int32) → ((x3 < (0 : Int32) → w_M_exported_L23 Qr x0 x1 x2 x3 x0 h2) ∧ (¬ x3 < (0 : Int32) → (((4 : Int32) ≤ x3 → w_M_exported_L23 Qr x0 x1 x2 x3 x0 h2) ∧ (¬ (4 : Int32) ≤ x3 → w_M_exported_L24 Qr x0 x1 x2 x3 0 x0 h2)))))))

set_option maxHeartbeats 4000000 in
set_option maxRecDepth 100000 in
theorem am_M_exported_L126 (l : Launch) (hfl : l.flags = pinnedFlags ++ [noTraceFlag]) (D : va_G) (A : Nat → Prop) (σ MC MS : Nat) (h0 : xb_H) (Qr : Int32 → xb_H → Prop) (y0 : Int32) (h : xb_H) (hw : w_M_exported_L126 Qr y0 h) : xb_am l D A σ 10 MC MS h0 (fun v h => ∃ r, v = some (.int r) ∧ Qr r h) (fun _ _ => False) y_M_exported.cls y_M_exported.name b_M_exported 8 ([] : List ExceptionTableEntry) (some .int) 126 [] [.int y0] h 0 0 := by
  unfold w_M_exported_L126 at hw
  intro p e s m args below meth c hC H locs ls k n hE hl hR hS hk hn
  obtain ⟨hx, hb, hown, hlocks, htab, hml, hr, hB, hA, hnm⟩ := id hC
  have hts := hB.1.1.at args
  exact xb_iret hx hb hr hlocks (show k ≤ MC by omega) (show n ≤ MS by omega) hE hR hS (xb_d D_M_exported 69 rfl) hw

set_option maxHeartbeats 4000000 in
set_option maxRecDepth 100000 in
theorem am_M_exported_L78 (l : Launch) (hfl : l.flags = pinnedFlags ++ [noTraceFlag]) (D : va_G) (A : Nat → Prop) (σ MC MS : Nat) (h0 : xb_H) (Qr : Int32 → xb_H → Prop) (y0 : Int32) (h : xb_H) (hw : w_M_exported_L78 Qr y0 h) : xb_am l D A σ 10 MC MS h0 (fun v h => ∃ r, v = some (.int r) ∧ Qr r h) (fun _ _ => False) y_M_exported.cls y_M_exported.name b_M_exported 8 ([] : List ExceptionTableEntry) (some .int) 78 [] [.int y0] h 0 0 := by
  unfold w_M_exported_L78 at hw
  intro p e s m args below meth c hC H locs ls k n hE hl hR hS hk hn
  obtain ⟨hx, hb, hown, hlocks, htab, hml, hr, hB, hA, hnm⟩ := id hC
  have hts := hB.1.1.at args
  exact xb_iret hx hb hr hlocks (show k ≤ MC by omega) (show n ≤ MS by omega) hE hR hS (xb_d D_M_exported 43 rfl) hw

set_option maxHeartbeats 4000000 in
set_option maxRecDepth 100000 in
theorem am_M_exported_L24 (l : Launch) (hfl : l.flags = pinnedFlags ++ [noTraceFlag]) (D : va_G) (A : Nat → Prop) (σ MC MS : Nat) (h0 : xb_H) (Qr : Int32 → xb_H → Prop) (x0 : Nat) (x1 : Int32) (x2 : Int32) (x3 : Int32) (y0 : Int32) (y1 : Nat) (h : xb_H) (hw : w_M_exported_L24 Qr x0 x1 x2 x3 y0 y1 h) : xb_am l D A σ 10 MC MS h0 (fun v h => ∃ r, v = some (.int r) ∧ Qr r h) (fun _ _ => False) y_M_exported.cls y_M_exported.name b_M_exported 8 ([] : List ExceptionTableEntry) (some .int) 24 [(0, .ref x0), (1, .int x1), (2, .int x2), (3, .int x3)] [.int y0, .ref y1] h 0 0 := by
  unfold w_M_exported_L24 at hw
  intro p e s m args below meth c hC H locs ls k n hE hl hR hS hk hn
  obtain ⟨hx, hb, hown, hlocks, htab, hml, hr, hB, hA, hnm⟩ := id hC
  have hts := hB.1.1.at args
  obtain ⟨hk1, hw⟩ := hw
  refine xb_putI (C := R_M) (T := F_M) (N := 97) (ty := .int) (x := y0) hx hb 8 0 hts fin_M t_M t_M_ok n_M hown hR hS hk1 (by decide) rfl (by decide) rfl (hts _ m_afabd6a0) (fun _ h9 => h9) rfl (by decide +kernel) rfl rfl (xb_d D_M_exported 14 rfl) (fun H locs hR hS => ?_)
  obtain ⟨h2, eh2⟩ : ∃ x : xb_H, x = xb_I h y1 0 y0 := ⟨_, rfl⟩
  rw [← eh2] at hR
  have hw := hw h2 eh2
  have hE : xb_ext h0 h2 := by rw [eh2]; exact hE
  refine lv_aload_n hx hb (xb_d D_M_exported 15 rfl) rfl (lv_at hl 0 rfl) ?_
  obtain ⟨hk3, hw⟩ := hw
  refine xb_getI (C := R_M) (T := F_M) (N := 97) hx hb 8 0 hts fin_M hown hR hk3 (by decide) rfl (by decide) rfl (hts _ m_afabd6a0) (fun _ h9 => h9) (xb_d D_M_exported 16 rfl) ?_
  refine lv_if_le (tgt := 36) hx hb (xb_d D_M_exported 17 rfl) rfl (fun hc4 => ?_) (fun hc4 => ?_)
  · have hw := hw.1 hc4
    refine lv_aload_n hx hb (xb_d D_M_exported 20 rfl) rfl (lv_at hl 0 rfl) ?_
    refine xb_getP (C := R_M) (T := F_M) (N := 97) hx hb 8 31 hts fin_M hown hR hk3 (by decide) rfl (by decide) rfl (hts _ m_691d5f47) (fun _ h9 => h9) (xb_d D_M_exported 21 rfl) ?_
    obtain ⟨b5, eb5, hw⟩ := hw
    refine xb_some eb5 ?_
    refine lv_iload_n hx hb (xb_d D_M_exported 22 rfl) rfl (lv_at hl 1 rfl) ?_
    obtain ⟨hk7, hw⟩ := hw
    obtain ⟨hi6, hw⟩ := hw
    refine xb_iald hx hb hR hk7 hi6 (xb_d D_M_exported 23 rfl) ?_
    obtain ⟨v8, ev8⟩ : ∃ x : Int32, x = (xb_i h2 b5 (Int32.toNatClampNeg x1)) := ⟨_, rfl⟩
    have hw := hw v8 ev8
    refine xt_numi (y := v8) ev8.symm ?_
    refine lv_istore hx hb (xb_d D_M_exported 24 rfl) hl (by decide) rfl (fun ls hl => ?_)
    have hl : lv_has ls 8 [(4, .int v8), (0, .ref x0), (1, .int x1), (2, .int x2), (3, .int x3)] := hl
    refine lv_aload_n hx hb (xb_d D_M_exported 25 rfl) rfl (lv_at hl 1 rfl) ?_
    refine lv_iload hx hb (xb_d D_M_exported 26 rfl) (lv_at hl 0 rfl) ?_
    refine lv_iload_n hx hb (xb_d D_M_exported 27 rfl) rfl (lv_at hl 3 rfl) ?_
    refine xb_call (D := D) (A := A) (σ := σ) (h := h2) (d := 6) (mc := 0) (ms := 0) (maxL := 3) (rest := []) (av := [.ref x0, .int v8, .int x2]) (fun T hT X => by obtain ⟨cb, r1, r2, r3⟩ := xb_recv (ci := 8) hR rfl hk3 (by decide); exact xt_invV X hx hown (hts _ m_c71d5853) (hts _ m_3fd4c934) (hts _ m_0b430860) (xt_sigOf (hts _ m_c14fc813)) nm_M_exportKind (by rw [hT]; exact r1) r2 r3 (g := F0 m 48 ls [.int x2, .int v8, .ref x0]) rfl (argsL := [.int v8, .int x2]) (rest := []) rfl rfl (by rw [hb]; exact (xb_d D_M_exported 28 rfl))) (ok_M_exportKind l hfl D A σ x0 v8 x2 h2 _ hw) (hml.trans hl.1.symm) (by rw [hb]; exact (xb_d D_M_exported 28 rfl)) (Nat.le_of_ble_eq_true rfl) (Nat.le_of_ble_eq_true rfl) (Nat.le_of_ble_eq_true rfl) (show k + 0 ≤ MC by omega) (show n + 0 ≤ MS by omega) (xt_w1 hB.1 m_c14fc813) (xt_cdOf hB.1 m_c14fc813) (hts _ m_d5ed7bed) hB hR hS hA (fun vv h9 H locs hq hEh9 hR hS => ?_) (fun XX ax h9 H locs hq hEh9 hex hR hS => ?_)
    · obtain ⟨r10, rfl, hw⟩ := hq
      have hw := hw hEh9
      have hE := hE.tr hEh9
      refine W.eq (g2 := F0 m 51 ls [.int r10]) rfl ?_
      refine lv_istore hx hb (xb_d D_M_exported 29 rfl) hl (by decide) rfl (fun ls hl => ?_)
      have hl : lv_has ls 8 [(5, .int r10), (4, .int v8), (0, .ref x0), (1, .int x1), (2, .int x2), (3, .int x3)] := hl
      refine lv_aload_n hx hb (xb_d D_M_exported 30 rfl) rfl (lv_at hl 2 rfl) ?_
      refine lv_iload hx hb (xb_d D_M_exported 31 rfl) (lv_at hl 1 rfl) ?_
      refine lv_iload_n hx hb (xb_d D_M_exported 32 rfl) rfl (lv_at hl 4 rfl) ?_
      have hk3 : xb_k h9 x0 = 9 := hEh9.k hk3
      refine xb_call (D := D) (A := A) (σ := σ) (h := h9) (d := 7) (mc := 0) (ms := 0) (maxL := 3) (rest := []) (av := [.ref x0, .int v8, .int x2]) (fun T hT X => by obtain ⟨cb, r1, r2, r3⟩ := xb_recv (ci := 8) hR rfl hk3 (by decide); exact xt_invV X hx hown (hts _ m_ffdcfbf2) (hts _ m_0d2cbdfc) (hts _ m_92840f1d) (xt_sigOf (hts _ m_9f02a356)) nm_M_exportNumber (by rw [hT]; exact r1) r2 r3 (g := F0 m 57 ls [.int x2, .int v8, .ref x0]) rfl (argsL := [.int v8, .int x2]) (rest := []) rfl rfl (by rw [hb]; exact (xb_d D_M_exported 33 rfl))) (ok_M_exportNumber l hfl D A σ x0 v8 x2 h9 _ hw) (hml.trans hl.1.symm) (by rw [hb]; exact (xb_d D_M_exported 33 rfl)) (Nat.le_of_ble_eq_true rfl) (Nat.le_of_ble_eq_true rfl) (Nat.le_of_ble_eq_true rfl) (show k + 0 ≤ MC by omega) (show n + 0 ≤ MS by omega) (xt_w1 hB.1 m_9f02a356) (xt_cdOf hB.1 m_9f02a356) (hts _ m_d5ed7bed) hB hR hS hA (fun vv h11 H locs hq hEh11 hR hS => ?_) (fun XX ax h11 H locs hq hEh11 hex hR hS => ?_)
      · obtain ⟨r12, rfl, hw⟩ := hq
        have hw := hw hEh11
        have hE := hE.tr hEh11
        refine W.eq (g2 := F0 m 60 ls [.int r12]) rfl ?_
        refine lv_istore hx hb (xb_d D_M_exported 34 rfl) hl (by decide) rfl (fun ls hl => ?_)
        have hl : lv_has ls 8 [(6, .int r12), (5, .int r10), (4, .int v8), (0, .ref x0), (1, .int x1), (2, .int x2), (3, .int x3)] := hl
        refine lv_iload_n hx hb (xb_d D_M_exported 35 rfl) rfl (lv_at hl 6 rfl) ?_
        refine lv_iconst (v := 2) hx hb (xb_d D_M_exported 36 rfl) (by decide) ?_
        refine lv_icmp_ge (tgt := 79) hx hb (xb_d D_M_exported 37 rfl) rfl (fun hc13 => ?_) (fun hc13 => ?_)
        · have hw := hw.1 hc13
          refine lv_iload hx hb (xb_d D_M_exported 44 rfl) (lv_at hl 1 rfl) ?_
          refine lv_if_eq (tgt := 86) hx hb (xb_d D_M_exported 45 rfl) rfl (fun hc14 => ?_) (fun hc14 => ?_)
          · have hw := hw.1 hc14
            refine lv_aload_n hx hb (xb_d D_M_exported 48 rfl) rfl (lv_at hl 3 rfl) ?_
            refine lv_iload_n hx hb (xb_d D_M_exported 49 rfl) rfl (lv_at hl 4 rfl) ?_
            refine lv_iconst (v := 0) hx hb (xb_d D_M_exported 50 rfl) (by decide) ?_
            refine lv_iload hx hb (xb_d D_M_exported 51 rfl) (lv_at hl 0 rfl) ?_
            have hk3 : xb_k h11 x0 = 9 := hEh11.k hk3
            refine xb_call (D := D) (A := A) (σ := σ) (h := h11) (d := 8) (mc := 0) (ms := 0) (maxL := 6) (rest := []) (av := [.ref x0, .int x1, .int 0, .int r12]) (fun T hT X => by obtain ⟨cb, r1, r2, r3⟩ := xb_recv (ci := 8) hR rfl hk3 (by decide); exact xt_invV X hx hown (hts _ m_5ec466f2) (hts _ m_f0f1d102) (hts _ m_cfa25922) (xt_sigOf (hts _ m_59347bba)) nm_M_meant (by rw [hT]; exact r1) r2 r3 (g := F0 m 91 ls [.int r12, .int 0, .int x1, .ref x0]) rfl (argsL := [.int x1, .int 0, .int r12]) (rest := []) rfl rfl (by rw [hb]; exact (xb_d D_M_exported 52 rfl))) (ok_M_meant l hfl D A σ x0 x1 0 r12 h11 _ hw) (hml.trans hl.1.symm) (by rw [hb]; exact (xb_d D_M_exported 52 rfl)) (Nat.le_of_ble_eq_true rfl) (Nat.le_of_ble_eq_true rfl) (Nat.le_of_ble_eq_true rfl) (show k + 0 ≤ MC by omega) (show n + 0 ≤ MS by omega) (xt_w1 hB.1 m_59347bba) (xt_cdOf hB.1 m_59347bba) (hts _ m_d5ed7bed) hB hR hS hA (fun vv h15 H locs hq hEh15 hR hS => ?_) (fun XX ax h15 H locs hq hEh15 hex hR hS => ?_)
            · obtain ⟨r16, rfl, hw⟩ := hq
              have hw := hw hEh15
              have hE := hE.tr hEh15
              refine W.eq (g2 := F0 m 94 ls [.int r16]) rfl ?_
              refine lv_istore hx hb (xb_d D_M_exported 53 rfl) hl (by decide) rfl (fun ls hl => ?_)
              have hl : lv_has ls 8 [(7, .int r16), (6, .int r12), (5, .int r10), (4, .int v8), (0, .ref x0), (1, .int x1), (2, .int x2), (3, .int x3)] := hl
              refine lv_iload_n hx hb (xb_d D_M_exported 54 rfl) rfl (lv_at hl 7 rfl) ?_
              refine lv_iconst (v := 2) hx hb (xb_d D_M_exported 55 rfl) (by decide) ?_
              refine lv_icmp_ne (tgt := 110) hx hb (xb_d D_M_exported 56 rfl) rfl (fun hc17 => ?_) (fun hc17 => ?_)
              · have hw := hw.1 hc17
                refine lv_aload_n hx hb (xb_d D_M_exported 61 rfl) rfl (lv_at hl 4 rfl) ?_
                refine lv_iload hx hb (xb_d D_M_exported 62 rfl) (lv_at hl 0 rfl) ?_
                have hk3 : xb_k h15 x0 = 9 := hEh15.k hk3
                refine xb_call (D := D) (A := A) (σ := σ) (h := h15) (d := 9) (mc := 0) (ms := 0) (maxL := 3) (rest := []) (av := [.ref x0, .int r16]) (fun T hT X => by obtain ⟨cb, r1, r2, r3⟩ := xb_recv (ci := 8) hR rfl hk3 (by decide); exact xt_invV X hx hown (hts _ m_93ee92a3) (hts _ m_c47b9967) (hts _ m_f83be30f) (xt_sigOf (hts _ m_ecd46614)) nm_M_resultTypeOf (by rw [hT]; exact r1) r2 r3 (g := F0 m 113 ls [.int r16, .ref x0]) rfl (argsL := [.int r16]) (rest := []) rfl rfl (by rw [hb]; exact (xb_d D_M_exported 63 rfl))) (ok_M_resultTypeOf l hfl D A σ x0 r16 h15 _ hw) (hml.trans hl.1.symm) (by rw [hb]; exact (xb_d D_M_exported 63 rfl)) (Nat.le_of_ble_eq_true rfl) (Nat.le_of_ble_eq_true rfl) (Nat.le_of_ble_eq_true rfl) (show k + 0 ≤ MC by omega) (show n + 0 ≤ MS by omega) (xt_w1 hB.1 m_ecd46614) (xt_cdOf hB.1 m_ecd46614) (hts _ m_d5ed7bed) hB hR hS hA (fun vv h18 H locs hq hEh18 hR hS => ?_) (fun XX ax h18 H locs hq hEh18 hex hR hS => ?_)
                · obtain ⟨r19, rfl, hw⟩ := hq
                  have hw := hw hEh18
                  have hE := hE.tr hEh18
                  refine W.eq (g2 := F0 m 116 ls [.int r19]) rfl ?_
                  refine lv_bipush (v := 64) hx hb (xb_d D_M_exported 64 rfl) (by decide) ?_
                  refine lv_icmp_ne (tgt := 125) hx hb (xb_d D_M_exported 65 rfl) rfl (fun hc20 => ?_) (fun hc20 => ?_)
                  · have hw := hw.1 hc20
                    refine lv_iconst (v := 1) hx hb (xb_d D_M_exported 68 rfl) (by decide) ?_
                    exact am_M_exported_L126 l hfl D A σ MC MS h0 Qr 1 h18 hw p e s m args below meth c hC H locs ls k n hE (lv_sub hl [] rfl) hR hS (by omega) (by omega)
                  · have hw := hw.2 hc20
                    refine lv_iconst (v := 0) hx hb (xb_d D_M_exported 66 rfl) (by decide) ?_
                    refine lv_goto (tgt := 126) hx hb (xb_d D_M_exported 67 rfl) rfl ?_
                    exact am_M_exported_L126 l hfl D A σ MC MS h0 Qr 0 h18 hw p e s m args below meth c hC H locs ls k n hE (lv_sub hl [] rfl) hR hS (by omega) (by omega)
                · exact False.elim hq
              · have hw := hw.2 hc17
                refine lv_aload_n hx hb (xb_d D_M_exported 57 rfl) rfl (lv_at hl 4 rfl) ?_
                refine lv_iload hx hb (xb_d D_M_exported 58 rfl) (lv_at hl 0 rfl) ?_
                have hk3 : xb_k h15 x0 = 9 := hEh15.k hk3
                refine xb_call (D := D) (A := A) (σ := σ) (h := h15) (d := 9) (mc := 0) (ms := 0) (maxL := 3) (rest := []) (av := [.ref x0, .int r16]) (fun T hT X => by obtain ⟨cb, r1, r2, r3⟩ := xb_recv (ci := 8) hR rfl hk3 (by decide); exact xt_invV X hx hown (hts _ m_e2ba22cc) (hts _ m_0a57baa5) (hts _ m_6f48d886) (xt_sigOf (hts _ m_14db4a29)) nm_M_parametersOf (by rw [hT]; exact r1) r2 r3 (g := F0 m 104 ls [.int r16, .ref x0]) rfl (argsL := [.int r16]) (rest := []) rfl rfl (by rw [hb]; exact (xb_d D_M_exported 59 rfl))) (ok_M_parametersOf l hfl D A σ x0 r16 h15 _ hw) (hml.trans hl.1.symm) (by rw [hb]; exact (xb_d D_M_exported 59 rfl)) (Nat.le_of_ble_eq_true rfl) (Nat.le_of_ble_eq_true rfl) (Nat.le_of_ble_eq_true rfl) (show k + 0 ≤ MC by omega) (show n + 0 ≤ MS by omega) (xt_w1 hB.1 m_14db4a29) (xt_cdOf hB.1 m_14db4a29) (hts _ m_d5ed7bed) hB hR hS hA (fun vv h21 H locs hq hEh21 hR hS => ?_) (fun XX ax h21 H locs hq hEh21 hex hR hS => ?_)
                · obtain ⟨r22, rfl, hw⟩ := hq
                  have hw := hw hEh21
                  have hE := hE.tr hEh21
                  refine W.eq (g2 := F0 m 107 ls [.int r22]) rfl ?_
                  refine lv_goto (tgt := 126) hx hb (xb_d D_M_exported 60 rfl) rfl ?_
                  exact am_M_exported_L126 l hfl D A σ MC MS h0 Qr r22 h21 hw p e s m args below meth c hC H locs ls k n hE (lv_sub hl [] rfl) hR hS (by omega) (by omega)
                · exact False.elim hq
            · exact False.elim hq
          · have hw := hw.2 hc14
            refine lv_iconst (v := 0) hx hb (xb_d D_M_exported 46 rfl) (by decide) ?_
            exact xb_iret hx hb hr hlocks (show k ≤ MC by omega) (show n ≤ MS by omega) hE hR hS (xb_d D_M_exported 47 rfl) hw
        · have hw := hw.2 hc13
          refine lv_iload_n hx hb (xb_d D_M_exported 38 rfl) rfl (lv_at hl 6 rfl) ?_
          refine lv_if_ne (tgt := 76) hx hb (xb_d D_M_exported 39 rfl) rfl (fun hc23 => ?_) (fun hc23 => ?_)
          · have hw := hw.1 hc23
            refine lv_iload hx hb (xb_d D_M_exported 42 rfl) (lv_at hl 0 rfl) ?_
            exact am_M_exported_L78 l hfl D A σ MC MS h0 Qr r12 h11 hw p e s m args below meth c hC H locs ls k n hE (lv_sub hl [] rfl) hR hS (by omega) (by omega)
          · have hw := hw.2 hc23
            refine lv_iload hx hb (xb_d D_M_exported 40 rfl) (lv_at hl 1 rfl) ?_
            refine lv_goto (tgt := 78) hx hb (xb_d D_M_exported 41 rfl) rfl ?_
            exact am_M_exported_L78 l hfl D A σ MC MS h0 Qr r10 h11 hw p e s m args below meth c hC H locs ls k n hE (lv_sub hl [] rfl) hR hS (by omega) (by omega)
      · exact False.elim hq
    · exact False.elim hq
  · have hw := hw.2 hc4
    refine lv_iconst (v := 0) hx hb (xb_d D_M_exported 18 rfl) (by decide) ?_
    exact xb_iret hx hb hr hlocks (show k ≤ MC by omega) (show n ≤ MS by omega) hE hR hS (xb_d D_M_exported 19 rfl) hw

set_option maxHeartbeats 4000000 in
set_option maxRecDepth 100000 in
theorem am_M_exported_L23 (l : Launch) (hfl : l.flags = pinnedFlags ++ [noTraceFlag]) (D : va_G) (A : Nat → Prop) (σ MC MS : Nat) (h0 : xb_H) (Qr : Int32 → xb_H → Prop) (x0 : Nat) (x1 : Int32) (x2 : Int32) (x3 : Int32) (y0 : Nat) (h : xb_H) (hw : w_M_exported_L23 Qr x0 x1 x2 x3 y0 h) : xb_am l D A σ 10 MC MS h0 (fun v h => ∃ r, v = some (.int r) ∧ Qr r h) (fun _ _ => False) y_M_exported.cls y_M_exported.name b_M_exported 8 ([] : List ExceptionTableEntry) (some .int) 23 [(0, .ref x0), (1, .int x1), (2, .int x2), (3, .int x3)] [.ref y0] h 0 0 := by
  unfold w_M_exported_L23 at hw
  intro p e s m args below meth c hC H locs ls k n hE hl hR hS hk hn
  obtain ⟨hx, hb, hown, hlocks, htab, hml, hr, hB, hA, hnm⟩ := id hC
  have hts := hB.1.1.at args
  refine lv_iconst (v := 1) hx hb (xb_d D_M_exported 13 rfl) (by decide) ?_
  exact am_M_exported_L24 l hfl D A σ MC MS h0 Qr x0 x1 x2 x3 1 y0 h hw p e s m args below meth c hC H locs ls k n hE (lv_sub hl [0, 1, 2, 3] rfl) hR hS (by omega) (by omega)

set_option maxHeartbeats 4000000 in
set_option maxRecDepth 100000 in
theorem ok_M_exported (l : Launch) (hfl : l.flags = pinnedFlags ++ [noTraceFlag]) (D : va_G) (A : Nat → Prop) (σ : Nat) (x0 : Nat) (x1 : Int32) (x2 : Int32) (x3 : Int32) (h : xb_H) (Qr : Int32 → xb_H → Prop) (hw : w_M_exported x0 x1 x2 x3 h Qr) : xt_Met l y_M_exported [.code y_M_exported b_M_exported 8 (some .int)] (xb_rm 10 0 0) (xb_Pc D A σ h [.ref x0, .int x1, .int x2, .int x3]) (xb_Qc D A h (fun v h => ∃ r, v = some (.int r) ∧ Qr r h) (fun _ _ => False)) 0 0 A := by
  refine xb_ofAm (cc := b_M_exported) (by decide) (Nat.le_of_ble_eq_true rfl) ?_
  unfold w_M_exported at hw
  show xb_am l D A σ 10 0 0 h (fun v h => ∃ r, v = some (.int r) ∧ Qr r h) (fun _ _ => False) y_M_exported.cls y_M_exported.name b_M_exported 8 ([] : List ExceptionTableEntry) (some .int) 0 [(0, .ref x0), (1, .int x1), (2, .int x2), (3, .int x3)] [] h 0 0
  obtain ⟨MC, hMC⟩ : ∃ x, x = 0 := ⟨_, rfl⟩
  obtain ⟨MS, hMS⟩ : ∃ x, x = 0 := ⟨_, rfl⟩
  rw [show xb_am l D A σ 10 0 0 = xb_am l D A σ 10 MC MS by rw [hMC, hMS]]
  obtain ⟨h0, hh0⟩ : ∃ x, x = h := ⟨_, rfl⟩
  rw [show xb_am l D A σ 10 MC MS h = xb_am l D A σ 10 MC MS h0 by rw [hh0]]
  intro p e s m args below meth c hC H locs ls k n hE hl hR hS hk hn
  obtain ⟨hx, hb, hown, hlocks, htab, hml, hr, hB, hA, hnm⟩ := id hC
  have hts := hB.1.1.at args
  refine lv_aload_n hx hb (xb_d D_M_exported 0 rfl) rfl (lv_at hl 0 rfl) ?_
  refine lv_aload_n hx hb (xb_d D_M_exported 1 rfl) rfl (lv_at hl 0 rfl) ?_
  refine lv_iload_n hx hb (xb_d D_M_exported 2 rfl) rfl (lv_at hl 1 rfl) ?_
  refine lv_iload_n hx hb (xb_d D_M_exported 3 rfl) rfl (lv_at hl 2 rfl) ?_
  obtain ⟨hk1, hw⟩ := hw
  refine xb_call (D := D) (A := A) (σ := σ) (h := h) (d := 3) (mc := 0) (ms := 0) (maxL := 3) (rest := [.ref x0]) (av := [.ref x0, .int x1, .int x2]) (fun T hT X => by obtain ⟨cb, r1, r2, r3⟩ := xb_recv (ci := 8) hR rfl hk1 (by decide); exact xt_invV X hx hown (hts _ m_afb711e8) (hts _ m_9932241c) (hts _ m_40c3e47a) (xt_sigOf (hts _ m_ca26fbb4)) nm_M_isExport (by rw [hT]; exact r1) r2 r3 (g := F0 m 4 ls [.int x2, .int x1, .ref x0, .ref x0]) rfl (argsL := [.int x1, .int x2]) (rest := [.ref x0]) rfl rfl (by rw [hb]; exact (xb_d D_M_exported 4 rfl))) (ok_M_isExport l hfl D A σ x0 x1 x2 h _ hw) (hml.trans hl.1.symm) (by rw [hb]; exact (xb_d D_M_exported 4 rfl)) (Nat.le_of_ble_eq_true rfl) (Nat.le_of_ble_eq_true rfl) (Nat.le_of_ble_eq_true rfl) (show k + 0 ≤ MC by omega) (show n + 0 ≤ MS by omega) (xt_w1 hB.1 m_ca26fbb4) (xt_cdOf hB.1 m_ca26fbb4) (hts _ m_d5ed7bed) hB hR hS hA (fun vv h2 H locs hq hEh2 hR hS => ?_) (fun XX ax h2 H locs hq hEh2 hex hR hS => ?_)
  · obtain ⟨r3, rfl, hw⟩ := hq
    have hw := hw hEh2
    have hE := hE.tr hEh2
    refine W.eq (g2 := F0 m 7 ls [.int r3, .ref x0]) rfl ?_
    refine lv_if_eq (tgt := 23) hx hb (xb_d D_M_exported 5 rfl) rfl (fun hc4 => ?_) (fun hc4 => ?_)
    · have hw := hw.1 hc4
      exact am_M_exported_L23 l hfl D A σ MC MS h0 Qr x0 x1 x2 x3 x0 h2 hw p e s m args below meth c hC H locs ls k n hE (lv_sub hl [0, 1, 2, 3] rfl) hR hS (by omega) (by omega)
    · have hw := hw.2 hc4
      refine lv_iload_n hx hb (xb_d D_M_exported 6 rfl) rfl (lv_at hl 3 rfl) ?_
      refine lv_if_lt (tgt := 23) hx hb (xb_d D_M_exported 7 rfl) rfl (fun hc5 => ?_) (fun hc5 => ?_)
      · have hw := hw.1 hc5
        exact am_M_exported_L23 l hfl D A σ MC MS h0 Qr x0 x1 x2 x3 x0 h2 hw p e s m args below meth c hC H locs ls k n hE (lv_sub hl [0, 1, 2, 3] rfl) hR hS (by omega) (by omega)
      · have hw := hw.2 hc5
        refine lv_iload_n hx hb (xb_d D_M_exported 8 rfl) rfl (lv_at hl 3 rfl) ?_
        refine lv_iconst (v := 4) hx hb (xb_d D_M_exported 9 rfl) (by decide) ?_
        refine lv_icmp_ge (tgt := 23) hx hb (xb_d D_M_exported 10 rfl) rfl (fun hc6 => ?_) (fun hc6 => ?_)
        · have hw := hw.1 hc6
          exact am_M_exported_L23 l hfl D A σ MC MS h0 Qr x0 x1 x2 x3 x0 h2 hw p e s m args below meth c hC H locs ls k n hE (lv_sub hl [0, 1, 2, 3] rfl) hR hS (by omega) (by omega)
        · have hw := hw.2 hc6
          refine lv_iconst (v := 0) hx hb (xb_d D_M_exported 11 rfl) (by decide) ?_
          refine lv_goto (tgt := 24) hx hb (xb_d D_M_exported 12 rfl) rfl ?_
          exact am_M_exported_L24 l hfl D A σ MC MS h0 Qr x0 x1 x2 x3 0 x0 h2 hw p e s m args below meth c hC H locs ls k n hE (lv_sub hl [0, 1, 2, 3] rfl) hR hS (by omega) (by omega)
  · exact False.elim hq

theorem m_71b2c3db : (.methodLink "StackHostModel" 496 y_M_hasType : Cond) ∈ xt_tbl := xt_in (xt_t12 (List.mem_of_getElem? (i := 70) (by decide +kernel))) (by decide +kernel)
theorem m_1d48feed : (.instanceMethod y_M_hasType : Cond) ∈ xt_tbl := xt_in (xt_t12 (List.mem_of_getElem? (i := 72) (by decide +kernel))) (by decide +kernel)
theorem m_628c5dc3 : (.selects "StackHostModel" y_M_hasType y_M_hasType : Cond) ∈ xt_tbl := xt_in (xt_v13 (q := (⟨"StackHostModel", "hasType", "(III)Z"⟩, 97)) (List.mem_of_getElem? (i := 10) (by decide +kernel))) (by decide +kernel)
theorem m_f3efd3e1 : (.code y_M_hasType b_M_hasType 5 (some .boolean) : Cond) ∈ xt_tbl := xt_in (xt_t12 (List.mem_of_getElem? (i := 73) (by decide +kernel))) (by decide +kernel)
theorem nm_M_hasType : xt_nm y_M_hasType 3 := ⟨by decide +kernel, by decide +kernel⟩
set_option maxRecDepth 100000 in
def T_M_fits : List (Nat × Instr × Nat) := [(0, .aload_n 0, 1), (1, .iload_n 1, 1), (2, .iload_n 2, 1), (3, .invokevirtual 327, 3), (6, .pop, 1), (7, .iload_n 3, 1), (8, .ifCond .ne 16, 3), (11, .aload_n 0, 1), (12, .iload 4, 2), (14, .iload_n 1, 1), (15, .aload_n 0, 1), (16, .invokevirtual 218, 3), (19, .l2i, 1), (20, .invokevirtual 496, 3), (23, .ireturn, 1), (24, .iload_n 3, 1), (25, .iconst 3, 1), (26, .if_icmp .ne 54, 3), (29, .aload_n 0, 1), (30, .invokevirtual 212, 3), (33, .istore 5, 2), (35, .aload_n 0, 1), (36, .invokevirtual 212, 3), (39, .iconst 1, 1), (40, .if_icmp .ne 7, 3), (43, .iconst 1, 1), (44, .goto 4, 3), (47, .iconst 0, 1), (48, .istore 6, 2), (50, .aload_n 0, 1), (51, .getfield 124, 3), (54, .iload 4, 2), (56, .iaload, 1), (57, .iload 5, 2), (59, .if_icmp .ne 19, 3), (62, .aload_n 0, 1), (63, .getfield 127, 3), (66, .iload 4, 2), (68, .baload, 1), (69, .iload 6, 2), (71, .if_icmp .ne 7, 3), (74, .iconst 1, 1), (75, .goto 4, 3), (78, .iconst 0, 1), (79, .ireturn, 1), (80, .aload_n 0, 1), (81, .iload_n 3, 1), (82, .iconst 1, 1), (83, .if_icmp .ne 12, 3), (86, .aload_n 0, 1), (87, .getfield 202, 3), (90, .iconst 1, 1), (91, .iadd, 1), (92, .goto 7, 3), (95, .aload_n 0, 1), (96, .getfield 202, 3), (99, .putfield 202, 3), (102, .aload_n 0, 1), (103, .invokevirtual 349, 3), (106, .lstore 5, 2), (108, .iload_n 3, 1), (109, .iconst 1, 1), (110, .if_icmp .ne 14, 3), (113, .aload_n 0, 1), (114, .getfield 101, 3), (117, .iload 4, 2), (119, .iaload, 1), (120, .i2l, 1), (121, .goto 11, 3), (124, .aload_n 0, 1), (125, .getfield 111, 3), (128, .iload 4, 2), (130, .iaload, 1), (131, .i2l, 1), (132, .lstore 7, 2), (134, .iload_n 3, 1), (135, .iconst 1, 1), (136, .if_icmp .ne 13, 3), (139, .aload_n 0, 1), (140, .getfield 104, 3), (143, .iload 4, 2), (145, .laload, 1), (146, .goto 10, 3), (149, .aload_n 0, 1), (150, .getfield 114, 3), (153, .iload 4, 2), (155, .laload, 1), (156, .lstore 9, 2), (158, .lload 7, 2), (160, .lload 5, 2), (162, .lcmp, 1), (163, .ifCond .lt 33, 3), (166, .aload_n 0, 1), (167, .getfield 345, 3), (170, .lconst 0, 1), (171, .lcmp, 1), (172, .ifCond .lt 20, 3), (175, .lload 9, 2), (177, .lconst 0, 1), (178, .lcmp, 1), (179, .ifCond .lt 17, 3), (182, .lload 9, 2), (184, .aload_n 0, 1), (185, .getfield 345, 3), (188, .lcmp, 1), (189, .ifCond .gt 7, 3), (192, .iconst 1, 1), (193, .goto 4, 3), (196, .iconst 0, 1), (197, .ireturn, 1)]
theorem D_M_fits : ∀ q ∈ T_M_fits, decode b_M_fits q.1 = .ok (q.2.1, q.2.2) := by decide +kernel
def w_M_fits_L197 (Qr : Int32 → xb_H → Prop) (y0 : Int32) (h : xb_H) : Prop :=
    (y0 = 0 ∨ y0 = 1) ∧ Qr y0 h

def w_M_fits_L196 (Qr : Int32 → xb_H → Prop) (h : xb_H) : Prop :=
    w_M_fits_L197 Qr 0 h

def w_M_fits_L192 (Qr : Int32 → xb_H → Prop) (h : xb_H) : Prop :=
    w_M_fits_L197 Qr 1 h

def w_M_fits_L156 (Qr : Int32 → xb_H → Prop) (x0 : Nat) (x5 : Int64) (x7 : Int64) (y0 : Int64) (h : xb_H) : Prop :=
    ((x7 < x5 → w_M_fits_L196 Qr h) ∧ (¬ x7 < x5 → xb_k h x0 = 9 ∧ (((xb_l h x0 91) < (0 : Int64) → w_M_fits_L192 Qr h) ∧ (¬ (xb_l h x0 91) < (0 : Int64) → ((y0 < (0 : Int64) → w_M_fits_L196 Qr h) ∧ (¬ y0 < (0 : Int64) → (((xb_l h x0 91) < y0 → w_M_fits_L196 Qr h) ∧ (¬ (xb_l h x0 91) < y0 → w_M_fits_L192 Qr h))))))))

def w_M_fits_L132 (Qr : Int32 → xb_H → Prop) (x0 : Nat) (x3 : Int32) (x4 : Int32) (x5 : Int64) (y0 : Int64) (h : xb_H) : Prop :=
    ((¬ x3 = (1 : Int32) → xb_k h x0 = 9 ∧ ∃ b3 : Nat, (xb_r h x0 55) = some b3 ∧ xb_k h b3 = 103 ∧ vp_in x4 (xb_n h b3) ∧ w_M_fits_L156 Qr x0 x5 y0 (xb_l h b3 (Int32.toNatClampNeg x4)) h) ∧ (x3 = (1 : Int32) → xb_k h x0 = 9 ∧ ∃ b7 : Nat, (xb_r h x0 50) = some b7 ∧ xb_k h b7 = 103 ∧ vp_in x4 (xb_n h b7) ∧ w_M_fits_L156 Qr x0 x5 y0 (xb_l h b7 (Int32.toNatClampNeg x4)) h))

def w_M_fits_L99 (Qr : Int32 → xb_H → Prop) (x0 : Nat) (x3 : Int32) (x4 : Int32) (y0 : Int32) (y1 : Nat) (h : xb_H) : Prop :=
    xb_k h y1 = 9 ∧ ∀ h2 : xb_H, h2 = xb_I h y1 15 y0 → xb_k h2 x0 = 9 ∧ w_M_leastRead x0 h2 (fun (r5 : Int64) (h4 : xb_H) => xb_ext h2 h4 → ((¬ x3 = (1 : Int32) → ∃ b7 : Nat, (xb_r h4 x0 54) = some b7 ∧ xb_k h4 b7 = 102 ∧ vp_in x4 (xb_n h4 b7) ∧ w_M_fits_L132 Qr x0 x3 x4 r5 (Int32.toInt64 (xb_i h4 b7 (Int32.toNatClampNeg x4))) h4) ∧ (x3 = (1 : Int32) → ∃ b10 : Nat, (xb_r h4 x0 49) = some b10 ∧ xb_k h4 b10 = 102 ∧ vp_in x4 (xb_n h4 b10) ∧ w_M_fits_L132 Qr x0 x3 x4 r5 (Int32.toInt64 (xb_i h4 b10 (Int32.toNatClampNeg x4))) h4)))

def w_M_fits_L79 (Qr : Int32 → xb_H → Prop) (y0 : Int32) (h : xb_H) : Prop :=
    (y0 = 0 ∨ y0 = 1) ∧ Qr y0 h

def w_M_fits_L78 (Qr : Int32 → xb_H → Prop) (h : xb_H) : Prop :=
    w_M_fits_L79 Qr 0 h

def w_M_fits_L48 (Qr : Int32 → xb_H → Prop) (x0 : Nat) (x4 : Int32) (x5 : Int32) (y0 : Int32) (h : xb_H) : Prop :=
    xb_k h x0 = 9 ∧ ∃ b2 : Nat, (xb_r h x0 59) = some b2 ∧ xb_k h b2 = 102 ∧ vp_in x4 (xb_n h b2) ∧ ((¬ (xb_i h b2 (Int32.toNatClampNeg x4)) = x5 → w_M_fits_L78 Qr h) ∧ ((xb_i h b2 (Int32.toNatClampNeg x4)) = x5 → ∃ b6 : Nat, (xb_r h x0 60) = some b6 ∧ xb_k h b6 = 101 ∧ vp_in x4 (xb_n h b6) ∧ ((¬ (xb_i h b6 (Int32.toNatClampNeg x4)) = y0 → w_M_fits_L78 Qr h) ∧ ((xb_i h b6 (Int32.toNatClampNeg x4)) = y0 → w_M_fits_L79 Qr 1 h))))

def w_M_fits (x0 : Nat) (x1 : Int32) (x2 : Int32) (x3 : Int32) (x4 : Int32) (h : xb_H) (Qr : Int32 → xb_H → Prop) : Prop :=
    xb_k h x0 = 9 ∧ w_M_importAt x0 x1 x2 h (fun (r3 : Int32) (h2 : xb_H) => xb_ext h h2 → ((¬ x3 = (0 : Int32) → ((¬ x3 = (3 : Int32) → ((¬ x3 = (1 : Int32) → w_M_fits_L99 Qr x0 x3 x4 (xb_i h2 x0 15) x0 h2) ∧ (x3 = (1 : Int32) → w_M_fits_L99 Qr x0 x3 x4 ((xb_i h2 x0 15) + 1) x0 h2))) ∧ (x3 = (3 : Int32) → w_M_next x0 h2 (fun (r8 : Int32) (h7 : xb_H) => xb_ext h2 h7 → w_M_next x0 h7 (fun (r10 : Int32) (h9 : xb_H) => xb_ext h7 h9 → ((¬ r10 = (1 : Int32) → w_M_fits_L48 Qr x0 x4 r8 0 h9) ∧ (r10 = (1 : Int32) → w_M_fits_L48 Qr x0 x4 r8 1 h9))))))) ∧ (x3 = (0 : Int32) → w_M_count x0 h2 (fun (r13 : Int64) (h12 : xb_H) => xb_ext h2 h12 → w_M_hasType x0 x4 x1 (Int64.toInt32 r13) h12 (fun (r15 : Int32) (h14 : xb_H) => xb_ext h12 h14 → (r15 = 0 ∨ r15 = 1) ∧ Qr r15 h14)))))

set_option maxHeartbeats 4000000 in
set_option maxRecDepth 100000 in
theorem am_M_fits_L197 (l : Launch) (hfl : l.flags = pinnedFlags ++ [noTraceFlag]) (D : va_G) (A : Nat → Prop) (σ MC MS : Nat) (h0 : xb_H) (Qr : Int32 → xb_H → Prop) (y0 : Int32) (h : xb_H) (hw : w_M_fits_L197 Qr y0 h) : xb_am l D A σ 10 MC MS h0 (fun v h => ∃ r, v = some (.int r) ∧ Qr r h) (fun _ _ => False) y_M_fits.cls y_M_fits.name b_M_fits 11 ([] : List ExceptionTableEntry) (some .boolean) 197 [] [.int y0] h 0 0 := by
  unfold w_M_fits_L197 at hw
  intro p e s m args below meth c hC H locs ls k n hE hl hR hS hk hn
  obtain ⟨hx, hb, hown, hlocks, htab, hml, hr, hB, hA, hnm⟩ := id hC
  have hts := hB.1.1.at args
  exact xb_zret hx hb hr hlocks (show k ≤ MC by omega) (show n ≤ MS by omega) hw.1 hE hR hS (xb_d D_M_fits 109 rfl) hw.2

set_option maxHeartbeats 4000000 in
set_option maxRecDepth 100000 in
theorem am_M_fits_L196 (l : Launch) (hfl : l.flags = pinnedFlags ++ [noTraceFlag]) (D : va_G) (A : Nat → Prop) (σ MC MS : Nat) (h0 : xb_H) (Qr : Int32 → xb_H → Prop) (h : xb_H) (hw : w_M_fits_L196 Qr h) : xb_am l D A σ 10 MC MS h0 (fun v h => ∃ r, v = some (.int r) ∧ Qr r h) (fun _ _ => False) y_M_fits.cls y_M_fits.name b_M_fits 11 ([] : List ExceptionTableEntry) (some .boolean) 196 [] [] h 0 0 := by
  unfold w_M_fits_L196 at hw
  intro p e s m args below meth c hC H locs ls k n hE hl hR hS hk hn
  obtain ⟨hx, hb, hown, hlocks, htab, hml, hr, hB, hA, hnm⟩ := id hC
  have hts := hB.1.1.at args
  refine lv_iconst (v := 0) hx hb (xb_d D_M_fits 108 rfl) (by decide) ?_
  exact am_M_fits_L197 l hfl D A σ MC MS h0 Qr 0 h hw p e s m args below meth c hC H locs ls k n hE (lv_sub hl [] rfl) hR hS (by omega) (by omega)

set_option maxHeartbeats 4000000 in
set_option maxRecDepth 100000 in
theorem am_M_fits_L192 (l : Launch) (hfl : l.flags = pinnedFlags ++ [noTraceFlag]) (D : va_G) (A : Nat → Prop) (σ MC MS : Nat) (h0 : xb_H) (Qr : Int32 → xb_H → Prop) (h : xb_H) (hw : w_M_fits_L192 Qr h) : xb_am l D A σ 10 MC MS h0 (fun v h => ∃ r, v = some (.int r) ∧ Qr r h) (fun _ _ => False) y_M_fits.cls y_M_fits.name b_M_fits 11 ([] : List ExceptionTableEntry) (some .boolean) 192 [] [] h 0 0 := by
  unfold w_M_fits_L192 at hw
  intro p e s m args below meth c hC H locs ls k n hE hl hR hS hk hn
  obtain ⟨hx, hb, hown, hlocks, htab, hml, hr, hB, hA, hnm⟩ := id hC
  have hts := hB.1.1.at args
  refine lv_iconst (v := 1) hx hb (xb_d D_M_fits 106 rfl) (by decide) ?_
  refine lv_goto (tgt := 197) hx hb (xb_d D_M_fits 107 rfl) rfl ?_
  exact am_M_fits_L197 l hfl D A σ MC MS h0 Qr 1 h hw p e s m args below meth c hC H locs ls k n hE (lv_sub hl [] rfl) hR hS (by omega) (by omega)

set_option maxHeartbeats 4000000 in
set_option maxRecDepth 100000 in
theorem am_M_fits_L156 (l : Launch) (hfl : l.flags = pinnedFlags ++ [noTraceFlag]) (D : va_G) (A : Nat → Prop) (σ MC MS : Nat) (h0 : xb_H) (Qr : Int32 → xb_H → Prop) (x0 : Nat) (x5 : Int64) (x7 : Int64) (y0 : Int64) (h : xb_H) (hw : w_M_fits_L156 Qr x0 x5 x7 y0 h) : xb_am l D A σ 10 MC MS h0 (fun v h => ∃ r, v = some (.int r) ∧ Qr r h) (fun _ _ => False) y_M_fits.cls y_M_fits.name b_M_fits 11 ([] : List ExceptionTableEntry) (some .boolean) 156 [(0, .ref x0), (5, .long x5), (7, .long x7)] [.long y0] h 0 0 := by
  unfold w_M_fits_L156 at hw
  intro p e s m args below meth c hC H locs ls k n hE hl hR hS hk hn
  obtain ⟨hx, hb, hown, hlocks, htab, hml, hr, hB, hA, hnm⟩ := id hC
  have hts := hB.1.1.at args
  refine lv_lstore hx hb (xb_d D_M_fits 87 rfl) hl (by decide) rfl (fun ls hl => ?_)
  have hl : lv_has ls 11 [(9, .long y0), (0, .ref x0), (5, .long x5), (7, .long x7)] := hl
  refine lv_lload hx hb (xb_d D_M_fits 88 rfl) (lv_at hl 3 rfl) ?_
  refine lv_lload hx hb (xb_d D_M_fits 89 rfl) (lv_at hl 2 rfl) ?_
  refine xb_lc_lt (tgt := 196) hx hb (xb_d D_M_fits 90 rfl) (xb_d D_M_fits 91 rfl) rfl (fun hc1 => ?_) (fun hc1 => ?_)
  · have hw := hw.1 hc1
    exact am_M_fits_L196 l hfl D A σ MC MS h0 Qr h hw p e s m args below meth c hC H locs ls k n hE (lv_sub hl [] rfl) hR hS (by omega) (by omega)
  · have hw := hw.2 hc1
    refine lv_aload_n hx hb (xb_d D_M_fits 92 rfl) rfl (lv_at hl 1 rfl) ?_
    obtain ⟨hk2, hw⟩ := hw
    refine xb_getL (C := R_M) (T := F_M) (N := 97) hx hb 8 91 hts fin_M hown hR hk2 (by decide) rfl (by decide) rfl (hts _ m_6aa0a8b9) (fun _ h9 => h9) (xb_d D_M_fits 93 rfl) ?_
    refine lv_lconst (v := 0) hx hb (xb_d D_M_fits 94 rfl) (by decide) ?_
    refine xb_lc_lt (tgt := 192) hx hb (xb_d D_M_fits 95 rfl) (xb_d D_M_fits 96 rfl) rfl (fun hc3 => ?_) (fun hc3 => ?_)
    · have hw := hw.1 hc3
      exact am_M_fits_L192 l hfl D A σ MC MS h0 Qr h hw p e s m args below meth c hC H locs ls k n hE (lv_sub hl [] rfl) hR hS (by omega) (by omega)
    · have hw := hw.2 hc3
      refine lv_lload hx hb (xb_d D_M_fits 97 rfl) (lv_at hl 0 rfl) ?_
      refine lv_lconst (v := 0) hx hb (xb_d D_M_fits 98 rfl) (by decide) ?_
      refine xb_lc_lt (tgt := 196) hx hb (xb_d D_M_fits 99 rfl) (xb_d D_M_fits 100 rfl) rfl (fun hc4 => ?_) (fun hc4 => ?_)
      · have hw := hw.1 hc4
        exact am_M_fits_L196 l hfl D A σ MC MS h0 Qr h hw p e s m args below meth c hC H locs ls k n hE (lv_sub hl [] rfl) hR hS (by omega) (by omega)
      · have hw := hw.2 hc4
        refine lv_lload hx hb (xb_d D_M_fits 101 rfl) (lv_at hl 0 rfl) ?_
        refine lv_aload_n hx hb (xb_d D_M_fits 102 rfl) rfl (lv_at hl 1 rfl) ?_
        refine xb_getL (C := R_M) (T := F_M) (N := 97) hx hb 8 91 hts fin_M hown hR hk2 (by decide) rfl (by decide) rfl (hts _ m_6aa0a8b9) (fun _ h9 => h9) (xb_d D_M_fits 103 rfl) ?_
        refine xb_lc_gt (tgt := 196) hx hb (xb_d D_M_fits 104 rfl) (xb_d D_M_fits 105 rfl) rfl (fun hc5 => ?_) (fun hc5 => ?_)
        · have hw := hw.1 hc5
          exact am_M_fits_L196 l hfl D A σ MC MS h0 Qr h hw p e s m args below meth c hC H locs ls k n hE (lv_sub hl [] rfl) hR hS (by omega) (by omega)
        · have hw := hw.2 hc5
          exact am_M_fits_L192 l hfl D A σ MC MS h0 Qr h hw p e s m args below meth c hC H locs ls k n hE (lv_sub hl [] rfl) hR hS (by omega) (by omega)

set_option maxHeartbeats 4000000 in
set_option maxRecDepth 100000 in
theorem am_M_fits_L132 (l : Launch) (hfl : l.flags = pinnedFlags ++ [noTraceFlag]) (D : va_G) (A : Nat → Prop) (σ MC MS : Nat) (h0 : xb_H) (Qr : Int32 → xb_H → Prop) (x0 : Nat) (x3 : Int32) (x4 : Int32) (x5 : Int64) (y0 : Int64) (h : xb_H) (hw : w_M_fits_L132 Qr x0 x3 x4 x5 y0 h) : xb_am l D A σ 10 MC MS h0 (fun v h => ∃ r, v = some (.int r) ∧ Qr r h) (fun _ _ => False) y_M_fits.cls y_M_fits.name b_M_fits 11 ([] : List ExceptionTableEntry) (some .boolean) 132 [(0, .ref x0), (3, .int x3), (4, .int x4), (5, .long x5)] [.long y0] h 0 0 := by
  unfold w_M_fits_L132 at hw
  intro p e s m args below meth c hC H locs ls k n hE hl hR hS hk hn
  obtain ⟨hx, hb, hown, hlocks, htab, hml, hr, hB, hA, hnm⟩ := id hC
  have hts := hB.1.1.at args
  refine lv_lstore hx hb (xb_d D_M_fits 74 rfl) hl (by decide) rfl (fun ls hl => ?_)
  have hl : lv_has ls 11 [(7, .long y0), (0, .ref x0), (3, .int x3), (4, .int x4), (5, .long x5)] := hl
  refine lv_iload_n hx hb (xb_d D_M_fits 75 rfl) rfl (lv_at hl 2 rfl) ?_
  refine lv_iconst (v := 1) hx hb (xb_d D_M_fits 76 rfl) (by decide) ?_
  refine lv_icmp_ne (tgt := 149) hx hb (xb_d D_M_fits 77 rfl) rfl (fun hc1 => ?_) (fun hc1 => ?_)
  · have hw := hw.1 hc1
    refine lv_aload_n hx hb (xb_d D_M_fits 83 rfl) rfl (lv_at hl 1 rfl) ?_
    obtain ⟨hk2, hw⟩ := hw
    refine xb_getP (C := R_M) (T := F_M) (N := 97) hx hb 8 55 hts fin_M hown hR hk2 (by decide) rfl (by decide) rfl (hts _ m_e77abcfd) (fun _ h9 => h9) (xb_d D_M_fits 84 rfl) ?_
    obtain ⟨b3, eb3, hw⟩ := hw
    refine xb_some eb3 ?_
    refine lv_iload hx hb (xb_d D_M_fits 85 rfl) (lv_at hl 3 rfl) ?_
    obtain ⟨hk5, hw⟩ := hw
    obtain ⟨hi4, hw⟩ := hw
    refine xb_lald hx hb hR hk5 hi4 (xb_d D_M_fits 86 rfl) ?_
    exact am_M_fits_L156 l hfl D A σ MC MS h0 Qr x0 x5 y0 (xb_l h b3 (Int32.toNatClampNeg x4)) h hw p e s m args below meth c hC H locs ls k n hE (lv_sub hl [1, 4, 0] rfl) hR hS (by omega) (by omega)
  · have hw := hw.2 hc1
    refine lv_aload_n hx hb (xb_d D_M_fits 78 rfl) rfl (lv_at hl 1 rfl) ?_
    obtain ⟨hk6, hw⟩ := hw
    refine xb_getP (C := R_M) (T := F_M) (N := 97) hx hb 8 50 hts fin_M hown hR hk6 (by decide) rfl (by decide) rfl (hts _ m_e0cd2898) (fun _ h9 => h9) (xb_d D_M_fits 79 rfl) ?_
    obtain ⟨b7, eb7, hw⟩ := hw
    refine xb_some eb7 ?_
    refine lv_iload hx hb (xb_d D_M_fits 80 rfl) (lv_at hl 3 rfl) ?_
    obtain ⟨hk9, hw⟩ := hw
    obtain ⟨hi8, hw⟩ := hw
    refine xb_lald hx hb hR hk9 hi8 (xb_d D_M_fits 81 rfl) ?_
    refine lv_goto (tgt := 156) hx hb (xb_d D_M_fits 82 rfl) rfl ?_
    exact am_M_fits_L156 l hfl D A σ MC MS h0 Qr x0 x5 y0 (xb_l h b7 (Int32.toNatClampNeg x4)) h hw p e s m args below meth c hC H locs ls k n hE (lv_sub hl [1, 4, 0] rfl) hR hS (by omega) (by omega)

set_option maxHeartbeats 4000000 in
set_option maxRecDepth 100000 in
theorem am_M_fits_L99 (l : Launch) (hfl : l.flags = pinnedFlags ++ [noTraceFlag]) (D : va_G) (A : Nat → Prop) (σ MC MS : Nat) (h0 : xb_H) (Qr : Int32 → xb_H → Prop) (x0 : Nat) (x3 : Int32) (x4 : Int32) (y0 : Int32) (y1 : Nat) (h : xb_H) (hw : w_M_fits_L99 Qr x0 x3 x4 y0 y1 h) : xb_am l D A σ 10 MC MS h0 (fun v h => ∃ r, v = some (.int r) ∧ Qr r h) (fun _ _ => False) y_M_fits.cls y_M_fits.name b_M_fits 11 ([] : List ExceptionTableEntry) (some .boolean) 99 [(0, .ref x0), (3, .int x3), (4, .int x4)] [.int y0, .ref y1] h 0 0 := by
  unfold w_M_fits_L99 at hw
  intro p e s m args below meth c hC H locs ls k n hE hl hR hS hk hn
  obtain ⟨hx, hb, hown, hlocks, htab, hml, hr, hB, hA, hnm⟩ := id hC
  have hts := hB.1.1.at args
  obtain ⟨hk1, hw⟩ := hw
  refine xb_putI (C := R_M) (T := F_M) (N := 97) (ty := .int) (x := y0) hx hb 8 15 hts fin_M t_M t_M_ok n_M hown hR hS hk1 (by decide) rfl (by decide) rfl (hts _ m_6c2d27ad) (fun _ h9 => h9) rfl (by decide +kernel) rfl rfl (xb_d D_M_fits 56 rfl) (fun H locs hR hS => ?_)
  obtain ⟨h2, eh2⟩ : ∃ x : xb_H, x = xb_I h y1 15 y0 := ⟨_, rfl⟩
  rw [← eh2] at hR
  have hw := hw h2 eh2
  have hE : xb_ext h0 h2 := by rw [eh2]; exact hE
  refine lv_aload_n hx hb (xb_d D_M_fits 57 rfl) rfl (lv_at hl 0 rfl) ?_
  obtain ⟨hk3, hw⟩ := hw
  refine xb_call (D := D) (A := A) (σ := σ) (h := h2) (d := 5) (mc := 0) (ms := 0) (maxL := 4) (rest := []) (av := [.ref x0]) (fun T hT X => by obtain ⟨cb, r1, r2, r3⟩ := xb_recv (ci := 8) hR rfl hk3 (by decide); exact xt_invV X hx hown (hts _ m_b67ad769) (hts _ m_de6782a6) (hts _ m_a7360540) (xt_sigOf (hts _ m_348c2fd1)) nm_M_leastRead (by rw [hT]; exact r1) r2 r3 (g := F0 m 103 ls [.ref x0]) rfl (argsL := []) (rest := []) rfl rfl (by rw [hb]; exact (xb_d D_M_fits 58 rfl))) (ok_M_leastRead l hfl D A σ x0 h2 _ hw) (hml.trans hl.1.symm) (by rw [hb]; exact (xb_d D_M_fits 58 rfl)) (Nat.le_of_ble_eq_true rfl) (Nat.le_of_ble_eq_true rfl) (Nat.le_of_ble_eq_true rfl) (show k + 0 ≤ MC by omega) (show n + 0 ≤ MS by omega) (xt_w1 hB.1 m_348c2fd1) (xt_cdOf hB.1 m_348c2fd1) (hts _ m_d5ed7bed) hB hR hS hA (fun vv h4 H locs hq hEh4 hR hS => ?_) (fun XX ax h4 H locs hq hEh4 hex hR hS => ?_)
  · obtain ⟨r5, rfl, hw⟩ := hq
    have hw := hw hEh4
    have hE := hE.tr hEh4
    refine W.eq (g2 := F0 m 106 ls [.long r5]) rfl ?_
    refine lv_lstore hx hb (xb_d D_M_fits 59 rfl) hl (by decide) rfl (fun ls hl => ?_)
    have hl : lv_has ls 11 [(5, .long r5), (0, .ref x0), (3, .int x3), (4, .int x4)] := hl
    refine lv_iload_n hx hb (xb_d D_M_fits 60 rfl) rfl (lv_at hl 2 rfl) ?_
    refine lv_iconst (v := 1) hx hb (xb_d D_M_fits 61 rfl) (by decide) ?_
    refine lv_icmp_ne (tgt := 124) hx hb (xb_d D_M_fits 62 rfl) rfl (fun hc6 => ?_) (fun hc6 => ?_)
    · have hw := hw.1 hc6
      refine lv_aload_n hx hb (xb_d D_M_fits 69 rfl) rfl (lv_at hl 1 rfl) ?_
      have hk3 : xb_k h4 x0 = 9 := hEh4.k hk3
      refine xb_getP (C := R_M) (T := F_M) (N := 97) hx hb 8 54 hts fin_M hown hR hk3 (by decide) rfl (by decide) rfl (hts _ m_605483d9) (fun _ h9 => h9) (xb_d D_M_fits 70 rfl) ?_
      obtain ⟨b7, eb7, hw⟩ := hw
      refine xb_some eb7 ?_
      refine lv_iload hx hb (xb_d D_M_fits 71 rfl) (lv_at hl 3 rfl) ?_
      obtain ⟨hk9, hw⟩ := hw
      obtain ⟨hi8, hw⟩ := hw
      refine xb_iald hx hb hR hk9 hi8 (xb_d D_M_fits 72 rfl) ?_
      refine lv_i2l hx hb (xb_d D_M_fits 73 rfl) rfl ?_
      exact am_M_fits_L132 l hfl D A σ MC MS h0 Qr x0 x3 x4 r5 (Int32.toInt64 (xb_i h4 b7 (Int32.toNatClampNeg x4))) h4 hw p e s m args below meth c hC H locs ls k n hE (lv_sub hl [1, 2, 3, 0] rfl) hR hS (by omega) (by omega)
    · have hw := hw.2 hc6
      refine lv_aload_n hx hb (xb_d D_M_fits 63 rfl) rfl (lv_at hl 1 rfl) ?_
      have hk3 : xb_k h4 x0 = 9 := hEh4.k hk3
      refine xb_getP (C := R_M) (T := F_M) (N := 97) hx hb 8 49 hts fin_M hown hR hk3 (by decide) rfl (by decide) rfl (hts _ m_0c329d74) (fun _ h9 => h9) (xb_d D_M_fits 64 rfl) ?_
      obtain ⟨b10, eb10, hw⟩ := hw
      refine xb_some eb10 ?_
      refine lv_iload hx hb (xb_d D_M_fits 65 rfl) (lv_at hl 3 rfl) ?_
      obtain ⟨hk12, hw⟩ := hw
      obtain ⟨hi11, hw⟩ := hw
      refine xb_iald hx hb hR hk12 hi11 (xb_d D_M_fits 66 rfl) ?_
      refine lv_i2l hx hb (xb_d D_M_fits 67 rfl) rfl ?_
      refine lv_goto (tgt := 132) hx hb (xb_d D_M_fits 68 rfl) rfl ?_
      exact am_M_fits_L132 l hfl D A σ MC MS h0 Qr x0 x3 x4 r5 (Int32.toInt64 (xb_i h4 b10 (Int32.toNatClampNeg x4))) h4 hw p e s m args below meth c hC H locs ls k n hE (lv_sub hl [1, 2, 3, 0] rfl) hR hS (by omega) (by omega)
  · exact False.elim hq

set_option maxHeartbeats 4000000 in
set_option maxRecDepth 100000 in
theorem am_M_fits_L79 (l : Launch) (hfl : l.flags = pinnedFlags ++ [noTraceFlag]) (D : va_G) (A : Nat → Prop) (σ MC MS : Nat) (h0 : xb_H) (Qr : Int32 → xb_H → Prop) (y0 : Int32) (h : xb_H) (hw : w_M_fits_L79 Qr y0 h) : xb_am l D A σ 10 MC MS h0 (fun v h => ∃ r, v = some (.int r) ∧ Qr r h) (fun _ _ => False) y_M_fits.cls y_M_fits.name b_M_fits 11 ([] : List ExceptionTableEntry) (some .boolean) 79 [] [.int y0] h 0 0 := by
  unfold w_M_fits_L79 at hw
  intro p e s m args below meth c hC H locs ls k n hE hl hR hS hk hn
  obtain ⟨hx, hb, hown, hlocks, htab, hml, hr, hB, hA, hnm⟩ := id hC
  have hts := hB.1.1.at args
  exact xb_zret hx hb hr hlocks (show k ≤ MC by omega) (show n ≤ MS by omega) hw.1 hE hR hS (xb_d D_M_fits 44 rfl) hw.2

set_option maxHeartbeats 4000000 in
set_option maxRecDepth 100000 in
theorem am_M_fits_L78 (l : Launch) (hfl : l.flags = pinnedFlags ++ [noTraceFlag]) (D : va_G) (A : Nat → Prop) (σ MC MS : Nat) (h0 : xb_H) (Qr : Int32 → xb_H → Prop) (h : xb_H) (hw : w_M_fits_L78 Qr h) : xb_am l D A σ 10 MC MS h0 (fun v h => ∃ r, v = some (.int r) ∧ Qr r h) (fun _ _ => False) y_M_fits.cls y_M_fits.name b_M_fits 11 ([] : List ExceptionTableEntry) (some .boolean) 78 [] [] h 0 0 := by
  unfold w_M_fits_L78 at hw
  intro p e s m args below meth c hC H locs ls k n hE hl hR hS hk hn
  obtain ⟨hx, hb, hown, hlocks, htab, hml, hr, hB, hA, hnm⟩ := id hC
  have hts := hB.1.1.at args
  refine lv_iconst (v := 0) hx hb (xb_d D_M_fits 43 rfl) (by decide) ?_
  exact am_M_fits_L79 l hfl D A σ MC MS h0 Qr 0 h hw p e s m args below meth c hC H locs ls k n hE (lv_sub hl [] rfl) hR hS (by omega) (by omega)

set_option maxHeartbeats 4000000 in
set_option maxRecDepth 100000 in
theorem am_M_fits_L48 (l : Launch) (hfl : l.flags = pinnedFlags ++ [noTraceFlag]) (D : va_G) (A : Nat → Prop) (σ MC MS : Nat) (h0 : xb_H) (Qr : Int32 → xb_H → Prop) (x0 : Nat) (x4 : Int32) (x5 : Int32) (y0 : Int32) (h : xb_H) (hw : w_M_fits_L48 Qr x0 x4 x5 y0 h) : xb_am l D A σ 10 MC MS h0 (fun v h => ∃ r, v = some (.int r) ∧ Qr r h) (fun _ _ => False) y_M_fits.cls y_M_fits.name b_M_fits 11 ([] : List ExceptionTableEntry) (some .boolean) 48 [(0, .ref x0), (4, .int x4), (5, .int x5)] [.int y0] h 0 0 := by
  unfold w_M_fits_L48 at hw
  intro p e s m args below meth c hC H locs ls k n hE hl hR hS hk hn
  obtain ⟨hx, hb, hown, hlocks, htab, hml, hr, hB, hA, hnm⟩ := id hC
  have hts := hB.1.1.at args
  refine lv_istore hx hb (xb_d D_M_fits 28 rfl) hl (by decide) rfl (fun ls hl => ?_)
  have hl : lv_has ls 11 [(6, .int y0), (0, .ref x0), (4, .int x4), (5, .int x5)] := hl
  refine lv_aload_n hx hb (xb_d D_M_fits 29 rfl) rfl (lv_at hl 1 rfl) ?_
  obtain ⟨hk1, hw⟩ := hw
  refine xb_getP (C := R_M) (T := F_M) (N := 97) hx hb 8 59 hts fin_M hown hR hk1 (by decide) rfl (by decide) rfl (hts _ m_3369fcb7) (fun _ h9 => h9) (xb_d D_M_fits 30 rfl) ?_
  obtain ⟨b2, eb2, hw⟩ := hw
  refine xb_some eb2 ?_
  refine lv_iload hx hb (xb_d D_M_fits 31 rfl) (lv_at hl 2 rfl) ?_
  obtain ⟨hk4, hw⟩ := hw
  obtain ⟨hi3, hw⟩ := hw
  refine xb_iald hx hb hR hk4 hi3 (xb_d D_M_fits 32 rfl) ?_
  refine lv_iload hx hb (xb_d D_M_fits 33 rfl) (lv_at hl 3 rfl) ?_
  refine lv_icmp_ne (tgt := 78) hx hb (xb_d D_M_fits 34 rfl) rfl (fun hc5 => ?_) (fun hc5 => ?_)
  · have hw := hw.1 hc5
    exact am_M_fits_L78 l hfl D A σ MC MS h0 Qr h hw p e s m args below meth c hC H locs ls k n hE (lv_sub hl [] rfl) hR hS (by omega) (by omega)
  · have hw := hw.2 hc5
    refine lv_aload_n hx hb (xb_d D_M_fits 35 rfl) rfl (lv_at hl 1 rfl) ?_
    refine xb_getP (C := R_M) (T := F_M) (N := 97) hx hb 8 60 hts fin_M hown hR hk1 (by decide) rfl (by decide) rfl (hts _ m_b875e939) (fun _ h9 => h9) (xb_d D_M_fits 36 rfl) ?_
    obtain ⟨b6, eb6, hw⟩ := hw
    refine xb_some eb6 ?_
    refine lv_iload hx hb (xb_d D_M_fits 37 rfl) (lv_at hl 2 rfl) ?_
    obtain ⟨hk8, hw⟩ := hw
    obtain ⟨hi7, hw⟩ := hw
    refine xb_zald hx hb hR hk8 hi7 (xb_d D_M_fits 38 rfl) ?_
    refine lv_iload hx hb (xb_d D_M_fits 39 rfl) (lv_at hl 0 rfl) ?_
    refine lv_icmp_ne (tgt := 78) hx hb (xb_d D_M_fits 40 rfl) rfl (fun hc9 => ?_) (fun hc9 => ?_)
    · have hw := hw.1 hc9
      exact am_M_fits_L78 l hfl D A σ MC MS h0 Qr h hw p e s m args below meth c hC H locs ls k n hE (lv_sub hl [] rfl) hR hS (by omega) (by omega)
    · have hw := hw.2 hc9
      refine lv_iconst (v := 1) hx hb (xb_d D_M_fits 41 rfl) (by decide) ?_
      refine lv_goto (tgt := 79) hx hb (xb_d D_M_fits 42 rfl) rfl ?_
      exact am_M_fits_L79 l hfl D A σ MC MS h0 Qr 1 h hw p e s m args below meth c hC H locs ls k n hE (lv_sub hl [] rfl) hR hS (by omega) (by omega)

set_option maxHeartbeats 4000000 in
set_option maxRecDepth 100000 in
theorem ok_M_fits (l : Launch) (hfl : l.flags = pinnedFlags ++ [noTraceFlag]) (D : va_G) (A : Nat → Prop) (σ : Nat) (x0 : Nat) (x1 : Int32) (x2 : Int32) (x3 : Int32) (x4 : Int32) (h : xb_H) (Qr : Int32 → xb_H → Prop) (hw : w_M_fits x0 x1 x2 x3 x4 h Qr) : xt_Met l y_M_fits [.code y_M_fits b_M_fits 11 (some .boolean)] (xb_rm 10 0 0) (xb_Pc D A σ h [.ref x0, .int x1, .int x2, .int x3, .int x4]) (xb_Qc D A h (fun v h => ∃ r, v = some (.int r) ∧ Qr r h) (fun _ _ => False)) 0 0 A := by
  refine xb_ofAm (cc := b_M_fits) (by decide) (Nat.le_of_ble_eq_true rfl) ?_
  unfold w_M_fits at hw
  show xb_am l D A σ 10 0 0 h (fun v h => ∃ r, v = some (.int r) ∧ Qr r h) (fun _ _ => False) y_M_fits.cls y_M_fits.name b_M_fits 11 ([] : List ExceptionTableEntry) (some .boolean) 0 [(0, .ref x0), (1, .int x1), (2, .int x2), (3, .int x3), (4, .int x4)] [] h 0 0
  obtain ⟨MC, hMC⟩ : ∃ x, x = 0 := ⟨_, rfl⟩
  obtain ⟨MS, hMS⟩ : ∃ x, x = 0 := ⟨_, rfl⟩
  rw [show xb_am l D A σ 10 0 0 = xb_am l D A σ 10 MC MS by rw [hMC, hMS]]
  obtain ⟨h0, hh0⟩ : ∃ x, x = h := ⟨_, rfl⟩
  rw [show xb_am l D A σ 10 MC MS h = xb_am l D A σ 10 MC MS h0 by rw [hh0]]
  intro p e s m args below meth c hC H locs ls k n hE hl hR hS hk hn
  obtain ⟨hx, hb, hown, hlocks, htab, hml, hr, hB, hA, hnm⟩ := id hC
  have hts := hB.1.1.at args
  refine lv_aload_n hx hb (xb_d D_M_fits 0 rfl) rfl (lv_at hl 0 rfl) ?_
  refine lv_iload_n hx hb (xb_d D_M_fits 1 rfl) rfl (lv_at hl 1 rfl) ?_
  refine lv_iload_n hx hb (xb_d D_M_fits 2 rfl) rfl (lv_at hl 2 rfl) ?_
  obtain ⟨hk1, hw⟩ := hw
  refine xb_call (D := D) (A := A) (σ := σ) (h := h) (d := 6) (mc := 0) (ms := 0) (maxL := 3) (rest := []) (av := [.ref x0, .int x1, .int x2]) (fun T hT X => by obtain ⟨cb, r1, r2, r3⟩ := xb_recv (ci := 8) hR rfl hk1 (by decide); exact xt_invV X hx hown (hts _ m_eabb9d5c) (hts _ m_79671d92) (hts _ m_0429489b) (xt_sigOf (hts _ m_2f1c0a34)) nm_M_importAt (by rw [hT]; exact r1) r2 r3 (g := F0 m 3 ls [.int x2, .int x1, .ref x0]) rfl (argsL := [.int x1, .int x2]) (rest := []) rfl rfl (by rw [hb]; exact (xb_d D_M_fits 3 rfl))) (ok_M_importAt l hfl D A σ x0 x1 x2 h _ hw) (hml.trans hl.1.symm) (by rw [hb]; exact (xb_d D_M_fits 3 rfl)) (Nat.le_of_ble_eq_true rfl) (Nat.le_of_ble_eq_true rfl) (Nat.le_of_ble_eq_true rfl) (show k + 0 ≤ MC by omega) (show n + 0 ≤ MS by omega) (xt_w1 hB.1 m_2f1c0a34) (xt_cdOf hB.1 m_2f1c0a34) (hts _ m_d5ed7bed) hB hR hS hA (fun vv h2 H locs hq hEh2 hR hS => ?_) (fun XX ax h2 H locs hq hEh2 hex hR hS => ?_)
  · obtain ⟨r3, rfl, hw⟩ := hq
    have hw := hw hEh2
    have hE := hE.tr hEh2
    refine W.eq (g2 := F0 m 6 ls [.int r3]) rfl ?_
    refine lv_pop hx hb (xb_d D_M_fits 4 rfl) rfl ?_
    refine lv_iload_n hx hb (xb_d D_M_fits 5 rfl) rfl (lv_at hl 3 rfl) ?_
    refine lv_if_ne (tgt := 24) hx hb (xb_d D_M_fits 6 rfl) rfl (fun hc4 => ?_) (fun hc4 => ?_)
    · have hw := hw.1 hc4
      refine lv_iload_n hx hb (xb_d D_M_fits 15 rfl) rfl (lv_at hl 3 rfl) ?_
      refine lv_iconst (v := 3) hx hb (xb_d D_M_fits 16 rfl) (by decide) ?_
      refine lv_icmp_ne (tgt := 80) hx hb (xb_d D_M_fits 17 rfl) rfl (fun hc5 => ?_) (fun hc5 => ?_)
      · have hw := hw.1 hc5
        refine lv_aload_n hx hb (xb_d D_M_fits 45 rfl) rfl (lv_at hl 0 rfl) ?_
        refine lv_iload_n hx hb (xb_d D_M_fits 46 rfl) rfl (lv_at hl 3 rfl) ?_
        refine lv_iconst (v := 1) hx hb (xb_d D_M_fits 47 rfl) (by decide) ?_
        refine lv_icmp_ne (tgt := 95) hx hb (xb_d D_M_fits 48 rfl) rfl (fun hc6 => ?_) (fun hc6 => ?_)
        · have hw := hw.1 hc6
          refine lv_aload_n hx hb (xb_d D_M_fits 54 rfl) rfl (lv_at hl 0 rfl) ?_
          have hk1 : xb_k h2 x0 = 9 := hEh2.k hk1
          refine xb_getI (C := R_M) (T := F_M) (N := 97) hx hb 8 15 hts fin_M hown hR hk1 (by decide) rfl (by decide) rfl (hts _ m_6c2d27ad) (fun _ h9 => h9) (xb_d D_M_fits 55 rfl) ?_
          exact am_M_fits_L99 l hfl D A σ MC MS h0 Qr x0 x3 x4 (xb_i h2 x0 15) x0 h2 hw p e s m args below meth c hC H locs ls k n hE (lv_sub hl [0, 3, 4] rfl) hR hS (by omega) (by omega)
        · have hw := hw.2 hc6
          refine lv_aload_n hx hb (xb_d D_M_fits 49 rfl) rfl (lv_at hl 0 rfl) ?_
          have hk1 : xb_k h2 x0 = 9 := hEh2.k hk1
          refine xb_getI (C := R_M) (T := F_M) (N := 97) hx hb 8 15 hts fin_M hown hR hk1 (by decide) rfl (by decide) rfl (hts _ m_6c2d27ad) (fun _ h9 => h9) (xb_d D_M_fits 50 rfl) ?_
          refine lv_iconst (v := 1) hx hb (xb_d D_M_fits 51 rfl) (by decide) ?_
          refine lv_iadd hx hb (xb_d D_M_fits 52 rfl) ?_
          refine lv_goto (tgt := 99) hx hb (xb_d D_M_fits 53 rfl) rfl ?_
          exact am_M_fits_L99 l hfl D A σ MC MS h0 Qr x0 x3 x4 ((xb_i h2 x0 15) + 1) x0 h2 hw p e s m args below meth c hC H locs ls k n hE (lv_sub hl [0, 3, 4] rfl) hR hS (by omega) (by omega)
      · have hw := hw.2 hc5
        refine lv_aload_n hx hb (xb_d D_M_fits 18 rfl) rfl (lv_at hl 0 rfl) ?_
        have hk1 : xb_k h2 x0 = 9 := hEh2.k hk1
        refine xb_call (D := D) (A := A) (σ := σ) (h := h2) (d := 3) (mc := 0) (ms := 0) (maxL := 2) (rest := []) (av := [.ref x0]) (fun T hT X => by obtain ⟨cb, r1, r2, r3⟩ := xb_recv (ci := 8) hR rfl hk1 (by decide); exact xt_invV X hx hown (hts _ m_0e978570) (hts _ m_40099f98) (hts _ m_a7dbfd07) (xt_sigOf (hts _ m_0af1ec6a)) nm_M_next (by rw [hT]; exact r1) r2 r3 (g := F0 m 30 ls [.ref x0]) rfl (argsL := []) (rest := []) rfl rfl (by rw [hb]; exact (xb_d D_M_fits 19 rfl))) (ok_M_next l hfl D A σ x0 h2 _ hw) (hml.trans hl.1.symm) (by rw [hb]; exact (xb_d D_M_fits 19 rfl)) (Nat.le_of_ble_eq_true rfl) (Nat.le_of_ble_eq_true rfl) (Nat.le_of_ble_eq_true rfl) (show k + 0 ≤ MC by omega) (show n + 0 ≤ MS by omega) (xt_w1 hB.1 m_0af1ec6a) (xt_cdOf hB.1 m_0af1ec6a) (hts _ m_d5ed7bed) hB hR hS hA (fun vv h7 H locs hq hEh7 hR hS => ?_) (fun XX ax h7 H locs hq hEh7 hex hR hS => ?_)
        · obtain ⟨r8, rfl, hw⟩ := hq
          have hw := hw hEh7
          have hE := hE.tr hEh7
          refine W.eq (g2 := F0 m 33 ls [.int r8]) rfl ?_
          refine lv_istore hx hb (xb_d D_M_fits 20 rfl) hl (by decide) rfl (fun ls hl => ?_)
          have hl : lv_has ls 11 [(5, .int r8), (0, .ref x0), (1, .int x1), (2, .int x2), (3, .int x3), (4, .int x4)] := hl
          refine lv_aload_n hx hb (xb_d D_M_fits 21 rfl) rfl (lv_at hl 1 rfl) ?_
          have hk1 : xb_k h7 x0 = 9 := hEh7.k hk1
          refine xb_call (D := D) (A := A) (σ := σ) (h := h7) (d := 3) (mc := 0) (ms := 0) (maxL := 2) (rest := []) (av := [.ref x0]) (fun T hT X => by obtain ⟨cb, r1, r2, r3⟩ := xb_recv (ci := 8) hR rfl hk1 (by decide); exact xt_invV X hx hown (hts _ m_0e978570) (hts _ m_40099f98) (hts _ m_a7dbfd07) (xt_sigOf (hts _ m_0af1ec6a)) nm_M_next (by rw [hT]; exact r1) r2 r3 (g := F0 m 36 ls [.ref x0]) rfl (argsL := []) (rest := []) rfl rfl (by rw [hb]; exact (xb_d D_M_fits 22 rfl))) (ok_M_next l hfl D A σ x0 h7 _ hw) (hml.trans hl.1.symm) (by rw [hb]; exact (xb_d D_M_fits 22 rfl)) (Nat.le_of_ble_eq_true rfl) (Nat.le_of_ble_eq_true rfl) (Nat.le_of_ble_eq_true rfl) (show k + 0 ≤ MC by omega) (show n + 0 ≤ MS by omega) (xt_w1 hB.1 m_0af1ec6a) (xt_cdOf hB.1 m_0af1ec6a) (hts _ m_d5ed7bed) hB hR hS hA (fun vv h9 H locs hq hEh9 hR hS => ?_) (fun XX ax h9 H locs hq hEh9 hex hR hS => ?_)
          · obtain ⟨r10, rfl, hw⟩ := hq
            have hw := hw hEh9
            have hE := hE.tr hEh9
            refine W.eq (g2 := F0 m 39 ls [.int r10]) rfl ?_
            refine lv_iconst (v := 1) hx hb (xb_d D_M_fits 23 rfl) (by decide) ?_
            refine lv_icmp_ne (tgt := 47) hx hb (xb_d D_M_fits 24 rfl) rfl (fun hc11 => ?_) (fun hc11 => ?_)
            · have hw := hw.1 hc11
              refine lv_iconst (v := 0) hx hb (xb_d D_M_fits 27 rfl) (by decide) ?_
              exact am_M_fits_L48 l hfl D A σ MC MS h0 Qr x0 x4 r8 0 h9 hw p e s m args below meth c hC H locs ls k n hE (lv_sub hl [1, 5, 0] rfl) hR hS (by omega) (by omega)
            · have hw := hw.2 hc11
              refine lv_iconst (v := 1) hx hb (xb_d D_M_fits 25 rfl) (by decide) ?_
              refine lv_goto (tgt := 48) hx hb (xb_d D_M_fits 26 rfl) rfl ?_
              exact am_M_fits_L48 l hfl D A σ MC MS h0 Qr x0 x4 r8 1 h9 hw p e s m args below meth c hC H locs ls k n hE (lv_sub hl [1, 5, 0] rfl) hR hS (by omega) (by omega)
          · exact False.elim hq
        · exact False.elim hq
    · have hw := hw.2 hc4
      refine lv_aload_n hx hb (xb_d D_M_fits 7 rfl) rfl (lv_at hl 0 rfl) ?_
      refine lv_iload hx hb (xb_d D_M_fits 8 rfl) (lv_at hl 4 rfl) ?_
      refine lv_iload_n hx hb (xb_d D_M_fits 9 rfl) rfl (lv_at hl 1 rfl) ?_
      refine lv_aload_n hx hb (xb_d D_M_fits 10 rfl) rfl (lv_at hl 0 rfl) ?_
      have hk1 : xb_k h2 x0 = 9 := hEh2.k hk1
      refine xb_call (D := D) (A := A) (σ := σ) (h := h2) (d := 4) (mc := 0) (ms := 0) (maxL := 5) (rest := [.int x1, .int x4, .ref x0]) (av := [.ref x0]) (fun T hT X => by obtain ⟨cb, r1, r2, r3⟩ := xb_recv (ci := 8) hR rfl hk1 (by decide); exact xt_invV X hx hown (hts _ m_e991293f) (hts _ m_385a74b3) (hts _ m_c9fbcd02) (xt_sigOf (hts _ m_1f53f210)) nm_M_count (by rw [hT]; exact r1) r2 r3 (g := F0 m 16 ls [.ref x0, .int x1, .int x4, .ref x0]) rfl (argsL := []) (rest := [.int x1, .int x4, .ref x0]) rfl rfl (by rw [hb]; exact (xb_d D_M_fits 11 rfl))) (ok_M_count l hfl D A σ x0 h2 _ hw) (hml.trans hl.1.symm) (by rw [hb]; exact (xb_d D_M_fits 11 rfl)) (Nat.le_of_ble_eq_true rfl) (Nat.le_of_ble_eq_true rfl) (Nat.le_of_ble_eq_true rfl) (show k + 0 ≤ MC by omega) (show n + 0 ≤ MS by omega) (xt_w1 hB.1 m_1f53f210) (xt_cdOf hB.1 m_1f53f210) (hts _ m_d5ed7bed) hB hR hS hA (fun vv h12 H locs hq hEh12 hR hS => ?_) (fun XX ax h12 H locs hq hEh12 hex hR hS => ?_)
      · obtain ⟨r13, rfl, hw⟩ := hq
        have hw := hw hEh12
        have hE := hE.tr hEh12
        refine W.eq (g2 := F0 m 19 ls [.long r13, .int x1, .int x4, .ref x0]) rfl ?_
        refine lv_l2i hx hb (xb_d D_M_fits 12 rfl) rfl ?_
        have hk1 : xb_k h12 x0 = 9 := hEh12.k hk1
        refine xb_call (D := D) (A := A) (σ := σ) (h := h12) (d := 9) (mc := 0) (ms := 0) (maxL := 5) (rest := []) (av := [.ref x0, .int x4, .int x1, .int (Int64.toInt32 r13)]) (fun T hT X => by obtain ⟨cb, r1, r2, r3⟩ := xb_recv (ci := 8) hR rfl hk1 (by decide); exact xt_invV X hx hown (hts _ m_71b2c3db) (hts _ m_1d48feed) (hts _ m_628c5dc3) (xt_sigOf (hts _ m_f3efd3e1)) nm_M_hasType (by rw [hT]; exact r1) r2 r3 (g := F0 m 20 ls [.int (Int64.toInt32 r13), .int x1, .int x4, .ref x0]) rfl (argsL := [.int x4, .int x1, .int (Int64.toInt32 r13)]) (rest := []) rfl rfl (by rw [hb]; exact (xb_d D_M_fits 13 rfl))) (ok_M_hasType l hfl D A σ x0 x4 x1 (Int64.toInt32 r13) h12 _ hw) (hml.trans hl.1.symm) (by rw [hb]; exact (xb_d D_M_fits 13 rfl)) (Nat.le_of_ble_eq_true rfl) (Nat.le_of_ble_eq_true rfl) (Nat.le_of_ble_eq_true rfl) (show k + 0 ≤ MC by omega) (show n + 0 ≤ MS by omega) (xt_w1 hB.1 m_f3efd3e1) (xt_cdOf hB.1 m_f3efd3e1) (hts _ m_d5ed7bed) hB hR hS hA (fun vv h14 H locs hq hEh14 hR hS => ?_) (fun XX ax h14 H locs hq hEh14 hex hR hS => ?_)
        · obtain ⟨r15, rfl, hw⟩ := hq
          have hw := hw hEh14
          have hE := hE.tr hEh14
          refine W.eq (g2 := F0 m 23 ls [.int r15]) rfl ?_
          exact xb_zret hx hb hr hlocks (show k ≤ MC by omega) (show n ≤ MS by omega) hw.1 hE hR hS (xb_d D_M_fits 14 rfl) hw.2
        · exact False.elim hq
      · exact False.elim hq
  · exact False.elim hq

