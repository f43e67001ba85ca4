theorem m_87de7cde : (.methodLink "StackHost$Machine" 319 y_Whole_trapOf : Cond) ∈ xt_tbl := xt_in (xt_t8 (List.mem_of_getElem? (i := 179) (by decide +kernel))) (by decide +kernel)
theorem m_8958e44d : (.static y_Whole_trapOf : Cond) ∈ xt_tbl := xt_in (xt_t8 (List.mem_of_getElem? (i := 180) (by decide +kernel))) (by decide +kernel)
theorem m_26bff918 : (.code y_Whole_trapOf b_Whole_trapOf 3 (some .int) : Cond) ∈ xt_tbl := xt_in (xt_t8 (List.mem_of_getElem? (i := 181) (by decide +kernel))) (by decide +kernel)
theorem m_58bf8737 : (.methodLink "StackHost$Machine" 323 y_Whole_reckonShort : Cond) ∈ xt_tbl := xt_in (xt_t8 (List.mem_of_getElem? (i := 182) (by decide +kernel))) (by decide +kernel)
theorem m_fef20738 : (.static y_Whole_reckonShort : Cond) ∈ xt_tbl := xt_in (xt_t8 (List.mem_of_getElem? (i := 183) (by decide +kernel))) (by decide +kernel)
theorem m_ccb58f61 : (.code y_Whole_reckonShort b_Whole_reckonShort 3 (some .int) : Cond) ∈ xt_tbl := xt_in (xt_t8 (List.mem_of_getElem? (i := 184) (by decide +kernel))) (by decide +kernel)
theorem m_8f5db99d : (.methodLink "StackHost$Machine" 156 y_Machine_fall : Cond) ∈ xt_tbl := xt_in (xt_t7 (List.mem_of_getElem? (i := 215) (by decide +kernel))) (by decide +kernel)
theorem m_0ddc8afe : (.instanceMethod y_Machine_fall : Cond) ∈ xt_tbl := xt_in (xt_t7 (List.mem_of_getElem? (i := 217) (by decide +kernel))) (by decide +kernel)
theorem m_f5561462 : (.selects "StackHost$Machine" y_Machine_fall y_Machine_fall : Cond) ∈ xt_tbl := xt_in (xt_v6 (q := (⟨"StackHost$Machine", "fall", "(I)V"⟩, 18)) (List.mem_of_getElem? (i := 7) (by decide +kernel))) (by decide +kernel)
theorem m_f0d4fd47 : (.code y_Machine_fall b_Machine_fall 3 none : Cond) ∈ xt_tbl := xt_in (xt_t7 (List.mem_of_getElem? (i := 218) (by decide +kernel))) (by decide +kernel)
theorem m_a6c2974f : (.constant "StackHost$Machine" 318 (-2147483648) : Cond) ∈ xt_tbl := xt_in (xt_t8 (List.mem_of_getElem? (i := 178) (by decide +kernel))) (by decide +kernel)
theorem m_f7f2804e : (.methodLink "StackHost$Machine" 315 y_Whole_countShort : Cond) ∈ xt_tbl := xt_in (xt_t8 (List.mem_of_getElem? (i := 167) (by decide +kernel))) (by decide +kernel)
theorem m_569fe569 : (.static y_Whole_countShort : Cond) ∈ xt_tbl := xt_in (xt_t8 (List.mem_of_getElem? (i := 168) (by decide +kernel))) (by decide +kernel)
theorem m_22b18125 : (.code y_Whole_countShort b_Whole_countShort 2 (some .int) : Cond) ∈ xt_tbl := xt_in (xt_t8 (List.mem_of_getElem? (i := 169) (by decide +kernel))) (by decide +kernel)
theorem nm_Whole_trapOf : xt_nm y_Whole_trapOf 3 := ⟨by decide +kernel, by decide +kernel⟩
theorem nm_Whole_reckonShort : xt_nm y_Whole_reckonShort 3 := ⟨by decide +kernel, by decide +kernel⟩
theorem nm_Machine_fall : xt_nm y_Machine_fall 1 := ⟨by decide +kernel, by decide +kernel⟩
theorem nm_Whole_countShort : xt_nm y_Whole_countShort 2 := ⟨by decide +kernel, by decide +kernel⟩
set_option maxRecDepth 100000 in
def T_Machine_reckonShort : List (Nat × Instr × Nat) := [(0, .aload_n 0, 1), (1, .getfield 35, 3), (4, .aload_n 0, 1), (5, .getfield 53, 3), (8, .iconst 1, 1), (9, .isub, 1), (10, .laload, 1), (11, .l2i, 1), (12, .istore_n 2, 1), (13, .iload_n 1, 1), (14, .bipush 105, 2), (16, .if_icmp .gt 24, 3), (19, .aload_n 0, 1), (20, .getfield 35, 3), (23, .aload_n 0, 1), (24, .getfield 53, 3), (27, .iconst 1, 1), (28, .isub, 1), (29, .iload_n 1, 1), (30, .bipush 103, 2), (32, .isub, 1), (33, .iload_n 2, 1), (34, .invokestatic 315, 3), (37, .i2l, 1), (38, .lastore, 1), (39, .return_, 1), (40, .aload_n 0, 1), (41, .getfield 35, 3), (44, .aload_n 0, 1), (45, .getfield 53, 3), (48, .iconst 2, 1), (49, .isub, 1), (50, .laload, 1), (51, .l2i, 1), (52, .istore_n 3, 1), (53, .iload_n 1, 1), (54, .bipush 106, 2), (56, .isub, 1), (57, .istore 4, 2), (59, .iload 4, 2), (61, .iload_n 2, 1), (62, .ifCond .ne 7, 3), (65, .iconst 1, 1), (66, .goto 4, 3), (69, .iconst 0, 1), (70, .iload_n 3, 1), (71, .ldc_w 318, 3), (74, .if_icmp .ne 12, 3), (77, .iload_n 2, 1), (78, .iconst (-1), 1), (79, .if_icmp .ne 7, 3), (82, .iconst 1, 1), (83, .goto 4, 3), (86, .iconst 0, 1), (87, .invokestatic 319, 3), (90, .istore 5, 2), (92, .iload 5, 2), (94, .ifCond .eq 10, 3), (97, .aload_n 0, 1), (98, .iload 5, 2), (100, .invokevirtual 156, 3), (103, .return_, 1), (104, .aload_n 0, 1), (105, .dup, 1), (106, .getfield 53, 3), (109, .iconst 1, 1), (110, .isub, 1), (111, .putfield 53, 3), (114, .aload_n 0, 1), (115, .getfield 35, 3), (118, .aload_n 0, 1), (119, .getfield 53, 3), (122, .iconst 1, 1), (123, .isub, 1), (124, .iload 4, 2), (126, .iload_n 3, 1), (127, .iload_n 2, 1), (128, .invokestatic 323, 3), (131, .i2l, 1), (132, .ldc2_w 74, 3), (135, .land, 1), (136, .lastore, 1), (137, .return_, 1)]
theorem D_Machine_reckonShort : ∀ q ∈ T_Machine_reckonShort, decode b_Machine_reckonShort q.1 = .ok (q.2.1, q.2.2) := by decide +kernel
def w_Machine_reckonShort_L87 (Qr : xb_H → Prop) (x0 : Nat) (x2 : Int32) (x3 : Int32) (x4 : Int32) (y0 : Int32) (y1 : Int32) (y2 : Int32) (h : xb_H) : Prop :=
    w_Whole_trapOf y2 y1 y0 h (fun (r2 : Int32) (h1 : xb_H) => xb_ext h h1 → ((r2 = (0 : Int32) → xb_k h1 x0 = 8 ∧ ∀ h5 : xb_H, h5 = xb_I h1 x0 10 ((xb_i h1 x0 10) - 1) → ∃ b6 : Nat, (xb_r h5 x0 9) = some b6 ∧ w_Whole_reckonShort x4 x3 x2 h5 (fun (r8 : Int32) (h7 : xb_H) => xb_ext h5 h7 → xb_k h7 b6 = 103 ∧ vp_in ((xb_i h5 x0 10) - 1) (xb_n h7 b6) ∧ ∀ h11 : xb_H, h11 = xb_L h7 b6 (Int32.toNatClampNeg ((xb_i h5 x0 10) - 1)) ((Int32.toInt64 r8) &&& 4294967295) → Qr h11)) ∧ (¬ r2 = (0 : Int32) → xb_k h1 x0 = 8 ∧ w_Machine_fall x0 r2 h1 (fun (h13 : xb_H) => xb_ext h1 h13 → Qr h13))))

def w_Machine_reckonShort_L86 (Qr : xb_H → Prop) (x0 : Nat) (x2 : Int32) (x3 : Int32) (x4 : Int32) (y0 : Int32) (y1 : Int32) (h : xb_H) : Prop :=
    w_Machine_reckonShort_L87 Qr x0 x2 x3 x4 0 y0 y1 h

def w_Machine_reckonShort_L70 (Qr : xb_H → Prop) (x0 : Nat) (x2 : Int32) (x3 : Int32) (x4 : Int32) (y0 : Int32) (y1 : Int32) (h : xb_H) : Prop :=
    ((¬ x3 = ((-2147483648) : Int32) → w_Machine_reckonShort_L86 Qr x0 x2 x3 x4 y0 y1 h) ∧ (x3 = ((-2147483648) : Int32) → ((¬ x2 = ((-1) : Int32) → w_Machine_reckonShort_L86 Qr x0 x2 x3 x4 y0 y1 h) ∧ (x2 = ((-1) : Int32) → w_Machine_reckonShort_L87 Qr x0 x2 x3 x4 1 y0 y1 h))))

def w_Machine_reckonShort (x0 : Nat) (x1 : Int32) (h : xb_H) (Qr : xb_H → Prop) : Prop :=
    xb_k h x0 = 8 ∧ ∃ b2 : Nat, (xb_r h x0 9) = some b2 ∧ xb_k h b2 = 103 ∧ vp_in ((xb_i h x0 10) - 1) (xb_n h b2) ∧ ∀ v5 : Int32, v5 = (Int64.toInt32 (xb_l h b2 (Int32.toNatClampNeg ((xb_i h x0 10) - 1)))) → (((105 : Int32) < x1 → ∃ b7 : Nat, (xb_r h x0 9) = some b7 ∧ xb_k h b7 = 103 ∧ vp_in ((xb_i h x0 10) - 2) (xb_n h b7) ∧ ∀ v10 : Int32, v10 = (Int64.toInt32 (xb_l h b7 (Int32.toNatClampNeg ((xb_i h x0 10) - 2)))) → ∀ v11 : Int32, v11 = (x1 - 106) → ((¬ v5 = (0 : Int32) → w_Machine_reckonShort_L70 Qr x0 v5 v10 v11 0 v11 h) ∧ (v5 = (0 : Int32) → w_Machine_reckonShort_L70 Qr x0 v5 v10 v11 1 v11 h))) ∧ (¬ (105 : Int32) < x1 → ∃ b13 : Nat, (xb_r h x0 9) = some b13 ∧ w_Whole_countShort (x1 - 103) v5 h (fun (r15 : Int32) (h14 : xb_H) => xb_ext h h14 → xb_k h14 b13 = 103 ∧ vp_in ((xb_i h x0 10) - 1) (xb_n h14 b13) ∧ ∀ h18 : xb_H, h18 = xb_L h14 b13 (Int32.toNatClampNeg ((xb_i h x0 10) - 1)) (Int32.toInt64 r15) → Qr h18)))

set_option maxHeartbeats 4000000 in
set_option maxRecDepth 100000 in
theorem am_Machine_reckonShort_L87 (l : Launch) (hfl : l.flags = pinnedFlags ++ [noTraceFlag]) (D : va_G) (A : Nat → Prop) (σ MC MS : Nat) (h0 : xb_H) (Qr : xb_H → Prop) (x0 : Nat) (x2 : Int32) (x3 : Int32) (x4 : Int32) (y0 : Int32) (y1 : Int32) (y2 : Int32) (h : xb_H) (hw : w_Machine_reckonShort_L87 Qr x0 x2 x3 x4 y0 y1 y2 h) : xb_am l D A σ 4 MC MS h0 (fun v h => v = none ∧ Qr h) (fun _ _ => False) y_Machine_reckonShort.cls y_Machine_reckonShort.name b_Machine_reckonShort 6 ([] : List ExceptionTableEntry) none 87 [(0, .ref x0), (2, .int x2), (3, .int x3), (4, .int x4)] [.int y0, .int y1, .int y2] h 0 0 := by
  unfold w_Machine_reckonShort_L87 at hw
  intro p e s m args below meth c hC H locs ls k n hE hl hR hS hk hn
  obtain ⟨hx, hb, hown, hlocks, htab, hml, hr, hB, hA, hnm⟩ := id hC
  have hts := hB.1.1.at args
  refine xb_call (D := D) (A := A) (σ := σ) (h := h) (d := 2) (mc := 0) (ms := 0) (maxL := 3) (rest := []) (av := [.int y2, .int y1, .int y0]) (fun T hT X => xt_invS X hx hown (hts _ m_87de7cde) (hts _ m_8958e44d) (hts _ m_912e4ef6) (xt_sgS (hts _ m_26bff918)).1 (xt_sgS (hts _ m_26bff918)).2 nm_Whole_trapOf (g := F0 m 87 ls [.int y0, .int y1, .int y2]) rfl (argsL := [.int y2, .int y1, .int y0]) (rest := []) rfl rfl (by rw [hb]; exact (xb_d D_Machine_reckonShort 54 rfl))) (ok_Whole_trapOf l hfl D A σ y2 y1 y0 h _ hw) (hml.trans hl.1.symm) (by rw [hb]; exact (xb_d D_Machine_reckonShort 54 rfl)) (Nat.le_of_ble_eq_true rfl) (Nat.le_of_ble_eq_true rfl) (Nat.le_of_ble_eq_true rfl) (show k + 0 ≤ MC by omega) (show n + 0 ≤ MS by omega) (xt_w1 hB.1 m_26bff918) (xt_cdOf hB.1 m_26bff918) (hts _ m_912e4ef6) hB hR hS hA (fun vv h1 H locs hq hEh1 hR hS => ?_) (fun XX ax h1 H locs hq hEh1 hex hR hS => ?_)
  · obtain ⟨r2, rfl, hw⟩ := hq
    have hw := hw hEh1
    have hE := hE.tr hEh1
    refine W.eq (g2 := F0 m 90 ls [.int r2]) rfl ?_
    refine lv_istore hx hb (xb_d D_Machine_reckonShort 55 rfl) hl (by decide) rfl (fun ls hl => ?_)
    have hl : lv_has ls 6 [(5, .int r2), (0, .ref x0), (2, .int x2), (3, .int x3), (4, .int x4)] := hl
    refine lv_iload hx hb (xb_d D_Machine_reckonShort 56 rfl) (lv_at hl 0 rfl) ?_
    refine lv_if_eq (tgt := 104) hx hb (xb_d D_Machine_reckonShort 57 rfl) rfl (fun hc3 => ?_) (fun hc3 => ?_)
    · have hw := hw.1 hc3
      refine lv_aload_n hx hb (xb_d D_Machine_reckonShort 62 rfl) rfl (lv_at hl 1 rfl) ?_
      refine lv_dup hx hb (xb_d D_Machine_reckonShort 63 rfl) rfl ?_
      obtain ⟨hk4, hw⟩ := hw
      refine xb_getI (C := R_Machine) (T := F_Machine) (N := 18) hx hb 7 10 hts fin_Machine hown hR hk4 (by decide) rfl (by decide) rfl (hts _ m_79cf62f6) (fun _ h9 => h9) (xb_d D_Machine_reckonShort 64 rfl) ?_
      refine lv_iconst (v := 1) hx hb (xb_d D_Machine_reckonShort 65 rfl) (by decide) ?_
      refine lv_isub hx hb (xb_d D_Machine_reckonShort 66 rfl) ?_
      refine xb_putI (C := R_Machine) (T := F_Machine) (N := 18) (ty := .int) (x := ((xb_i h1 x0 10) - 1)) hx hb 7 10 hts fin_Machine t_Machine t_Machine_ok n_Machine hown hR hS hk4 (by decide) rfl (by decide) rfl (hts _ m_79cf62f6) (fun _ h9 => h9) rfl (by decide +kernel) rfl rfl (xb_d D_Machine_reckonShort 67 rfl) (fun H locs hR hS => ?_)
      obtain ⟨h5, eh5⟩ : ∃ x : xb_H, x = xb_I h1 x0 10 ((xb_i h1 x0 10) - 1) := ⟨_, rfl⟩
      rw [← eh5] at hR
      have hw := hw h5 eh5
      have hE : xb_ext h0 h5 := by rw [eh5]; exact hE
      refine lv_aload_n hx hb (xb_d D_Machine_reckonShort 68 rfl) rfl (lv_at hl 1 rfl) ?_
      have hk4 : xb_k h5 x0 = 8 := by rw [eh5]; exact hk4
      refine xb_getP (C := R_Machine) (T := F_Machine) (N := 18) hx hb 7 9 hts fin_Machine hown hR hk4 (by decide) rfl (by decide) rfl (hts _ m_6904195b) (fun _ h9 => h9) (xb_d D_Machine_reckonShort 69 rfl) ?_
      obtain ⟨b6, eb6, hw⟩ := hw
      refine xb_some eb6 ?_
      refine lv_aload_n hx hb (xb_d D_Machine_reckonShort 70 rfl) rfl (lv_at hl 1 rfl) ?_
      refine xb_getI (C := R_Machine) (T := F_Machine) (N := 18) hx hb 7 10 hts fin_Machine hown hR hk4 (by decide) rfl (by decide) rfl (hts _ m_79cf62f6) (fun _ h9 => h9) (xb_d D_Machine_reckonShort 71 rfl) ?_
      refine lv_iconst (v := 1) hx hb (xb_d D_Machine_reckonShort 72 rfl) (by decide) ?_
      refine lv_isub hx hb (xb_d D_Machine_reckonShort 73 rfl) ?_
      refine lv_iload hx hb (xb_d D_Machine_reckonShort 74 rfl) (lv_at hl 4 rfl) ?_
      refine lv_iload_n hx hb (xb_d D_Machine_reckonShort 75 rfl) rfl (lv_at hl 3 rfl) ?_
      refine lv_iload_n hx hb (xb_d D_Machine_reckonShort 76 rfl) rfl (lv_at hl 2 rfl) ?_
      refine xb_call (D := D) (A := A) (σ := σ) (h := h5) (d := 3) (mc := 0) (ms := 0) (maxL := 3) (rest := [.int ((xb_i h5 x0 10) - 1), .ref b6]) (av := [.int x4, .int x3, .int x2]) (fun T hT X => xt_invS X hx hown (hts _ m_58bf8737) (hts _ m_fef20738) (hts _ m_912e4ef6) (xt_sgS (hts _ m_ccb58f61)).1 (xt_sgS (hts _ m_ccb58f61)).2 nm_Whole_reckonShort (g := F0 m 128 ls [.int x2, .int x3, .int x4, .int ((xb_i h5 x0 10) - 1), .ref b6]) rfl (argsL := [.int x4, .int x3, .int x2]) (rest := [.int ((xb_i h5 x0 10) - 1), .ref b6]) rfl rfl (by rw [hb]; exact (xb_d D_Machine_reckonShort 77 rfl))) (ok_Whole_reckonShort l hfl D A σ x4 x3 x2 h5 _ hw) (hml.trans hl.1.symm) (by rw [hb]; exact (xb_d D_Machine_reckonShort 77 rfl)) (Nat.le_of_ble_eq_true rfl) (Nat.le_of_ble_eq_true rfl) (Nat.le_of_ble_eq_true rfl) (show k + 0 ≤ MC by omega) (show n + 0 ≤ MS by omega) (xt_w1 hB.1 m_ccb58f61) (xt_cdOf hB.1 m_ccb58f61) (hts _ m_912e4ef6) hB hR hS hA (fun vv h7 H locs hq hEh7 hR hS => ?_) (fun XX ax h7 H locs hq hEh7 hex hR hS => ?_)
      · obtain ⟨r8, rfl, hw⟩ := hq
        have hw := hw hEh7
        have hE := hE.tr hEh7
        refine W.eq (g2 := F0 m 131 ls [.int r8, .int ((xb_i h5 x0 10) - 1), .ref b6]) rfl ?_
        refine lv_i2l hx hb (xb_d D_Machine_reckonShort 78 rfl) rfl ?_
        refine lv_ldc2 (v := 4294967295) hx hb hown (hts _ m_2b0551dd) (xb_d D_Machine_reckonShort 79 rfl) ?_
        refine lv_land hx hb (xb_d D_Machine_reckonShort 80 rfl) ?_
        obtain ⟨hk9, hw⟩ := hw
        obtain ⟨hi10, hw⟩ := hw
        refine xb_last hx hb hR hS hk9 hi10 (xb_d D_Machine_reckonShort 81 rfl) (fun H locs hR hS => ?_)
        obtain ⟨h11, eh11⟩ : ∃ x : xb_H, x = xb_L h7 b6 (Int32.toNatClampNeg ((xb_i h5 x0 10) - 1)) ((Int32.toInt64 r8) &&& 4294967295) := ⟨_, rfl⟩
        rw [← eh11] at hR
        have hw := hw h11 eh11
        have hE : xb_ext h0 h11 := by rw [eh11]; exact hE
        exact xb_vret hx hb hr hlocks (show k ≤ MC by omega) (show n ≤ MS by omega) hE hR hS (xb_d D_Machine_reckonShort 82 rfl) hw
      · exact False.elim hq
    · have hw := hw.2 hc3
      refine lv_aload_n hx hb (xb_d D_Machine_reckonShort 58 rfl) rfl (lv_at hl 1 rfl) ?_
      refine lv_iload hx hb (xb_d D_Machine_reckonShort 59 rfl) (lv_at hl 0 rfl) ?_
      obtain ⟨hk12, hw⟩ := hw
      refine xb_call (D := D) (A := A) (σ := σ) (h := h1) (d := 2) (mc := 0) (ms := 0) (maxL := 3) (rest := []) (av := [.ref x0, .int r2]) (fun T hT X => by obtain ⟨cb, r1, r2, r3⟩ := xb_recv (ci := 7) hR rfl hk12 (by decide); exact xt_invV X hx hown (hts _ m_8f5db99d) (hts _ m_0ddc8afe) (hts _ m_f5561462) (xt_sigOf (hts _ m_f0d4fd47)) nm_Machine_fall (by rw [hT]; exact r1) r2 r3 (g := F0 m 100 ls [.int r2, .ref x0]) rfl (argsL := [.int r2]) (rest := []) rfl rfl (by rw [hb]; exact (xb_d D_Machine_reckonShort 60 rfl))) (ok_Machine_fall l hfl D A σ x0 r2 h1 _ hw) (hml.trans hl.1.symm) (by rw [hb]; exact (xb_d D_Machine_reckonShort 60 rfl)) (Nat.le_of_ble_eq_true rfl) (Nat.le_of_ble_eq_true rfl) (Nat.le_of_ble_eq_true rfl) (show k + 0 ≤ MC by omega) (show n + 0 ≤ MS by omega) (xt_w1 hB.1 m_f0d4fd47) (xt_cdOf hB.1 m_f0d4fd47) (hts _ m_73451f9b) hB hR hS hA (fun vv h13 H locs hq hEh13 hR hS => ?_) (fun XX ax h13 H locs hq hEh13 hex hR hS => ?_)
      · obtain ⟨rfl, hw⟩ := hq
        have hw := hw hEh13
        have hE := hE.tr hEh13
        refine W.eq (g2 := F0 m 103 ls []) rfl ?_
        exact xb_vret hx hb hr hlocks (show k ≤ MC by omega) (show n ≤ MS by omega) hE hR hS (xb_d D_Machine_reckonShort 61 rfl) hw
      · exact False.elim hq
  · exact False.elim hq

set_option maxHeartbeats 4000000 in
set_option maxRecDepth 100000 in
theorem am_Machine_reckonShort_L86 (l : Launch) (hfl : l.flags = pinnedFlags ++ [noTraceFlag]) (D : va_G) (A : Nat → Prop) (σ MC MS : Nat) (h0 : xb_H) (Qr : xb_H → Prop) (x0 : Nat) (x2 : Int32) (x3 : Int32) (x4 : Int32) (y0 : Int32) (y1 : Int32) (h : xb_H) (hw : w_Machine_reckonShort_L86 Qr x0 x2 x3 x4 y0 y1 h) : xb_am l D A σ 4 MC MS h0 (fun v h => v = none ∧ Qr h) (fun _ _ => False) y_Machine_reckonShort.cls y_Machine_reckonShort.name b_Machine_reckonShort 6 ([] : List ExceptionTableEntry) none 86 [(0, .ref x0), (2, .int x2), (3, .int x3), (4, .int x4)] [.int y0, .int y1] h 0 0 := by
  unfold w_Machine_reckonShort_L86 at hw
  intro p e s m args below meth c hC H locs ls k n hE hl hR hS hk hn
  obtain ⟨hx, hb, hown, hlocks, htab, hml, hr, hB, hA, hnm⟩ := id hC
  have hts := hB.1.1.at args
  refine lv_iconst (v := 0) hx hb (xb_d D_Machine_reckonShort 53 rfl) (by decide) ?_
  exact am_Machine_reckonShort_L87 l hfl D A σ MC MS h0 Qr x0 x2 x3 x4 0 y0 y1 h hw p e s m args below meth c hC H locs ls k n hE (lv_sub hl [0, 1, 2, 3] rfl) hR hS (by omega) (by omega)

set_option maxHeartbeats 4000000 in
set_option maxRecDepth 100000 in
theorem am_Machine_reckonShort_L70 (l : Launch) (hfl : l.flags = pinnedFlags ++ [noTraceFlag]) (D : va_G) (A : Nat → Prop) (σ MC MS : Nat) (h0 : xb_H) (Qr : xb_H → Prop) (x0 : Nat) (x2 : Int32) (x3 : Int32) (x4 : Int32) (y0 : Int32) (y1 : Int32) (h : xb_H) (hw : w_Machine_reckonShort_L70 Qr x0 x2 x3 x4 y0 y1 h) : xb_am l D A σ 4 MC MS h0 (fun v h => v = none ∧ Qr h) (fun _ _ => False) y_Machine_reckonShort.cls y_Machine_reckonShort.name b_Machine_reckonShort 6 ([] : List ExceptionTableEntry) none 70 [(0, .ref x0), (2, .int x2), (3, .int x3), (4, .int x4)] [.int y0, .int y1] h 0 0 := by
  unfold w_Machine_reckonShort_L70 at hw
  intro p e s m args below meth c hC H locs ls k n hE hl hR hS hk hn
  obtain ⟨hx, hb, hown, hlocks, htab, hml, hr, hB, hA, hnm⟩ := id hC
  have hts := hB.1.1.at args
  refine lv_iload_n hx hb (xb_d D_Machine_reckonShort 45 rfl) rfl (lv_at hl 2 rfl) ?_
  refine lv_ldcw (v := (-2147483648)) hx hb hown (hts _ m_a6c2974f) (xb_d D_Machine_reckonShort 46 rfl) ?_
  refine lv_icmp_ne (tgt := 86) hx hb (xb_d D_Machine_reckonShort 47 rfl) rfl (fun hc1 => ?_) (fun hc1 => ?_)
  · have hw := hw.1 hc1
    exact am_Machine_reckonShort_L86 l hfl D A σ MC MS h0 Qr x0 x2 x3 x4 y0 y1 h hw p e s m args below meth c hC H locs ls k n hE (lv_sub hl [0, 1, 2, 3] rfl) hR hS (by omega) (by omega)
  · have hw := hw.2 hc1
    refine lv_iload_n hx hb (xb_d D_Machine_reckonShort 48 rfl) rfl (lv_at hl 1 rfl) ?_
    refine lv_iconst (v := (-1)) hx hb (xb_d D_Machine_reckonShort 49 rfl) (by decide) ?_
    refine lv_icmp_ne (tgt := 86) hx hb (xb_d D_Machine_reckonShort 50 rfl) rfl (fun hc2 => ?_) (fun hc2 => ?_)
    · have hw := hw.1 hc2
      exact am_Machine_reckonShort_L86 l hfl D A σ MC MS h0 Qr x0 x2 x3 x4 y0 y1 h hw p e s m args below meth c hC H locs ls k n hE (lv_sub hl [0, 1, 2, 3] rfl) hR hS (by omega) (by omega)
    · have hw := hw.2 hc2
      refine lv_iconst (v := 1) hx hb (xb_d D_Machine_reckonShort 51 rfl) (by decide) ?_
      refine lv_goto (tgt := 87) hx hb (xb_d D_Machine_reckonShort 52 rfl) rfl ?_
      exact am_Machine_reckonShort_L87 l hfl D A σ MC MS h0 Qr x0 x2 x3 x4 1 y0 y1 h hw p e s m args below meth c hC H locs ls k n hE (lv_sub hl [0, 1, 2, 3] rfl) hR hS (by omega) (by omega)

set_option maxHeartbeats 4000000 in
set_option maxRecDepth 100000 in
theorem ok_Machine_reckonShort (l : Launch) (hfl : l.flags = pinnedFlags ++ [noTraceFlag]) (D : va_G) (A : Nat → Prop) (σ : Nat) (x0 : Nat) (x1 : Int32) (h : xb_H) (Qr : xb_H → Prop) (hw : w_Machine_reckonShort x0 x1 h Qr) : xt_Met l y_Machine_reckonShort [.code y_Machine_reckonShort b_Machine_reckonShort 6 none] (xb_rm 4 0 0) (xb_Pc D A σ h [.ref x0, .int x1]) (xb_Qc D A h (fun v h => v = none ∧ Qr h) (fun _ _ => False)) 0 0 A := by
  refine xb_ofAm (cc := b_Machine_reckonShort) (by decide) (Nat.le_of_ble_eq_true rfl) ?_
  unfold w_Machine_reckonShort at hw
  show xb_am l D A σ 4 0 0 h (fun v h => v = none ∧ Qr h) (fun _ _ => False) y_Machine_reckonShort.cls y_Machine_reckonShort.name b_Machine_reckonShort 6 ([] : List ExceptionTableEntry) none 0 [(0, .ref x0), (1, .int x1)] [] h 0 0
  obtain ⟨MC, hMC⟩ : ∃ x, x = 0 := ⟨_, rfl⟩
  obtain ⟨MS, hMS⟩ : ∃ x, x = 0 := ⟨_, rfl⟩
  rw [show xb_am l D A σ 4 0 0 = xb_am l D A σ 4 MC MS by rw [hMC, hMS]]
  obtain ⟨h0, hh0⟩ : ∃ x, x = h := ⟨_, rfl⟩
  rw [show xb_am l D A σ 4 MC MS h = xb_am l D A σ 4 MC MS h0 by rw [hh0]]
  intro p e s m args below meth c hC H locs ls k n hE hl hR hS hk hn
  obtain ⟨hx, hb, hown, hlocks, htab, hml, hr, hB, hA, hnm⟩ := id hC
  have hts := hB.1.1.at args
  refine lv_aload_n hx hb (xb_d D_Machine_reckonShort 0 rfl) rfl (lv_at hl 0 rfl) ?_
  obtain ⟨hk1, hw⟩ := hw
  refine xb_getP (C := R_Machine) (T := F_Machine) (N := 18) hx hb 7 9 hts fin_Machine hown hR hk1 (by decide) rfl (by decide) rfl (hts _ m_6904195b) (fun _ h9 => h9) (xb_d D_Machine_reckonShort 1 rfl) ?_
  obtain ⟨b2, eb2, hw⟩ := hw
  refine xb_some eb2 ?_
  refine lv_aload_n hx hb (xb_d D_Machine_reckonShort 2 rfl) rfl (lv_at hl 0 rfl) ?_
  refine xb_getI (C := R_Machine) (T := F_Machine) (N := 18) hx hb 7 10 hts fin_Machine hown hR hk1 (by decide) rfl (by decide) rfl (hts _ m_79cf62f6) (fun _ h9 => h9) (xb_d D_Machine_reckonShort 3 rfl) ?_
  refine lv_iconst (v := 1) hx hb (xb_d D_Machine_reckonShort 4 rfl) (by decide) ?_
  refine lv_isub hx hb (xb_d D_Machine_reckonShort 5 rfl) ?_
  obtain ⟨hk4, hw⟩ := hw
  obtain ⟨hi3, hw⟩ := hw
  refine xb_lald hx hb hR hk4 hi3 (xb_d D_Machine_reckonShort 6 rfl) ?_
  refine lv_l2i hx hb (xb_d D_Machine_reckonShort 7 rfl) rfl ?_
  obtain ⟨v5, ev5⟩ : ∃ x : Int32, x = (Int64.toInt32 (xb_l h b2 (Int32.toNatClampNeg ((xb_i h x0 10) - 1)))) := ⟨_, rfl⟩
  have hw := hw v5 ev5
  refine xt_numi (y := v5) ev5.symm ?_
  refine lv_istore_n hx hb (xb_d D_Machine_reckonShort 8 rfl) rfl hl (by decide) rfl (fun ls hl => ?_)
  have hl : lv_has ls 6 [(2, .int v5), (0, .ref x0), (1, .int x1)] := hl
  refine lv_iload_n hx hb (xb_d D_Machine_reckonShort 9 rfl) rfl (lv_at hl 2 rfl) ?_
  refine lv_bipush (v := 105) hx hb (xb_d D_Machine_reckonShort 10 rfl) (by decide) ?_
  refine lv_icmp_gt (tgt := 40) hx hb (xb_d D_Machine_reckonShort 11 rfl) rfl (fun hc6 => ?_) (fun hc6 => ?_)
  · have hw := hw.1 hc6
    refine lv_aload_n hx hb (xb_d D_Machine_reckonShort 26 rfl) rfl (lv_at hl 1 rfl) ?_
    refine xb_getP (C := R_Machine) (T := F_Machine) (N := 18) hx hb 7 9 hts fin_Machine hown hR hk1 (by decide) rfl (by decide) rfl (hts _ m_6904195b) (fun _ h9 => h9) (xb_d D_Machine_reckonShort 27 rfl) ?_
    obtain ⟨b7, eb7, hw⟩ := hw
    refine xb_some eb7 ?_
    refine lv_aload_n hx hb (xb_d D_Machine_reckonShort 28 rfl) rfl (lv_at hl 1 rfl) ?_
    refine xb_getI (C := R_Machine) (T := F_Machine) (N := 18) hx hb 7 10 hts fin_Machine hown hR hk1 (by decide) rfl (by decide) rfl (hts _ m_79cf62f6) (fun _ h9 => h9) (xb_d D_Machine_reckonShort 29 rfl) ?_
    refine lv_iconst (v := 2) hx hb (xb_d D_Machine_reckonShort 30 rfl) (by decide) ?_
    refine lv_isub hx hb (xb_d D_Machine_reckonShort 31 rfl) ?_
    obtain ⟨hk9, hw⟩ := hw
    obtain ⟨hi8, hw⟩ := hw
    refine xb_lald hx hb hR hk9 hi8 (xb_d D_Machine_reckonShort 32 rfl) ?_
    refine lv_l2i hx hb (xb_d D_Machine_reckonShort 33 rfl) rfl ?_
    obtain ⟨v10, ev10⟩ : ∃ x : Int32, x = (Int64.toInt32 (xb_l h b7 (Int32.toNatClampNeg ((xb_i h x0 10) - 2)))) := ⟨_, rfl⟩
    have hw := hw v10 ev10
    refine xt_numi (y := v10) ev10.symm ?_
    refine lv_istore_n hx hb (xb_d D_Machine_reckonShort 34 rfl) rfl hl (by decide) rfl (fun ls hl => ?_)
    have hl : lv_has ls 6 [(3, .int v10), (2, .int v5), (0, .ref x0), (1, .int x1)] := hl
    refine lv_iload_n hx hb (xb_d D_Machine_reckonShort 35 rfl) rfl (lv_at hl 3 rfl) ?_
    refine lv_bipush (v := 106) hx hb (xb_d D_Machine_reckonShort 36 rfl) (by decide) ?_
    refine lv_isub hx hb (xb_d D_Machine_reckonShort 37 rfl) ?_
    obtain ⟨v11, ev11⟩ : ∃ x : Int32, x = (x1 - 106) := ⟨_, rfl⟩
    have hw := hw v11 ev11
    refine xt_numi (y := v11) ev11.symm ?_
    refine lv_istore hx hb (xb_d D_Machine_reckonShort 38 rfl) hl (by decide) rfl (fun ls hl => ?_)
    have hl : lv_has ls 6 [(4, .int v11), (3, .int v10), (2, .int v5), (0, .ref x0), (1, .int x1)] := hl
    refine lv_iload hx hb (xb_d D_Machine_reckonShort 39 rfl) (lv_at hl 0 rfl) ?_
    refine lv_iload_n hx hb (xb_d D_Machine_reckonShort 40 rfl) rfl (lv_at hl 2 rfl) ?_
    refine lv_if_ne (tgt := 69) hx hb (xb_d D_Machine_reckonShort 41 rfl) rfl (fun hc12 => ?_) (fun hc12 => ?_)
    · have hw := hw.1 hc12
      refine lv_iconst (v := 0) hx hb (xb_d D_Machine_reckonShort 44 rfl) (by decide) ?_
      exact am_Machine_reckonShort_L70 l hfl D A σ MC MS h0 Qr x0 v5 v10 v11 0 v11 h hw p e s m args below meth c hC H locs ls k n hE (lv_sub hl [3, 2, 1, 0] rfl) hR hS (by omega) (by omega)
    · have hw := hw.2 hc12
      refine lv_iconst (v := 1) hx hb (xb_d D_Machine_reckonShort 42 rfl) (by decide) ?_
      refine lv_goto (tgt := 70) hx hb (xb_d D_Machine_reckonShort 43 rfl) rfl ?_
      exact am_Machine_reckonShort_L70 l hfl D A σ MC MS h0 Qr x0 v5 v10 v11 1 v11 h hw p e s m args below meth c hC H locs ls k n hE (lv_sub hl [3, 2, 1, 0] rfl) hR hS (by omega) (by omega)
  · have hw := hw.2 hc6
    refine lv_aload_n hx hb (xb_d D_Machine_reckonShort 12 rfl) rfl (lv_at hl 1 rfl) ?_
    refine xb_getP (C := R_Machine) (T := F_Machine) (N := 18) hx hb 7 9 hts fin_Machine hown hR hk1 (by decide) rfl (by decide) rfl (hts _ m_6904195b) (fun _ h9 => h9) (xb_d D_Machine_reckonShort 13 rfl) ?_
    obtain ⟨b13, eb13, hw⟩ := hw
    refine xb_some eb13 ?_
    refine lv_aload_n hx hb (xb_d D_Machine_reckonShort 14 rfl) rfl (lv_at hl 1 rfl) ?_
    refine xb_getI (C := R_Machine) (T := F_Machine) (N := 18) hx hb 7 10 hts fin_Machine hown hR hk1 (by decide) rfl (by decide) rfl (hts _ m_79cf62f6) (fun _ h9 => h9) (xb_d D_Machine_reckonShort 15 rfl) ?_
    refine lv_iconst (v := 1) hx hb (xb_d D_Machine_reckonShort 16 rfl) (by decide) ?_
    refine lv_isub hx hb (xb_d D_Machine_reckonShort 17 rfl) ?_
    refine lv_iload_n hx hb (xb_d D_Machine_reckonShort 18 rfl) rfl (lv_at hl 2 rfl) ?_
    refine lv_bipush (v := 103) hx hb (xb_d D_Machine_reckonShort 19 rfl) (by decide) ?_
    refine lv_isub hx hb (xb_d D_Machine_reckonShort 20 rfl) ?_
    refine lv_iload_n hx hb (xb_d D_Machine_reckonShort 21 rfl) rfl (lv_at hl 0 rfl) ?_
    refine xb_call (D := D) (A := A) (σ := σ) (h := h) (d := 3) (mc := 0) (ms := 0) (maxL := 2) (rest := [.int ((xb_i h x0 10) - 1), .ref b13]) (av := [.int (x1 - 103), .int v5]) (fun T hT X => xt_invS X hx hown (hts _ m_f7f2804e) (hts _ m_569fe569) (hts _ m_912e4ef6) (xt_sgS (hts _ m_22b18125)).1 (xt_sgS (hts _ m_22b18125)).2 nm_Whole_countShort (g := F0 m 34 ls [.int v5, .int (x1 - 103), .int ((xb_i h x0 10) - 1), .ref b13]) rfl (argsL := [.int (x1 - 103), .int v5]) (rest := [.int ((xb_i h x0 10) - 1), .ref b13]) rfl rfl (by rw [hb]; exact (xb_d D_Machine_reckonShort 22 rfl))) (ok_Whole_countShort l hfl D A σ (x1 - 103) v5 h _ hw) (hml.trans hl.1.symm) (by rw [hb]; exact (xb_d D_Machine_reckonShort 22 rfl)) (Nat.le_of_ble_eq_true rfl) (Nat.le_of_ble_eq_true rfl) (Nat.le_of_ble_eq_true rfl) (show k + 0 ≤ MC by omega) (show n + 0 ≤ MS by omega) (xt_w1 hB.1 m_22b18125) (xt_cdOf hB.1 m_22b18125) (hts _ m_912e4ef6) hB hR hS hA (fun vv h14 H locs hq hEh14 hR hS => ?_) (fun XX ax h14 H locs hq hEh14 hex hR hS => ?_)
    · obtain ⟨r15, rfl, hw⟩ := hq
      have hw := hw hEh14
      have hE := hE.tr hEh14
      refine W.eq (g2 := F0 m 37 ls [.int r15, .int ((xb_i h x0 10) - 1), .ref b13]) rfl ?_
      refine lv_i2l hx hb (xb_d D_Machine_reckonShort 23 rfl) rfl ?_
      obtain ⟨hk16, hw⟩ := hw
      obtain ⟨hi17, hw⟩ := hw
      refine xb_last hx hb hR hS hk16 hi17 (xb_d D_Machine_reckonShort 24 rfl) (fun H locs hR hS => ?_)
      obtain ⟨h18, eh18⟩ : ∃ x : xb_H, x = xb_L h14 b13 (Int32.toNatClampNeg ((xb_i h x0 10) - 1)) (Int32.toInt64 r15) := ⟨_, rfl⟩
      rw [← eh18] at hR
      have hw := hw h18 eh18
      have hE : xb_ext h0 h18 := by rw [eh18]; exact hE
      exact xb_vret hx hb hr hlocks (show k ≤ MC by omega) (show n ≤ MS by omega) hE hR hS (xb_d D_Machine_reckonShort 25 rfl) hw
    · exact False.elim hq

theorem m_7a6a28c3 : (.fieldLink "StackHost$Machine" 56 "StackHost$Row" "size" "I" : Cond) ∈ xt_tbl := xt_in (xt_t1 (List.mem_of_getElem? (i := 152) (by decide +kernel))) (by decide +kernel)
theorem m_977202bc : (.methodLink "StackHost$Machine" 65 y_StackModule_parameterType : Cond) ∈ xt_tbl := xt_in (xt_t7 (List.mem_of_getElem? (i := 191) (by decide +kernel))) (by decide +kernel)
theorem m_2051d47a : (.methodLink "StackHost$Machine" 61 y_Machine_makeRoom : Cond) ∈ xt_tbl := xt_in (xt_t7 (List.mem_of_getElem? (i := 184) (by decide +kernel))) (by decide +kernel)
theorem m_6ef13cc2 : (.instanceMethod y_Machine_makeRoom : Cond) ∈ xt_tbl := xt_in (xt_t7 (List.mem_of_getElem? (i := 186) (by decide +kernel))) (by decide +kernel)
theorem m_5d2c6006 : (.selects "StackHost$Machine" y_Machine_makeRoom y_Machine_makeRoom : Cond) ∈ xt_tbl := xt_in (xt_v6 (q := (⟨"StackHost$Machine", "makeRoom", "(I)V"⟩, 18)) (List.mem_of_getElem? (i := 4) (by decide +kernel))) (by decide +kernel)
theorem m_bdd998e7 : (.code y_Machine_makeRoom b_Machine_makeRoom 2 none : Cond) ∈ xt_tbl := xt_in (xt_t7 (List.mem_of_getElem? (i := 187) (by decide +kernel))) (by decide +kernel)
theorem nm_Machine_makeRoom : xt_nm y_Machine_makeRoom 1 := ⟨by decide +kernel, by decide +kernel⟩
set_option maxRecDepth 100000 in
def T_Machine_takeArguments : List (Nat × Instr × Nat) := [(0, .aload_n 0, 1), (1, .aload_n 1, 1), (2, .getfield 56, 3), (5, .invokevirtual 61, 3), (8, .iconst 0, 1), (9, .istore 4, 2), (11, .iload 4, 2), (13, .aload_n 1, 1), (14, .getfield 56, 3), (17, .if_icmp .ge 60, 3), (20, .aload_n 2, 1), (21, .iload_n 3, 1), (22, .iload 4, 2), (24, .invokevirtual 65, 3), (27, .istore 5, 2), (29, .aload_n 0, 1), (30, .getfield 35, 3), (33, .iload 4, 2), (35, .iload 5, 2), (37, .bipush 127, 2), (39, .if_icmp .eq 10, 3), (42, .iload 5, 2), (44, .bipush 125, 2), (46, .if_icmp .ne 17, 3), (49, .aload_n 1, 1), (50, .getfield 71, 3), (53, .iload 4, 2), (55, .laload, 1), (56, .ldc2_w 74, 3), (59, .land, 1), (60, .goto 10, 3), (63, .aload_n 1, 1), (64, .getfield 71, 3), (67, .iload 4, 2), (69, .laload, 1), (70, .lastore, 1), (71, .iinc 4 1, 3), (74, .goto (-63), 3), (77, .aload_n 0, 1), (78, .aload_n 1, 1), (79, .getfield 56, 3), (82, .putfield 53, 3), (85, .return_, 1)]
theorem D_Machine_takeArguments : ∀ q ∈ T_Machine_takeArguments, decode b_Machine_takeArguments q.1 = .ok (q.2.1, q.2.2) := by decide +kernel
def w_Machine_takeArguments_L70 (K11 : Nat → Nat → Nat → Int32 → Int32 → xb_H → Nat → Nat → Prop) (Qr : xb_H → Prop) (x0 : Nat) (x1 : Nat) (x2 : Nat) (x3 : Int32) (x4 : Int32) (y0 : Int64) (y1 : Int32) (y2 : Nat) (h : xb_H) (bc : Nat) (bs : Nat) : Prop :=
    xb_k h y2 = 103 ∧ vp_in y1 (xb_n h y2) ∧ ∀ h3 : xb_H, h3 = xb_L h y2 (Int32.toNatClampNeg y1) y0 → K11 x0 x1 x2 x3 (x4 + 1) h3 bc bs

def w_Machine_takeArguments_L49 (K11 : Nat → Nat → Nat → Int32 → Int32 → xb_H → Nat → Nat → Prop) (Qr : xb_H → Prop) (x0 : Nat) (x1 : Nat) (x2 : Nat) (x3 : Int32) (x4 : Int32) (y0 : Int32) (y1 : Nat) (h : xb_H) (bc : Nat) (bs : Nat) : Prop :=
    xb_k h x1 = 2 ∧ ∃ b2 : Nat, (xb_r h x1 0) = some b2 ∧ xb_k h b2 = 103 ∧ vp_in x4 (xb_n h b2) ∧ w_Machine_takeArguments_L70 K11 Qr x0 x1 x2 x3 x4 ((xb_l h b2 (Int32.toNatClampNeg x4)) &&& 4294967295) y0 y1 h bc bs

def w_Machine_takeArguments_L11 (Qr : xb_H → Prop) : Nat → Nat → Nat → Nat → Int32 → Int32 → xb_H → Nat → Nat → Prop
  | 0, _, _, _, _, _, _, _, _ => False
  | n9 + 1, x0, x1, x2, x3, x4, h, bc, bs =>
    xb_k h x1 = 2 ∧ (((xb_i h x1 1) ≤ x4 → xb_k h x0 = 8 ∧ ∀ h4 : xb_H, h4 = xb_I h x0 10 (xb_i h x1 1) → Qr h4) ∧ (¬ (xb_i h x1 1) ≤ x4 → xb_k h x2 = 3 ∧ w_StackModule_parameterType x2 x3 x4 h (fun (r7 : Int32) (h6 : xb_H) => xb_ext h h6 → xb_k h6 x0 = 8 ∧ ∃ b9 : Nat, (xb_r h6 x0 9) = some b9 ∧ ((r7 = (127 : Int32) → w_Machine_takeArguments_L49 (w_Machine_takeArguments_L11 Qr n9) Qr x0 x1 x2 x3 x4 x4 b9 h6 bc bs) ∧ (¬ r7 = (127 : Int32) → ((¬ r7 = (125 : Int32) → ∃ b12 : Nat, (xb_r h6 x1 0) = some b12 ∧ xb_k h6 b12 = 103 ∧ vp_in x4 (xb_n h6 b12) ∧ w_Machine_takeArguments_L70 (w_Machine_takeArguments_L11 Qr n9) Qr x0 x1 x2 x3 x4 (xb_l h6 b12 (Int32.toNatClampNeg x4)) x4 b9 h6 bc bs) ∧ (r7 = (125 : Int32) → w_Machine_takeArguments_L49 (w_Machine_takeArguments_L11 Qr n9) Qr x0 x1 x2 x3 x4 x4 b9 h6 bc bs)))))))

def w_Machine_takeArguments (x0 : Nat) (x1 : Nat) (x2 : Nat) (x3 : Int32) (h : xb_H) (bc : Nat) (bs : Nat) (Qr : xb_H → Prop) : Prop :=
    xb_k h x1 = 2 ∧ xb_k h x0 = 8 ∧ ∃ c5 sc5 : Nat, c5 ≤ bc ∧ sc5 ≤ bs ∧ w_Machine_makeRoom x0 (xb_i h x1 1) h c5 sc5 (fun (h3 : xb_H) => xb_ext h h3 → (∃ n8 : Nat, w_Machine_takeArguments_L11 Qr n8 x0 x1 x2 x3 0 h3 (bc - c5) (bs - sc5)))

set_option maxHeartbeats 4000000 in
set_option maxRecDepth 100000 in
theorem am_Machine_takeArguments_L70 (l : Launch) (hfl : l.flags = pinnedFlags ++ [noTraceFlag]) (D : va_G) (A : Nat → Prop) (σ MC MS : Nat) (h0 : xb_H) (Qr : xb_H → Prop) (K11 : Nat → Nat → Nat → Int32 → Int32 → xb_H → Nat → Nat → Prop) (hK11 : ∀ (x0 : Nat) (x1 : Nat) (x2 : Nat) (x3 : Int32) (x4 : Int32) (h : xb_H) (bc : Nat) (bs : Nat), K11 x0 x1 x2 x3 x4 h bc bs → xb_am l D A σ 4 MC MS h0 (fun v h => v = none ∧ Qr h) (fun _ _ => False) y_Machine_takeArguments.cls y_Machine_takeArguments.name b_Machine_takeArguments 6 ([] : List ExceptionTableEntry) none 11 [(0, .ref x0), (1, .ref x1), (2, .ref x2), (3, .int x3), (4, .int x4)] [] h bc bs) (x0 : Nat) (x1 : Nat) (x2 : Nat) (x3 : Int32) (x4 : Int32) (y0 : Int64) (y1 : Int32) (y2 : Nat) (h : xb_H) (bc : Nat) (bs : Nat) (hw : w_Machine_takeArguments_L70 K11 Qr x0 x1 x2 x3 x4 y0 y1 y2 h bc bs) : xb_am l D A σ 4 MC MS h0 (fun v h => v = none ∧ Qr h) (fun _ _ => False) y_Machine_takeArguments.cls y_Machine_takeArguments.name b_Machine_takeArguments 6 ([] : List ExceptionTableEntry) none 70 [(0, .ref x0), (1, .ref x1), (2, .ref x2), (3, .int x3), (4, .int x4)] [.long y0, .int y1, .ref y2] h bc bs := by
  unfold w_Machine_takeArguments_L70 at hw
  intro p e s m args below meth c hC H locs ls k n hE hl hR hS hk hn
  obtain ⟨hx, hb, hown, hlocks, htab, hml, hr, hB, hA, hnm⟩ := id hC
  have hts := hB.1.1.at args
  obtain ⟨hk1, hw⟩ := hw
  obtain ⟨hi2, hw⟩ := hw
  refine xb_last hx hb hR hS hk1 hi2 (xb_d D_Machine_takeArguments 35 rfl) (fun H locs hR hS => ?_)
  obtain ⟨h3, eh3⟩ : ∃ x : xb_H, x = xb_L h y2 (Int32.toNatClampNeg y1) y0 := ⟨_, rfl⟩
  rw [← eh3] at hR
  have hw := hw h3 eh3
  have hE : xb_ext h0 h3 := by rw [eh3]; exact hE
  refine lv_iinc (v := (x4 + 1)) (k := 4) hx hb (xb_d D_Machine_takeArguments 36 rfl) hl rfl (by first | rfl | decide) (by decide) rfl (fun ls hl => ?_)
  have hl : lv_has ls 6 [(4, .int (x4 + 1)), (0, .ref x0), (1, .ref x1), (2, .ref x2), (3, .int x3)] := hl
  refine lv_goto (tgt := 11) hx hb (xb_d D_Machine_takeArguments 37 rfl) rfl ?_
  exact hK11 x0 x1 x2 x3 (x4 + 1) h3 bc bs hw p e s m args below meth c hC H locs ls k n hE (lv_sub hl [1, 2, 3, 4, 0] rfl) hR hS (by omega) (by omega)

set_option maxHeartbeats 4000000 in
set_option maxRecDepth 100000 in
theorem am_Machine_takeArguments_L49 (l : Launch) (hfl : l.flags = pinnedFlags ++ [noTraceFlag]) (D : va_G) (A : Nat → Prop) (σ MC MS : Nat) (h0 : xb_H) (Qr : xb_H → Prop) (K11 : Nat → Nat → Nat → Int32 → Int32 → xb_H → Nat → Nat → Prop) (hK11 : ∀ (x0 : Nat) (x1 : Nat) (x2 : Nat) (x3 : Int32) (x4 : Int32) (h : xb_H) (bc : Nat) (bs : Nat), K11 x0 x1 x2 x3 x4 h bc bs → xb_am l D A σ 4 MC MS h0 (fun v h => v = none ∧ Qr h) (fun _ _ => False) y_Machine_takeArguments.cls y_Machine_takeArguments.name b_Machine_takeArguments 6 ([] : List ExceptionTableEntry) none 11 [(0, .ref x0), (1, .ref x1), (2, .ref x2), (3, .int x3), (4, .int x4)] [] h bc bs) (x0 : Nat) (x1 : Nat) (x2 : Nat) (x3 : Int32) (x4 : Int32) (y0 : Int32) (y1 : Nat) (h : xb_H) (bc : Nat) (bs : Nat) (hw : w_Machine_takeArguments_L49 K11 Qr x0 x1 x2 x3 x4 y0 y1 h bc bs) : xb_am l D A σ 4 MC MS h0 (fun v h => v = none ∧ Qr h) (fun _ _ => False) y_Machine_takeArguments.cls y_Machine_takeArguments.name b_Machine_takeArguments 6 ([] : List ExceptionTableEntry) none 49 [(0, .ref x0), (1, .ref x1), (2, .ref x2), (3, .int x3), (4, .int x4)] [.int y0, .ref y1] h bc bs := by
  unfold w_Machine_takeArguments_L49 at hw
  intro p e s m args below meth c hC H locs ls k n hE hl hR hS hk hn
  obtain ⟨hx, hb, hown, hlocks, htab, hml, hr, hB, hA, hnm⟩ := id hC
  have hts := hB.1.1.at args
  refine lv_aload_n hx hb (xb_d D_Machine_takeArguments 24 rfl) rfl (lv_at hl 1 rfl) ?_
  obtain ⟨hk1, hw⟩ := hw
  refine xb_getP (C := R_Row) (T := F_Row) (N := 3) hx hb 1 0 hts fin_Row hown hR hk1 (by decide) rfl (by decide) rfl (hts _ m_04d8c73d) (fun _ h9 => h9) (xb_d D_Machine_takeArguments 25 rfl) ?_
  obtain ⟨b2, eb2, hw⟩ := hw
  refine xb_some eb2 ?_
  refine lv_iload hx hb (xb_d D_Machine_takeArguments 26 rfl) (lv_at hl 4 rfl) ?_
  obtain ⟨hk4, hw⟩ := hw
  obtain ⟨hi3, hw⟩ := hw
  refine xb_lald hx hb hR hk4 hi3 (xb_d D_Machine_takeArguments 27 rfl) ?_
  refine lv_ldc2 (v := 4294967295) hx hb hown (hts _ m_2b0551dd) (xb_d D_Machine_takeArguments 28 rfl) ?_
  refine lv_land hx hb (xb_d D_Machine_takeArguments 29 rfl) ?_
  refine lv_goto (tgt := 70) hx hb (xb_d D_Machine_takeArguments 30 rfl) rfl ?_
  exact am_Machine_takeArguments_L70 l hfl D A σ MC MS h0 Qr K11 hK11 x0 x1 x2 x3 x4 ((xb_l h b2 (Int32.toNatClampNeg x4)) &&& 4294967295) y0 y1 h bc bs hw p e s m args below meth c hC H locs ls k n hE (lv_sub hl [0, 1, 2, 3, 4] rfl) hR hS (by omega) (by omega)

set_option maxHeartbeats 4000000 in
set_option maxRecDepth 100000 in
theorem am_Machine_takeArguments_L11 (l : Launch) (hfl : l.flags = pinnedFlags ++ [noTraceFlag]) (D : va_G) (A : Nat → Prop) (σ MC MS : Nat) (h0 : xb_H) (Qr : xb_H → Prop) (n9 : Nat) : ∀ (x0 : Nat) (x1 : Nat) (x2 : Nat) (x3 : Int32) (x4 : Int32) (h : xb_H) (bc : Nat) (bs : Nat), w_Machine_takeArguments_L11 Qr n9 x0 x1 x2 x3 x4 h bc bs → xb_am l D A σ 4 MC MS h0 (fun v h => v = none ∧ Qr h) (fun _ _ => False) y_Machine_takeArguments.cls y_Machine_takeArguments.name b_Machine_takeArguments 6 ([] : List ExceptionTableEntry) none 11 [(0, .ref x0), (1, .ref x1), (2, .ref x2), (3, .int x3), (4, .int x4)] [] h bc bs := by
  induction n9 with
  | zero => intro x0 x1 x2 x3 x4 h bc bs hw; exact False.elim hw
  | succ n9 ih =>
    intro x0 x1 x2 x3 x4 h bc bs hw
    unfold w_Machine_takeArguments_L11 at hw
    intro p e s m args below meth c hC H locs ls k n hE hl hR hS hk hn
    obtain ⟨hx, hb, hown, hlocks, htab, hml, hr, hB, hA, hnm⟩ := id hC
    have hts := hB.1.1.at args
    refine lv_iload hx hb (xb_d D_Machine_takeArguments 6 rfl) (lv_at hl 4 rfl) ?_
    refine lv_aload_n hx hb (xb_d D_Machine_takeArguments 7 rfl) rfl (lv_at hl 1 rfl) ?_
    obtain ⟨hk1, hw⟩ := hw
    refine xb_getI (C := R_Row) (T := F_Row) (N := 3) hx hb 1 1 hts fin_Row hown hR hk1 (by decide) rfl (by decide) rfl (hts _ m_7a6a28c3) (fun _ h9 => h9) (xb_d D_Machine_takeArguments 8 rfl) ?_
    refine lv_icmp_ge (tgt := 77) hx hb (xb_d D_Machine_takeArguments 9 rfl) rfl (fun hc2 => ?_) (fun hc2 => ?_)
    · have hw := hw.1 hc2
      refine lv_aload_n hx hb (xb_d D_Machine_takeArguments 38 rfl) rfl (lv_at hl 0 rfl) ?_
      refine lv_aload_n hx hb (xb_d D_Machine_takeArguments 39 rfl) rfl (lv_at hl 1 rfl) ?_
      refine xb_getI (C := R_Row) (T := F_Row) (N := 3) hx hb 1 1 hts fin_Row hown hR hk1 (by decide) rfl (by decide) rfl (hts _ m_7a6a28c3) (fun _ h9 => h9) (xb_d D_Machine_takeArguments 40 rfl) ?_
      obtain ⟨hk3, hw⟩ := hw
      refine xb_putI (C := R_Machine) (T := F_Machine) (N := 18) (ty := .int) (x := (xb_i h x1 1)) hx hb 7 10 hts fin_Machine t_Machine t_Machine_ok n_Machine hown hR hS hk3 (by decide) rfl (by decide) rfl (hts _ m_79cf62f6) (fun _ h9 => h9) rfl (by decide +kernel) rfl rfl (xb_d D_Machine_takeArguments 41 rfl) (fun H locs hR hS => ?_)
      obtain ⟨h4, eh4⟩ : ∃ x : xb_H, x = xb_I h x0 10 (xb_i h x1 1) := ⟨_, rfl⟩
      rw [← eh4] at hR
      have hw := hw h4 eh4
      have hE : xb_ext h0 h4 := by rw [eh4]; exact hE
      exact xb_vret hx hb hr hlocks (show k ≤ MC by omega) (show n ≤ MS by omega) hE hR hS (xb_d D_Machine_takeArguments 42 rfl) hw
    · have hw := hw.2 hc2
      refine lv_aload_n hx hb (xb_d D_Machine_takeArguments 10 rfl) rfl (lv_at hl 2 rfl) ?_
      refine lv_iload_n hx hb (xb_d D_Machine_takeArguments 11 rfl) rfl (lv_at hl 3 rfl) ?_
      refine lv_iload hx hb (xb_d D_Machine_takeArguments 12 rfl) (lv_at hl 4 rfl) ?_
      obtain ⟨hk5, hw⟩ := hw
      refine xb_call (D := D) (A := A) (σ := σ) (h := h) (d := 3) (mc := 0) (ms := 0) (maxL := 3) (rest := []) (av := [.ref x2, .int x3, .int x4]) (fun T hT X => by obtain ⟨cb, r1, r2, r3⟩ := xb_recv (ci := 2) hR rfl hk5 (by decide); exact xt_invV X hx hown (hts _ m_977202bc) (hts _ m_8ffa2b15) (hts _ m_4526d57b) (xt_sigOf (hts _ m_4049389a)) nm_StackModule_parameterType (by rw [hT]; exact r1) r2 r3 (g := F0 m 24 ls [.int x4, .int x3, .ref x2]) rfl (argsL := [.int x3, .int x4]) (rest := []) rfl rfl (by rw [hb]; exact (xb_d D_Machine_takeArguments 13 rfl))) (ok_StackModule_parameterType l hfl D A σ x2 x3 x4 h _ hw) (hml.trans hl.1.symm) (by rw [hb]; exact (xb_d D_Machine_takeArguments 13 rfl)) (Nat.le_of_ble_eq_true rfl) (Nat.le_of_ble_eq_true rfl) (Nat.le_of_ble_eq_true rfl) (show k + 0 ≤ MC by omega) (show n + 0 ≤ MS by omega) (xt_w1 hB.1 m_4049389a) (xt_cdOf hB.1 m_4049389a) (hts _ m_9c375545) hB hR hS hA (fun vv h6 H locs hq hEh6 hR hS => ?_) (fun XX ax h6 H locs hq hEh6 hex hR hS => ?_)
      · obtain ⟨r7, rfl, hw⟩ := hq
        have hw := hw hEh6
        have hE := hE.tr hEh6
        refine W.eq (g2 := F0 m 27 ls [.int r7]) rfl ?_
        refine lv_istore hx hb (xb_d D_Machine_takeArguments 14 rfl) hl (by decide) rfl (fun ls hl => ?_)
        have hl : lv_has ls 6 [(5, .int r7), (0, .ref x0), (1, .ref x1), (2, .ref x2), (3, .int x3), (4, .int x4)] := hl
        refine lv_aload_n hx hb (xb_d D_Machine_takeArguments 15 rfl) rfl (lv_at hl 1 rfl) ?_
        obtain ⟨hk8, hw⟩ := hw
        refine xb_getP (C := R_Machine) (T := F_Machine) (N := 18) hx hb 7 9 hts fin_Machine hown hR hk8 (by decide) rfl (by decide) rfl (hts _ m_6904195b) (fun _ h9 => h9) (xb_d D_Machine_takeArguments 16 rfl) ?_
        obtain ⟨b9, eb9, hw⟩ := hw
        refine xb_some eb9 ?_
        refine lv_iload hx hb (xb_d D_Machine_takeArguments 17 rfl) (lv_at hl 5 rfl) ?_
        refine lv_iload hx hb (xb_d D_Machine_takeArguments 18 rfl) (lv_at hl 0 rfl) ?_
        refine lv_bipush (v := 127) hx hb (xb_d D_Machine_takeArguments 19 rfl) (by decide) ?_
        refine lv_icmp_eq (tgt := 49) hx hb (xb_d D_Machine_takeArguments 20 rfl) rfl (fun hc10 => ?_) (fun hc10 => ?_)
        · have hw := hw.1 hc10
          exact am_Machine_takeArguments_L49 l hfl D A σ MC MS h0 Qr (w_Machine_takeArguments_L11 Qr n9) ih x0 x1 x2 x3 x4 x4 b9 h6 bc bs hw p e s m args below meth c hC H locs ls k n hE (lv_sub hl [1, 2, 3, 4, 5] rfl) hR hS (by omega) (by omega)
        · have hw := hw.2 hc10
          refine lv_iload hx hb (xb_d D_Machine_takeArguments 21 rfl) (lv_at hl 0 rfl) ?_
          refine lv_bipush (v := 125) hx hb (xb_d D_Machine_takeArguments 22 rfl) (by decide) ?_
          refine lv_icmp_ne (tgt := 63) hx hb (xb_d D_Machine_takeArguments 23 rfl) rfl (fun hc11 => ?_) (fun hc11 => ?_)
          · have hw := hw.1 hc11
            refine lv_aload_n hx hb (xb_d D_Machine_takeArguments 31 rfl) rfl (lv_at hl 2 rfl) ?_
            have hk1 : xb_k h6 x1 = 2 := hEh6.k hk1
            refine xb_getP (C := R_Row) (T := F_Row) (N := 3) hx hb 1 0 hts fin_Row hown hR hk1 (by decide) rfl (by decide) rfl (hts _ m_04d8c73d) (fun _ h9 => h9) (xb_d D_Machine_takeArguments 32 rfl) ?_
            obtain ⟨b12, eb12, hw⟩ := hw
            refine xb_some eb12 ?_
            refine lv_iload hx hb (xb_d D_Machine_takeArguments 33 rfl) (lv_at hl 5 rfl) ?_
            obtain ⟨hk14, hw⟩ := hw
            obtain ⟨hi13, hw⟩ := hw
            refine xb_lald hx hb hR hk14 hi13 (xb_d D_Machine_takeArguments 34 rfl) ?_
            exact am_Machine_takeArguments_L70 l hfl D A σ MC MS h0 Qr (w_Machine_takeArguments_L11 Qr n9) ih x0 x1 x2 x3 x4 (xb_l h6 b12 (Int32.toNatClampNeg x4)) x4 b9 h6 bc bs hw p e s m args below meth c hC H locs ls k n hE (lv_sub hl [1, 2, 3, 4, 5] rfl) hR hS (by omega) (by omega)
          · have hw := hw.2 hc11
            exact am_Machine_takeArguments_L49 l hfl D A σ MC MS h0 Qr (w_Machine_takeArguments_L11 Qr n9) ih x0 x1 x2 x3 x4 x4 b9 h6 bc bs hw p e s m args below meth c hC H locs ls k n hE (lv_sub hl [1, 2, 3, 4, 5] rfl) hR hS (by omega) (by omega)
      · exact False.elim hq

set_option maxHeartbeats 4000000 in
set_option maxRecDepth 100000 in
theorem ok_Machine_takeArguments (l : Launch) (hfl : l.flags = pinnedFlags ++ [noTraceFlag]) (D : va_G) (A : Nat → Prop) (σ : Nat) (x0 : Nat) (x1 : Nat) (x2 : Nat) (x3 : Int32) (h : xb_H) (bc : Nat) (bs : Nat) (Qr : xb_H → Prop) (hw : w_Machine_takeArguments x0 x1 x2 x3 h bc bs Qr) : xt_Met l y_Machine_takeArguments [.code y_Machine_takeArguments b_Machine_takeArguments 6 none] (xb_rm 4 bc bs) (xb_Pc D A σ h [.ref x0, .ref x1, .ref x2, .int x3]) (xb_Qc D A h (fun v h => v = none ∧ Qr h) (fun _ _ => False)) bc bs A := by
  refine xb_ofAm (cc := b_Machine_takeArguments) (by decide) (Nat.le_of_ble_eq_true rfl) ?_
  unfold w_Machine_takeArguments at hw
  show xb_am l D A σ 4 bc bs h (fun v h => v = none ∧ Qr h) (fun _ _ => False) y_Machine_takeArguments.cls y_Machine_takeArguments.name b_Machine_takeArguments 6 ([] : List ExceptionTableEntry) none 0 [(0, .ref x0), (1, .ref x1), (2, .ref x2), (3, .int x3)] [] h bc bs
  obtain ⟨MC, hMC⟩ : ∃ x, x = bc := ⟨_, rfl⟩
  obtain ⟨MS, hMS⟩ : ∃ x, x = bs := ⟨_, rfl⟩
  rw [show xb_am l D A σ 4 bc bs = xb_am l D A σ 4 MC MS by rw [hMC, hMS]]
  obtain ⟨h0, hh0⟩ : ∃ x, x = h := ⟨_, rfl⟩
  rw [show xb_am l D A σ 4 MC MS h = xb_am l D A σ 4 MC MS h0 by rw [hh0]]
  intro p e s m args below meth c hC H locs ls k n hE hl hR hS hk hn
  obtain ⟨hx, hb, hown, hlocks, htab, hml, hr, hB, hA, hnm⟩ := id hC
  have hts := hB.1.1.at args
  refine lv_aload_n hx hb (xb_d D_Machine_takeArguments 0 rfl) rfl (lv_at hl 0 rfl) ?_
  refine lv_aload_n hx hb (xb_d D_Machine_takeArguments 1 rfl) rfl (lv_at hl 1 rfl) ?_
  obtain ⟨hk1, hw⟩ := hw
  refine xb_getI (C := R_Row) (T := F_Row) (N := 3) hx hb 1 1 hts fin_Row hown hR hk1 (by decide) rfl (by decide) rfl (hts _ m_7a6a28c3) (fun _ h9 => h9) (xb_d D_Machine_takeArguments 2 rfl) ?_
  obtain ⟨hk2, hw⟩ := hw
  obtain ⟨c5, sc5, hlc5, hlsc5, hw⟩ := hw
  refine xb_call (D := D) (A := A) (σ := σ) (h := h) (d := 3) (mc := c5) (ms := sc5) (maxL := 2) (rest := []) (av := [.ref x0, .int (xb_i h x1 1)]) (fun T hT X => by obtain ⟨cb, r1, r2, r3⟩ := xb_recv (ci := 7) hR rfl hk2 (by decide); exact xt_invV X hx hown (hts _ m_2051d47a) (hts _ m_6ef13cc2) (hts _ m_5d2c6006) (xt_sigOf (hts _ m_bdd998e7)) nm_Machine_makeRoom (by rw [hT]; exact r1) r2 r3 (g := F0 m 5 ls [.int (xb_i h x1 1), .ref x0]) rfl (argsL := [.int (xb_i h x1 1)]) (rest := []) rfl rfl (by rw [hb]; exact (xb_d D_Machine_takeArguments 3 rfl))) (ok_Machine_makeRoom l hfl D A σ x0 (xb_i h x1 1) h c5 sc5 _ hw) (hml.trans hl.1.symm) (by rw [hb]; exact (xb_d D_Machine_takeArguments 3 rfl)) (Nat.le_of_ble_eq_true rfl) (Nat.le_of_ble_eq_true rfl) (Nat.le_of_ble_eq_true rfl) (show k + c5 ≤ MC by omega) (show n + sc5 ≤ MS by omega) (xt_w1 hB.1 m_bdd998e7) (xt_cdOf hB.1 m_bdd998e7) (hts _ m_73451f9b) hB hR hS hA (fun vv h3 H locs hq hEh3 hR hS => ?_) (fun XX ax h3 H locs hq hEh3 hex hR hS => ?_)
  · obtain ⟨rfl, hw⟩ := hq
    have hw := hw hEh3
    have hE := hE.tr hEh3
    refine W.eq (g2 := F0 m 8 ls []) rfl ?_
    refine lv_iconst (v := 0) hx hb (xb_d D_Machine_takeArguments 4 rfl) (by decide) ?_
    refine lv_istore hx hb (xb_d D_Machine_takeArguments 5 rfl) hl (by decide) rfl (fun ls hl => ?_)
    have hl : lv_has ls 6 [(4, .int 0), (0, .ref x0), (1, .ref x1), (2, .ref x2), (3, .int x3)] := hl
    obtain ⟨n8, hw⟩ := hw
    exact am_Machine_takeArguments_L11 l hfl D A σ MC MS h0 Qr n8 x0 x1 x2 x3 0 h3 (bc - c5) (bs - sc5) hw p e s m args below meth c hC H locs ls (k + c5) (n + sc5) hE (lv_sub hl [1, 2, 3, 4, 0] rfl) hR hS (by omega) (by omega)
  · exact False.elim hq

theorem m_80902922 : (.methodLink "StackHost$Memory" 43 y_Memory_byteAt : Cond) ∈ xt_tbl := xt_in (xt_t8 (List.mem_of_getElem? (i := 233) (by decide +kernel))) (by decide +kernel)
set_option maxRecDepth 100000 in
def T_Memory_fetch : List (Nat × Instr × Nat) := [(0, .lconst 0, 1), (1, .lstore_n 3, 1), (2, .iload_n 2, 1), (3, .iconst 1, 1), (4, .isub, 1), (5, .istore 5, 2), (7, .iload 5, 2), (9, .ifCond .lt 24, 3), (12, .lload_n 3, 1), (13, .bipush 8, 2), (15, .lshl, 1), (16, .aload_n 0, 1), (17, .iload_n 1, 1), (18, .iload 5, 2), (20, .iadd, 1), (21, .invokevirtual 43, 3), (24, .i2l, 1), (25, .lor, 1), (26, .lstore_n 3, 1), (27, .iinc 5 (-1), 3), (30, .goto (-23), 3), (33, .lload_n 3, 1), (34, .lreturn, 1)]
theorem D_Memory_fetch : ∀ q ∈ T_Memory_fetch, decode b_Memory_fetch q.1 = .ok (q.2.1, q.2.2) := by decide +kernel
def w_Memory_fetch_L7 (Qr : Int64 → xb_H → Prop) : Nat → Nat → Int32 → Int64 → Int32 → xb_H → Prop
  | 0, _, _, _, _, _ => False
  | n9 + 1, x0, x1, x3, x5, h =>
    ((x5 < (0 : Int32) → Qr x3 h) ∧ (¬ x5 < (0 : Int32) → xb_k h x0 = 13 ∧ w_Memory_byteAt x0 (x1 + x5) h (fun (r4 : Int32) (h3 : xb_H) => xb_ext h h3 → ∀ v5 : Int64, v5 = ((xb_lshl x3 8) ||| (Int32.toInt64 r4)) → w_Memory_fetch_L7 Qr n9 x0 x1 v5 (x5 + (-1)) h3)))

def w_Memory_fetch (x0 : Nat) (x1 : Int32) (x2 : Int32) (h : xb_H) (Qr : Int64 → xb_H → Prop) : Prop :=
    ∀ v1 : Int32, v1 = (x2 - 1) → (∃ n8 : Nat, w_Memory_fetch_L7 Qr n8 x0 x1 0 v1 h)

set_option maxHeartbeats 4000000 in
set_option maxRecDepth 100000 in
theorem am_Memory_fetch_L7 (l : Launch) (hfl : l.flags = pinnedFlags ++ [noTraceFlag]) (D : va_G) (A : Nat → Prop) (σ MC MS : Nat) (h0 : xb_H) (Qr : Int64 → xb_H → Prop) (n9 : Nat) : ∀ (x0 : Nat) (x1 : Int32) (x3 : Int64) (x5 : Int32) (h : xb_H), w_Memory_fetch_L7 Qr n9 x0 x1 x3 x5 h → xb_am l D A σ 4 MC MS h0 (fun v h => ∃ r, v = some (.long r) ∧ Qr r h) (fun _ _ => False) y_Memory_fetch.cls y_Memory_fetch.name b_Memory_fetch 6 ([] : List ExceptionTableEntry) (some .long) 7 [(0, .ref x0), (1, .int x1), (3, .long x3), (5, .int x5)] [] h 0 0 := by
  induction n9 with
  | zero => intro x0 x1 x3 x5 h hw; exact False.elim hw
  | succ n9 ih =>
    intro x0 x1 x3 x5 h hw
    unfold w_Memory_fetch_L7 at hw
    intro p e s m args below meth c hC H locs ls k n hE hl hR hS hk hn
    obtain ⟨hx, hb, hown, hlocks, htab, hml, hr, hB, hA, hnm⟩ := id hC
    have hts := hB.1.1.at args
    refine lv_iload hx hb (xb_d D_Memory_fetch 6 rfl) (lv_at hl 3 rfl) ?_
    refine lv_if_lt (tgt := 33) hx hb (xb_d D_Memory_fetch 7 rfl) rfl (fun hc1 => ?_) (fun hc1 => ?_)
    · have hw := hw.1 hc1
      refine lv_lload_n hx hb (xb_d D_Memory_fetch 21 rfl) rfl (lv_at hl 2 rfl) ?_
      exact xb_lret hx hb hr hlocks (show k ≤ MC by omega) (show n ≤ MS by omega) hE hR hS (xb_d D_Memory_fetch 22 rfl) hw
    · have hw := hw.2 hc1
      refine lv_lload_n hx hb (xb_d D_Memory_fetch 8 rfl) rfl (lv_at hl 2 rfl) ?_
      refine lv_bipush (v := 8) hx hb (xb_d D_Memory_fetch 9 rfl) (by decide) ?_
      refine lv_lshl (v := (xb_lshl x3 8)) hx hb (xb_d D_Memory_fetch 10 rfl) rfl ?_
      refine lv_aload_n hx hb (xb_d D_Memory_fetch 11 rfl) rfl (lv_at hl 0 rfl) ?_
      refine lv_iload_n hx hb (xb_d D_Memory_fetch 12 rfl) rfl (lv_at hl 1 rfl) ?_
      refine lv_iload hx hb (xb_d D_Memory_fetch 13 rfl) (lv_at hl 3 rfl) ?_
      refine lv_iadd hx hb (xb_d D_Memory_fetch 14 rfl) ?_
      obtain ⟨hk2, hw⟩ := hw
      refine xb_call (D := D) (A := A) (σ := σ) (h := h) (d := 3) (mc := 0) (ms := 0) (maxL := 2) (rest := [.long (xb_lshl x3 8)]) (av := [.ref x0, .int (x1 + x5)]) (fun T hT X => by obtain ⟨cb, r1, r2, r3⟩ := xb_recv (ci := 12) hR rfl hk2 (by decide); exact xt_invV X hx hown (hts _ m_80902922) (hts _ m_48b23b1a) (hts _ m_389f80ed) (xt_sigOf (hts _ m_ce08cc3c)) nm_Memory_byteAt (by rw [hT]; exact r1) r2 r3 (g := F0 m 21 ls [.int (x1 + x5), .ref x0, .long (xb_lshl x3 8)]) rfl (argsL := [.int (x1 + x5)]) (rest := [.long (xb_lshl x3 8)]) rfl rfl (by rw [hb]; exact (xb_d D_Memory_fetch 15 rfl))) (ok_Memory_byteAt l hfl D A σ x0 (x1 + x5) h _ hw) (hml.trans hl.1.symm) (by rw [hb]; exact (xb_d D_Memory_fetch 15 rfl)) (Nat.le_of_ble_eq_true rfl) (Nat.le_of_ble_eq_true rfl) (Nat.le_of_ble_eq_true rfl) (show k + 0 ≤ MC by omega) (show n + 0 ≤ MS by omega) (xt_w1 hB.1 m_ce08cc3c) (xt_cdOf hB.1 m_ce08cc3c) (hts _ m_e7289b5f) hB hR hS hA (fun vv h3 H locs hq hEh3 hR hS => ?_) (fun XX ax h3 H locs hq hEh3 hex hR hS => ?_)
      · obtain ⟨r4, rfl, hw⟩ := hq
        have hw := hw hEh3
        have hE := hE.tr hEh3
        refine W.eq (g2 := F0 m 24 ls [.int r4, .long (xb_lshl x3 8)]) rfl ?_
        refine lv_i2l hx hb (xb_d D_Memory_fetch 16 rfl) rfl ?_
        refine lv_lor hx hb (xb_d D_Memory_fetch 17 rfl) ?_
        obtain ⟨v5, ev5⟩ : ∃ x : Int64, x = ((xb_lshl x3 8) ||| (Int32.toInt64 r4)) := ⟨_, rfl⟩
        have hw := hw v5 ev5
        refine xt_numl (y := v5) ev5.symm ?_
        refine lv_lstore_n hx hb (xb_d D_Memory_fetch 18 rfl) rfl hl (by decide) rfl (fun ls hl => ?_)
        have hl : lv_has ls 6 [(3, .long v5), (0, .ref x0), (1, .int x1), (5, .int x5)] := hl
        refine lv_iinc (v := (x5 + (-1))) (k := 3) hx hb (xb_d D_Memory_fetch 19 rfl) hl rfl (by first | rfl | decide) (by decide) rfl (fun ls hl => ?_)
        have hl : lv_has ls 6 [(5, .int (x5 + (-1))), (3, .long v5), (0, .ref x0), (1, .int x1)] := hl
        refine lv_goto (tgt := 7) hx hb (xb_d D_Memory_fetch 20 rfl) rfl ?_
        exact ih x0 x1 v5 (x5 + (-1)) h3 hw p e s m args below meth c hC H locs ls k n hE (lv_sub hl [2, 3, 1, 0] rfl) hR hS (by omega) (by omega)
      · exact False.elim hq

set_option maxHeartbeats 4000000 in
set_option maxRecDepth 100000 in
theorem ok_Memory_fetch (l : Launch) (hfl : l.flags = pinnedFlags ++ [noTraceFlag]) (D : va_G) (A : Nat → Prop) (σ : Nat) (x0 : Nat) (x1 : Int32) (x2 : Int32) (h : xb_H) (Qr : Int64 → xb_H → Prop) (hw : w_Memory_fetch x0 x1 x2 h Qr) : xt_Met l y_Memory_fetch [.code y_Memory_fetch b_Memory_fetch 6 (some .long)] (xb_rm 4 0 0) (xb_Pc D A σ h [.ref x0, .int x1, .int x2]) (xb_Qc D A h (fun v h => ∃ r, v = some (.long r) ∧ Qr r h) (fun _ _ => False)) 0 0 A := by
  refine xb_ofAm (cc := b_Memory_fetch) (by decide) (Nat.le_of_ble_eq_true rfl) ?_
  unfold w_Memory_fetch at hw
  show xb_am l D A σ 4 0 0 h (fun v h => ∃ r, v = some (.long r) ∧ Qr r h) (fun _ _ => False) y_Memory_fetch.cls y_Memory_fetch.name b_Memory_fetch 6 ([] : List ExceptionTableEntry) (some .long) 0 [(0, .ref x0), (1, .int x1), (2, .int x2)] [] h 0 0
  obtain ⟨MC, hMC⟩ : ∃ x, x = 0 := ⟨_, rfl⟩
  obtain ⟨MS, hMS⟩ : ∃ x, x = 0 := ⟨_, rfl⟩
  rw [show xb_am l D A σ 4 0 0 = xb_am l D A σ 4 MC MS by rw [hMC, hMS]]
  obtain ⟨h0, hh0⟩ : ∃ x, x = h := ⟨_, rfl⟩
  rw [show xb_am l D A σ 4 MC MS h = xb_am l D A σ 4 MC MS h0 by rw [hh0]]
  intro p e s m args below meth c hC H locs ls k n hE hl hR hS hk hn
  obtain ⟨hx, hb, hown, hlocks, htab, hml, hr, hB, hA, hnm⟩ := id hC
  have hts := hB.1.1.at args
  refine lv_lconst (v := 0) hx hb (xb_d D_Memory_fetch 0 rfl) (by decide) ?_
  refine lv_lstore_n hx hb (xb_d D_Memory_fetch 1 rfl) rfl hl (by decide) rfl (fun ls hl => ?_)
  have hl : lv_has ls 6 [(3, .long 0), (0, .ref x0), (1, .int x1), (2, .int x2)] := hl
  refine lv_iload_n hx hb (xb_d D_Memory_fetch 2 rfl) rfl (lv_at hl 3 rfl) ?_
  refine lv_iconst (v := 1) hx hb (xb_d D_Memory_fetch 3 rfl) (by decide) ?_
  refine lv_isub hx hb (xb_d D_Memory_fetch 4 rfl) ?_
  obtain ⟨v1, ev1⟩ : ∃ x : Int32, x = (x2 - 1) := ⟨_, rfl⟩
  have hw := hw v1 ev1
  refine xt_numi (y := v1) ev1.symm ?_
  refine lv_istore hx hb (xb_d D_Memory_fetch 5 rfl) hl (by decide) rfl (fun ls hl => ?_)
  have hl : lv_has ls 6 [(5, .int v1), (3, .long 0), (0, .ref x0), (1, .int x1), (2, .int x2)] := hl
  obtain ⟨n8, hw⟩ := hw
  exact am_Memory_fetch_L7 l hfl D A σ MC MS h0 Qr n8 x0 x1 0 v1 h hw p e s m args below meth c hC H locs ls k n hE (lv_sub hl [2, 3, 1, 0] rfl) hR hS (by omega) (by omega)

theorem m_e5023162 : (.methodLink "StackHost$Memory" 46 y_Memory_setByte : Cond) ∈ xt_tbl := xt_in (xt_t8 (List.mem_of_getElem? (i := 228) (by decide +kernel))) (by decide +kernel)
set_option maxRecDepth 100000 in
def T_Memory_store : List (Nat × Instr × Nat) := [(0, .iconst 0, 1), (1, .istore 5, 2), (3, .iload 5, 2), (5, .iload_n 2, 1), (6, .if_icmp .ge 25, 3), (9, .aload_n 0, 1), (10, .iload_n 1, 1), (11, .iload 5, 2), (13, .iadd, 1), (14, .lload_n 3, 1), (15, .bipush 8, 2), (17, .iload 5, 2), (19, .imul, 1), (20, .lushr, 1), (21, .l2i, 1), (22, .invokevirtual 46, 3), (25, .iinc 5 1, 3), (28, .goto (-25), 3), (31, .return_, 1)]
theorem D_Memory_store : ∀ q ∈ T_Memory_store, decode b_Memory_store q.1 = .ok (q.2.1, q.2.2) := by decide +kernel
def w_Memory_store_L3 (Qr : xb_H → Prop) : Nat → Nat → Int32 → Int32 → Int64 → Int32 → xb_H → Prop
  | 0, _, _, _, _, _, _ => False
  | n9 + 1, x0, x1, x2, x3, x5, h =>
    ((x2 ≤ x5 → Qr h) ∧ (¬ x2 ≤ x5 → xb_k h x0 = 13 ∧ w_Memory_setByte x0 (x1 + x5) (Int64.toInt32 (xb_lushr x3 (8 * x5))) h (fun (h3 : xb_H) => xb_ext h h3 → w_Memory_store_L3 Qr n9 x0 x1 x2 x3 (x5 + 1) h3)))

def w_Memory_store (x0 : Nat) (x1 : Int32) (x2 : Int32) (x3 : Int64) (h : xb_H) (Qr : xb_H → Prop) : Prop :=
    (∃ n8 : Nat, w_Memory_store_L3 Qr n8 x0 x1 x2 x3 0 h)

set_option maxHeartbeats 4000000 in
set_option maxRecDepth 100000 in
theorem am_Memory_store_L3 (l : Launch) (hfl : l.flags = pinnedFlags ++ [noTraceFlag]) (D : va_G) (A : Nat → Prop) (σ MC MS : Nat) (h0 : xb_H) (Qr : xb_H → Prop) (n9 : Nat) : ∀ (x0 : Nat) (x1 : Int32) (x2 : Int32) (x3 : Int64) (x5 : Int32) (h : xb_H), w_Memory_store_L3 Qr n9 x0 x1 x2 x3 x5 h → xb_am l D A σ 4 MC MS h0 (fun v h => v = none ∧ Qr h) (fun _ _ => False) y_Memory_store.cls y_Memory_store.name b_Memory_store 6 ([] : List ExceptionTableEntry) none 3 [(0, .ref x0), (1, .int x1), (2, .int x2), (3, .long x3), (5, .int x5)] [] h 0 0 := by
  induction n9 with
  | zero => intro x0 x1 x2 x3 x5 h hw; exact False.elim hw
  | succ n9 ih =>
    intro x0 x1 x2 x3 x5 h hw
    unfold w_Memory_store_L3 at hw
    intro p e s m args below meth c hC H locs ls k n hE hl hR hS hk hn
    obtain ⟨hx, hb, hown, hlocks, htab, hml, hr, hB, hA, hnm⟩ := id hC
    have hts := hB.1.1.at args
    refine lv_iload hx hb (xb_d D_Memory_store 2 rfl) (lv_at hl 4 rfl) ?_
    refine lv_iload_n hx hb (xb_d D_Memory_store 3 rfl) rfl (lv_at hl 2 rfl) ?_
    refine lv_icmp_ge (tgt := 31) hx hb (xb_d D_Memory_store 4 rfl) rfl (fun hc1 => ?_) (fun hc1 => ?_)
    · have hw := hw.1 hc1
      exact xb_vret hx hb hr hlocks (show k ≤ MC by omega) (show n ≤ MS by omega) hE hR hS (xb_d D_Memory_store 18 rfl) hw
    · have hw := hw.2 hc1
      refine lv_aload_n hx hb (xb_d D_Memory_store 5 rfl) rfl (lv_at hl 0 rfl) ?_
      refine lv_iload_n hx hb (xb_d D_Memory_store 6 rfl) rfl (lv_at hl 1 rfl) ?_
      refine lv_iload hx hb (xb_d D_Memory_store 7 rfl) (lv_at hl 4 rfl) ?_
      refine lv_iadd hx hb (xb_d D_Memory_store 8 rfl) ?_
      refine lv_lload_n hx hb (xb_d D_Memory_store 9 rfl) rfl (lv_at hl 3 rfl) ?_
      refine lv_bipush (v := 8) hx hb (xb_d D_Memory_store 10 rfl) (by decide) ?_
      refine lv_iload hx hb (xb_d D_Memory_store 11 rfl) (lv_at hl 4 rfl) ?_
      refine lv_imul hx hb (xb_d D_Memory_store 12 rfl) ?_
      refine lv_lushr (v := (xb_lushr x3 (8 * x5))) hx hb (xb_d D_Memory_store 13 rfl) rfl ?_
      refine lv_l2i hx hb (xb_d D_Memory_store 14 rfl) rfl ?_
      obtain ⟨hk2, hw⟩ := hw
      refine xb_call (D := D) (A := A) (σ := σ) (h := h) (d := 3) (mc := 0) (ms := 0) (maxL := 5) (rest := []) (av := [.ref x0, .int (x1 + x5), .int (Int64.toInt32 (xb_lushr x3 (8 * x5)))]) (fun T hT X => by obtain ⟨cb, r1, r2, r3⟩ := xb_recv (ci := 12) hR rfl hk2 (by decide); exact xt_invV X hx hown (hts _ m_e5023162) (hts _ m_d015b981) (hts _ m_2cc55bcf) (xt_sigOf (hts _ m_2b9cfcee)) nm_Memory_setByte (by rw [hT]; exact r1) r2 r3 (g := F0 m 22 ls [.int (Int64.toInt32 (xb_lushr x3 (8 * x5))), .int (x1 + x5), .ref x0]) rfl (argsL := [.int (x1 + x5), .int (Int64.toInt32 (xb_lushr x3 (8 * x5)))]) (rest := []) rfl rfl (by rw [hb]; exact (xb_d D_Memory_store 15 rfl))) (ok_Memory_setByte l hfl D A σ x0 (x1 + x5) (Int64.toInt32 (xb_lushr x3 (8 * x5))) h _ hw) (hml.trans hl.1.symm) (by rw [hb]; exact (xb_d D_Memory_store 15 rfl)) (Nat.le_of_ble_eq_true rfl) (Nat.le_of_ble_eq_true rfl) (Nat.le_of_ble_eq_true rfl) (show k + 0 ≤ MC by omega) (show n + 0 ≤ MS by omega) (xt_w1 hB.1 m_2b9cfcee) (xt_cdOf hB.1 m_2b9cfcee) (hts _ m_e7289b5f) hB hR hS hA (fun vv h3 H locs hq hEh3 hR hS => ?_) (fun XX ax h3 H locs hq hEh3 hex hR hS => ?_)
      · obtain ⟨rfl, hw⟩ := hq
        have hw := hw hEh3
        have hE := hE.tr hEh3
        refine W.eq (g2 := F0 m 25 ls []) rfl ?_
        refine lv_iinc (v := (x5 + 1)) (k := 4) hx hb (xb_d D_Memory_store 16 rfl) hl rfl (by first | rfl | decide) (by decide) rfl (fun ls hl => ?_)
        have hl : lv_has ls 6 [(5, .int (x5 + 1)), (0, .ref x0), (1, .int x1), (2, .int x2), (3, .long x3)] := hl
        refine lv_goto (tgt := 3) hx hb (xb_d D_Memory_store 17 rfl) rfl ?_
        exact ih x0 x1 x2 x3 (x5 + 1) h3 hw p e s m args below meth c hC H locs ls k n hE (lv_sub hl [1, 2, 3, 4, 0] rfl) hR hS (by omega) (by omega)
      · exact False.elim hq

set_option maxHeartbeats 4000000 in
set_option maxRecDepth 100000 in
theorem ok_Memory_store (l : Launch) (hfl : l.flags = pinnedFlags ++ [noTraceFlag]) (D : va_G) (A : Nat → Prop) (σ : Nat) (x0 : Nat) (x1 : Int32) (x2 : Int32) (x3 : Int64) (h : xb_H) (Qr : xb_H → Prop) (hw : w_Memory_store x0 x1 x2 x3 h Qr) : xt_Met l y_Memory_store [.code y_Memory_store b_Memory_store 6 none] (xb_rm 4 0 0) (xb_Pc D A σ h [.ref x0, .int x1, .int x2, .long x3]) (xb_Qc D A h (fun v h => v = none ∧ Qr h) (fun _ _ => False)) 0 0 A := by
  refine xb_ofAm (cc := b_Memory_store) (by decide) (Nat.le_of_ble_eq_true rfl) ?_
  unfold w_Memory_store at hw
  show xb_am l D A σ 4 0 0 h (fun v h => v = none ∧ Qr h) (fun _ _ => False) y_Memory_store.cls y_Memory_store.name b_Memory_store 6 ([] : List ExceptionTableEntry) none 0 [(0, .ref x0), (1, .int x1), (2, .int x2), (3, .long x3)] [] h 0 0
  obtain ⟨MC, hMC⟩ : ∃ x, x = 0 := ⟨_, rfl⟩
  obtain ⟨MS, hMS⟩ : ∃ x, x = 0 := ⟨_, rfl⟩
  rw [show xb_am l D A σ 4 0 0 = xb_am l D A σ 4 MC MS by rw [hMC, hMS]]
  obtain ⟨h0, hh0⟩ : ∃ x, x = h := ⟨_, rfl⟩
  rw [show xb_am l D A σ 4 MC MS h = xb_am l D A σ 4 MC MS h0 by rw [hh0]]
  intro p e s m args below meth c hC H locs ls k n hE hl hR hS hk hn
  obtain ⟨hx, hb, hown, hlocks, htab, hml, hr, hB, hA, hnm⟩ := id hC
  have hts := hB.1.1.at args
  refine lv_iconst (v := 0) hx hb (xb_d D_Memory_store 0 rfl) (by decide) ?_
  refine lv_istore hx hb (xb_d D_Memory_store 1 rfl) hl (by decide) rfl (fun ls hl => ?_)
  have hl : lv_has ls 6 [(5, .int 0), (0, .ref x0), (1, .int x1), (2, .int x2), (3, .long x3)] := hl
  obtain ⟨n8, hw⟩ := hw
  exact am_Memory_store_L3 l hfl D A σ MC MS h0 Qr n8 x0 x1 x2 x3 0 h hw p e s m args below meth c hC H locs ls k n hE (lv_sub hl [1, 2, 3, 4, 0] rfl) hR hS (by omega) (by omega)

theorem m_16104bdc : (.methodLink "StackHost$Reader" 122 y_Reader_nextByte : Cond) ∈ xt_tbl := xt_in (xt_t3 (List.mem_of_getElem? (i := 220) (by decide +kernel))) (by decide +kernel)
theorem m_5816e59e : (.instanceMethod y_Reader_nextByte : Cond) ∈ xt_tbl := xt_in (xt_t3 (List.mem_of_getElem? (i := 222) (by decide +kernel))) (by decide +kernel)
theorem m_447444c2 : (.selects "StackHost$Reader" y_Reader_nextByte y_Reader_nextByte : Cond) ∈ xt_tbl := xt_in (xt_v1 (q := (⟨"StackHost$Reader", "nextByte", "()I"⟩, 6)) (List.mem_of_getElem? (i := 12) (by decide +kernel))) (by decide +kernel)
theorem m_a7435405 : (.code y_Reader_nextByte b_Reader_nextByte 1 (some .int) : Cond) ∈ xt_tbl := xt_in (xt_t3 (List.mem_of_getElem? (i := 223) (by decide +kernel))) (by decide +kernel)
theorem nm_Reader_nextByte : xt_nm y_Reader_nextByte 0 := ⟨by decide +kernel, by decide +kernel⟩
set_option maxRecDepth 100000 in
def T_Reader_byteUpTo : List (Nat × Instr × Nat) := [(0, .aload_n 0, 1), (1, .invokevirtual 122, 3), (4, .istore_n 2, 1), (5, .iload_n 2, 1), (6, .iload_n 1, 1), (7, .if_icmp .le 17, 3), (10, .aload_n 0, 1), (11, .getfield 15, 3), (14, .iconst 5, 1), (15, .aload_n 0, 1), (16, .getfield 41, 3), (19, .iconst 1, 1), (20, .isub, 1), (21, .invokevirtual 37, 3), (24, .iload_n 2, 1), (25, .ireturn, 1)]
theorem D_Reader_byteUpTo : ∀ q ∈ T_Reader_byteUpTo, decode b_Reader_byteUpTo q.1 = .ok (q.2.1, q.2.2) := by decide +kernel
def w_Reader_byteUpTo_L24 (Qr : Int32 → xb_H → Prop) (Qt : String → xb_H → Prop) (x2 : Int32) (h : xb_H) (bc : Nat) (bs : Nat) : Prop :=
    Qr x2 h

def w_Reader_byteUpTo (x0 : Nat) (x1 : Int32) (h : xb_H) (bc : Nat) (bs : Nat) (Qr : Int32 → xb_H → Prop) (Qt : String → xb_H → Prop) : Prop :=
    xb_k h x0 = 4 ∧ ∃ c4 sc4 : Nat, c4 ≤ bc ∧ sc4 ≤ bs ∧ w_Reader_nextByte x0 h c4 sc4 (fun (r3 : Int32) (h2 : xb_H) => xb_ext h h2 → ((r3 ≤ x1 → w_Reader_byteUpTo_L24 Qr Qt r3 h2 (bc - c4) (bs - sc4)) ∧ (¬ r3 ≤ x1 → ∃ b6 : Nat, (xb_r h2 x0 0) = some b6 ∧ xb_k h2 b6 = 3 ∧ ∃ c10 sc10 : Nat, c10 ≤ (bc - c4) ∧ sc10 ≤ (bs - sc4) ∧ w_StackModule_fail b6 5 ((xb_i h2 x0 3) - 1) h2 c10 sc10 (fun (h8 : xb_H) => xb_ext h2 h8 → w_Reader_byteUpTo_L24 Qr Qt r3 h8 ((bc - c4) - c10) ((bs - sc4) - sc10)) Qt))) Qt

set_option maxHeartbeats 4000000 in
set_option maxRecDepth 100000 in
theorem am_Reader_byteUpTo_L24 (l : Launch) (hfl : l.flags = pinnedFlags ++ [noTraceFlag]) (D : va_G) (A : Nat → Prop) (σ MC MS : Nat) (h0 : xb_H) (Qr : Int32 → xb_H → Prop) (Qt : String → xb_H → Prop) (x2 : Int32) (h : xb_H) (bc : Nat) (bs : Nat) (hw : w_Reader_byteUpTo_L24 Qr Qt x2 h bc bs) : xb_am l D A σ 4 MC MS h0 (fun v h => ∃ r, v = some (.int r) ∧ Qr r h) Qt y_Reader_byteUpTo.cls y_Reader_byteUpTo.name b_Reader_byteUpTo 3 ([] : List ExceptionTableEntry) (some .int) 24 [(2, .int x2)] [] h bc bs := by
  unfold w_Reader_byteUpTo_L24 at hw
  intro p e s m args below meth c hC H locs ls k n hE hl hR hS hk hn
  obtain ⟨hx, hb, hown, hlocks, htab, hml, hr, hB, hA, hnm⟩ := id hC
  have hts := hB.1.1.at args
  refine lv_iload_n hx hb (xb_d D_Reader_byteUpTo 14 rfl) rfl (lv_at hl 0 rfl) ?_
  exact xb_iret hx hb hr hlocks (show k ≤ MC by omega) (show n ≤ MS by omega) hE hR hS (xb_d D_Reader_byteUpTo 15 rfl) hw

set_option maxHeartbeats 4000000 in
set_option maxRecDepth 100000 in
theorem ok_Reader_byteUpTo (l : Launch) (hfl : l.flags = pinnedFlags ++ [noTraceFlag]) (D : va_G) (A : Nat → Prop) (σ : Nat) (x0 : Nat) (x1 : Int32) (h : xb_H) (bc : Nat) (bs : Nat) (Qr : Int32 → xb_H → Prop) (Qt : String → xb_H → Prop) (hw : w_Reader_byteUpTo x0 x1 h bc bs Qr Qt) : xt_Met l y_Reader_byteUpTo [.code y_Reader_byteUpTo b_Reader_byteUpTo 3 (some .int)] (xb_rm 4 bc bs) (xb_Pc D A σ h [.ref x0, .int x1]) (xb_Qc D A h (fun v h => ∃ r, v = some (.int r) ∧ Qr r h) Qt) bc bs A := by
  refine xb_ofAm (cc := b_Reader_byteUpTo) (by decide) (Nat.le_of_ble_eq_true rfl) ?_
  unfold w_Reader_byteUpTo at hw
  show xb_am l D A σ 4 bc bs h (fun v h => ∃ r, v = some (.int r) ∧ Qr r h) Qt y_Reader_byteUpTo.cls y_Reader_byteUpTo.name b_Reader_byteUpTo 3 ([] : List ExceptionTableEntry) (some .int) 0 [(0, .ref x0), (1, .int x1)] [] h bc bs
  obtain ⟨MC, hMC⟩ : ∃ x, x = bc := ⟨_, rfl⟩
  obtain ⟨MS, hMS⟩ : ∃ x, x = bs := ⟨_, rfl⟩
  rw [show xb_am l D A σ 4 bc bs = xb_am l D A σ 4 MC MS by rw [hMC, hMS]]
  obtain ⟨h0, hh0⟩ : ∃ x, x = h := ⟨_, rfl⟩
  rw [show xb_am l D A σ 4 MC MS h = xb_am l D A σ 4 MC MS h0 by rw [hh0]]
  intro p e s m args below meth c hC H locs ls k n hE hl hR hS hk hn
  obtain ⟨hx, hb, hown, hlocks, htab, hml, hr, hB, hA, hnm⟩ := id hC
  have hts := hB.1.1.at args
  refine lv_aload_n hx hb (xb_d D_Reader_byteUpTo 0 rfl) rfl (lv_at hl 0 rfl) ?_
  obtain ⟨hk1, hw⟩ := hw
  obtain ⟨c4, sc4, hlc4, hlsc4, hw⟩ := hw
  refine xb_call (D := D) (A := A) (σ := σ) (h := h) (d := 3) (mc := c4) (ms := sc4) (maxL := 1) (rest := []) (av := [.ref x0]) (fun T hT X => by obtain ⟨cb, r1, r2, r3⟩ := xb_recv (ci := 3) hR rfl hk1 (by decide); exact xt_invV X hx hown (hts _ m_16104bdc) (hts _ m_5816e59e) (hts _ m_447444c2) (xt_sigOf (hts _ m_a7435405)) nm_Reader_nextByte (by rw [hT]; exact r1) r2 r3 (g := F0 m 1 ls [.ref x0]) rfl (argsL := []) (rest := []) rfl rfl (by rw [hb]; exact (xb_d D_Reader_byteUpTo 1 rfl))) (ok_Reader_nextByte l hfl D A σ x0 h c4 sc4 _ _ hw) (hml.trans hl.1.symm) (by rw [hb]; exact (xb_d D_Reader_byteUpTo 1 rfl)) (Nat.le_of_ble_eq_true rfl) (Nat.le_of_ble_eq_true rfl) (Nat.le_of_ble_eq_true rfl) (show k + c4 ≤ MC by omega) (show n + sc4 ≤ MS by omega) (xt_w1 hB.1 m_a7435405) (xt_cdOf hB.1 m_a7435405) (hts _ m_938fcec4) hB hR hS hA (fun vv h2 H locs hq hEh2 hR hS => ?_) (fun XX ax h2 H locs hq hEh2 hex hR hS => ?_)
  · obtain ⟨r3, rfl, hw⟩ := hq
    have hw := hw hEh2
    have hE := hE.tr hEh2
    refine W.eq (g2 := F0 m 4 ls [.int r3]) rfl ?_
    refine lv_istore_n hx hb (xb_d D_Reader_byteUpTo 2 rfl) rfl hl (by decide) rfl (fun ls hl => ?_)
    have hl : lv_has ls 3 [(2, .int r3), (0, .ref x0), (1, .int x1)] := hl
    refine lv_iload_n hx hb (xb_d D_Reader_byteUpTo 3 rfl) rfl (lv_at hl 0 rfl) ?_
    refine lv_iload_n hx hb (xb_d D_Reader_byteUpTo 4 rfl) rfl (lv_at hl 2 rfl) ?_
    refine lv_icmp_le (tgt := 24) hx hb (xb_d D_Reader_byteUpTo 5 rfl) rfl (fun hc5 => ?_) (fun hc5 => ?_)
    · have hw := hw.1 hc5
      exact am_Reader_byteUpTo_L24 l hfl D A σ MC MS h0 Qr Qt r3 h2 (bc - c4) (bs - sc4) hw p e s m args below meth c hC H locs ls (k + c4) (n + sc4) hE (lv_sub hl [0] rfl) hR hS (by omega) (by omega)
    · have hw := hw.2 hc5
      refine lv_aload_n hx hb (xb_d D_Reader_byteUpTo 6 rfl) rfl (lv_at hl 1 rfl) ?_
      have hk1 : xb_k h2 x0 = 4 := hEh2.k hk1
      refine xb_getP (C := R_Reader) (T := F_Reader) (N := 6) hx hb 3 0 hts fin_Reader hown hR hk1 (by decide) rfl (by decide) rfl (hts _ m_76d8349c) (fun _ h9 => h9) (xb_d D_Reader_byteUpTo 7 rfl) ?_
      obtain ⟨b6, eb6, hw⟩ := hw
      refine xb_some eb6 ?_
      refine lv_iconst (v := 5) hx hb (xb_d D_Reader_byteUpTo 8 rfl) (by decide) ?_
      refine lv_aload_n hx hb (xb_d D_Reader_byteUpTo 9 rfl) rfl (lv_at hl 1 rfl) ?_
      refine xb_getI (C := R_Reader) (T := F_Reader) (N := 6) hx hb 3 3 hts fin_Reader hown hR hk1 (by decide) rfl (by decide) rfl (hts _ m_a9b84ac2) (fun _ h9 => h9) (xb_d D_Reader_byteUpTo 10 rfl) ?_
      refine lv_iconst (v := 1) hx hb (xb_d D_Reader_byteUpTo 11 rfl) (by decide) ?_
      refine lv_isub hx hb (xb_d D_Reader_byteUpTo 12 rfl) ?_
      obtain ⟨hk7, hw⟩ := hw
      obtain ⟨c10, sc10, hlc10, hlsc10, hw⟩ := hw
      refine xb_call (D := D) (A := A) (σ := σ) (h := h2) (d := 2) (mc := c10) (ms := sc10) (maxL := 3) (rest := []) (av := [.ref b6, .int 5, .int ((xb_i h2 x0 3) - 1)]) (fun T hT X => by obtain ⟨cb, r1, r2, r3⟩ := xb_recv (ci := 2) hR rfl hk7 (by decide); exact xt_invV X hx hown (hts _ m_6fcde429) (hts _ m_865d5b07) (hts _ m_113f8f75) (xt_sigOf (hts _ m_73e65e5f)) nm_StackModule_fail (by rw [hT]; exact r1) r2 r3 (g := F0 m 21 ls [.int ((xb_i h2 x0 3) - 1), .int 5, .ref b6]) rfl (argsL := [.int 5, .int ((xb_i h2 x0 3) - 1)]) (rest := []) rfl rfl (by rw [hb]; exact (xb_d D_Reader_byteUpTo 13 rfl))) (ok_StackModule_fail l hfl D A σ b6 5 ((xb_i h2 x0 3) - 1) h2 c10 sc10 _ _ hw) (hml.trans hl.1.symm) (by rw [hb]; exact (xb_d D_Reader_byteUpTo 13 rfl)) (Nat.le_of_ble_eq_true rfl) (Nat.le_of_ble_eq_true rfl) (Nat.le_of_ble_eq_true rfl) (show (k + c4) + c10 ≤ MC by omega) (show (n + sc4) + sc10 ≤ MS by omega) (xt_w1 hB.1 m_73e65e5f) (xt_cdOf hB.1 m_73e65e5f) (hts _ m_9c375545) hB hR hS hA (fun vv h8 H locs hq hEh8 hR hS => ?_) (fun XX ax h8 H locs hq hEh8 hex hR hS => ?_)
      · obtain ⟨rfl, hw⟩ := hq
        have hw := hw hEh8
        have hE := hE.tr hEh8
        refine W.eq (g2 := F0 m 24 ls []) rfl ?_
        exact am_Reader_byteUpTo_L24 l hfl D A σ MC MS h0 Qr Qt r3 h8 ((bc - c4) - c10) ((bs - sc4) - sc10) hw p e s m args below meth c hC H locs ls ((k + c4) + c10) ((n + sc4) + sc10) hE (lv_sub hl [0] rfl) hR hS (by omega) (by omega)
      · exact xb_pass hlocks (fun x hx9 => by rw [htab] at hx9; first | cases hx9 | (simp [tableOf] at hx9; rcases hx9 with rfl | rfl | rfl <;> decide)) (show ((k + c4) + c10) ≤ MC by omega) (show ((n + sc4) + sc10) ≤ MS by omega) (hE.tr hEh8) hR hS hex hq
  · exact xb_pass hlocks (fun x hx9 => by rw [htab] at hx9; first | cases hx9 | (simp [tableOf] at hx9; rcases hx9 with rfl | rfl | rfl <;> decide)) (show (k + c4) ≤ MC by omega) (show (n + sc4) ≤ MS by omega) (hE.tr hEh2) hR hS hex hq

set_option maxRecDepth 100000 in
def T_Reader_readBlockType : List (Nat × Instr × Nat) := [(0, .aload_n 0, 1), (1, .invokevirtual 122, 3), (4, .istore_n 1, 1), (5, .iload_n 1, 1), (6, .bipush 64, 2), (8, .if_icmp .eq 29, 3), (11, .iload_n 1, 1), (12, .bipush 124, 2), (14, .if_icmp .lt 9, 3), (17, .iload_n 1, 1), (18, .bipush 127, 2), (20, .if_icmp .le 17, 3), (23, .aload_n 0, 1), (24, .getfield 15, 3), (27, .iconst 5, 1), (28, .aload_n 0, 1), (29, .getfield 41, 3), (32, .iconst 1, 1), (33, .isub, 1), (34, .invokevirtual 37, 3), (37, .return_, 1)]
theorem D_Reader_readBlockType : ∀ q ∈ T_Reader_readBlockType, decode b_Reader_readBlockType q.1 = .ok (q.2.1, q.2.2) := by decide +kernel
def w_Reader_readBlockType_L37 (Qr : xb_H → Prop) (Qt : String → xb_H → Prop) (h : xb_H) (bc : Nat) (bs : Nat) : Prop :=
    Qr h

def w_Reader_readBlockType_L23 (Qr : xb_H → Prop) (Qt : String → xb_H → Prop) (x0 : Nat) (h : xb_H) (bc : Nat) (bs : Nat) : Prop :=
    xb_k h x0 = 4 ∧ ∃ b2 : Nat, (xb_r h x0 0) = some b2 ∧ xb_k h b2 = 3 ∧ ∃ c6 sc6 : Nat, c6 ≤ bc ∧ sc6 ≤ bs ∧ w_StackModule_fail b2 5 ((xb_i h x0 3) - 1) h c6 sc6 (fun (h4 : xb_H) => xb_ext h h4 → w_Reader_readBlockType_L37 Qr Qt h4 (bc - c6) (bs - sc6)) Qt

def w_Reader_readBlockType (x0 : Nat) (h : xb_H) (bc : Nat) (bs : Nat) (Qr : xb_H → Prop) (Qt : String → xb_H → Prop) : Prop :=
    xb_k h x0 = 4 ∧ ∃ c4 sc4 : Nat, c4 ≤ bc ∧ sc4 ≤ bs ∧ w_Reader_nextByte x0 h c4 sc4 (fun (r3 : Int32) (h2 : xb_H) => xb_ext h h2 → ((r3 = (64 : Int32) → w_Reader_readBlockType_L37 Qr Qt h2 (bc - c4) (bs - sc4)) ∧ (¬ r3 = (64 : Int32) → ((r3 < (124 : Int32) → w_Reader_readBlockType_L23 Qr Qt x0 h2 (bc - c4) (bs - sc4)) ∧ (¬ r3 < (124 : Int32) → ((r3 ≤ (127 : Int32) → w_Reader_readBlockType_L37 Qr Qt h2 (bc - c4) (bs - sc4)) ∧ (¬ r3 ≤ (127 : Int32) → w_Reader_readBlockType_L23 Qr Qt x0 h2 (bc - c4) (bs - sc4)))))))) Qt

set_option maxHeartbeats 4000000 in
set_option maxRecDepth 100000 in
theorem am_Reader_readBlockType_L37 (l : Launch) (hfl : l.flags = pinnedFlags ++ [noTraceFlag]) (D : va_G) (A : Nat → Prop) (σ MC MS : Nat) (h0 : xb_H) (Qr : xb_H → Prop) (Qt : String → xb_H → Prop) (h : xb_H) (bc : Nat) (bs : Nat) (hw : w_Reader_readBlockType_L37 Qr Qt h bc bs) : xb_am l D A σ 4 MC MS h0 (fun v h => v = none ∧ Qr h) Qt y_Reader_readBlockType.cls y_Reader_readBlockType.name b_Reader_readBlockType 2 ([] : List ExceptionTableEntry) none 37 [] [] h bc bs := by
  unfold w_Reader_readBlockType_L37 at hw
  intro p e s m args below meth c hC H locs ls k n hE hl hR hS hk hn
  obtain ⟨hx, hb, hown, hlocks, htab, hml, hr, hB, hA, hnm⟩ := id hC
  have hts := hB.1.1.at args
  exact xb_vret hx hb hr hlocks (show k ≤ MC by omega) (show n ≤ MS by omega) hE hR hS (xb_d D_Reader_readBlockType 20 rfl) hw

set_option maxHeartbeats 4000000 in
set_option maxRecDepth 100000 in
theorem am_Reader_readBlockType_L23 (l : Launch) (hfl : l.flags = pinnedFlags ++ [noTraceFlag]) (D : va_G) (A : Nat → Prop) (σ MC MS : Nat) (h0 : xb_H) (Qr : xb_H → Prop) (Qt : String → xb_H → Prop) (x0 : Nat) (h : xb_H) (bc : Nat) (bs : Nat) (hw : w_Reader_readBlockType_L23 Qr Qt x0 h bc bs) : xb_am l D A σ 4 MC MS h0 (fun v h => v = none ∧ Qr h) Qt y_Reader_readBlockType.cls y_Reader_readBlockType.name b_Reader_readBlockType 2 ([] : List ExceptionTableEntry) none 23 [(0, .ref x0)] [] h bc bs := by
  unfold w_Reader_readBlockType_L23 at hw
  intro p e s m args below meth c hC H locs ls k n hE hl hR hS hk hn
  obtain ⟨hx, hb, hown, hlocks, htab, hml, hr, hB, hA, hnm⟩ := id hC
  have hts := hB.1.1.at args
  refine lv_aload_n hx hb (xb_d D_Reader_readBlockType 12 rfl) rfl (lv_at hl 0 rfl) ?_
  obtain ⟨hk1, hw⟩ := hw
  refine xb_getP (C := R_Reader) (T := F_Reader) (N := 6) hx hb 3 0 hts fin_Reader hown hR hk1 (by decide) rfl (by decide) rfl (hts _ m_76d8349c) (fun _ h9 => h9) (xb_d D_Reader_readBlockType 13 rfl) ?_
  obtain ⟨b2, eb2, hw⟩ := hw
  refine xb_some eb2 ?_
  refine lv_iconst (v := 5) hx hb (xb_d D_Reader_readBlockType 14 rfl) (by decide) ?_
  refine lv_aload_n hx hb (xb_d D_Reader_readBlockType 15 rfl) rfl (lv_at hl 0 rfl) ?_
  refine xb_getI (C := R_Reader) (T := F_Reader) (N := 6) hx hb 3 3 hts fin_Reader hown hR hk1 (by decide) rfl (by decide) rfl (hts _ m_a9b84ac2) (fun _ h9 => h9) (xb_d D_Reader_readBlockType 16 rfl) ?_
  refine lv_iconst (v := 1) hx hb (xb_d D_Reader_readBlockType 17 rfl) (by decide) ?_
  refine lv_isub hx hb (xb_d D_Reader_readBlockType 18 rfl) ?_
  obtain ⟨hk3, hw⟩ := hw
  obtain ⟨c6, sc6, hlc6, hlsc6, hw⟩ := hw
  refine xb_call (D := D) (A := A) (σ := σ) (h := h) (d := 2) (mc := c6) (ms := sc6) (maxL := 3) (rest := []) (av := [.ref b2, .int 5, .int ((xb_i h x0 3) - 1)]) (fun T hT X => by obtain ⟨cb, r1, r2, r3⟩ := xb_recv (ci := 2) hR rfl hk3 (by decide); exact xt_invV X hx hown (hts _ m_6fcde429) (hts _ m_865d5b07) (hts _ m_113f8f75) (xt_sigOf (hts _ m_73e65e5f)) nm_StackModule_fail (by rw [hT]; exact r1) r2 r3 (g := F0 m 34 ls [.int ((xb_i h x0 3) - 1), .int 5, .ref b2]) rfl (argsL := [.int 5, .int ((xb_i h x0 3) - 1)]) (rest := []) rfl rfl (by rw [hb]; exact (xb_d D_Reader_readBlockType 19 rfl))) (ok_StackModule_fail l hfl D A σ b2 5 ((xb_i h x0 3) - 1) h c6 sc6 _ _ hw) (hml.trans hl.1.symm) (by rw [hb]; exact (xb_d D_Reader_readBlockType 19 rfl)) (Nat.le_of_ble_eq_true rfl) (Nat.le_of_ble_eq_true rfl) (Nat.le_of_ble_eq_true rfl) (show k + c6 ≤ MC by omega) (show n + sc6 ≤ MS by omega) (xt_w1 hB.1 m_73e65e5f) (xt_cdOf hB.1 m_73e65e5f) (hts _ m_9c375545) hB hR hS hA (fun vv h4 H locs hq hEh4 hR hS => ?_) (fun XX ax h4 H locs hq hEh4 hex hR hS => ?_)
  · obtain ⟨rfl, hw⟩ := hq
    have hw := hw hEh4
    have hE := hE.tr hEh4
    refine W.eq (g2 := F0 m 37 ls []) rfl ?_
    exact am_Reader_readBlockType_L37 l hfl D A σ MC MS h0 Qr Qt h4 (bc - c6) (bs - sc6) hw p e s m args below meth c hC H locs ls (k + c6) (n + sc6) hE (lv_sub hl [] rfl) hR hS (by omega) (by omega)
  · exact xb_pass hlocks (fun x hx9 => by rw [htab] at hx9; first | cases hx9 | (simp [tableOf] at hx9; rcases hx9 with rfl | rfl | rfl <;> decide)) (show (k + c6) ≤ MC by omega) (show (n + sc6) ≤ MS by omega) (hE.tr hEh4) hR hS hex hq

set_option maxHeartbeats 4000000 in
set_option maxRecDepth 100000 in
theorem ok_Reader_readBlockType (l : Launch) (hfl : l.flags = pinnedFlags ++ [noTraceFlag]) (D : va_G) (A : Nat → Prop) (σ : Nat) (x0 : Nat) (h : xb_H) (bc : Nat) (bs : Nat) (Qr : xb_H → Prop) (Qt : String → xb_H → Prop) (hw : w_Reader_readBlockType x0 h bc bs Qr Qt) : xt_Met l y_Reader_readBlockType [.code y_Reader_readBlockType b_Reader_readBlockType 2 none] (xb_rm 4 bc bs) (xb_Pc D A σ h [.ref x0]) (xb_Qc D A h (fun v h => v = none ∧ Qr h) Qt) bc bs A := by
  refine xb_ofAm (cc := b_Reader_readBlockType) (by decide) (Nat.le_of_ble_eq_true rfl) ?_
  unfold w_Reader_readBlockType at hw
  show xb_am l D A σ 4 bc bs h (fun v h => v = none ∧ Qr h) Qt y_Reader_readBlockType.cls y_Reader_readBlockType.name b_Reader_readBlockType 2 ([] : List ExceptionTableEntry) none 0 [(0, .ref x0)] [] h bc bs
  obtain ⟨MC, hMC⟩ : ∃ x, x = bc := ⟨_, rfl⟩
  obtain ⟨MS, hMS⟩ : ∃ x, x = bs := ⟨_, rfl⟩
  rw [show xb_am l D A σ 4 bc bs = xb_am l D A σ 4 MC MS by rw [hMC, hMS]]
  obtain ⟨h0, hh0⟩ : ∃ x, x = h := ⟨_, rfl⟩
  rw [show xb_am l D A σ 4 MC MS h = xb_am l D A σ 4 MC MS h0 by rw [hh0]]
  intro p e s m args below meth c hC H locs ls k n hE hl hR hS hk hn
  obtain ⟨hx, hb, hown, hlocks, htab, hml, hr, hB, hA, hnm⟩ := id hC
  have hts := hB.1.1.at args
  refine lv_aload_n hx hb (xb_d D_Reader_readBlockType 0 rfl) rfl (lv_at hl 0 rfl) ?_
  obtain ⟨hk1, hw⟩ := hw
  obtain ⟨c4, sc4, hlc4, hlsc4, hw⟩ := hw
  refine xb_call (D := D) (A := A) (σ := σ) (h := h) (d := 3) (mc := c4) (ms := sc4) (maxL := 1) (rest := []) (av := [.ref x0]) (fun T hT X => by obtain ⟨cb, r1, r2, r3⟩ := xb_recv (ci := 3) hR rfl hk1 (by decide); exact xt_invV X hx hown (hts _ m_16104bdc) (hts _ m_5816e59e) (hts _ m_447444c2) (xt_sigOf (hts _ m_a7435405)) nm_Reader_nextByte (by rw [hT]; exact r1) r2 r3 (g := F0 m 1 ls [.ref x0]) rfl (argsL := []) (rest := []) rfl rfl (by rw [hb]; exact (xb_d D_Reader_readBlockType 1 rfl))) (ok_Reader_nextByte l hfl D A σ x0 h c4 sc4 _ _ hw) (hml.trans hl.1.symm) (by rw [hb]; exact (xb_d D_Reader_readBlockType 1 rfl)) (Nat.le_of_ble_eq_true rfl) (Nat.le_of_ble_eq_true rfl) (Nat.le_of_ble_eq_true rfl) (show k + c4 ≤ MC by omega) (show n + sc4 ≤ MS by omega) (xt_w1 hB.1 m_a7435405) (xt_cdOf hB.1 m_a7435405) (hts _ m_938fcec4) hB hR hS hA (fun vv h2 H locs hq hEh2 hR hS => ?_) (fun XX ax h2 H locs hq hEh2 hex hR hS => ?_)
  · obtain ⟨r3, rfl, hw⟩ := hq
    have hw := hw hEh2
    have hE := hE.tr hEh2
    refine W.eq (g2 := F0 m 4 ls [.int r3]) rfl ?_
    refine lv_istore_n hx hb (xb_d D_Reader_readBlockType 2 rfl) rfl hl (by decide) rfl (fun ls hl => ?_)
    have hl : lv_has ls 2 [(1, .int r3), (0, .ref x0)] := hl
    refine lv_iload_n hx hb (xb_d D_Reader_readBlockType 3 rfl) rfl (lv_at hl 0 rfl) ?_
    refine lv_bipush (v := 64) hx hb (xb_d D_Reader_readBlockType 4 rfl) (by decide) ?_
    refine lv_icmp_eq (tgt := 37) hx hb (xb_d D_Reader_readBlockType 5 rfl) rfl (fun hc5 => ?_) (fun hc5 => ?_)
    · have hw := hw.1 hc5
      exact am_Reader_readBlockType_L37 l hfl D A σ MC MS h0 Qr Qt h2 (bc - c4) (bs - sc4) hw p e s m args below meth c hC H locs ls (k + c4) (n + sc4) hE (lv_sub hl [] rfl) hR hS (by omega) (by omega)
    · have hw := hw.2 hc5
      refine lv_iload_n hx hb (xb_d D_Reader_readBlockType 6 rfl) rfl (lv_at hl 0 rfl) ?_
      refine lv_bipush (v := 124) hx hb (xb_d D_Reader_readBlockType 7 rfl) (by decide) ?_
      refine lv_icmp_lt (tgt := 23) hx hb (xb_d D_Reader_readBlockType 8 rfl) rfl (fun hc6 => ?_) (fun hc6 => ?_)
      · have hw := hw.1 hc6
        exact am_Reader_readBlockType_L23 l hfl D A σ MC MS h0 Qr Qt x0 h2 (bc - c4) (bs - sc4) hw p e s m args below meth c hC H locs ls (k + c4) (n + sc4) hE (lv_sub hl [1] rfl) hR hS (by omega) (by omega)
      · have hw := hw.2 hc6
        refine lv_iload_n hx hb (xb_d D_Reader_readBlockType 9 rfl) rfl (lv_at hl 0 rfl) ?_
        refine lv_bipush (v := 127) hx hb (xb_d D_Reader_readBlockType 10 rfl) (by decide) ?_
        refine lv_icmp_le (tgt := 37) hx hb (xb_d D_Reader_readBlockType 11 rfl) rfl (fun hc7 => ?_) (fun hc7 => ?_)
        · have hw := hw.1 hc7
          exact am_Reader_readBlockType_L37 l hfl D A σ MC MS h0 Qr Qt h2 (bc - c4) (bs - sc4) hw p e s m args below meth c hC H locs ls (k + c4) (n + sc4) hE (lv_sub hl [] rfl) hR hS (by omega) (by omega)
        · have hw := hw.2 hc7
          exact am_Reader_readBlockType_L23 l hfl D A σ MC MS h0 Qr Qt x0 h2 (bc - c4) (bs - sc4) hw p e s m args below meth c hC H locs ls (k + c4) (n + sc4) hE (lv_sub hl [1] rfl) hR hS (by omega) (by omega)
  · exact xb_pass hlocks (fun x hx9 => by rw [htab] at hx9; first | cases hx9 | (simp [tableOf] at hx9; rcases hx9 with rfl | rfl | rfl <;> decide)) (show (k + c4) ≤ MC by omega) (show (n + sc4) ≤ MS by omega) (hE.tr hEh2) hR hS hex hq

theorem m_687f726b : (.constantLong "StackHost$Reader" 76 4294967295 : Cond) ∈ xt_tbl := xt_in (xt_t3 (List.mem_of_getElem? (i := 195) (by decide +kernel))) (by decide +kernel)
theorem m_2c379b4d : (.methodLink "StackHost$Reader" 70 y_Reader_count : Cond) ∈ xt_tbl := xt_in (xt_t3 (List.mem_of_getElem? (i := 187) (by decide +kernel))) (by decide +kernel)
theorem m_a120e786 : (.instanceMethod y_Reader_count : Cond) ∈ xt_tbl := xt_in (xt_t3 (List.mem_of_getElem? (i := 189) (by decide +kernel))) (by decide +kernel)
theorem m_e903c73e : (.selects "StackHost$Reader" y_Reader_count y_Reader_count : Cond) ∈ xt_tbl := xt_in (xt_v1 (q := (⟨"StackHost$Reader", "count", "()I"⟩, 6)) (List.mem_of_getElem? (i := 4) (by decide +kernel))) (by decide +kernel)
theorem m_99690a98 : (.code y_Reader_count b_Reader_count 4 (some .int) : Cond) ∈ xt_tbl := xt_in (xt_t3 (List.mem_of_getElem? (i := 190) (by decide +kernel))) (by decide +kernel)
theorem nm_Reader_count : xt_nm y_Reader_count 0 := ⟨by decide +kernel, by decide +kernel⟩
set_option maxRecDepth 100000 in
def T_Reader_readLabels : List (Nat × Instr × Nat) := [(0, .aload_n 0, 1), (1, .invokevirtual 70, 3), (4, .istore_n 2, 1), (5, .aload_n 0, 1), (6, .getfield 29, 3), (9, .iload_n 1, 1), (10, .iconst 1, 1), (11, .iadd, 1), (12, .iload_n 2, 1), (13, .iastore, 1), (14, .lconst 0, 1), (15, .lstore_n 3, 1), (16, .lload_n 3, 1), (17, .iload_n 2, 1), (18, .i2l, 1), (19, .ldc2_w 76, 3), (22, .land, 1), (23, .lcmp, 1), (24, .ifCond .gt 29, 3), (27, .aload_n 0, 1), (28, .invokevirtual 70, 3), (31, .istore 5, 2), (33, .aload_n 0, 1), (34, .getfield 29, 3), (37, .iload_n 1, 1), (38, .iconst 2, 1), (39, .iadd, 1), (40, .lload_n 3, 1), (41, .l2i, 1), (42, .iadd, 1), (43, .iload 5, 2), (45, .iastore, 1), (46, .lload_n 3, 1), (47, .lconst 1, 1), (48, .ladd, 1), (49, .lstore_n 3, 1), (50, .goto (-34), 3), (53, .aload_n 0, 1), (54, .getfield 29, 3), (57, .iload_n 1, 1), (58, .aload_n 0, 1), (59, .getfield 41, 3), (62, .iastore, 1), (63, .return_, 1)]
theorem D_Reader_readLabels : ∀ q ∈ T_Reader_readLabels, decode b_Reader_readLabels q.1 = .ok (q.2.1, q.2.2) := by decide +kernel
def w_Reader_readLabels_L16 (Qr : xb_H → Prop) (Qt : String → xb_H → Prop) : Nat → Nat → Int32 → Int32 → Int64 → xb_H → Nat → Nat → Prop
  | 0, _, _, _, _, _, _, _ => False
  | n9 + 1, x0, x1, x2, x3, h, bc, bs =>
    ((((Int32.toInt64 x2) &&& 4294967295) < x3 → xb_k h x0 = 4 ∧ ∃ b3 : Nat, (xb_r h x0 2) = some b3 ∧ xb_k h b3 = 102 ∧ vp_in x1 (xb_n h b3) ∧ ∀ h6 : xb_H, h6 = xb_I h b3 (Int32.toNatClampNeg x1) (xb_i h x0 3) → Qr h6) ∧ (¬ ((Int32.toInt64 x2) &&& 4294967295) < x3 → xb_k h x0 = 4 ∧ ∃ c10 sc10 : Nat, c10 ≤ bc ∧ sc10 ≤ bs ∧ w_Reader_count x0 h c10 sc10 (fun (r9 : Int32) (h8 : xb_H) => xb_ext h h8 → ∃ b11 : Nat, (xb_r h8 x0 2) = some b11 ∧ xb_k h8 b11 = 102 ∧ vp_in ((x1 + 2) + (Int64.toInt32 x3)) (xb_n h8 b11) ∧ ∀ h14 : xb_H, h14 = xb_I h8 b11 (Int32.toNatClampNeg ((x1 + 2) + (Int64.toInt32 x3))) r9 → ∀ v15 : Int64, v15 = (x3 + 1) → w_Reader_readLabels_L16 Qr Qt n9 x0 x1 x2 v15 h14 (bc - c10) (bs - sc10)) Qt))

def w_Reader_readLabels (x0 : Nat) (x1 : Int32) (h : xb_H) (bc : Nat) (bs : Nat) (Qr : xb_H → Prop) (Qt : String → xb_H → Prop) : Prop :=
    xb_k h x0 = 4 ∧ ∃ c4 sc4 : Nat, c4 ≤ bc ∧ sc4 ≤ bs ∧ w_Reader_count x0 h c4 sc4 (fun (r3 : Int32) (h2 : xb_H) => xb_ext h h2 → ∃ b5 : Nat, (xb_r h2 x0 2) = some b5 ∧ xb_k h2 b5 = 102 ∧ vp_in (x1 + 1) (xb_n h2 b5) ∧ ∀ h8 : xb_H, h8 = xb_I h2 b5 (Int32.toNatClampNeg (x1 + 1)) r3 → (∃ n8 : Nat, w_Reader_readLabels_L16 Qr Qt n8 x0 x1 r3 0 h8 (bc - c4) (bs - sc4))) Qt

set_option maxHeartbeats 4000000 in
set_option maxRecDepth 100000 in
theorem am_Reader_readLabels_L16 (l : Launch) (hfl : l.flags = pinnedFlags ++ [noTraceFlag]) (D : va_G) (A : Nat → Prop) (σ MC MS : Nat) (h0 : xb_H) (Qr : xb_H → Prop) (Qt : String → xb_H → Prop) (n9 : Nat) : ∀ (x0 : Nat) (x1 : Int32) (x2 : Int32) (x3 : Int64) (h : xb_H) (bc : Nat) (bs : Nat), w_Reader_readLabels_L16 Qr Qt n9 x0 x1 x2 x3 h bc bs → xb_am l D A σ 4 MC MS h0 (fun v h => v = none ∧ Qr h) Qt y_Reader_readLabels.cls y_Reader_readLabels.name b_Reader_readLabels 6 ([] : List ExceptionTableEntry) none 16 [(0, .ref x0), (1, .int x1), (2, .int x2), (3, .long x3)] [] h bc bs := by
  induction n9 with
  | zero => intro x0 x1 x2 x3 h bc bs hw; exact False.elim hw
  | succ n9 ih =>
    intro x0 x1 x2 x3 h bc bs hw
    unfold w_Reader_readLabels_L16 at hw
    intro p e s m args below meth c hC H locs ls k n hE hl hR hS hk hn
    obtain ⟨hx, hb, hown, hlocks, htab, hml, hr, hB, hA, hnm⟩ := id hC
    have hts := hB.1.1.at args
    refine lv_lload_n hx hb (xb_d D_Reader_readLabels 12 rfl) rfl (lv_at hl 3 rfl) ?_
    refine lv_iload_n hx hb (xb_d D_Reader_readLabels 13 rfl) rfl (lv_at hl 2 rfl) ?_
    refine lv_i2l hx hb (xb_d D_Reader_readLabels 14 rfl) rfl ?_
    refine lv_ldc2 (v := 4294967295) hx hb hown (hts _ m_687f726b) (xb_d D_Reader_readLabels 15 rfl) ?_
    refine lv_land hx hb (xb_d D_Reader_readLabels 16 rfl) ?_
    refine xb_lc_gt (tgt := 53) hx hb (xb_d D_Reader_readLabels 17 rfl) (xb_d D_Reader_readLabels 18 rfl) rfl (fun hc1 => ?_) (fun hc1 => ?_)
    · have hw := hw.1 hc1
      refine lv_aload_n hx hb (xb_d D_Reader_readLabels 37 rfl) rfl (lv_at hl 0 rfl) ?_
      obtain ⟨hk2, hw⟩ := hw
      refine xb_getP (C := R_Reader) (T := F_Reader) (N := 6) hx hb 3 2 hts fin_Reader hown hR hk2 (by decide) rfl (by decide) rfl (hts _ m_5660bdee) (fun _ h9 => h9) (xb_d D_Reader_readLabels 38 rfl) ?_
      obtain ⟨b3, eb3, hw⟩ := hw
      refine xb_some eb3 ?_
      refine lv_iload_n hx hb (xb_d D_Reader_readLabels 39 rfl) rfl (lv_at hl 1 rfl) ?_
      refine lv_aload_n hx hb (xb_d D_Reader_readLabels 40 rfl) rfl (lv_at hl 0 rfl) ?_
      refine xb_getI (C := R_Reader) (T := F_Reader) (N := 6) hx hb 3 3 hts fin_Reader hown hR hk2 (by decide) rfl (by decide) rfl (hts _ m_a9b84ac2) (fun _ h9 => h9) (xb_d D_Reader_readLabels 41 rfl) ?_
      obtain ⟨hk4, hw⟩ := hw
      obtain ⟨hi5, hw⟩ := hw
      refine xb_iast hx hb hR hS hk4 hi5 (xb_d D_Reader_readLabels 42 rfl) (fun H locs hR hS => ?_)
      obtain ⟨h6, eh6⟩ : ∃ x : xb_H, x = xb_I h b3 (Int32.toNatClampNeg x1) (xb_i h x0 3) := ⟨_, rfl⟩
      rw [← eh6] at hR
      have hw := hw h6 eh6
      have hE : xb_ext h0 h6 := by rw [eh6]; exact hE
      exact xb_vret hx hb hr hlocks (show k ≤ MC by omega) (show n ≤ MS by omega) hE hR hS (xb_d D_Reader_readLabels 43 rfl) hw
    · have hw := hw.2 hc1
      refine lv_aload_n hx hb (xb_d D_Reader_readLabels 19 rfl) rfl (lv_at hl 0 rfl) ?_
      obtain ⟨hk7, hw⟩ := hw
      obtain ⟨c10, sc10, hlc10, hlsc10, hw⟩ := hw
      refine xb_call (D := D) (A := A) (σ := σ) (h := h) (d := 3) (mc := c10) (ms := sc10) (maxL := 4) (rest := []) (av := [.ref x0]) (fun T hT X => by obtain ⟨cb, r1, r2, r3⟩ := xb_recv (ci := 3) hR rfl hk7 (by decide); exact xt_invV X hx hown (hts _ m_2c379b4d) (hts _ m_a120e786) (hts _ m_e903c73e) (xt_sigOf (hts _ m_99690a98)) nm_Reader_count (by rw [hT]; exact r1) r2 r3 (g := F0 m 28 ls [.ref x0]) rfl (argsL := []) (rest := []) rfl rfl (by rw [hb]; exact (xb_d D_Reader_readLabels 20 rfl))) (ok_Reader_count l hfl D A σ x0 h c10 sc10 _ _ hw) (hml.trans hl.1.symm) (by rw [hb]; exact (xb_d D_Reader_readLabels 20 rfl)) (Nat.le_of_ble_eq_true rfl) (Nat.le_of_ble_eq_true rfl) (Nat.le_of_ble_eq_true rfl) (show k + c10 ≤ MC by omega) (show n + sc10 ≤ MS by omega) (xt_w1 hB.1 m_99690a98) (xt_cdOf hB.1 m_99690a98) (hts _ m_938fcec4) hB hR hS hA (fun vv h8 H locs hq hEh8 hR hS => ?_) (fun XX ax h8 H locs hq hEh8 hex hR hS => ?_)
      · obtain ⟨r9, rfl, hw⟩ := hq
        have hw := hw hEh8
        have hE := hE.tr hEh8
        refine W.eq (g2 := F0 m 31 ls [.int r9]) rfl ?_
        refine lv_istore hx hb (xb_d D_Reader_readLabels 21 rfl) hl (by decide) rfl (fun ls hl => ?_)
        have hl : lv_has ls 6 [(5, .int r9), (0, .ref x0), (1, .int x1), (2, .int x2), (3, .long x3)] := hl
        refine lv_aload_n hx hb (xb_d D_Reader_readLabels 22 rfl) rfl (lv_at hl 1 rfl) ?_
        have hk7 : xb_k h8 x0 = 4 := hEh8.k hk7
        refine xb_getP (C := R_Reader) (T := F_Reader) (N := 6) hx hb 3 2 hts fin_Reader hown hR hk7 (by decide) rfl (by decide) rfl (hts _ m_5660bdee) (fun _ h9 => h9) (xb_d D_Reader_readLabels 23 rfl) ?_
        obtain ⟨b11, eb11, hw⟩ := hw
        refine xb_some eb11 ?_
        refine lv_iload_n hx hb (xb_d D_Reader_readLabels 24 rfl) rfl (lv_at hl 2 rfl) ?_
        refine lv_iconst (v := 2) hx hb (xb_d D_Reader_readLabels 25 rfl) (by decide) ?_
        refine lv_iadd hx hb (xb_d D_Reader_readLabels 26 rfl) ?_
        refine lv_lload_n hx hb (xb_d D_Reader_readLabels 27 rfl) rfl (lv_at hl 4 rfl) ?_
        refine lv_l2i hx hb (xb_d D_Reader_readLabels 28 rfl) rfl ?_
        refine lv_iadd hx hb (xb_d D_Reader_readLabels 29 rfl) ?_
        refine lv_iload hx hb (xb_d D_Reader_readLabels 30 rfl) (lv_at hl 0 rfl) ?_
        obtain ⟨hk12, hw⟩ := hw
        obtain ⟨hi13, hw⟩ := hw
        refine xb_iast hx hb hR hS hk12 hi13 (xb_d D_Reader_readLabels 31 rfl) (fun H locs hR hS => ?_)
        obtain ⟨h14, eh14⟩ : ∃ x : xb_H, x = xb_I h8 b11 (Int32.toNatClampNeg ((x1 + 2) + (Int64.toInt32 x3))) r9 := ⟨_, rfl⟩
        rw [← eh14] at hR
        have hw := hw h14 eh14
        have hE : xb_ext h0 h14 := by rw [eh14]; exact hE
        refine lv_lload_n hx hb (xb_d D_Reader_readLabels 32 rfl) rfl (lv_at hl 4 rfl) ?_
        refine lv_lconst (v := 1) hx hb (xb_d D_Reader_readLabels 33 rfl) (by decide) ?_
        refine lv_ladd hx hb (xb_d D_Reader_readLabels 34 rfl) ?_
        obtain ⟨v15, ev15⟩ : ∃ x : Int64, x = (x3 + 1) := ⟨_, rfl⟩
        have hw := hw v15 ev15
        refine xt_numl (y := v15) ev15.symm ?_
        refine lv_lstore_n hx hb (xb_d D_Reader_readLabels 35 rfl) rfl hl (by decide) rfl (fun ls hl => ?_)
        have hl : lv_has ls 6 [(3, .long v15), (5, .int r9), (0, .ref x0), (1, .int x1), (2, .int x2)] := hl
        refine lv_goto (tgt := 16) hx hb (xb_d D_Reader_readLabels 36 rfl) rfl ?_
        exact ih x0 x1 x2 v15 h14 (bc - c10) (bs - sc10) hw p e s m args below meth c hC H locs ls (k + c10) (n + sc10) hE (lv_sub hl [2, 3, 4, 0] rfl) hR hS (by omega) (by omega)
      · exact xb_pass hlocks (fun x hx9 => by rw [htab] at hx9; first | cases hx9 | (simp [tableOf] at hx9; rcases hx9 with rfl | rfl | rfl <;> decide)) (show (k + c10) ≤ MC by omega) (show (n + sc10) ≤ MS by omega) (hE.tr hEh8) hR hS hex hq

set_option maxHeartbeats 4000000 in
set_option maxRecDepth 100000 in
theorem ok_Reader_readLabels (l : Launch) (hfl : l.flags = pinnedFlags ++ [noTraceFlag]) (D : va_G) (A : Nat → Prop) (σ : Nat) (x0 : Nat) (x1 : Int32) (h : xb_H) (bc : Nat) (bs : Nat) (Qr : xb_H → Prop) (Qt : String → xb_H → Prop) (hw : w_Reader_readLabels x0 x1 h bc bs Qr Qt) : xt_Met l y_Reader_readLabels [.code y_Reader_readLabels b_Reader_readLabels 6 none] (xb_rm 4 bc bs) (xb_Pc D A σ h [.ref x0, .int x1]) (xb_Qc D A h (fun v h => v = none ∧ Qr h) Qt) bc bs A := by
  refine xb_ofAm (cc := b_Reader_readLabels) (by decide) (Nat.le_of_ble_eq_true rfl) ?_
  unfold w_Reader_readLabels at hw
  show xb_am l D A σ 4 bc bs h (fun v h => v = none ∧ Qr h) Qt y_Reader_readLabels.cls y_Reader_readLabels.name b_Reader_readLabels 6 ([] : List ExceptionTableEntry) none 0 [(0, .ref x0), (1, .int x1)] [] h bc bs
  obtain ⟨MC, hMC⟩ : ∃ x, x = bc := ⟨_, rfl⟩
  obtain ⟨MS, hMS⟩ : ∃ x, x = bs := ⟨_, rfl⟩
  rw [show xb_am l D A σ 4 bc bs = xb_am l D A σ 4 MC MS by rw [hMC, hMS]]
  obtain ⟨h0, hh0⟩ : ∃ x, x = h := ⟨_, rfl⟩
  rw [show xb_am l D A σ 4 MC MS h = xb_am l D A σ 4 MC MS h0 by rw [hh0]]
  intro p e s m args below meth c hC H locs ls k n hE hl hR hS hk hn
  obtain ⟨hx, hb, hown, hlocks, htab, hml, hr, hB, hA, hnm⟩ := id hC
  have hts := hB.1.1.at args
  refine lv_aload_n hx hb (xb_d D_Reader_readLabels 0 rfl) rfl (lv_at hl 0 rfl) ?_
  obtain ⟨hk1, hw⟩ := hw
  obtain ⟨c4, sc4, hlc4, hlsc4, hw⟩ := hw
  refine xb_call (D := D) (A := A) (σ := σ) (h := h) (d := 3) (mc := c4) (ms := sc4) (maxL := 4) (rest := []) (av := [.ref x0]) (fun T hT X => by obtain ⟨cb, r1, r2, r3⟩ := xb_recv (ci := 3) hR rfl hk1 (by decide); exact xt_invV X hx hown (hts _ m_2c379b4d) (hts _ m_a120e786) (hts _ m_e903c73e) (xt_sigOf (hts _ m_99690a98)) nm_Reader_count (by rw [hT]; exact r1) r2 r3 (g := F0 m 1 ls [.ref x0]) rfl (argsL := []) (rest := []) rfl rfl (by rw [hb]; exact (xb_d D_Reader_readLabels 1 rfl))) (ok_Reader_count l hfl D A σ x0 h c4 sc4 _ _ hw) (hml.trans hl.1.symm) (by rw [hb]; exact (xb_d D_Reader_readLabels 1 rfl)) (Nat.le_of_ble_eq_true rfl) (Nat.le_of_ble_eq_true rfl) (Nat.le_of_ble_eq_true rfl) (show k + c4 ≤ MC by omega) (show n + sc4 ≤ MS by omega) (xt_w1 hB.1 m_99690a98) (xt_cdOf hB.1 m_99690a98) (hts _ m_938fcec4) hB hR hS hA (fun vv h2 H locs hq hEh2 hR hS => ?_) (fun XX ax h2 H locs hq hEh2 hex hR hS => ?_)
  · obtain ⟨r3, rfl, hw⟩ := hq
    have hw := hw hEh2
    have hE := hE.tr hEh2
    refine W.eq (g2 := F0 m 4 ls [.int r3]) rfl ?_
    refine lv_istore_n hx hb (xb_d D_Reader_readLabels 2 rfl) rfl hl (by decide) rfl (fun ls hl => ?_)
    have hl : lv_has ls 6 [(2, .int r3), (0, .ref x0), (1, .int x1)] := hl
    refine lv_aload_n hx hb (xb_d D_Reader_readLabels 3 rfl) rfl (lv_at hl 1 rfl) ?_
    have hk1 : xb_k h2 x0 = 4 := hEh2.k hk1
    refine xb_getP (C := R_Reader) (T := F_Reader) (N := 6) hx hb 3 2 hts fin_Reader hown hR hk1 (by decide) rfl (by decide) rfl (hts _ m_5660bdee) (fun _ h9 => h9) (xb_d D_Reader_readLabels 4 rfl) ?_
    obtain ⟨b5, eb5, hw⟩ := hw
    refine xb_some eb5 ?_
    refine lv_iload_n hx hb (xb_d D_Reader_readLabels 5 rfl) rfl (lv_at hl 2 rfl) ?_
    refine lv_iconst (v := 1) hx hb (xb_d D_Reader_readLabels 6 rfl) (by decide) ?_
    refine lv_iadd hx hb (xb_d D_Reader_readLabels 7 rfl) ?_
    refine lv_iload_n hx hb (xb_d D_Reader_readLabels 8 rfl) rfl (lv_at hl 0 rfl) ?_
    obtain ⟨hk6, hw⟩ := hw
    obtain ⟨hi7, hw⟩ := hw
    refine xb_iast hx hb hR hS hk6 hi7 (xb_d D_Reader_readLabels 9 rfl) (fun H locs hR hS => ?_)
    obtain ⟨h8, eh8⟩ : ∃ x : xb_H, x = xb_I h2 b5 (Int32.toNatClampNeg (x1 + 1)) r3 := ⟨_, rfl⟩
    rw [← eh8] at hR
    have hw := hw h8 eh8
    have hE : xb_ext h0 h8 := by rw [eh8]; exact hE
    refine lv_lconst (v := 0) hx hb (xb_d D_Reader_readLabels 10 rfl) (by decide) ?_
    refine lv_lstore_n hx hb (xb_d D_Reader_readLabels 11 rfl) rfl hl (by decide) rfl (fun ls hl => ?_)
    have hl : lv_has ls 6 [(3, .long 0), (2, .int r3), (0, .ref x0), (1, .int x1)] := hl
    obtain ⟨n8, hw⟩ := hw
    exact am_Reader_readLabels_L16 l hfl D A σ MC MS h0 Qr Qt n8 x0 x1 r3 0 h8 (bc - c4) (bs - sc4) hw p e s m args below meth c hC H locs ls (k + c4) (n + sc4) hE (lv_sub hl [2, 3, 1, 0] rfl) hR hS (by omega) (by omega)
  · exact xb_pass hlocks (fun x hx9 => by rw [htab] at hx9; first | cases hx9 | (simp [tableOf] at hx9; rcases hx9 with rfl | rfl | rfl <;> decide)) (show (k + c4) ≤ MC by omega) (show (n + sc4) ≤ MS by omega) (hE.tr hEh2) hR hS hex hq

theorem m_93ccc2de : (.methodLink "StackHost$Reader" 131 y_Reader_groupLength : Cond) ∈ xt_tbl := xt_in (xt_t3 (List.mem_of_getElem? (i := 200) (by decide +kernel))) (by decide +kernel)
theorem m_ec458e35 : (.instanceMethod y_Reader_groupLength : Cond) ∈ xt_tbl := xt_in (xt_t3 (List.mem_of_getElem? (i := 202) (by decide +kernel))) (by decide +kernel)
theorem m_875856cc : (.selects "StackHost$Reader" y_Reader_groupLength y_Reader_groupLength : Cond) ∈ xt_tbl := xt_in (xt_v1 (q := (⟨"StackHost$Reader", "groupLength", "(II)I"⟩, 6)) (List.mem_of_getElem? (i := 7) (by decide +kernel))) (by decide +kernel)
theorem m_2941e049 : (.code y_Reader_groupLength b_Reader_groupLength 10 (some .int) : Cond) ∈ xt_tbl := xt_in (xt_t3 (List.mem_of_getElem? (i := 203) (by decide +kernel))) (by decide +kernel)
theorem nm_Reader_groupLength : xt_nm y_Reader_groupLength 2 := ⟨by decide +kernel, by decide +kernel⟩
set_option maxRecDepth 100000 in
def T_Reader_readName : List (Nat × Instr × Nat) := [(0, .aload_n 0, 1), (1, .invokevirtual 70, 3), (4, .istore_n 1, 1), (5, .iload_n 1, 1), (6, .ifCond .lt 16, 3), (9, .iload_n 1, 1), (10, .aload_n 0, 1), (11, .getfield 30, 3), (14, .aload_n 0, 1), (15, .getfield 41, 3), (18, .isub, 1), (19, .if_icmp .le 15, 3), (22, .aload_n 0, 1), (23, .getfield 15, 3), (26, .iconst 2, 1), (27, .aload_n 0, 1), (28, .getfield 30, 3), (31, .invokevirtual 37, 3), (34, .aload_n 0, 1), (35, .getfield 41, 3), (38, .iload_n 1, 1), (39, .iadd, 1), (40, .istore_n 2, 1), (41, .iconst 0, 1), (42, .istore_n 3, 1), (43, .iload_n 3, 1), (44, .iload_n 1, 1), (45, .if_icmp .ge 56, 3), (48, .aload_n 0, 1), (49, .getfield 41, 3), (52, .iload_n 2, 1), (53, .if_icmp .ge 48, 3), (56, .aload_n 0, 1), (57, .aload_n 0, 1), (58, .getfield 41, 3), (61, .iload_n 2, 1), (62, .invokevirtual 131, 3), (65, .istore 4, 2), (67, .iload 4, 2), (69, .ifCond .ne 15, 3), (72, .aload_n 0, 1), (73, .getfield 15, 3), (76, .iconst 4, 1), (77, .aload_n 0, 1), (78, .getfield 41, 3), (81, .invokevirtual 37, 3), (84, .aload_n 0, 1), (85, .dup, 1), (86, .getfield 41, 3), (89, .iload 4, 2), (91, .iadd, 1), (92, .putfield 41, 3), (95, .iinc 3 1, 3), (98, .goto (-55), 3), (101, .iload_n 1, 1), (102, .ireturn, 1)]
theorem D_Reader_readName : ∀ q ∈ T_Reader_readName, decode b_Reader_readName q.1 = .ok (q.2.1, q.2.2) := by decide +kernel
def w_Reader_readName_L101 (Qr : Int32 → xb_H → Prop) (Qt : String → xb_H → Prop) (x1 : Int32) (h : xb_H) (bc : Nat) (bs : Nat) : Prop :=
    Qr x1 h

def w_Reader_readName_L84 (K43 : Nat → Int32 → Int32 → Int32 → xb_H → Nat → Nat → Prop) (Qr : Int32 → xb_H → Prop) (Qt : String → xb_H → Prop) (x0 : Nat) (x1 : Int32) (x2 : Int32) (x3 : Int32) (x4 : Int32) (h : xb_H) (bc : Nat) (bs : Nat) : Prop :=
    xb_k h x0 = 4 ∧ ∀ h2 : xb_H, h2 = xb_I h x0 3 ((xb_i h x0 3) + x4) → K43 x0 x1 x2 (x3 + 1) h2 bc bs

def w_Reader_readName_L43 (Qr : Int32 → xb_H → Prop) (Qt : String → xb_H → Prop) : Nat → Nat → Int32 → Int32 → Int32 → xb_H → Nat → Nat → Prop
  | 0, _, _, _, _, _, _, _ => False
  | n9 + 1, x0, x1, x2, x3, h, bc, bs =>
    ((x1 ≤ x3 → w_Reader_readName_L101 Qr Qt x1 h bc bs) ∧ (¬ x1 ≤ x3 → xb_k h x0 = 4 ∧ ((x2 ≤ (xb_i h x0 3) → w_Reader_readName_L101 Qr Qt x1 h bc bs) ∧ (¬ x2 ≤ (xb_i h x0 3) → w_Reader_groupLength x0 (xb_i h x0 3) x2 h (fun (r5 : Int32) (h4 : xb_H) => xb_ext h h4 → ((¬ r5 = (0 : Int32) → w_Reader_readName_L84 (w_Reader_readName_L43 Qr Qt n9) Qr Qt x0 x1 x2 x3 r5 h4 bc bs) ∧ (r5 = (0 : Int32) → ∃ b7 : Nat, (xb_r h4 x0 0) = some b7 ∧ xb_k h4 b7 = 3 ∧ ∃ c11 sc11 : Nat, c11 ≤ bc ∧ sc11 ≤ bs ∧ w_StackModule_fail b7 4 (xb_i h4 x0 3) h4 c11 sc11 (fun (h9 : xb_H) => xb_ext h4 h9 → w_Reader_readName_L84 (w_Reader_readName_L43 Qr Qt n9) Qr Qt x0 x1 x2 x3 r5 h9 (bc - c11) (bs - sc11)) Qt)))))))

def w_Reader_readName_L34 (Qr : Int32 → xb_H → Prop) (Qt : String → xb_H → Prop) (x0 : Nat) (x1 : Int32) (h : xb_H) (bc : Nat) (bs : Nat) : Prop :=
    xb_k h x0 = 4 ∧ ∀ v2 : Int32, v2 = ((xb_i h x0 3) + x1) → (∃ n8 : Nat, w_Reader_readName_L43 Qr Qt n8 x0 x1 v2 0 h bc bs)

def w_Reader_readName_L22 (Qr : Int32 → xb_H → Prop) (Qt : String → xb_H → Prop) (x0 : Nat) (x1 : Int32) (h : xb_H) (bc : Nat) (bs : Nat) : Prop :=
    xb_k h x0 = 4 ∧ ∃ b2 : Nat, (xb_r h x0 0) = some b2 ∧ xb_k h b2 = 3 ∧ ∃ c6 sc6 : Nat, c6 ≤ bc ∧ sc6 ≤ bs ∧ w_StackModule_fail b2 2 (xb_i h x0 4) h c6 sc6 (fun (h4 : xb_H) => xb_ext h h4 → w_Reader_readName_L34 Qr Qt x0 x1 h4 (bc - c6) (bs - sc6)) Qt

def w_Reader_readName (x0 : Nat) (h : xb_H) (bc : Nat) (bs : Nat) (Qr : Int32 → xb_H → Prop) (Qt : String → xb_H → Prop) : Prop :=
    xb_k h x0 = 4 ∧ ∃ c4 sc4 : Nat, c4 ≤ bc ∧ sc4 ≤ bs ∧ w_Reader_count x0 h c4 sc4 (fun (r3 : Int32) (h2 : xb_H) => xb_ext h h2 → ((r3 < (0 : Int32) → w_Reader_readName_L22 Qr Qt x0 r3 h2 (bc - c4) (bs - sc4)) ∧ (¬ r3 < (0 : Int32) → ((r3 ≤ ((xb_i h2 x0 4) - (xb_i h2 x0 3)) → w_Reader_readName_L34 Qr Qt x0 r3 h2 (bc - c4) (bs - sc4)) ∧ (¬ r3 ≤ ((xb_i h2 x0 4) - (xb_i h2 x0 3)) → w_Reader_readName_L22 Qr Qt x0 r3 h2 (bc - c4) (bs - sc4)))))) Qt

set_option maxHeartbeats 4000000 in
set_option maxRecDepth 100000 in
theorem am_Reader_readName_L101 (l : Launch) (hfl : l.flags = pinnedFlags ++ [noTraceFlag]) (D : va_G) (A : Nat → Prop) (σ MC MS : Nat) (h0 : xb_H) (Qr : Int32 → xb_H → Prop) (Qt : String → xb_H → Prop) (x1 : Int32) (h : xb_H) (bc : Nat) (bs : Nat) (hw : w_Reader_readName_L101 Qr Qt x1 h bc bs) : xb_am l D A σ 4 MC MS h0 (fun v h => ∃ r, v = some (.int r) ∧ Qr r h) Qt y_Reader_readName.cls y_Reader_readName.name b_Reader_readName 5 ([] : List ExceptionTableEntry) (some .int) 101 [(1, .int x1)] [] h bc bs := by
  unfold w_Reader_readName_L101 at hw
  intro p e s m args below meth c hC H locs ls k n hE hl hR hS hk hn
  obtain ⟨hx, hb, hown, hlocks, htab, hml, hr, hB, hA, hnm⟩ := id hC
  have hts := hB.1.1.at args
  refine lv_iload_n hx hb (xb_d D_Reader_readName 54 rfl) rfl (lv_at hl 0 rfl) ?_
  exact xb_iret hx hb hr hlocks (show k ≤ MC by omega) (show n ≤ MS by omega) hE hR hS (xb_d D_Reader_readName 55 rfl) hw

set_option maxHeartbeats 4000000 in
set_option maxRecDepth 100000 in
theorem am_Reader_readName_L84 (l : Launch) (hfl : l.flags = pinnedFlags ++ [noTraceFlag]) (D : va_G) (A : Nat → Prop) (σ MC MS : Nat) (h0 : xb_H) (Qr : Int32 → xb_H → Prop) (Qt : String → xb_H → Prop) (K43 : Nat → Int32 → Int32 → Int32 → xb_H → Nat → Nat → Prop) (hK43 : ∀ (x0 : Nat) (x1 : Int32) (x2 : Int32) (x3 : Int32) (h : xb_H) (bc : Nat) (bs : Nat), K43 x0 x1 x2 x3 h bc bs → xb_am l D A σ 4 MC MS h0 (fun v h => ∃ r, v = some (.int r) ∧ Qr r h) Qt y_Reader_readName.cls y_Reader_readName.name b_Reader_readName 5 ([] : List ExceptionTableEntry) (some .int) 43 [(0, .ref x0), (1, .int x1), (2, .int x2), (3, .int x3)] [] h bc bs) (x0 : Nat) (x1 : Int32) (x2 : Int32) (x3 : Int32) (x4 : Int32) (h : xb_H) (bc : Nat) (bs : Nat) (hw : w_Reader_readName_L84 K43 Qr Qt x0 x1 x2 x3 x4 h bc bs) : xb_am l D A σ 4 MC MS h0 (fun v h => ∃ r, v = some (.int r) ∧ Qr r h) Qt y_Reader_readName.cls y_Reader_readName.name b_Reader_readName 5 ([] : List ExceptionTableEntry) (some .int) 84 [(0, .ref x0), (1, .int x1), (2, .int x2), (3, .int x3), (4, .int x4)] [] h bc bs := by
  unfold w_Reader_readName_L84 at hw
  intro p e s m args below meth c hC H locs ls k n hE hl hR hS hk hn
  obtain ⟨hx, hb, hown, hlocks, htab, hml, hr, hB, hA, hnm⟩ := id hC
  have hts := hB.1.1.at args
  refine lv_aload_n hx hb (xb_d D_Reader_readName 46 rfl) rfl (lv_at hl 0 rfl) ?_
  refine lv_dup hx hb (xb_d D_Reader_readName 47 rfl) rfl ?_
  obtain ⟨hk1, hw⟩ := hw
  refine xb_getI (C := R_Reader) (T := F_Reader) (N := 6) hx hb 3 3 hts fin_Reader hown hR hk1 (by decide) rfl (by decide) rfl (hts _ m_a9b84ac2) (fun _ h9 => h9) (xb_d D_Reader_readName 48 rfl) ?_
  refine lv_iload hx hb (xb_d D_Reader_readName 49 rfl) (lv_at hl 4 rfl) ?_
  refine lv_iadd hx hb (xb_d D_Reader_readName 50 rfl) ?_
  refine xb_putI (C := R_Reader) (T := F_Reader) (N := 6) (ty := .int) (x := ((xb_i h x0 3) + x4)) hx hb 3 3 hts fin_Reader t_Reader t_Reader_ok n_Reader hown hR hS hk1 (by decide) rfl (by decide) rfl (hts _ m_a9b84ac2) (fun _ h9 => h9) rfl (by decide +kernel) rfl rfl (xb_d D_Reader_readName 51 rfl) (fun H locs hR hS => ?_)
  obtain ⟨h2, eh2⟩ : ∃ x : xb_H, x = xb_I h x0 3 ((xb_i h x0 3) + x4) := ⟨_, rfl⟩
  rw [← eh2] at hR
  have hw := hw h2 eh2
  have hE : xb_ext h0 h2 := by rw [eh2]; exact hE
  refine lv_iinc (v := (x3 + 1)) (k := 3) hx hb (xb_d D_Reader_readName 52 rfl) hl rfl (by first | rfl | decide) (by decide) rfl (fun ls hl => ?_)
  have hl : lv_has ls 5 [(3, .int (x3 + 1)), (0, .ref x0), (1, .int x1), (2, .int x2), (4, .int x4)] := hl
  refine lv_goto (tgt := 43) hx hb (xb_d D_Reader_readName 53 rfl) rfl ?_
  exact hK43 x0 x1 x2 (x3 + 1) h2 bc bs hw p e s m args below meth c hC H locs ls k n hE (lv_sub hl [1, 2, 3, 0] rfl) hR hS (by omega) (by omega)

set_option maxHeartbeats 4000000 in
set_option maxRecDepth 100000 in
theorem am_Reader_readName_L43 (l : Launch) (hfl : l.flags = pinnedFlags ++ [noTraceFlag]) (D : va_G) (A : Nat → Prop) (σ MC MS : Nat) (h0 : xb_H) (Qr : Int32 → xb_H → Prop) (Qt : String → xb_H → Prop) (n9 : Nat) : ∀ (x0 : Nat) (x1 : Int32) (x2 : Int32) (x3 : Int32) (h : xb_H) (bc : Nat) (bs : Nat), w_Reader_readName_L43 Qr Qt n9 x0 x1 x2 x3 h bc bs → xb_am l D A σ 4 MC MS h0 (fun v h => ∃ r, v = some (.int r) ∧ Qr r h) Qt y_Reader_readName.cls y_Reader_readName.name b_Reader_readName 5 ([] : List ExceptionTableEntry) (some .int) 43 [(0, .ref x0), (1, .int x1), (2, .int x2), (3, .int x3)] [] h bc bs := by
  induction n9 with
  | zero => intro x0 x1 x2 x3 h bc bs hw; exact False.elim hw
  | succ n9 ih =>
    intro x0 x1 x2 x3 h bc bs hw
    unfold w_Reader_readName_L43 at hw
    intro p e s m args below meth c hC H locs ls k n hE hl hR hS hk hn
    obtain ⟨hx, hb, hown, hlocks, htab, hml, hr, hB, hA, hnm⟩ := id hC
    have hts := hB.1.1.at args
    refine lv_iload_n hx hb (xb_d D_Reader_readName 25 rfl) rfl (lv_at hl 3 rfl) ?_
    refine lv_iload_n hx hb (xb_d D_Reader_readName 26 rfl) rfl (lv_at hl 1 rfl) ?_
    refine lv_icmp_ge (tgt := 101) hx hb (xb_d D_Reader_readName 27 rfl) rfl (fun hc1 => ?_) (fun hc1 => ?_)
    · have hw := hw.1 hc1
      exact am_Reader_readName_L101 l hfl D A σ MC MS h0 Qr Qt x1 h bc bs hw p e s m args below meth c hC H locs ls k n hE (lv_sub hl [1] rfl) hR hS (by omega) (by omega)
    · have hw := hw.2 hc1
      refine lv_aload_n hx hb (xb_d D_Reader_readName 28 rfl) rfl (lv_at hl 0 rfl) ?_
      obtain ⟨hk2, hw⟩ := hw
      refine xb_getI (C := R_Reader) (T := F_Reader) (N := 6) hx hb 3 3 hts fin_Reader hown hR hk2 (by decide) rfl (by decide) rfl (hts _ m_a9b84ac2) (fun _ h9 => h9) (xb_d D_Reader_readName 29 rfl) ?_
      refine lv_iload_n hx hb (xb_d D_Reader_readName 30 rfl) rfl (lv_at hl 2 rfl) ?_
      refine lv_icmp_ge (tgt := 101) hx hb (xb_d D_Reader_readName 31 rfl) rfl (fun hc3 => ?_) (fun hc3 => ?_)
      · have hw := hw.1 hc3
        exact am_Reader_readName_L101 l hfl D A σ MC MS h0 Qr Qt x1 h bc bs hw p e s m args below meth c hC H locs ls k n hE (lv_sub hl [1] rfl) hR hS (by omega) (by omega)
      · have hw := hw.2 hc3
        refine lv_aload_n hx hb (xb_d D_Reader_readName 32 rfl) rfl (lv_at hl 0 rfl) ?_
        refine lv_aload_n hx hb (xb_d D_Reader_readName 33 rfl) rfl (lv_at hl 0 rfl) ?_
        refine xb_getI (C := R_Reader) (T := F_Reader) (N := 6) hx hb 3 3 hts fin_Reader hown hR hk2 (by decide) rfl (by decide) rfl (hts _ m_a9b84ac2) (fun _ h9 => h9) (xb_d D_Reader_readName 34 rfl) ?_
        refine lv_iload_n hx hb (xb_d D_Reader_readName 35 rfl) rfl (lv_at hl 2 rfl) ?_
        refine xb_call (D := D) (A := A) (σ := σ) (h := h) (d := 2) (mc := 0) (ms := 0) (maxL := 10) (rest := []) (av := [.ref x0, .int (xb_i h x0 3), .int x2]) (fun T hT X => by obtain ⟨cb, r1, r2, r3⟩ := xb_recv (ci := 3) hR rfl hk2 (by decide); exact xt_invV X hx hown (hts _ m_93ccc2de) (hts _ m_ec458e35) (hts _ m_875856cc) (xt_sigOf (hts _ m_2941e049)) nm_Reader_groupLength (by rw [hT]; exact r1) r2 r3 (g := F0 m 62 ls [.int x2, .int (xb_i h x0 3), .ref x0]) rfl (argsL := [.int (xb_i h x0 3), .int x2]) (rest := []) rfl rfl (by rw [hb]; exact (xb_d D_Reader_readName 36 rfl))) (ok_Reader_groupLength l hfl D A σ x0 (xb_i h x0 3) x2 h _ hw) (hml.trans hl.1.symm) (by rw [hb]; exact (xb_d D_Reader_readName 36 rfl)) (Nat.le_of_ble_eq_true rfl) (Nat.le_of_ble_eq_true rfl) (Nat.le_of_ble_eq_true rfl) (show k + 0 ≤ MC by omega) (show n + 0 ≤ MS by omega) (xt_w1 hB.1 m_2941e049) (xt_cdOf hB.1 m_2941e049) (hts _ m_938fcec4) hB hR hS hA (fun vv h4 H locs hq hEh4 hR hS => ?_) (fun XX ax h4 H locs hq hEh4 hex hR hS => ?_)
        · obtain ⟨r5, rfl, hw⟩ := hq
          have hw := hw hEh4
          have hE := hE.tr hEh4
          refine W.eq (g2 := F0 m 65 ls [.int r5]) rfl ?_
          refine lv_istore hx hb (xb_d D_Reader_readName 37 rfl) hl (by decide) rfl (fun ls hl => ?_)
          have hl : lv_has ls 5 [(4, .int r5), (0, .ref x0), (1, .int x1), (2, .int x2), (3, .int x3)] := hl
          refine lv_iload hx hb (xb_d D_Reader_readName 38 rfl) (lv_at hl 0 rfl) ?_
          refine lv_if_ne (tgt := 84) hx hb (xb_d D_Reader_readName 39 rfl) rfl (fun hc6 => ?_) (fun hc6 => ?_)
          · have hw := hw.1 hc6
            exact am_Reader_readName_L84 l hfl D A σ MC MS h0 Qr Qt (w_Reader_readName_L43 Qr Qt n9) ih x0 x1 x2 x3 r5 h4 bc bs hw p e s m args below meth c hC H locs ls k n hE (lv_sub hl [1, 2, 3, 4, 0] rfl) hR hS (by omega) (by omega)
          · have hw := hw.2 hc6
            refine lv_aload_n hx hb (xb_d D_Reader_readName 40 rfl) rfl (lv_at hl 1 rfl) ?_
            have hk2 : xb_k h4 x0 = 4 := hEh4.k hk2
            refine xb_getP (C := R_Reader) (T := F_Reader) (N := 6) hx hb 3 0 hts fin_Reader hown hR hk2 (by decide) rfl (by decide) rfl (hts _ m_76d8349c) (fun _ h9 => h9) (xb_d D_Reader_readName 41 rfl) ?_
            obtain ⟨b7, eb7, hw⟩ := hw
            refine xb_some eb7 ?_
            refine lv_iconst (v := 4) hx hb (xb_d D_Reader_readName 42 rfl) (by decide) ?_
            refine lv_aload_n hx hb (xb_d D_Reader_readName 43 rfl) rfl (lv_at hl 1 rfl) ?_
            refine xb_getI (C := R_Reader) (T := F_Reader) (N := 6) hx hb 3 3 hts fin_Reader hown hR hk2 (by decide) rfl (by decide) rfl (hts _ m_a9b84ac2) (fun _ h9 => h9) (xb_d D_Reader_readName 44 rfl) ?_
            obtain ⟨hk8, hw⟩ := hw
            obtain ⟨c11, sc11, hlc11, hlsc11, hw⟩ := hw
            refine xb_call (D := D) (A := A) (σ := σ) (h := h4) (d := 2) (mc := c11) (ms := sc11) (maxL := 3) (rest := []) (av := [.ref b7, .int 4, .int (xb_i h4 x0 3)]) (fun T hT X => by obtain ⟨cb, r1, r2, r3⟩ := xb_recv (ci := 2) hR rfl hk8 (by decide); exact xt_invV X hx hown (hts _ m_6fcde429) (hts _ m_865d5b07) (hts _ m_113f8f75) (xt_sigOf (hts _ m_73e65e5f)) nm_StackModule_fail (by rw [hT]; exact r1) r2 r3 (g := F0 m 81 ls [.int (xb_i h4 x0 3), .int 4, .ref b7]) rfl (argsL := [.int 4, .int (xb_i h4 x0 3)]) (rest := []) rfl rfl (by rw [hb]; exact (xb_d D_Reader_readName 45 rfl))) (ok_StackModule_fail l hfl D A σ b7 4 (xb_i h4 x0 3) h4 c11 sc11 _ _ hw) (hml.trans hl.1.symm) (by rw [hb]; exact (xb_d D_Reader_readName 45 rfl)) (Nat.le_of_ble_eq_true rfl) (Nat.le_of_ble_eq_true rfl) (Nat.le_of_ble_eq_true rfl) (show k + c11 ≤ MC by omega) (show n + sc11 ≤ MS by omega) (xt_w1 hB.1 m_73e65e5f) (xt_cdOf hB.1 m_73e65e5f) (hts _ m_9c375545) hB hR hS hA (fun vv h9 H locs hq hEh9 hR hS => ?_) (fun XX ax h9 H locs hq hEh9 hex hR hS => ?_)
            · obtain ⟨rfl, hw⟩ := hq
              have hw := hw hEh9
              have hE := hE.tr hEh9
              refine W.eq (g2 := F0 m 84 ls []) rfl ?_
              exact am_Reader_readName_L84 l hfl D A σ MC MS h0 Qr Qt (w_Reader_readName_L43 Qr Qt n9) ih x0 x1 x2 x3 r5 h9 (bc - c11) (bs - sc11) hw p e s m args below meth c hC H locs ls (k + c11) (n + sc11) hE (lv_sub hl [1, 2, 3, 4, 0] rfl) hR hS (by omega) (by omega)
            · exact xb_pass hlocks (fun x hx9 => by rw [htab] at hx9; first | cases hx9 | (simp [tableOf] at hx9; rcases hx9 with rfl | rfl | rfl <;> decide)) (show (k + c11) ≤ MC by omega) (show (n + sc11) ≤ MS by omega) (hE.tr hEh9) hR hS hex hq
        · exact False.elim hq

set_option maxHeartbeats 4000000 in
set_option maxRecDepth 100000 in
theorem am_Reader_readName_L34 (l : Launch) (hfl : l.flags = pinnedFlags ++ [noTraceFlag]) (D : va_G) (A : Nat → Prop) (σ MC MS : Nat) (h0 : xb_H) (Qr : Int32 → xb_H → Prop) (Qt : String → xb_H → Prop) (x0 : Nat) (x1 : Int32) (h : xb_H) (bc : Nat) (bs : Nat) (hw : w_Reader_readName_L34 Qr Qt x0 x1 h bc bs) : xb_am l D A σ 4 MC MS h0 (fun v h => ∃ r, v = some (.int r) ∧ Qr r h) Qt y_Reader_readName.cls y_Reader_readName.name b_Reader_readName 5 ([] : List ExceptionTableEntry) (some .int) 34 [(0, .ref x0), (1, .int x1)] [] h bc bs := by
  unfold w_Reader_readName_L34 at hw
  intro p e s m args below meth c hC H locs ls k n hE hl hR hS hk hn
  obtain ⟨hx, hb, hown, hlocks, htab, hml, hr, hB, hA, hnm⟩ := id hC
  have hts := hB.1.1.at args
  refine lv_aload_n hx hb (xb_d D_Reader_readName 18 rfl) rfl (lv_at hl 0 rfl) ?_
  obtain ⟨hk1, hw⟩ := hw
  refine xb_getI (C := R_Reader) (T := F_Reader) (N := 6) hx hb 3 3 hts fin_Reader hown hR hk1 (by decide) rfl (by decide) rfl (hts _ m_a9b84ac2) (fun _ h9 => h9) (xb_d D_Reader_readName 19 rfl) ?_
  refine lv_iload_n hx hb (xb_d D_Reader_readName 20 rfl) rfl (lv_at hl 1 rfl) ?_
  refine lv_iadd hx hb (xb_d D_Reader_readName 21 rfl) ?_
  obtain ⟨v2, ev2⟩ : ∃ x : Int32, x = ((xb_i h x0 3) + x1) := ⟨_, rfl⟩
  have hw := hw v2 ev2
  refine xt_numi (y := v2) ev2.symm ?_
  refine lv_istore_n hx hb (xb_d D_Reader_readName 22 rfl) rfl hl (by decide) rfl (fun ls hl => ?_)
  have hl : lv_has ls 5 [(2, .int v2), (0, .ref x0), (1, .int x1)] := hl
  refine lv_iconst (v := 0) hx hb (xb_d D_Reader_readName 23 rfl) (by decide) ?_
  refine lv_istore_n hx hb (xb_d D_Reader_readName 24 rfl) rfl hl (by decide) rfl (fun ls hl => ?_)
  have hl : lv_has ls 5 [(3, .int 0), (2, .int v2), (0, .ref x0), (1, .int x1)] := hl
  obtain ⟨n8, hw⟩ := hw
  exact am_Reader_readName_L43 l hfl D A σ MC MS h0 Qr Qt n8 x0 x1 v2 0 h bc bs hw p e s m args below meth c hC H locs ls k n hE (lv_sub hl [2, 3, 1, 0] rfl) hR hS (by omega) (by omega)

set_option maxHeartbeats 4000000 in
set_option maxRecDepth 100000 in
theorem am_Reader_readName_L22 (l : Launch) (hfl : l.flags = pinnedFlags ++ [noTraceFlag]) (D : va_G) (A : Nat → Prop) (σ MC MS : Nat) (h0 : xb_H) (Qr : Int32 → xb_H → Prop) (Qt : String → xb_H → Prop) (x0 : Nat) (x1 : Int32) (h : xb_H) (bc : Nat) (bs : Nat) (hw : w_Reader_readName_L22 Qr Qt x0 x1 h bc bs) : xb_am l D A σ 4 MC MS h0 (fun v h => ∃ r, v = some (.int r) ∧ Qr r h) Qt y_Reader_readName.cls y_Reader_readName.name b_Reader_readName 5 ([] : List ExceptionTableEntry) (some .int) 22 [(0, .ref x0), (1, .int x1)] [] h bc bs := by
  unfold w_Reader_readName_L22 at hw
  intro p e s m args below meth c hC H locs ls k n hE hl hR hS hk hn
  obtain ⟨hx, hb, hown, hlocks, htab, hml, hr, hB, hA, hnm⟩ := id hC
  have hts := hB.1.1.at args
  refine lv_aload_n hx hb (xb_d D_Reader_readName 12 rfl) rfl (lv_at hl 0 rfl) ?_
  obtain ⟨hk1, hw⟩ := hw
  refine xb_getP (C := R_Reader) (T := F_Reader) (N := 6) hx hb 3 0 hts fin_Reader hown hR hk1 (by decide) rfl (by decide) rfl (hts _ m_76d8349c) (fun _ h9 => h9) (xb_d D_Reader_readName 13 rfl) ?_
  obtain ⟨b2, eb2, hw⟩ := hw
  refine xb_some eb2 ?_
  refine lv_iconst (v := 2) hx hb (xb_d D_Reader_readName 14 rfl) (by decide) ?_
  refine lv_aload_n hx hb (xb_d D_Reader_readName 15 rfl) rfl (lv_at hl 0 rfl) ?_
  refine xb_getI (C := R_Reader) (T := F_Reader) (N := 6) hx hb 3 4 hts fin_Reader hown hR hk1 (by decide) rfl (by decide) rfl (hts _ m_49916c4b) (fun _ h9 => h9) (xb_d D_Reader_readName 16 rfl) ?_
  obtain ⟨hk3, hw⟩ := hw
  obtain ⟨c6, sc6, hlc6, hlsc6, hw⟩ := hw
  refine xb_call (D := D) (A := A) (σ := σ) (h := h) (d := 2) (mc := c6) (ms := sc6) (maxL := 3) (rest := []) (av := [.ref b2, .int 2, .int (xb_i h x0 4)]) (fun T hT X => by obtain ⟨cb, r1, r2, r3⟩ := xb_recv (ci := 2) hR rfl hk3 (by decide); exact xt_invV X hx hown (hts _ m_6fcde429) (hts _ m_865d5b07) (hts _ m_113f8f75) (xt_sigOf (hts _ m_73e65e5f)) nm_StackModule_fail (by rw [hT]; exact r1) r2 r3 (g := F0 m 31 ls [.int (xb_i h x0 4), .int 2, .ref b2]) rfl (argsL := [.int 2, .int (xb_i h x0 4)]) (rest := []) rfl rfl (by rw [hb]; exact (xb_d D_Reader_readName 17 rfl))) (ok_StackModule_fail l hfl D A σ b2 2 (xb_i h x0 4) h c6 sc6 _ _ hw) (hml.trans hl.1.symm) (by rw [hb]; exact (xb_d D_Reader_readName 17 rfl)) (Nat.le_of_ble_eq_true rfl) (Nat.le_of_ble_eq_true rfl) (Nat.le_of_ble_eq_true rfl) (show k + c6 ≤ MC by omega) (show n + sc6 ≤ MS by omega) (xt_w1 hB.1 m_73e65e5f) (xt_cdOf hB.1 m_73e65e5f) (hts _ m_9c375545) hB hR hS hA (fun vv h4 H locs hq hEh4 hR hS => ?_) (fun XX ax h4 H locs hq hEh4 hex hR hS => ?_)
  · obtain ⟨rfl, hw⟩ := hq
    have hw := hw hEh4
    have hE := hE.tr hEh4
    refine W.eq (g2 := F0 m 34 ls []) rfl ?_
    exact am_Reader_readName_L34 l hfl D A σ MC MS h0 Qr Qt x0 x1 h4 (bc - c6) (bs - sc6) hw p e s m args below meth c hC H locs ls (k + c6) (n + sc6) hE (lv_sub hl [0, 1] rfl) hR hS (by omega) (by omega)
  · exact xb_pass hlocks (fun x hx9 => by rw [htab] at hx9; first | cases hx9 | (simp [tableOf] at hx9; rcases hx9 with rfl | rfl | rfl <;> decide)) (show (k + c6) ≤ MC by omega) (show (n + sc6) ≤ MS by omega) (hE.tr hEh4) hR hS hex hq

set_option maxHeartbeats 4000000 in
set_option maxRecDepth 100000 in
theorem ok_Reader_readName (l : Launch) (hfl : l.flags = pinnedFlags ++ [noTraceFlag]) (D : va_G) (A : Nat → Prop) (σ : Nat) (x0 : Nat) (h : xb_H) (bc : Nat) (bs : Nat) (Qr : Int32 → xb_H → Prop) (Qt : String → xb_H → Prop) (hw : w_Reader_readName x0 h bc bs Qr Qt) : xt_Met l y_Reader_readName [.code y_Reader_readName b_Reader_readName 5 (some .int)] (xb_rm 4 bc bs) (xb_Pc D A σ h [.ref x0]) (xb_Qc D A h (fun v h => ∃ r, v = some (.int r) ∧ Qr r h) Qt) bc bs A := by
  refine xb_ofAm (cc := b_Reader_readName) (by decide) (Nat.le_of_ble_eq_true rfl) ?_
  unfold w_Reader_readName at hw
  show xb_am l D A σ 4 bc bs h (fun v h => ∃ r, v = some (.int r) ∧ Qr r h) Qt y_Reader_readName.cls y_Reader_readName.name b_Reader_readName 5 ([] : List ExceptionTableEntry) (some .int) 0 [(0, .ref x0)] [] h bc bs
  obtain ⟨MC, hMC⟩ : ∃ x, x = bc := ⟨_, rfl⟩
  obtain ⟨MS, hMS⟩ : ∃ x, x = bs := ⟨_, rfl⟩
  rw [show xb_am l D A σ 4 bc bs = xb_am l D A σ 4 MC MS by rw [hMC, hMS]]
  obtain ⟨h0, hh0⟩ : ∃ x, x = h := ⟨_, rfl⟩
  rw [show xb_am l D A σ 4 MC MS h = xb_am l D A σ 4 MC MS h0 by rw [hh0]]
  intro p e s m args below meth c hC H locs ls k n hE hl hR hS hk hn
  obtain ⟨hx, hb, hown, hlocks, htab, hml, hr, hB, hA, hnm⟩ := id hC
  have hts := hB.1.1.at args
  refine lv_aload_n hx hb (xb_d D_Reader_readName 0 rfl) rfl (lv_at hl 0 rfl) ?_
  obtain ⟨hk1, hw⟩ := hw
  obtain ⟨c4, sc4, hlc4, hlsc4, hw⟩ := hw
  refine xb_call (D := D) (A := A) (σ := σ) (h := h) (d := 3) (mc := c4) (ms := sc4) (maxL := 4) (rest := []) (av := [.ref x0]) (fun T hT X => by obtain ⟨cb, r1, r2, r3⟩ := xb_recv (ci := 3) hR rfl hk1 (by decide); exact xt_invV X hx hown (hts _ m_2c379b4d) (hts _ m_a120e786) (hts _ m_e903c73e) (xt_sigOf (hts _ m_99690a98)) nm_Reader_count (by rw [hT]; exact r1) r2 r3 (g := F0 m 1 ls [.ref x0]) rfl (argsL := []) (rest := []) rfl rfl (by rw [hb]; exact (xb_d D_Reader_readName 1 rfl))) (ok_Reader_count l hfl D A σ x0 h c4 sc4 _ _ hw) (hml.trans hl.1.symm) (by rw [hb]; exact (xb_d D_Reader_readName 1 rfl)) (Nat.le_of_ble_eq_true rfl) (Nat.le_of_ble_eq_true rfl) (Nat.le_of_ble_eq_true rfl) (show k + c4 ≤ MC by omega) (show n + sc4 ≤ MS by omega) (xt_w1 hB.1 m_99690a98) (xt_cdOf hB.1 m_99690a98) (hts _ m_938fcec4) hB hR hS hA (fun vv h2 H locs hq hEh2 hR hS => ?_) (fun XX ax h2 H locs hq hEh2 hex hR hS => ?_)
  · obtain ⟨r3, rfl, hw⟩ := hq
    have hw := hw hEh2
    have hE := hE.tr hEh2
    refine W.eq (g2 := F0 m 4 ls [.int r3]) rfl ?_
    refine lv_istore_n hx hb (xb_d D_Reader_readName 2 rfl) rfl hl (by decide) rfl (fun ls hl => ?_)
    have hl : lv_has ls 5 [(1, .int r3), (0, .ref x0)] := hl
    refine lv_iload_n hx hb (xb_d D_Reader_readName 3 rfl) rfl (lv_at hl 0 rfl) ?_
    refine lv_if_lt (tgt := 22) hx hb (xb_d D_Reader_readName 4 rfl) rfl (fun hc5 => ?_) (fun hc5 => ?_)
    · have hw := hw.1 hc5
      exact am_Reader_readName_L22 l hfl D A σ MC MS h0 Qr Qt x0 r3 h2 (bc - c4) (bs - sc4) hw p e s m args below meth c hC H locs ls (k + c4) (n + sc4) hE (lv_sub hl [1, 0] rfl) hR hS (by omega) (by omega)
    · have hw := hw.2 hc5
      refine lv_iload_n hx hb (xb_d D_Reader_readName 5 rfl) rfl (lv_at hl 0 rfl) ?_
      refine lv_aload_n hx hb (xb_d D_Reader_readName 6 rfl) rfl (lv_at hl 1 rfl) ?_
      have hk1 : xb_k h2 x0 = 4 := hEh2.k hk1
      refine xb_getI (C := R_Reader) (T := F_Reader) (N := 6) hx hb 3 4 hts fin_Reader hown hR hk1 (by decide) rfl (by decide) rfl (hts _ m_49916c4b) (fun _ h9 => h9) (xb_d D_Reader_readName 7 rfl) ?_
      refine lv_aload_n hx hb (xb_d D_Reader_readName 8 rfl) rfl (lv_at hl 1 rfl) ?_
      refine xb_getI (C := R_Reader) (T := F_Reader) (N := 6) hx hb 3 3 hts fin_Reader hown hR hk1 (by decide) rfl (by decide) rfl (hts _ m_a9b84ac2) (fun _ h9 => h9) (xb_d D_Reader_readName 9 rfl) ?_
      refine lv_isub hx hb (xb_d D_Reader_readName 10 rfl) ?_
      refine lv_icmp_le (tgt := 34) hx hb (xb_d D_Reader_readName 11 rfl) rfl (fun hc6 => ?_) (fun hc6 => ?_)
      · have hw := hw.1 hc6
        exact am_Reader_readName_L34 l hfl D A σ MC MS h0 Qr Qt x0 r3 h2 (bc - c4) (bs - sc4) hw p e s m args below meth c hC H locs ls (k + c4) (n + sc4) hE (lv_sub hl [1, 0] rfl) hR hS (by omega) (by omega)
      · have hw := hw.2 hc6
        exact am_Reader_readName_L22 l hfl D A σ MC MS h0 Qr Qt x0 r3 h2 (bc - c4) (bs - sc4) hw p e s m args below meth c hC H locs ls (k + c4) (n + sc4) hE (lv_sub hl [1, 0] rfl) hR hS (by omega) (by omega)
  · exact xb_pass hlocks (fun x hx9 => by rw [htab] at hx9; first | cases hx9 | (simp [tableOf] at hx9; rcases hx9 with rfl | rfl | rfl <;> decide)) (show (k + c4) ≤ MC by omega) (show (n + sc4) ≤ MS by omega) (hE.tr hEh2) hR hS hex hq

