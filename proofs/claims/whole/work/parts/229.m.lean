theorem m_c67283ac : (.methodLink "StackHost$Machine" 314 y_Format_holds : Cond) ∈ xt_tbl := xt_in (xt_t8 (List.mem_of_getElem? (i := 159) (by decide +kernel))) (by decide +kernel)
theorem m_de37b09a : (.instanceMethod y_Format_holds : Cond) ∈ xt_tbl := xt_in (xt_t8 (List.mem_of_getElem? (i := 160) (by decide +kernel))) (by decide +kernel)
theorem m_bb1bafb8 : (.selects "StackHost$Format" y_Format_holds y_Format_holds : Cond) ∈ xt_tbl := xt_in (xt_t8 (List.mem_of_getElem? (i := 161) (by decide +kernel))) (by decide +kernel)
theorem m_3cdb9ca1 : (.code y_Format_holds b_Format_holds 10 (some .boolean) : Cond) ∈ xt_tbl := xt_in (xt_t8 (List.mem_of_getElem? (i := 162) (by decide +kernel))) (by decide +kernel)
theorem m_4fffa478 : (.methodLink "StackHost$Machine" 308 y_Whole_holds : Cond) ∈ xt_tbl := xt_in (xt_t8 (List.mem_of_getElem? (i := 152) (by decide +kernel))) (by decide +kernel)
theorem m_35b7fb63 : (.static y_Whole_holds : Cond) ∈ xt_tbl := xt_in (xt_t8 (List.mem_of_getElem? (i := 153) (by decide +kernel))) (by decide +kernel)
theorem m_1a99436b : (.code y_Whole_holds b_Whole_holds 5 (some .boolean) : Cond) ∈ xt_tbl := xt_in (xt_t8 (List.mem_of_getElem? (i := 154) (by decide +kernel))) (by decide +kernel)
theorem nm_Format_holds : xt_nm y_Format_holds 3 := ⟨by decide +kernel, by decide +kernel⟩
theorem nm_Whole_holds : xt_nm y_Whole_holds 3 := ⟨by decide +kernel, by decide +kernel⟩
set_option maxRecDepth 100000 in
def T_Machine_compare : List (Nat × Instr × Nat) := [(0, .aload_n 0, 1), (1, .getfield 35, 3), (4, .aload_n 0, 1), (5, .getfield 53, 3), (8, .iconst 1, 1), (9, .isub, 1), (10, .laload, 1), (11, .lstore_n 2, 1), (12, .iload_n 1, 1), (13, .bipush 69, 2), (15, .if_icmp .eq 9, 3), (18, .iload_n 1, 1), (19, .bipush 80, 2), (21, .if_icmp .ne 26, 3), (24, .aload_n 0, 1), (25, .getfield 35, 3), (28, .aload_n 0, 1), (29, .getfield 53, 3), (32, .iconst 1, 1), (33, .isub, 1), (34, .lload_n 2, 1), (35, .lconst 0, 1), (36, .lcmp, 1), (37, .ifCond .ne 7, 3), (40, .lconst 1, 1), (41, .goto 4, 3), (44, .lconst 0, 1), (45, .lastore, 1), (46, .return_, 1), (47, .aload_n 0, 1), (48, .dup, 1), (49, .getfield 53, 3), (52, .iconst 1, 1), (53, .isub, 1), (54, .putfield 53, 3), (57, .aload_n 0, 1), (58, .getfield 35, 3), (61, .aload_n 0, 1), (62, .getfield 53, 3), (65, .iconst 1, 1), (66, .isub, 1), (67, .laload, 1), (68, .lstore 4, 2), (70, .iload_n 1, 1), (71, .bipush 79, 2), (73, .if_icmp .gt 22, 3), (76, .iload_n 1, 1), (77, .bipush 70, 2), (79, .isub, 1), (80, .lload 4, 2), (82, .l2i, 1), (83, .i2l, 1), (84, .lload_n 2, 1), (85, .l2i, 1), (86, .i2l, 1), (87, .invokestatic 308, 3), (90, .istore 6, 2), (92, .goto 65, 3), (95, .iload_n 1, 1), (96, .bipush 90, 2), (98, .if_icmp .gt 18, 3), (101, .iload_n 1, 1), (102, .bipush 81, 2), (104, .isub, 1), (105, .lload 4, 2), (107, .lload_n 2, 1), (108, .invokestatic 308, 3), (111, .istore 6, 2), (113, .goto 44, 3), (116, .iload_n 1, 1), (117, .bipush 96, 2), (119, .if_icmp .gt 22, 3), (122, .aload_n 0, 1), (123, .getfield 16, 3), (126, .iload_n 1, 1), (127, .bipush 91, 2), (129, .isub, 1), (130, .lload 4, 2), (132, .lload_n 2, 1), (133, .invokevirtual 314, 3), (136, .istore 6, 2), (138, .goto 19, 3), (141, .aload_n 0, 1), (142, .getfield 24, 3), (145, .iload_n 1, 1), (146, .bipush 97, 2), (148, .isub, 1), (149, .lload 4, 2), (151, .lload_n 2, 1), (152, .invokevirtual 314, 3), (155, .istore 6, 2), (157, .aload_n 0, 1), (158, .getfield 35, 3), (161, .aload_n 0, 1), (162, .getfield 53, 3), (165, .iconst 1, 1), (166, .isub, 1), (167, .iload 6, 2), (169, .ifCond .eq 7, 3), (172, .lconst 1, 1), (173, .goto 4, 3), (176, .lconst 0, 1), (177, .lastore, 1), (178, .return_, 1)]
theorem D_Machine_compare : ∀ q ∈ T_Machine_compare, decode b_Machine_compare q.1 = .ok (q.2.1, q.2.2) := by decide +kernel
def w_Machine_compare_L177 (Qr : xb_H → Prop) (y0 : Int64) (y1 : Int32) (y2 : Nat) (h : xb_H) : Prop :=
    xb_k h y2 = 103 ∧ vp_in y1 (xb_n h y2) ∧ ∀ h3 : xb_H, h3 = xb_L h y2 (Int32.toNatClampNeg y1) y0 → Qr h3

def w_Machine_compare_L157 (Qr : xb_H → Prop) (x0 : Nat) (x6 : Int32) (h : xb_H) : Prop :=
    xb_k h x0 = 8 ∧ ∃ b2 : Nat, (xb_r h x0 9) = some b2 ∧ ((x6 = (0 : Int32) → w_Machine_compare_L177 Qr 0 ((xb_i h x0 10) - 1) b2 h) ∧ (¬ x6 = (0 : Int32) → w_Machine_compare_L177 Qr 1 ((xb_i h x0 10) - 1) b2 h))

def w_Machine_compare_L45 (Qr : xb_H → Prop) (y0 : Int64) (y1 : Int32) (y2 : Nat) (h : xb_H) : Prop :=
    xb_k h y2 = 103 ∧ vp_in y1 (xb_n h y2) ∧ ∀ h3 : xb_H, h3 = xb_L h y2 (Int32.toNatClampNeg y1) y0 → Qr h3

def w_Machine_compare_L24 (Qr : xb_H → Prop) (x0 : Nat) (x2 : Int64) (h : xb_H) : Prop :=
    xb_k h x0 = 8 ∧ ∃ b2 : Nat, (xb_r h x0 9) = some b2 ∧ ((¬ x2 = (0 : Int64) → w_Machine_compare_L45 Qr 0 ((xb_i h x0 10) - 1) b2 h) ∧ (x2 = (0 : Int64) → w_Machine_compare_L45 Qr 1 ((xb_i h x0 10) - 1) b2 h))

def w_Machine_compare (x0 : Nat) (x1 : Int32) (h : xb_H) (Qr : xb_H → Prop) : Prop :=
    xb_k h x0 = 8 ∧ ∃ b2 : Nat, (xb_r h x0 9) = some b2 ∧ xb_k h b2 = 103 ∧ vp_in ((xb_i h x0 10) - 1) (xb_n h b2) ∧ ∀ v5 : Int64, v5 = (xb_l h b2 (Int32.toNatClampNeg ((xb_i h x0 10) - 1))) → ((x1 = (69 : Int32) → w_Machine_compare_L24 Qr x0 v5 h) ∧ (¬ x1 = (69 : Int32) → ((¬ x1 = (80 : Int32) → ∀ h8 : xb_H, h8 = xb_I h x0 10 ((xb_i h x0 10) - 1) → ∃ b9 : Nat, (xb_r h8 x0 9) = some b9 ∧ xb_k h8 b9 = 103 ∧ vp_in ((xb_i h8 x0 10) - 1) (xb_n h8 b9) ∧ ∀ v12 : Int64, v12 = (xb_l h8 b9 (Int32.toNatClampNeg ((xb_i h8 x0 10) - 1))) → (((79 : Int32) < x1 → (((90 : Int32) < x1 → (((96 : Int32) < x1 → ∃ b16 : Nat, (xb_r h8 x0 2) = some b16 ∧ xb_k h8 b16 = 6 ∧ w_Format_holds b16 (x1 - 97) v12 v5 h8 (fun (r19 : Int32) (h18 : xb_H) => xb_ext h8 h18 → w_Machine_compare_L157 Qr x0 r19 h18)) ∧ (¬ (96 : Int32) < x1 → ∃ b20 : Nat, (xb_r h8 x0 1) = some b20 ∧ xb_k h8 b20 = 6 ∧ w_Format_holds b20 (x1 - 91) v12 v5 h8 (fun (r23 : Int32) (h22 : xb_H) => xb_ext h8 h22 → w_Machine_compare_L157 Qr x0 r23 h22)))) ∧ (¬ (90 : Int32) < x1 → w_Whole_holds (x1 - 81) v12 v5 h8 (fun (r25 : Int32) (h24 : xb_H) => xb_ext h8 h24 → w_Machine_compare_L157 Qr x0 r25 h24)))) ∧ (¬ (79 : Int32) < x1 → w_Whole_holds (x1 - 70) (Int32.toInt64 (Int64.toInt32 v12)) (Int32.toInt64 (Int64.toInt32 v5)) h8 (fun (r27 : Int32) (h26 : xb_H) => xb_ext h8 h26 → w_Machine_compare_L157 Qr x0 r27 h26)))) ∧ (x1 = (80 : Int32) → w_Machine_compare_L24 Qr x0 v5 h))))

set_option maxHeartbeats 4000000 in
set_option maxRecDepth 100000 in
theorem am_Machine_compare_L177 (l : Launch) (hfl : l.flags = pinnedFlags ++ [noTraceFlag]) (D : va_G) (A : Nat → Prop) (σ MC MS : Nat) (h0 : xb_H) (Qr : xb_H → Prop) (y0 : Int64) (y1 : Int32) (y2 : Nat) (h : xb_H) (hw : w_Machine_compare_L177 Qr y0 y1 y2 h) : xb_am l D A σ 5 MC MS h0 (fun v h => v = none ∧ Qr h) (fun _ _ => False) y_Machine_compare.cls y_Machine_compare.name b_Machine_compare 7 ([] : List ExceptionTableEntry) none 177 [] [.long y0, .int y1, .ref y2] h 0 0 := by
  unfold w_Machine_compare_L177 at hw
  intro p e s m args below meth c hC H locs ls k n hE hl hR hS hk hn
  obtain ⟨hx, hb, hown, hlocks, htab, hml, hr, hB, hA, hnm⟩ := id hC
  have hts := hB.1.1.at args
  obtain ⟨hk1, hw⟩ := hw
  obtain ⟨hi2, hw⟩ := hw
  refine xb_last hx hb hR hS hk1 hi2 (xb_d D_Machine_compare 102 rfl) (fun H locs hR hS => ?_)
  obtain ⟨h3, eh3⟩ : ∃ x : xb_H, x = xb_L h y2 (Int32.toNatClampNeg y1) y0 := ⟨_, rfl⟩
  rw [← eh3] at hR
  have hw := hw h3 eh3
  have hE : xb_ext h0 h3 := by rw [eh3]; exact hE
  exact xb_vret hx hb hr hlocks (show k ≤ MC by omega) (show n ≤ MS by omega) hE hR hS (xb_d D_Machine_compare 103 rfl) hw

set_option maxHeartbeats 4000000 in
set_option maxRecDepth 100000 in
theorem am_Machine_compare_L157 (l : Launch) (hfl : l.flags = pinnedFlags ++ [noTraceFlag]) (D : va_G) (A : Nat → Prop) (σ MC MS : Nat) (h0 : xb_H) (Qr : xb_H → Prop) (x0 : Nat) (x6 : Int32) (h : xb_H) (hw : w_Machine_compare_L157 Qr x0 x6 h) : xb_am l D A σ 5 MC MS h0 (fun v h => v = none ∧ Qr h) (fun _ _ => False) y_Machine_compare.cls y_Machine_compare.name b_Machine_compare 7 ([] : List ExceptionTableEntry) none 157 [(0, .ref x0), (6, .int x6)] [] h 0 0 := by
  unfold w_Machine_compare_L157 at hw
  intro p e s m args below meth c hC H locs ls k n hE hl hR hS hk hn
  obtain ⟨hx, hb, hown, hlocks, htab, hml, hr, hB, hA, hnm⟩ := id hC
  have hts := hB.1.1.at args
  refine lv_aload_n hx hb (xb_d D_Machine_compare 91 rfl) rfl (lv_at hl 0 rfl) ?_
  obtain ⟨hk1, hw⟩ := hw
  refine xb_getP (C := R_Machine) (T := F_Machine) (N := 18) hx hb 7 9 hts fin_Machine hown hR hk1 (by decide) rfl (by decide) rfl (hts _ m_6904195b) (fun _ h9 => h9) (xb_d D_Machine_compare 92 rfl) ?_
  obtain ⟨b2, eb2, hw⟩ := hw
  refine xb_some eb2 ?_
  refine lv_aload_n hx hb (xb_d D_Machine_compare 93 rfl) rfl (lv_at hl 0 rfl) ?_
  refine xb_getI (C := R_Machine) (T := F_Machine) (N := 18) hx hb 7 10 hts fin_Machine hown hR hk1 (by decide) rfl (by decide) rfl (hts _ m_79cf62f6) (fun _ h9 => h9) (xb_d D_Machine_compare 94 rfl) ?_
  refine lv_iconst (v := 1) hx hb (xb_d D_Machine_compare 95 rfl) (by decide) ?_
  refine lv_isub hx hb (xb_d D_Machine_compare 96 rfl) ?_
  refine lv_iload hx hb (xb_d D_Machine_compare 97 rfl) (lv_at hl 1 rfl) ?_
  refine lv_if_eq (tgt := 176) hx hb (xb_d D_Machine_compare 98 rfl) rfl (fun hc3 => ?_) (fun hc3 => ?_)
  · have hw := hw.1 hc3
    refine lv_lconst (v := 0) hx hb (xb_d D_Machine_compare 101 rfl) (by decide) ?_
    exact am_Machine_compare_L177 l hfl D A σ MC MS h0 Qr 0 ((xb_i h x0 10) - 1) b2 h hw p e s m args below meth c hC H locs ls k n hE (lv_sub hl [] rfl) hR hS (by omega) (by omega)
  · have hw := hw.2 hc3
    refine lv_lconst (v := 1) hx hb (xb_d D_Machine_compare 99 rfl) (by decide) ?_
    refine lv_goto (tgt := 177) hx hb (xb_d D_Machine_compare 100 rfl) rfl ?_
    exact am_Machine_compare_L177 l hfl D A σ MC MS h0 Qr 1 ((xb_i h x0 10) - 1) b2 h hw p e s m args below meth c hC H locs ls k n hE (lv_sub hl [] rfl) hR hS (by omega) (by omega)

set_option maxHeartbeats 4000000 in
set_option maxRecDepth 100000 in
theorem am_Machine_compare_L45 (l : Launch) (hfl : l.flags = pinnedFlags ++ [noTraceFlag]) (D : va_G) (A : Nat → Prop) (σ MC MS : Nat) (h0 : xb_H) (Qr : xb_H → Prop) (y0 : Int64) (y1 : Int32) (y2 : Nat) (h : xb_H) (hw : w_Machine_compare_L45 Qr y0 y1 y2 h) : xb_am l D A σ 5 MC MS h0 (fun v h => v = none ∧ Qr h) (fun _ _ => False) y_Machine_compare.cls y_Machine_compare.name b_Machine_compare 7 ([] : List ExceptionTableEntry) none 45 [] [.long y0, .int y1, .ref y2] h 0 0 := by
  unfold w_Machine_compare_L45 at hw
  intro p e s m args below meth c hC H locs ls k n hE hl hR hS hk hn
  obtain ⟨hx, hb, hown, hlocks, htab, hml, hr, hB, hA, hnm⟩ := id hC
  have hts := hB.1.1.at args
  obtain ⟨hk1, hw⟩ := hw
  obtain ⟨hi2, hw⟩ := hw
  refine xb_last hx hb hR hS hk1 hi2 (xb_d D_Machine_compare 27 rfl) (fun H locs hR hS => ?_)
  obtain ⟨h3, eh3⟩ : ∃ x : xb_H, x = xb_L h y2 (Int32.toNatClampNeg y1) y0 := ⟨_, rfl⟩
  rw [← eh3] at hR
  have hw := hw h3 eh3
  have hE : xb_ext h0 h3 := by rw [eh3]; exact hE
  exact xb_vret hx hb hr hlocks (show k ≤ MC by omega) (show n ≤ MS by omega) hE hR hS (xb_d D_Machine_compare 28 rfl) hw

set_option maxHeartbeats 4000000 in
set_option maxRecDepth 100000 in
theorem am_Machine_compare_L24 (l : Launch) (hfl : l.flags = pinnedFlags ++ [noTraceFlag]) (D : va_G) (A : Nat → Prop) (σ MC MS : Nat) (h0 : xb_H) (Qr : xb_H → Prop) (x0 : Nat) (x2 : Int64) (h : xb_H) (hw : w_Machine_compare_L24 Qr x0 x2 h) : xb_am l D A σ 5 MC MS h0 (fun v h => v = none ∧ Qr h) (fun _ _ => False) y_Machine_compare.cls y_Machine_compare.name b_Machine_compare 7 ([] : List ExceptionTableEntry) none 24 [(0, .ref x0), (2, .long x2)] [] h 0 0 := by
  unfold w_Machine_compare_L24 at hw
  intro p e s m args below meth c hC H locs ls k n hE hl hR hS hk hn
  obtain ⟨hx, hb, hown, hlocks, htab, hml, hr, hB, hA, hnm⟩ := id hC
  have hts := hB.1.1.at args
  refine lv_aload_n hx hb (xb_d D_Machine_compare 14 rfl) rfl (lv_at hl 0 rfl) ?_
  obtain ⟨hk1, hw⟩ := hw
  refine xb_getP (C := R_Machine) (T := F_Machine) (N := 18) hx hb 7 9 hts fin_Machine hown hR hk1 (by decide) rfl (by decide) rfl (hts _ m_6904195b) (fun _ h9 => h9) (xb_d D_Machine_compare 15 rfl) ?_
  obtain ⟨b2, eb2, hw⟩ := hw
  refine xb_some eb2 ?_
  refine lv_aload_n hx hb (xb_d D_Machine_compare 16 rfl) rfl (lv_at hl 0 rfl) ?_
  refine xb_getI (C := R_Machine) (T := F_Machine) (N := 18) hx hb 7 10 hts fin_Machine hown hR hk1 (by decide) rfl (by decide) rfl (hts _ m_79cf62f6) (fun _ h9 => h9) (xb_d D_Machine_compare 17 rfl) ?_
  refine lv_iconst (v := 1) hx hb (xb_d D_Machine_compare 18 rfl) (by decide) ?_
  refine lv_isub hx hb (xb_d D_Machine_compare 19 rfl) ?_
  refine lv_lload_n hx hb (xb_d D_Machine_compare 20 rfl) rfl (lv_at hl 1 rfl) ?_
  refine lv_lconst (v := 0) hx hb (xb_d D_Machine_compare 21 rfl) (by decide) ?_
  refine xb_lc_ne (tgt := 44) hx hb (xb_d D_Machine_compare 22 rfl) (xb_d D_Machine_compare 23 rfl) rfl (fun hc3 => ?_) (fun hc3 => ?_)
  · have hw := hw.1 hc3
    refine lv_lconst (v := 0) hx hb (xb_d D_Machine_compare 26 rfl) (by decide) ?_
    exact am_Machine_compare_L45 l hfl D A σ MC MS h0 Qr 0 ((xb_i h x0 10) - 1) b2 h hw p e s m args below meth c hC H locs ls k n hE (lv_sub hl [] rfl) hR hS (by omega) (by omega)
  · have hw := hw.2 hc3
    refine lv_lconst (v := 1) hx hb (xb_d D_Machine_compare 24 rfl) (by decide) ?_
    refine lv_goto (tgt := 45) hx hb (xb_d D_Machine_compare 25 rfl) rfl ?_
    exact am_Machine_compare_L45 l hfl D A σ MC MS h0 Qr 1 ((xb_i h x0 10) - 1) b2 h hw p e s m args below meth c hC H locs ls k n hE (lv_sub hl [] rfl) hR hS (by omega) (by omega)

set_option maxHeartbeats 4000000 in
set_option maxRecDepth 100000 in
theorem ok_Machine_compare (l : Launch) (hfl : l.flags = pinnedFlags ++ [noTraceFlag]) (D : va_G) (A : Nat → Prop) (σ : Nat) (x0 : Nat) (x1 : Int32) (h : xb_H) (Qr : xb_H → Prop) (hw : w_Machine_compare x0 x1 h Qr) : xt_Met l y_Machine_compare [.code y_Machine_compare b_Machine_compare 7 none] (xb_rm 5 0 0) (xb_Pc D A σ h [.ref x0, .int x1]) (xb_Qc D A h (fun v h => v = none ∧ Qr h) (fun _ _ => False)) 0 0 A := by
  refine xb_ofAm (cc := b_Machine_compare) (by decide) (Nat.le_of_ble_eq_true rfl) ?_
  unfold w_Machine_compare at hw
  show xb_am l D A σ 5 0 0 h (fun v h => v = none ∧ Qr h) (fun _ _ => False) y_Machine_compare.cls y_Machine_compare.name b_Machine_compare 7 ([] : List ExceptionTableEntry) none 0 [(0, .ref x0), (1, .int x1)] [] h 0 0
  obtain ⟨MC, hMC⟩ : ∃ x, x = 0 := ⟨_, rfl⟩
  obtain ⟨MS, hMS⟩ : ∃ x, x = 0 := ⟨_, rfl⟩
  rw [show xb_am l D A σ 5 0 0 = xb_am l D A σ 5 MC MS by rw [hMC, hMS]]
  obtain ⟨h0, hh0⟩ : ∃ x, x = h := ⟨_, rfl⟩
  rw [show xb_am l D A σ 5 MC MS h = xb_am l D A σ 5 MC MS h0 by rw [hh0]]
  intro p e s m args below meth c hC H locs ls k n hE hl hR hS hk hn
  obtain ⟨hx, hb, hown, hlocks, htab, hml, hr, hB, hA, hnm⟩ := id hC
  have hts := hB.1.1.at args
  refine lv_aload_n hx hb (xb_d D_Machine_compare 0 rfl) rfl (lv_at hl 0 rfl) ?_
  obtain ⟨hk1, hw⟩ := hw
  refine xb_getP (C := R_Machine) (T := F_Machine) (N := 18) hx hb 7 9 hts fin_Machine hown hR hk1 (by decide) rfl (by decide) rfl (hts _ m_6904195b) (fun _ h9 => h9) (xb_d D_Machine_compare 1 rfl) ?_
  obtain ⟨b2, eb2, hw⟩ := hw
  refine xb_some eb2 ?_
  refine lv_aload_n hx hb (xb_d D_Machine_compare 2 rfl) rfl (lv_at hl 0 rfl) ?_
  refine xb_getI (C := R_Machine) (T := F_Machine) (N := 18) hx hb 7 10 hts fin_Machine hown hR hk1 (by decide) rfl (by decide) rfl (hts _ m_79cf62f6) (fun _ h9 => h9) (xb_d D_Machine_compare 3 rfl) ?_
  refine lv_iconst (v := 1) hx hb (xb_d D_Machine_compare 4 rfl) (by decide) ?_
  refine lv_isub hx hb (xb_d D_Machine_compare 5 rfl) ?_
  obtain ⟨hk4, hw⟩ := hw
  obtain ⟨hi3, hw⟩ := hw
  refine xb_lald hx hb hR hk4 hi3 (xb_d D_Machine_compare 6 rfl) ?_
  obtain ⟨v5, ev5⟩ : ∃ x : Int64, x = (xb_l h b2 (Int32.toNatClampNeg ((xb_i h x0 10) - 1))) := ⟨_, rfl⟩
  have hw := hw v5 ev5
  refine xt_numl (y := v5) ev5.symm ?_
  refine lv_lstore_n hx hb (xb_d D_Machine_compare 7 rfl) rfl hl (by decide) rfl (fun ls hl => ?_)
  have hl : lv_has ls 7 [(2, .long v5), (0, .ref x0), (1, .int x1)] := hl
  refine lv_iload_n hx hb (xb_d D_Machine_compare 8 rfl) rfl (lv_at hl 2 rfl) ?_
  refine lv_bipush (v := 69) hx hb (xb_d D_Machine_compare 9 rfl) (by decide) ?_
  refine lv_icmp_eq (tgt := 24) hx hb (xb_d D_Machine_compare 10 rfl) rfl (fun hc6 => ?_) (fun hc6 => ?_)
  · have hw := hw.1 hc6
    exact am_Machine_compare_L24 l hfl D A σ MC MS h0 Qr x0 v5 h hw p e s m args below meth c hC H locs ls k n hE (lv_sub hl [1, 0] rfl) hR hS (by omega) (by omega)
  · have hw := hw.2 hc6
    refine lv_iload_n hx hb (xb_d D_Machine_compare 11 rfl) rfl (lv_at hl 2 rfl) ?_
    refine lv_bipush (v := 80) hx hb (xb_d D_Machine_compare 12 rfl) (by decide) ?_
    refine lv_icmp_ne (tgt := 47) hx hb (xb_d D_Machine_compare 13 rfl) rfl (fun hc7 => ?_) (fun hc7 => ?_)
    · have hw := hw.1 hc7
      refine lv_aload_n hx hb (xb_d D_Machine_compare 29 rfl) rfl (lv_at hl 1 rfl) ?_
      refine lv_dup hx hb (xb_d D_Machine_compare 30 rfl) rfl ?_
      refine xb_getI (C := R_Machine) (T := F_Machine) (N := 18) hx hb 7 10 hts fin_Machine hown hR hk1 (by decide) rfl (by decide) rfl (hts _ m_79cf62f6) (fun _ h9 => h9) (xb_d D_Machine_compare 31 rfl) ?_
      refine lv_iconst (v := 1) hx hb (xb_d D_Machine_compare 32 rfl) (by decide) ?_
      refine lv_isub hx hb (xb_d D_Machine_compare 33 rfl) ?_
      refine xb_putI (C := R_Machine) (T := F_Machine) (N := 18) (ty := .int) (x := ((xb_i h x0 10) - 1)) hx hb 7 10 hts fin_Machine t_Machine t_Machine_ok n_Machine hown hR hS hk1 (by decide) rfl (by decide) rfl (hts _ m_79cf62f6) (fun _ h9 => h9) rfl (by decide +kernel) rfl rfl (xb_d D_Machine_compare 34 rfl) (fun H locs hR hS => ?_)
      obtain ⟨h8, eh8⟩ : ∃ x : xb_H, x = xb_I h x0 10 ((xb_i h x0 10) - 1) := ⟨_, rfl⟩
      rw [← eh8] at hR
      have hw := hw h8 eh8
      have hE : xb_ext h0 h8 := by rw [eh8]; exact hE
      refine lv_aload_n hx hb (xb_d D_Machine_compare 35 rfl) rfl (lv_at hl 1 rfl) ?_
      have hk1 : xb_k h8 x0 = 8 := by rw [eh8]; exact hk1
      refine xb_getP (C := R_Machine) (T := F_Machine) (N := 18) hx hb 7 9 hts fin_Machine hown hR hk1 (by decide) rfl (by decide) rfl (hts _ m_6904195b) (fun _ h9 => h9) (xb_d D_Machine_compare 36 rfl) ?_
      obtain ⟨b9, eb9, hw⟩ := hw
      refine xb_some eb9 ?_
      refine lv_aload_n hx hb (xb_d D_Machine_compare 37 rfl) rfl (lv_at hl 1 rfl) ?_
      refine xb_getI (C := R_Machine) (T := F_Machine) (N := 18) hx hb 7 10 hts fin_Machine hown hR hk1 (by decide) rfl (by decide) rfl (hts _ m_79cf62f6) (fun _ h9 => h9) (xb_d D_Machine_compare 38 rfl) ?_
      refine lv_iconst (v := 1) hx hb (xb_d D_Machine_compare 39 rfl) (by decide) ?_
      refine lv_isub hx hb (xb_d D_Machine_compare 40 rfl) ?_
      obtain ⟨hk11, hw⟩ := hw
      obtain ⟨hi10, hw⟩ := hw
      refine xb_lald hx hb hR hk11 hi10 (xb_d D_Machine_compare 41 rfl) ?_
      obtain ⟨v12, ev12⟩ : ∃ x : Int64, x = (xb_l h8 b9 (Int32.toNatClampNeg ((xb_i h8 x0 10) - 1))) := ⟨_, rfl⟩
      have hw := hw v12 ev12
      refine xt_numl (y := v12) ev12.symm ?_
      refine lv_lstore hx hb (xb_d D_Machine_compare 42 rfl) hl (by decide) rfl (fun ls hl => ?_)
      have hl : lv_has ls 7 [(4, .long v12), (2, .long v5), (0, .ref x0), (1, .int x1)] := hl
      refine lv_iload_n hx hb (xb_d D_Machine_compare 43 rfl) rfl (lv_at hl 3 rfl) ?_
      refine lv_bipush (v := 79) hx hb (xb_d D_Machine_compare 44 rfl) (by decide) ?_
      refine lv_icmp_gt (tgt := 95) hx hb (xb_d D_Machine_compare 45 rfl) rfl (fun hc13 => ?_) (fun hc13 => ?_)
      · have hw := hw.1 hc13
        refine lv_iload_n hx hb (xb_d D_Machine_compare 58 rfl) rfl (lv_at hl 3 rfl) ?_
        refine lv_bipush (v := 90) hx hb (xb_d D_Machine_compare 59 rfl) (by decide) ?_
        refine lv_icmp_gt (tgt := 116) hx hb (xb_d D_Machine_compare 60 rfl) rfl (fun hc14 => ?_) (fun hc14 => ?_)
        · have hw := hw.1 hc14
          refine lv_iload_n hx hb (xb_d D_Machine_compare 69 rfl) rfl (lv_at hl 3 rfl) ?_
          refine lv_bipush (v := 96) hx hb (xb_d D_Machine_compare 70 rfl) (by decide) ?_
          refine lv_icmp_gt (tgt := 141) hx hb (xb_d D_Machine_compare 71 rfl) rfl (fun hc15 => ?_) (fun hc15 => ?_)
          · have hw := hw.1 hc15
            refine lv_aload_n hx hb (xb_d D_Machine_compare 82 rfl) rfl (lv_at hl 2 rfl) ?_
            refine xb_getP (C := R_Machine) (T := F_Machine) (N := 18) hx hb 7 2 hts fin_Machine hown hR hk1 (by decide) rfl (by decide) rfl (hts _ m_ba1eb42f) (fun _ h9 => h9) (xb_d D_Machine_compare 83 rfl) ?_
            obtain ⟨b16, eb16, hw⟩ := hw
            refine xb_some eb16 ?_
            refine lv_iload_n hx hb (xb_d D_Machine_compare 84 rfl) rfl (lv_at hl 3 rfl) ?_
            refine lv_bipush (v := 97) hx hb (xb_d D_Machine_compare 85 rfl) (by decide) ?_
            refine lv_isub hx hb (xb_d D_Machine_compare 86 rfl) ?_
            refine lv_lload hx hb (xb_d D_Machine_compare 87 rfl) (lv_at hl 0 rfl) ?_
            refine lv_lload_n hx hb (xb_d D_Machine_compare 88 rfl) rfl (lv_at hl 1 rfl) ?_
            obtain ⟨hk17, hw⟩ := hw
            refine xb_call (D := D) (A := A) (σ := σ) (h := h8) (d := 4) (mc := 0) (ms := 0) (maxL := 10) (rest := []) (av := [.ref b16, .int (x1 - 97), .long v12, .long v5]) (fun T hT X => by obtain ⟨cb, r1, r2, r3⟩ := xb_recv (ci := 5) hR rfl hk17 (by decide); exact xt_invV X hx hown (hts _ m_c67283ac) (hts _ m_de37b09a) (hts _ m_bb1bafb8) (xt_sigOf (hts _ m_3cdb9ca1)) nm_Format_holds (by rw [hT]; exact r1) r2 r3 (g := F0 m 152 ls [.long v5, .long v12, .int (x1 - 97), .ref b16]) rfl (argsL := [.int (x1 - 97), .long v12, .long v5]) (rest := []) rfl rfl (by rw [hb]; exact (xb_d D_Machine_compare 89 rfl))) (ok_Format_holds l hfl D A σ b16 (x1 - 97) v12 v5 h8 _ hw) (hml.trans hl.1.symm) (by rw [hb]; exact (xb_d D_Machine_compare 89 rfl)) (Nat.le_of_ble_eq_true rfl) (Nat.le_of_ble_eq_true rfl) (Nat.le_of_ble_eq_true rfl) (show k + 0 ≤ MC by omega) (show n + 0 ≤ MS by omega) (xt_w1 hB.1 m_3cdb9ca1) (xt_cdOf hB.1 m_3cdb9ca1) (hts _ m_64857de5) hB hR hS hA (fun vv h18 H locs hq hEh18 hR hS => ?_) (fun XX ax h18 H locs hq hEh18 hex hR hS => ?_)
            · obtain ⟨r19, rfl, hw⟩ := hq
              have hw := hw hEh18
              have hE := hE.tr hEh18
              refine W.eq (g2 := F0 m 155 ls [.int r19]) rfl ?_
              refine lv_istore hx hb (xb_d D_Machine_compare 90 rfl) hl (by decide) rfl (fun ls hl => ?_)
              have hl : lv_has ls 7 [(6, .int r19), (4, .long v12), (2, .long v5), (0, .ref x0), (1, .int x1)] := hl
              exact am_Machine_compare_L157 l hfl D A σ MC MS h0 Qr x0 r19 h18 hw p e s m args below meth c hC H locs ls k n hE (lv_sub hl [3, 0] rfl) hR hS (by omega) (by omega)
            · exact False.elim hq
          · have hw := hw.2 hc15
            refine lv_aload_n hx hb (xb_d D_Machine_compare 72 rfl) rfl (lv_at hl 2 rfl) ?_
            refine xb_getP (C := R_Machine) (T := F_Machine) (N := 18) hx hb 7 1 hts fin_Machine hown hR hk1 (by decide) rfl (by decide) rfl (hts _ m_ae64f9ca) (fun _ h9 => h9) (xb_d D_Machine_compare 73 rfl) ?_
            obtain ⟨b20, eb20, hw⟩ := hw
            refine xb_some eb20 ?_
            refine lv_iload_n hx hb (xb_d D_Machine_compare 74 rfl) rfl (lv_at hl 3 rfl) ?_
            refine lv_bipush (v := 91) hx hb (xb_d D_Machine_compare 75 rfl) (by decide) ?_
            refine lv_isub hx hb (xb_d D_Machine_compare 76 rfl) ?_
            refine lv_lload hx hb (xb_d D_Machine_compare 77 rfl) (lv_at hl 0 rfl) ?_
            refine lv_lload_n hx hb (xb_d D_Machine_compare 78 rfl) rfl (lv_at hl 1 rfl) ?_
            obtain ⟨hk21, hw⟩ := hw
            refine xb_call (D := D) (A := A) (σ := σ) (h := h8) (d := 4) (mc := 0) (ms := 0) (maxL := 10) (rest := []) (av := [.ref b20, .int (x1 - 91), .long v12, .long v5]) (fun T hT X => by obtain ⟨cb, r1, r2, r3⟩ := xb_recv (ci := 5) hR rfl hk21 (by decide); exact xt_invV X hx hown (hts _ m_c67283ac) (hts _ m_de37b09a) (hts _ m_bb1bafb8) (xt_sigOf (hts _ m_3cdb9ca1)) nm_Format_holds (by rw [hT]; exact r1) r2 r3 (g := F0 m 133 ls [.long v5, .long v12, .int (x1 - 91), .ref b20]) rfl (argsL := [.int (x1 - 91), .long v12, .long v5]) (rest := []) rfl rfl (by rw [hb]; exact (xb_d D_Machine_compare 79 rfl))) (ok_Format_holds l hfl D A σ b20 (x1 - 91) v12 v5 h8 _ hw) (hml.trans hl.1.symm) (by rw [hb]; exact (xb_d D_Machine_compare 79 rfl)) (Nat.le_of_ble_eq_true rfl) (Nat.le_of_ble_eq_true rfl) (Nat.le_of_ble_eq_true rfl) (show k + 0 ≤ MC by omega) (show n + 0 ≤ MS by omega) (xt_w1 hB.1 m_3cdb9ca1) (xt_cdOf hB.1 m_3cdb9ca1) (hts _ m_64857de5) hB hR hS hA (fun vv h22 H locs hq hEh22 hR hS => ?_) (fun XX ax h22 H locs hq hEh22 hex hR hS => ?_)
            · obtain ⟨r23, rfl, hw⟩ := hq
              have hw := hw hEh22
              have hE := hE.tr hEh22
              refine W.eq (g2 := F0 m 136 ls [.int r23]) rfl ?_
              refine lv_istore hx hb (xb_d D_Machine_compare 80 rfl) hl (by decide) rfl (fun ls hl => ?_)
              have hl : lv_has ls 7 [(6, .int r23), (4, .long v12), (2, .long v5), (0, .ref x0), (1, .int x1)] := hl
              refine lv_goto (tgt := 157) hx hb (xb_d D_Machine_compare 81 rfl) rfl ?_
              exact am_Machine_compare_L157 l hfl D A σ MC MS h0 Qr x0 r23 h22 hw p e s m args below meth c hC H locs ls k n hE (lv_sub hl [3, 0] rfl) hR hS (by omega) (by omega)
            · exact False.elim hq
        · have hw := hw.2 hc14
          refine lv_iload_n hx hb (xb_d D_Machine_compare 61 rfl) rfl (lv_at hl 3 rfl) ?_
          refine lv_bipush (v := 81) hx hb (xb_d D_Machine_compare 62 rfl) (by decide) ?_
          refine lv_isub hx hb (xb_d D_Machine_compare 63 rfl) ?_
          refine lv_lload hx hb (xb_d D_Machine_compare 64 rfl) (lv_at hl 0 rfl) ?_
          refine lv_lload_n hx hb (xb_d D_Machine_compare 65 rfl) rfl (lv_at hl 1 rfl) ?_
          refine xb_call (D := D) (A := A) (σ := σ) (h := h8) (d := 3) (mc := 0) (ms := 0) (maxL := 5) (rest := []) (av := [.int (x1 - 81), .long v12, .long v5]) (fun T hT X => xt_invS X hx hown (hts _ m_4fffa478) (hts _ m_35b7fb63) (hts _ m_912e4ef6) (xt_sgS (hts _ m_1a99436b)).1 (xt_sgS (hts _ m_1a99436b)).2 nm_Whole_holds (g := F0 m 108 ls [.long v5, .long v12, .int (x1 - 81)]) rfl (argsL := [.int (x1 - 81), .long v12, .long v5]) (rest := []) rfl rfl (by rw [hb]; exact (xb_d D_Machine_compare 66 rfl))) (ok_Whole_holds l hfl D A σ (x1 - 81) v12 v5 h8 _ hw) (hml.trans hl.1.symm) (by rw [hb]; exact (xb_d D_Machine_compare 66 rfl)) (Nat.le_of_ble_eq_true rfl) (Nat.le_of_ble_eq_true rfl) (Nat.le_of_ble_eq_true rfl) (show k + 0 ≤ MC by omega) (show n + 0 ≤ MS by omega) (xt_w1 hB.1 m_1a99436b) (xt_cdOf hB.1 m_1a99436b) (hts _ m_912e4ef6) hB hR hS hA (fun vv h24 H locs hq hEh24 hR hS => ?_) (fun XX ax h24 H locs hq hEh24 hex hR hS => ?_)
          · obtain ⟨r25, rfl, hw⟩ := hq
            have hw := hw hEh24
            have hE := hE.tr hEh24
            refine W.eq (g2 := F0 m 111 ls [.int r25]) rfl ?_
            refine lv_istore hx hb (xb_d D_Machine_compare 67 rfl) hl (by decide) rfl (fun ls hl => ?_)
            have hl : lv_has ls 7 [(6, .int r25), (4, .long v12), (2, .long v5), (0, .ref x0), (1, .int x1)] := hl
            refine lv_goto (tgt := 157) hx hb (xb_d D_Machine_compare 68 rfl) rfl ?_
            exact am_Machine_compare_L157 l hfl D A σ MC MS h0 Qr x0 r25 h24 hw p e s m args below meth c hC H locs ls k n hE (lv_sub hl [3, 0] rfl) hR hS (by omega) (by omega)
          · exact False.elim hq
      · have hw := hw.2 hc13
        refine lv_iload_n hx hb (xb_d D_Machine_compare 46 rfl) rfl (lv_at hl 3 rfl) ?_
        refine lv_bipush (v := 70) hx hb (xb_d D_Machine_compare 47 rfl) (by decide) ?_
        refine lv_isub hx hb (xb_d D_Machine_compare 48 rfl) ?_
        refine lv_lload hx hb (xb_d D_Machine_compare 49 rfl) (lv_at hl 0 rfl) ?_
        refine lv_l2i hx hb (xb_d D_Machine_compare 50 rfl) rfl ?_
        refine lv_i2l hx hb (xb_d D_Machine_compare 51 rfl) rfl ?_
        refine lv_lload_n hx hb (xb_d D_Machine_compare 52 rfl) rfl (lv_at hl 1 rfl) ?_
        refine lv_l2i hx hb (xb_d D_Machine_compare 53 rfl) rfl ?_
        refine lv_i2l hx hb (xb_d D_Machine_compare 54 rfl) rfl ?_
        refine xb_call (D := D) (A := A) (σ := σ) (h := h8) (d := 3) (mc := 0) (ms := 0) (maxL := 5) (rest := []) (av := [.int (x1 - 70), .long (Int32.toInt64 (Int64.toInt32 v12)), .long (Int32.toInt64 (Int64.toInt32 v5))]) (fun T hT X => xt_invS X hx hown (hts _ m_4fffa478) (hts _ m_35b7fb63) (hts _ m_912e4ef6) (xt_sgS (hts _ m_1a99436b)).1 (xt_sgS (hts _ m_1a99436b)).2 nm_Whole_holds (g := F0 m 87 ls [.long (Int32.toInt64 (Int64.toInt32 v5)), .long (Int32.toInt64 (Int64.toInt32 v12)), .int (x1 - 70)]) rfl (argsL := [.int (x1 - 70), .long (Int32.toInt64 (Int64.toInt32 v12)), .long (Int32.toInt64 (Int64.toInt32 v5))]) (rest := []) rfl rfl (by rw [hb]; exact (xb_d D_Machine_compare 55 rfl))) (ok_Whole_holds l hfl D A σ (x1 - 70) (Int32.toInt64 (Int64.toInt32 v12)) (Int32.toInt64 (Int64.toInt32 v5)) h8 _ hw) (hml.trans hl.1.symm) (by rw [hb]; exact (xb_d D_Machine_compare 55 rfl)) (Nat.le_of_ble_eq_true rfl) (Nat.le_of_ble_eq_true rfl) (Nat.le_of_ble_eq_true rfl) (show k + 0 ≤ MC by omega) (show n + 0 ≤ MS by omega) (xt_w1 hB.1 m_1a99436b) (xt_cdOf hB.1 m_1a99436b) (hts _ m_912e4ef6) hB hR hS hA (fun vv h26 H locs hq hEh26 hR hS => ?_) (fun XX ax h26 H locs hq hEh26 hex hR hS => ?_)
        · obtain ⟨r27, rfl, hw⟩ := hq
          have hw := hw hEh26
          have hE := hE.tr hEh26
          refine W.eq (g2 := F0 m 90 ls [.int r27]) rfl ?_
          refine lv_istore hx hb (xb_d D_Machine_compare 56 rfl) hl (by decide) rfl (fun ls hl => ?_)
          have hl : lv_has ls 7 [(6, .int r27), (4, .long v12), (2, .long v5), (0, .ref x0), (1, .int x1)] := hl
          refine lv_goto (tgt := 157) hx hb (xb_d D_Machine_compare 57 rfl) rfl ?_
          exact am_Machine_compare_L157 l hfl D A σ MC MS h0 Qr x0 r27 h26 hw p e s m args below meth c hC H locs ls k n hE (lv_sub hl [3, 0] rfl) hR hS (by omega) (by omega)
        · exact False.elim hq
    · have hw := hw.2 hc7
      exact am_Machine_compare_L24 l hfl D A σ MC MS h0 Qr x0 v5 h hw p e s m args below meth c hC H locs ls k n hE (lv_sub hl [1, 0] rfl) hR hS (by omega) (by omega)

theorem m_823c8e4a : (.methodLink "StackHost$Machine" 353 y_Format_ofWhole : Cond) ∈ xt_tbl := xt_in (xt_t8 (List.mem_of_getElem? (i := 46) (by decide +kernel))) (by decide +kernel)
theorem m_3b32aa18 : (.instanceMethod y_Format_ofWhole : Cond) ∈ xt_tbl := xt_in (xt_t8 (List.mem_of_getElem? (i := 47) (by decide +kernel))) (by decide +kernel)
theorem m_dc35161d : (.selects "StackHost$Format" y_Format_ofWhole y_Format_ofWhole : Cond) ∈ xt_tbl := xt_in (xt_t8 (List.mem_of_getElem? (i := 48) (by decide +kernel))) (by decide +kernel)
theorem m_0e750959 : (.code y_Format_ofWhole b_Format_ofWhole 7 (some .long) : Cond) ∈ xt_tbl := xt_in (xt_t8 (List.mem_of_getElem? (i := 49) (by decide +kernel))) (by decide +kernel)
theorem m_4c45bc79 : (.methodLink "StackHost$Machine" 357 y_Format_ofOther : Cond) ∈ xt_tbl := xt_in (xt_t8 (List.mem_of_getElem? (i := 57) (by decide +kernel))) (by decide +kernel)
theorem m_df7caa06 : (.instanceMethod y_Format_ofOther : Cond) ∈ xt_tbl := xt_in (xt_t8 (List.mem_of_getElem? (i := 58) (by decide +kernel))) (by decide +kernel)
theorem m_7d394ae2 : (.selects "StackHost$Format" y_Format_ofOther y_Format_ofOther : Cond) ∈ xt_tbl := xt_in (xt_t8 (List.mem_of_getElem? (i := 59) (by decide +kernel))) (by decide +kernel)
theorem m_57489b92 : (.code y_Format_ofOther b_Format_ofOther 5 (some .long) : Cond) ∈ xt_tbl := xt_in (xt_t8 (List.mem_of_getElem? (i := 60) (by decide +kernel))) (by decide +kernel)
theorem nm_Format_ofWhole : xt_nm y_Format_ofWhole 2 := ⟨by decide +kernel, by decide +kernel⟩
theorem nm_Format_ofOther : xt_nm y_Format_ofOther 2 := ⟨by decide +kernel, by decide +kernel⟩
set_option maxRecDepth 100000 in
def T_Machine_converted : List (Nat × Instr × Nat) := [(0, .iload_n 1, 1), (1, .tableswitch 199 167 187 #[99, 199, 199, 199, 199, 105, 199, 199, 199, 199, 199, 109, 121, 131, 121, 141, 154, 166, 176, 166, 186], 99), (100, .lload_n 2, 1), (101, .ldc2_w 74, 3), (104, .land, 1), (105, .lreturn, 1), (106, .lload_n 2, 1), (107, .l2i, 1), (108, .i2l, 1), (109, .lreturn, 1), (110, .aload_n 0, 1), (111, .getfield 16, 3), (114, .lload_n 2, 1), (115, .l2i, 1), (116, .i2l, 1), (117, .iconst 1, 1), (118, .invokevirtual 353, 3), (121, .lreturn, 1), (122, .aload_n 0, 1), (123, .getfield 16, 3), (126, .lload_n 2, 1), (127, .iconst 0, 1), (128, .invokevirtual 353, 3), (131, .lreturn, 1), (132, .aload_n 0, 1), (133, .getfield 16, 3), (136, .lload_n 2, 1), (137, .iconst 1, 1), (138, .invokevirtual 353, 3), (141, .lreturn, 1), (142, .aload_n 0, 1), (143, .getfield 16, 3), (146, .aload_n 0, 1), (147, .getfield 24, 3), (150, .lload_n 2, 1), (151, .invokevirtual 357, 3), (154, .lreturn, 1), (155, .aload_n 0, 1), (156, .getfield 24, 3), (159, .lload_n 2, 1), (160, .l2i, 1), (161, .i2l, 1), (162, .iconst 1, 1), (163, .invokevirtual 353, 3), (166, .lreturn, 1), (167, .aload_n 0, 1), (168, .getfield 24, 3), (171, .lload_n 2, 1), (172, .iconst 0, 1), (173, .invokevirtual 353, 3), (176, .lreturn, 1), (177, .aload_n 0, 1), (178, .getfield 24, 3), (181, .lload_n 2, 1), (182, .iconst 1, 1), (183, .invokevirtual 353, 3), (186, .lreturn, 1), (187, .aload_n 0, 1), (188, .getfield 24, 3), (191, .aload_n 0, 1), (192, .getfield 16, 3), (195, .lload_n 2, 1), (196, .invokevirtual 357, 3), (199, .lreturn, 1), (200, .lload_n 2, 1), (201, .lreturn, 1)]
theorem D_Machine_converted : ∀ q ∈ T_Machine_converted, decode b_Machine_converted q.1 = .ok (q.2.1, q.2.2) := by decide +kernel
def w_Machine_converted_L200 (Qr : Int64 → xb_H → Prop) (x2 : Int64) (h : xb_H) : Prop :=
    Qr x2 h

def w_Machine_converted_L167 (Qr : Int64 → xb_H → Prop) (x0 : Nat) (x2 : Int64) (h : xb_H) : Prop :=
    xb_k h x0 = 8 ∧ ∃ b2 : Nat, (xb_r h x0 2) = some b2 ∧ xb_k h b2 = 6 ∧ w_Format_ofWhole b2 x2 0 h (fun (r5 : Int64) (h4 : xb_H) => xb_ext h h4 → Qr r5 h4)

def w_Machine_converted_L122 (Qr : Int64 → xb_H → Prop) (x0 : Nat) (x2 : Int64) (h : xb_H) : Prop :=
    xb_k h x0 = 8 ∧ ∃ b2 : Nat, (xb_r h x0 1) = some b2 ∧ xb_k h b2 = 6 ∧ w_Format_ofWhole b2 x2 0 h (fun (r5 : Int64) (h4 : xb_H) => xb_ext h h4 → Qr r5 h4)

def w_Machine_converted (x0 : Nat) (x1 : Int32) (x2 : Int64) (h : xb_H) (Qr : Int64 → xb_H → Prop) : Prop :=
    ((x1 = 167 → Qr (x2 &&& 4294967295) h) ∧ (x1 = 168 → w_Machine_converted_L200 Qr x2 h) ∧ (x1 = 169 → w_Machine_converted_L200 Qr x2 h) ∧ (x1 = 170 → w_Machine_converted_L200 Qr x2 h) ∧ (x1 = 171 → w_Machine_converted_L200 Qr x2 h) ∧ (x1 = 172 → Qr (Int32.toInt64 (Int64.toInt32 x2)) h) ∧ (x1 = 173 → w_Machine_converted_L200 Qr x2 h) ∧ (x1 = 174 → w_Machine_converted_L200 Qr x2 h) ∧ (x1 = 175 → w_Machine_converted_L200 Qr x2 h) ∧ (x1 = 176 → w_Machine_converted_L200 Qr x2 h) ∧ (x1 = 177 → w_Machine_converted_L200 Qr x2 h) ∧ (x1 = 178 → xb_k h x0 = 8 ∧ ∃ b14 : Nat, (xb_r h x0 1) = some b14 ∧ xb_k h b14 = 6 ∧ w_Format_ofWhole b14 (Int32.toInt64 (Int64.toInt32 x2)) 1 h (fun (r17 : Int64) (h16 : xb_H) => xb_ext h h16 → Qr r17 h16)) ∧ (x1 = 179 → w_Machine_converted_L122 Qr x0 x2 h) ∧ (x1 = 180 → xb_k h x0 = 8 ∧ ∃ b21 : Nat, (xb_r h x0 1) = some b21 ∧ xb_k h b21 = 6 ∧ w_Format_ofWhole b21 x2 1 h (fun (r24 : Int64) (h23 : xb_H) => xb_ext h h23 → Qr r24 h23)) ∧ (x1 = 181 → w_Machine_converted_L122 Qr x0 x2 h) ∧ (x1 = 182 → xb_k h x0 = 8 ∧ ∃ b28 : Nat, (xb_r h x0 1) = some b28 ∧ ∃ b29 : Nat, (xb_r h x0 2) = some b29 ∧ xb_k h b28 = 6 ∧ w_Format_ofOther b28 b29 x2 h (fun (r32 : Int64) (h31 : xb_H) => xb_ext h h31 → Qr r32 h31)) ∧ (x1 = 183 → xb_k h x0 = 8 ∧ ∃ b35 : Nat, (xb_r h x0 2) = some b35 ∧ xb_k h b35 = 6 ∧ w_Format_ofWhole b35 (Int32.toInt64 (Int64.toInt32 x2)) 1 h (fun (r38 : Int64) (h37 : xb_H) => xb_ext h h37 → Qr r38 h37)) ∧ (x1 = 184 → w_Machine_converted_L167 Qr x0 x2 h) ∧ (x1 = 185 → xb_k h x0 = 8 ∧ ∃ b42 : Nat, (xb_r h x0 2) = some b42 ∧ xb_k h b42 = 6 ∧ w_Format_ofWhole b42 x2 1 h (fun (r45 : Int64) (h44 : xb_H) => xb_ext h h44 → Qr r45 h44)) ∧ (x1 = 186 → w_Machine_converted_L167 Qr x0 x2 h) ∧ (x1 = 187 → xb_k h x0 = 8 ∧ ∃ b49 : Nat, (xb_r h x0 2) = some b49 ∧ ∃ b50 : Nat, (xb_r h x0 1) = some b50 ∧ xb_k h b49 = 6 ∧ w_Format_ofOther b49 b50 x2 h (fun (r53 : Int64) (h52 : xb_H) => xb_ext h h52 → Qr r53 h52)) ∧ (¬ x1 = 167 → ¬ x1 = 168 → ¬ x1 = 169 → ¬ x1 = 170 → ¬ x1 = 171 → ¬ x1 = 172 → ¬ x1 = 173 → ¬ x1 = 174 → ¬ x1 = 175 → ¬ x1 = 176 → ¬ x1 = 177 → ¬ x1 = 178 → ¬ x1 = 179 → ¬ x1 = 180 → ¬ x1 = 181 → ¬ x1 = 182 → ¬ x1 = 183 → ¬ x1 = 184 → ¬ x1 = 185 → ¬ x1 = 186 → ¬ x1 = 187 → w_Machine_converted_L200 Qr x2 h))

set_option maxHeartbeats 4000000 in
set_option maxRecDepth 100000 in
theorem am_Machine_converted_L200 (l : Launch) (hfl : l.flags = pinnedFlags ++ [noTraceFlag]) (D : va_G) (A : Nat → Prop) (σ MC MS : Nat) (h0 : xb_H) (Qr : Int64 → xb_H → Prop) (x2 : Int64) (h : xb_H) (hw : w_Machine_converted_L200 Qr x2 h) : xb_am l D A σ 5 MC MS h0 (fun v h => ∃ r, v = some (.long r) ∧ Qr r h) (fun _ _ => False) y_Machine_converted.cls y_Machine_converted.name b_Machine_converted 4 ([] : List ExceptionTableEntry) (some .long) 200 [(2, .long x2)] [] h 0 0 := by
  unfold w_Machine_converted_L200 at hw
  intro p e s m args below meth c hC H locs ls k n hE hl hR hS hk hn
  obtain ⟨hx, hb, hown, hlocks, htab, hml, hr, hB, hA, hnm⟩ := id hC
  have hts := hB.1.1.at args
  refine lv_lload_n hx hb (xb_d D_Machine_converted 64 rfl) rfl (lv_at hl 0 rfl) ?_
  exact xb_lret hx hb hr hlocks (show k ≤ MC by omega) (show n ≤ MS by omega) hE hR hS (xb_d D_Machine_converted 65 rfl) hw

set_option maxHeartbeats 4000000 in
set_option maxRecDepth 100000 in
theorem am_Machine_converted_L167 (l : Launch) (hfl : l.flags = pinnedFlags ++ [noTraceFlag]) (D : va_G) (A : Nat → Prop) (σ MC MS : Nat) (h0 : xb_H) (Qr : Int64 → xb_H → Prop) (x0 : Nat) (x2 : Int64) (h : xb_H) (hw : w_Machine_converted_L167 Qr x0 x2 h) : xb_am l D A σ 5 MC MS h0 (fun v h => ∃ r, v = some (.long r) ∧ Qr r h) (fun _ _ => False) y_Machine_converted.cls y_Machine_converted.name b_Machine_converted 4 ([] : List ExceptionTableEntry) (some .long) 167 [(0, .ref x0), (2, .long x2)] [] h 0 0 := by
  unfold w_Machine_converted_L167 at hw
  intro p e s m args below meth c hC H locs ls k n hE hl hR hS hk hn
  obtain ⟨hx, hb, hown, hlocks, htab, hml, hr, hB, hA, hnm⟩ := id hC
  have hts := hB.1.1.at args
  refine lv_aload_n hx hb (xb_d D_Machine_converted 45 rfl) rfl (lv_at hl 0 rfl) ?_
  obtain ⟨hk1, hw⟩ := hw
  refine xb_getP (C := R_Machine) (T := F_Machine) (N := 18) hx hb 7 2 hts fin_Machine hown hR hk1 (by decide) rfl (by decide) rfl (hts _ m_ba1eb42f) (fun _ h9 => h9) (xb_d D_Machine_converted 46 rfl) ?_
  obtain ⟨b2, eb2, hw⟩ := hw
  refine xb_some eb2 ?_
  refine lv_lload_n hx hb (xb_d D_Machine_converted 47 rfl) rfl (lv_at hl 1 rfl) ?_
  refine lv_iconst (v := 0) hx hb (xb_d D_Machine_converted 48 rfl) (by decide) ?_
  obtain ⟨hk3, hw⟩ := hw
  refine xb_call (D := D) (A := A) (σ := σ) (h := h) (d := 4) (mc := 0) (ms := 0) (maxL := 7) (rest := []) (av := [.ref b2, .long x2, .int 0]) (fun T hT X => by obtain ⟨cb, r1, r2, r3⟩ := xb_recv (ci := 5) hR rfl hk3 (by decide); exact xt_invV X hx hown (hts _ m_823c8e4a) (hts _ m_3b32aa18) (hts _ m_dc35161d) (xt_sigOf (hts _ m_0e750959)) nm_Format_ofWhole (by rw [hT]; exact r1) r2 r3 (g := F0 m 173 ls [.int 0, .long x2, .ref b2]) rfl (argsL := [.long x2, .int 0]) (rest := []) rfl rfl (by rw [hb]; exact (xb_d D_Machine_converted 49 rfl))) (ok_Format_ofWhole l hfl D A σ b2 x2 0 h _ hw) (hml.trans hl.1.symm) (by rw [hb]; exact (xb_d D_Machine_converted 49 rfl)) (Nat.le_of_ble_eq_true rfl) (Nat.le_of_ble_eq_true rfl) (Nat.le_of_ble_eq_true rfl) (show k + 0 ≤ MC by omega) (show n + 0 ≤ MS by omega) (xt_w1 hB.1 m_0e750959) (xt_cdOf hB.1 m_0e750959) (hts _ m_64857de5) hB hR hS hA (fun vv h4 H locs hq hEh4 hR hS => ?_) (fun XX ax h4 H locs hq hEh4 hex hR hS => ?_)
  · obtain ⟨r5, rfl, hw⟩ := hq
    have hw := hw hEh4
    have hE := hE.tr hEh4
    refine W.eq (g2 := F0 m 176 ls [.long r5]) rfl ?_
    exact xb_lret hx hb hr hlocks (show k ≤ MC by omega) (show n ≤ MS by omega) hE hR hS (xb_d D_Machine_converted 50 rfl) hw
  · exact False.elim hq

set_option maxHeartbeats 4000000 in
set_option maxRecDepth 100000 in
theorem am_Machine_converted_L122 (l : Launch) (hfl : l.flags = pinnedFlags ++ [noTraceFlag]) (D : va_G) (A : Nat → Prop) (σ MC MS : Nat) (h0 : xb_H) (Qr : Int64 → xb_H → Prop) (x0 : Nat) (x2 : Int64) (h : xb_H) (hw : w_Machine_converted_L122 Qr x0 x2 h) : xb_am l D A σ 5 MC MS h0 (fun v h => ∃ r, v = some (.long r) ∧ Qr r h) (fun _ _ => False) y_Machine_converted.cls y_Machine_converted.name b_Machine_converted 4 ([] : List ExceptionTableEntry) (some .long) 122 [(0, .ref x0), (2, .long x2)] [] h 0 0 := by
  unfold w_Machine_converted_L122 at hw
  intro p e s m args below meth c hC H locs ls k n hE hl hR hS hk hn
  obtain ⟨hx, hb, hown, hlocks, htab, hml, hr, hB, hA, hnm⟩ := id hC
  have hts := hB.1.1.at args
  refine lv_aload_n hx hb (xb_d D_Machine_converted 18 rfl) rfl (lv_at hl 0 rfl) ?_
  obtain ⟨hk1, hw⟩ := hw
  refine xb_getP (C := R_Machine) (T := F_Machine) (N := 18) hx hb 7 1 hts fin_Machine hown hR hk1 (by decide) rfl (by decide) rfl (hts _ m_ae64f9ca) (fun _ h9 => h9) (xb_d D_Machine_converted 19 rfl) ?_
  obtain ⟨b2, eb2, hw⟩ := hw
  refine xb_some eb2 ?_
  refine lv_lload_n hx hb (xb_d D_Machine_converted 20 rfl) rfl (lv_at hl 1 rfl) ?_
  refine lv_iconst (v := 0) hx hb (xb_d D_Machine_converted 21 rfl) (by decide) ?_
  obtain ⟨hk3, hw⟩ := hw
  refine xb_call (D := D) (A := A) (σ := σ) (h := h) (d := 4) (mc := 0) (ms := 0) (maxL := 7) (rest := []) (av := [.ref b2, .long x2, .int 0]) (fun T hT X => by obtain ⟨cb, r1, r2, r3⟩ := xb_recv (ci := 5) hR rfl hk3 (by decide); exact xt_invV X hx hown (hts _ m_823c8e4a) (hts _ m_3b32aa18) (hts _ m_dc35161d) (xt_sigOf (hts _ m_0e750959)) nm_Format_ofWhole (by rw [hT]; exact r1) r2 r3 (g := F0 m 128 ls [.int 0, .long x2, .ref b2]) rfl (argsL := [.long x2, .int 0]) (rest := []) rfl rfl (by rw [hb]; exact (xb_d D_Machine_converted 22 rfl))) (ok_Format_ofWhole l hfl D A σ b2 x2 0 h _ hw) (hml.trans hl.1.symm) (by rw [hb]; exact (xb_d D_Machine_converted 22 rfl)) (Nat.le_of_ble_eq_true rfl) (Nat.le_of_ble_eq_true rfl) (Nat.le_of_ble_eq_true rfl) (show k + 0 ≤ MC by omega) (show n + 0 ≤ MS by omega) (xt_w1 hB.1 m_0e750959) (xt_cdOf hB.1 m_0e750959) (hts _ m_64857de5) hB hR hS hA (fun vv h4 H locs hq hEh4 hR hS => ?_) (fun XX ax h4 H locs hq hEh4 hex hR hS => ?_)
  · obtain ⟨r5, rfl, hw⟩ := hq
    have hw := hw hEh4
    have hE := hE.tr hEh4
    refine W.eq (g2 := F0 m 131 ls [.long r5]) rfl ?_
    exact xb_lret hx hb hr hlocks (show k ≤ MC by omega) (show n ≤ MS by omega) hE hR hS (xb_d D_Machine_converted 23 rfl) hw
  · exact False.elim hq

set_option maxHeartbeats 4000000 in
set_option maxRecDepth 100000 in
theorem ok_Machine_converted (l : Launch) (hfl : l.flags = pinnedFlags ++ [noTraceFlag]) (D : va_G) (A : Nat → Prop) (σ : Nat) (x0 : Nat) (x1 : Int32) (x2 : Int64) (h : xb_H) (Qr : Int64 → xb_H → Prop) (hw : w_Machine_converted x0 x1 x2 h Qr) : xt_Met l y_Machine_converted [.code y_Machine_converted b_Machine_converted 4 (some .long)] (xb_rm 5 0 0) (xb_Pc D A σ h [.ref x0, .int x1, .long x2]) (xb_Qc D A h (fun v h => ∃ r, v = some (.long r) ∧ Qr r h) (fun _ _ => False)) 0 0 A := by
  refine xb_ofAm (cc := b_Machine_converted) (by decide) (Nat.le_of_ble_eq_true rfl) ?_
  unfold w_Machine_converted at hw
  show xb_am l D A σ 5 0 0 h (fun v h => ∃ r, v = some (.long r) ∧ Qr r h) (fun _ _ => False) y_Machine_converted.cls y_Machine_converted.name b_Machine_converted 4 ([] : List ExceptionTableEntry) (some .long) 0 [(0, .ref x0), (1, .int x1), (2, .long x2)] [] h 0 0
  obtain ⟨MC, hMC⟩ : ∃ x, x = 0 := ⟨_, rfl⟩
  obtain ⟨MS, hMS⟩ : ∃ x, x = 0 := ⟨_, rfl⟩
  rw [show xb_am l D A σ 5 0 0 = xb_am l D A σ 5 MC MS by rw [hMC, hMS]]
  obtain ⟨h0, hh0⟩ : ∃ x, x = h := ⟨_, rfl⟩
  rw [show xb_am l D A σ 5 MC MS h = xb_am l D A σ 5 MC MS h0 by rw [hh0]]
  intro p e s m args below meth c hC H locs ls k n hE hl hR hS hk hn
  obtain ⟨hx, hb, hown, hlocks, htab, hml, hr, hB, hA, hnm⟩ := id hC
  have hts := hB.1.1.at args
  refine lv_iload_n hx hb (xb_d D_Machine_converted 0 rfl) rfl (lv_at hl 1 rfl) ?_
  by_cases hc1 : x1 = 167
  · have hw := hw.1 hc1
    refine xt_numi hc1 ?_
    refine lv_tableIn (off := 99) (tgt := 100) hx hb (xb_d D_Machine_converted 1 rfl) (by decide +kernel) (by decide +kernel) (by decide +kernel) (by decide) ?_
    refine lv_lload_n hx hb (xb_d D_Machine_converted 2 rfl) rfl (lv_at hl 2 rfl) ?_
    refine lv_ldc2 (v := 4294967295) hx hb hown (hts _ m_2b0551dd) (xb_d D_Machine_converted 3 rfl) ?_
    refine lv_land hx hb (xb_d D_Machine_converted 4 rfl) ?_
    exact xb_lret hx hb hr hlocks (show k ≤ MC by omega) (show n ≤ MS by omega) hE hR hS (xb_d D_Machine_converted 5 rfl) hw
  have hw := hw.2
  by_cases hc2 : x1 = 168
  · have hw := hw.1 hc2
    refine xt_numi hc2 ?_
    refine lv_tableIn (off := 199) (tgt := 200) hx hb (xb_d D_Machine_converted 1 rfl) (by decide +kernel) (by decide +kernel) (by decide +kernel) (by decide) ?_
    exact am_Machine_converted_L200 l hfl D A σ MC MS h0 Qr x2 h hw p e s m args below meth c hC H locs ls k n hE (lv_sub hl [2] rfl) hR hS (by omega) (by omega)
  have hw := hw.2
  by_cases hc3 : x1 = 169
  · have hw := hw.1 hc3
    refine xt_numi hc3 ?_
    refine lv_tableIn (off := 199) (tgt := 200) hx hb (xb_d D_Machine_converted 1 rfl) (by decide +kernel) (by decide +kernel) (by decide +kernel) (by decide) ?_
    exact am_Machine_converted_L200 l hfl D A σ MC MS h0 Qr x2 h hw p e s m args below meth c hC H locs ls k n hE (lv_sub hl [2] rfl) hR hS (by omega) (by omega)
  have hw := hw.2
  by_cases hc4 : x1 = 170
  · have hw := hw.1 hc4
    refine xt_numi hc4 ?_
    refine lv_tableIn (off := 199) (tgt := 200) hx hb (xb_d D_Machine_converted 1 rfl) (by decide +kernel) (by decide +kernel) (by decide +kernel) (by decide) ?_
    exact am_Machine_converted_L200 l hfl D A σ MC MS h0 Qr x2 h hw p e s m args below meth c hC H locs ls k n hE (lv_sub hl [2] rfl) hR hS (by omega) (by omega)
  have hw := hw.2
  by_cases hc5 : x1 = 171
  · have hw := hw.1 hc5
    refine xt_numi hc5 ?_
    refine lv_tableIn (off := 199) (tgt := 200) hx hb (xb_d D_Machine_converted 1 rfl) (by decide +kernel) (by decide +kernel) (by decide +kernel) (by decide) ?_
    exact am_Machine_converted_L200 l hfl D A σ MC MS h0 Qr x2 h hw p e s m args below meth c hC H locs ls k n hE (lv_sub hl [2] rfl) hR hS (by omega) (by omega)
  have hw := hw.2
  by_cases hc6 : x1 = 172
  · have hw := hw.1 hc6
    refine xt_numi hc6 ?_
    refine lv_tableIn (off := 105) (tgt := 106) hx hb (xb_d D_Machine_converted 1 rfl) (by decide +kernel) (by decide +kernel) (by decide +kernel) (by decide) ?_
    refine lv_lload_n hx hb (xb_d D_Machine_converted 6 rfl) rfl (lv_at hl 2 rfl) ?_
    refine lv_l2i hx hb (xb_d D_Machine_converted 7 rfl) rfl ?_
    refine lv_i2l hx hb (xb_d D_Machine_converted 8 rfl) rfl ?_
    exact xb_lret hx hb hr hlocks (show k ≤ MC by omega) (show n ≤ MS by omega) hE hR hS (xb_d D_Machine_converted 9 rfl) hw
  have hw := hw.2
  by_cases hc7 : x1 = 173
  · have hw := hw.1 hc7
    refine xt_numi hc7 ?_
    refine lv_tableIn (off := 199) (tgt := 200) hx hb (xb_d D_Machine_converted 1 rfl) (by decide +kernel) (by decide +kernel) (by decide +kernel) (by decide) ?_
    exact am_Machine_converted_L200 l hfl D A σ MC MS h0 Qr x2 h hw p e s m args below meth c hC H locs ls k n hE (lv_sub hl [2] rfl) hR hS (by omega) (by omega)
  have hw := hw.2
  by_cases hc8 : x1 = 174
  · have hw := hw.1 hc8
    refine xt_numi hc8 ?_
    refine lv_tableIn (off := 199) (tgt := 200) hx hb (xb_d D_Machine_converted 1 rfl) (by decide +kernel) (by decide +kernel) (by decide +kernel) (by decide) ?_
    exact am_Machine_converted_L200 l hfl D A σ MC MS h0 Qr x2 h hw p e s m args below meth c hC H locs ls k n hE (lv_sub hl [2] rfl) hR hS (by omega) (by omega)
  have hw := hw.2
  by_cases hc9 : x1 = 175
  · have hw := hw.1 hc9
    refine xt_numi hc9 ?_
    refine lv_tableIn (off := 199) (tgt := 200) hx hb (xb_d D_Machine_converted 1 rfl) (by decide +kernel) (by decide +kernel) (by decide +kernel) (by decide) ?_
    exact am_Machine_converted_L200 l hfl D A σ MC MS h0 Qr x2 h hw p e s m args below meth c hC H locs ls k n hE (lv_sub hl [2] rfl) hR hS (by omega) (by omega)
  have hw := hw.2
  by_cases hc10 : x1 = 176
  · have hw := hw.1 hc10
    refine xt_numi hc10 ?_
    refine lv_tableIn (off := 199) (tgt := 200) hx hb (xb_d D_Machine_converted 1 rfl) (by decide +kernel) (by decide +kernel) (by decide +kernel) (by decide) ?_
    exact am_Machine_converted_L200 l hfl D A σ MC MS h0 Qr x2 h hw p e s m args below meth c hC H locs ls k n hE (lv_sub hl [2] rfl) hR hS (by omega) (by omega)
  have hw := hw.2
  by_cases hc11 : x1 = 177
  · have hw := hw.1 hc11
    refine xt_numi hc11 ?_
    refine lv_tableIn (off := 199) (tgt := 200) hx hb (xb_d D_Machine_converted 1 rfl) (by decide +kernel) (by decide +kernel) (by decide +kernel) (by decide) ?_
    exact am_Machine_converted_L200 l hfl D A σ MC MS h0 Qr x2 h hw p e s m args below meth c hC H locs ls k n hE (lv_sub hl [2] rfl) hR hS (by omega) (by omega)
  have hw := hw.2
  by_cases hc12 : x1 = 178
  · have hw := hw.1 hc12
    refine xt_numi hc12 ?_
    refine lv_tableIn (off := 109) (tgt := 110) hx hb (xb_d D_Machine_converted 1 rfl) (by decide +kernel) (by decide +kernel) (by decide +kernel) (by decide) ?_
    refine lv_aload_n hx hb (xb_d D_Machine_converted 10 rfl) rfl (lv_at hl 0 rfl) ?_
    obtain ⟨hk13, hw⟩ := hw
    refine xb_getP (C := R_Machine) (T := F_Machine) (N := 18) hx hb 7 1 hts fin_Machine hown hR hk13 (by decide) rfl (by decide) rfl (hts _ m_ae64f9ca) (fun _ h9 => h9) (xb_d D_Machine_converted 11 rfl) ?_
    obtain ⟨b14, eb14, hw⟩ := hw
    refine xb_some eb14 ?_
    refine lv_lload_n hx hb (xb_d D_Machine_converted 12 rfl) rfl (lv_at hl 2 rfl) ?_
    refine lv_l2i hx hb (xb_d D_Machine_converted 13 rfl) rfl ?_
    refine lv_i2l hx hb (xb_d D_Machine_converted 14 rfl) rfl ?_
    refine lv_iconst (v := 1) hx hb (xb_d D_Machine_converted 15 rfl) (by decide) ?_
    obtain ⟨hk15, hw⟩ := hw
    refine xb_call (D := D) (A := A) (σ := σ) (h := h) (d := 4) (mc := 0) (ms := 0) (maxL := 7) (rest := []) (av := [.ref b14, .long (Int32.toInt64 (Int64.toInt32 x2)), .int 1]) (fun T hT X => by obtain ⟨cb, r1, r2, r3⟩ := xb_recv (ci := 5) hR rfl hk15 (by decide); exact xt_invV X hx hown (hts _ m_823c8e4a) (hts _ m_3b32aa18) (hts _ m_dc35161d) (xt_sigOf (hts _ m_0e750959)) nm_Format_ofWhole (by rw [hT]; exact r1) r2 r3 (g := F0 m 118 ls [.int 1, .long (Int32.toInt64 (Int64.toInt32 x2)), .ref b14]) rfl (argsL := [.long (Int32.toInt64 (Int64.toInt32 x2)), .int 1]) (rest := []) rfl rfl (by rw [hb]; exact (xb_d D_Machine_converted 16 rfl))) (ok_Format_ofWhole l hfl D A σ b14 (Int32.toInt64 (Int64.toInt32 x2)) 1 h _ hw) (hml.trans hl.1.symm) (by rw [hb]; exact (xb_d D_Machine_converted 16 rfl)) (Nat.le_of_ble_eq_true rfl) (Nat.le_of_ble_eq_true rfl) (Nat.le_of_ble_eq_true rfl) (show k + 0 ≤ MC by omega) (show n + 0 ≤ MS by omega) (xt_w1 hB.1 m_0e750959) (xt_cdOf hB.1 m_0e750959) (hts _ m_64857de5) hB hR hS hA (fun vv h16 H locs hq hEh16 hR hS => ?_) (fun XX ax h16 H locs hq hEh16 hex hR hS => ?_)
    · obtain ⟨r17, rfl, hw⟩ := hq
      have hw := hw hEh16
      have hE := hE.tr hEh16
      refine W.eq (g2 := F0 m 121 ls [.long r17]) rfl ?_
      exact xb_lret hx hb hr hlocks (show k ≤ MC by omega) (show n ≤ MS by omega) hE hR hS (xb_d D_Machine_converted 17 rfl) hw
    · exact False.elim hq
  have hw := hw.2
  by_cases hc18 : x1 = 179
  · have hw := hw.1 hc18
    refine xt_numi hc18 ?_
    refine lv_tableIn (off := 121) (tgt := 122) hx hb (xb_d D_Machine_converted 1 rfl) (by decide +kernel) (by decide +kernel) (by decide +kernel) (by decide) ?_
    exact am_Machine_converted_L122 l hfl D A σ MC MS h0 Qr x0 x2 h hw p e s m args below meth c hC H locs ls k n hE (lv_sub hl [0, 2] rfl) hR hS (by omega) (by omega)
  have hw := hw.2
  by_cases hc19 : x1 = 180
  · have hw := hw.1 hc19
    refine xt_numi hc19 ?_
    refine lv_tableIn (off := 131) (tgt := 132) hx hb (xb_d D_Machine_converted 1 rfl) (by decide +kernel) (by decide +kernel) (by decide +kernel) (by decide) ?_
    refine lv_aload_n hx hb (xb_d D_Machine_converted 24 rfl) rfl (lv_at hl 0 rfl) ?_
    obtain ⟨hk20, hw⟩ := hw
    refine xb_getP (C := R_Machine) (T := F_Machine) (N := 18) hx hb 7 1 hts fin_Machine hown hR hk20 (by decide) rfl (by decide) rfl (hts _ m_ae64f9ca) (fun _ h9 => h9) (xb_d D_Machine_converted 25 rfl) ?_
    obtain ⟨b21, eb21, hw⟩ := hw
    refine xb_some eb21 ?_
    refine lv_lload_n hx hb (xb_d D_Machine_converted 26 rfl) rfl (lv_at hl 2 rfl) ?_
    refine lv_iconst (v := 1) hx hb (xb_d D_Machine_converted 27 rfl) (by decide) ?_
    obtain ⟨hk22, hw⟩ := hw
    refine xb_call (D := D) (A := A) (σ := σ) (h := h) (d := 4) (mc := 0) (ms := 0) (maxL := 7) (rest := []) (av := [.ref b21, .long x2, .int 1]) (fun T hT X => by obtain ⟨cb, r1, r2, r3⟩ := xb_recv (ci := 5) hR rfl hk22 (by decide); exact xt_invV X hx hown (hts _ m_823c8e4a) (hts _ m_3b32aa18) (hts _ m_dc35161d) (xt_sigOf (hts _ m_0e750959)) nm_Format_ofWhole (by rw [hT]; exact r1) r2 r3 (g := F0 m 138 ls [.int 1, .long x2, .ref b21]) rfl (argsL := [.long x2, .int 1]) (rest := []) rfl rfl (by rw [hb]; exact (xb_d D_Machine_converted 28 rfl))) (ok_Format_ofWhole l hfl D A σ b21 x2 1 h _ hw) (hml.trans hl.1.symm) (by rw [hb]; exact (xb_d D_Machine_converted 28 rfl)) (Nat.le_of_ble_eq_true rfl) (Nat.le_of_ble_eq_true rfl) (Nat.le_of_ble_eq_true rfl) (show k + 0 ≤ MC by omega) (show n + 0 ≤ MS by omega) (xt_w1 hB.1 m_0e750959) (xt_cdOf hB.1 m_0e750959) (hts _ m_64857de5) hB hR hS hA (fun vv h23 H locs hq hEh23 hR hS => ?_) (fun XX ax h23 H locs hq hEh23 hex hR hS => ?_)
    · obtain ⟨r24, rfl, hw⟩ := hq
      have hw := hw hEh23
      have hE := hE.tr hEh23
      refine W.eq (g2 := F0 m 141 ls [.long r24]) rfl ?_
      exact xb_lret hx hb hr hlocks (show k ≤ MC by omega) (show n ≤ MS by omega) hE hR hS (xb_d D_Machine_converted 29 rfl) hw
    · exact False.elim hq
  have hw := hw.2
  by_cases hc25 : x1 = 181
  · have hw := hw.1 hc25
    refine xt_numi hc25 ?_
    refine lv_tableIn (off := 121) (tgt := 122) hx hb (xb_d D_Machine_converted 1 rfl) (by decide +kernel) (by decide +kernel) (by decide +kernel) (by decide) ?_
    exact am_Machine_converted_L122 l hfl D A σ MC MS h0 Qr x0 x2 h hw p e s m args below meth c hC H locs ls k n hE (lv_sub hl [0, 2] rfl) hR hS (by omega) (by omega)
  have hw := hw.2
  by_cases hc26 : x1 = 182
  · have hw := hw.1 hc26
    refine xt_numi hc26 ?_
    refine lv_tableIn (off := 141) (tgt := 142) hx hb (xb_d D_Machine_converted 1 rfl) (by decide +kernel) (by decide +kernel) (by decide +kernel) (by decide) ?_
    refine lv_aload_n hx hb (xb_d D_Machine_converted 30 rfl) rfl (lv_at hl 0 rfl) ?_
    obtain ⟨hk27, hw⟩ := hw
    refine xb_getP (C := R_Machine) (T := F_Machine) (N := 18) hx hb 7 1 hts fin_Machine hown hR hk27 (by decide) rfl (by decide) rfl (hts _ m_ae64f9ca) (fun _ h9 => h9) (xb_d D_Machine_converted 31 rfl) ?_
    obtain ⟨b28, eb28, hw⟩ := hw
    refine xb_some eb28 ?_
    refine lv_aload_n hx hb (xb_d D_Machine_converted 32 rfl) rfl (lv_at hl 0 rfl) ?_
    refine xb_getP (C := R_Machine) (T := F_Machine) (N := 18) hx hb 7 2 hts fin_Machine hown hR hk27 (by decide) rfl (by decide) rfl (hts _ m_ba1eb42f) (fun _ h9 => h9) (xb_d D_Machine_converted 33 rfl) ?_
    obtain ⟨b29, eb29, hw⟩ := hw
    refine xb_some eb29 ?_
    refine lv_lload_n hx hb (xb_d D_Machine_converted 34 rfl) rfl (lv_at hl 2 rfl) ?_
    obtain ⟨hk30, hw⟩ := hw
    refine xb_call (D := D) (A := A) (σ := σ) (h := h) (d := 4) (mc := 0) (ms := 0) (maxL := 5) (rest := []) (av := [.ref b28, .ref b29, .long x2]) (fun T hT X => by obtain ⟨cb, r1, r2, r3⟩ := xb_recv (ci := 5) hR rfl hk30 (by decide); exact xt_invV X hx hown (hts _ m_4c45bc79) (hts _ m_df7caa06) (hts _ m_7d394ae2) (xt_sigOf (hts _ m_57489b92)) nm_Format_ofOther (by rw [hT]; exact r1) r2 r3 (g := F0 m 151 ls [.long x2, .ref b29, .ref b28]) rfl (argsL := [.ref b29, .long x2]) (rest := []) rfl rfl (by rw [hb]; exact (xb_d D_Machine_converted 35 rfl))) (ok_Format_ofOther l hfl D A σ b28 b29 x2 h _ hw) (hml.trans hl.1.symm) (by rw [hb]; exact (xb_d D_Machine_converted 35 rfl)) (Nat.le_of_ble_eq_true rfl) (Nat.le_of_ble_eq_true rfl) (Nat.le_of_ble_eq_true rfl) (show k + 0 ≤ MC by omega) (show n + 0 ≤ MS by omega) (xt_w1 hB.1 m_57489b92) (xt_cdOf hB.1 m_57489b92) (hts _ m_64857de5) hB hR hS hA (fun vv h31 H locs hq hEh31 hR hS => ?_) (fun XX ax h31 H locs hq hEh31 hex hR hS => ?_)
    · obtain ⟨r32, rfl, hw⟩ := hq
      have hw := hw hEh31
      have hE := hE.tr hEh31
      refine W.eq (g2 := F0 m 154 ls [.long r32]) rfl ?_
      exact xb_lret hx hb hr hlocks (show k ≤ MC by omega) (show n ≤ MS by omega) hE hR hS (xb_d D_Machine_converted 36 rfl) hw
    · exact False.elim hq
  have hw := hw.2
  by_cases hc33 : x1 = 183
  · have hw := hw.1 hc33
    refine xt_numi hc33 ?_
    refine lv_tableIn (off := 154) (tgt := 155) hx hb (xb_d D_Machine_converted 1 rfl) (by decide +kernel) (by decide +kernel) (by decide +kernel) (by decide) ?_
    refine lv_aload_n hx hb (xb_d D_Machine_converted 37 rfl) rfl (lv_at hl 0 rfl) ?_
    obtain ⟨hk34, hw⟩ := hw
    refine xb_getP (C := R_Machine) (T := F_Machine) (N := 18) hx hb 7 2 hts fin_Machine hown hR hk34 (by decide) rfl (by decide) rfl (hts _ m_ba1eb42f) (fun _ h9 => h9) (xb_d D_Machine_converted 38 rfl) ?_
    obtain ⟨b35, eb35, hw⟩ := hw
    refine xb_some eb35 ?_
    refine lv_lload_n hx hb (xb_d D_Machine_converted 39 rfl) rfl (lv_at hl 2 rfl) ?_
    refine lv_l2i hx hb (xb_d D_Machine_converted 40 rfl) rfl ?_
    refine lv_i2l hx hb (xb_d D_Machine_converted 41 rfl) rfl ?_
    refine lv_iconst (v := 1) hx hb (xb_d D_Machine_converted 42 rfl) (by decide) ?_
    obtain ⟨hk36, hw⟩ := hw
    refine xb_call (D := D) (A := A) (σ := σ) (h := h) (d := 4) (mc := 0) (ms := 0) (maxL := 7) (rest := []) (av := [.ref b35, .long (Int32.toInt64 (Int64.toInt32 x2)), .int 1]) (fun T hT X => by obtain ⟨cb, r1, r2, r3⟩ := xb_recv (ci := 5) hR rfl hk36 (by decide); exact xt_invV X hx hown (hts _ m_823c8e4a) (hts _ m_3b32aa18) (hts _ m_dc35161d) (xt_sigOf (hts _ m_0e750959)) nm_Format_ofWhole (by rw [hT]; exact r1) r2 r3 (g := F0 m 163 ls [.int 1, .long (Int32.toInt64 (Int64.toInt32 x2)), .ref b35]) rfl (argsL := [.long (Int32.toInt64 (Int64.toInt32 x2)), .int 1]) (rest := []) rfl rfl (by rw [hb]; exact (xb_d D_Machine_converted 43 rfl))) (ok_Format_ofWhole l hfl D A σ b35 (Int32.toInt64 (Int64.toInt32 x2)) 1 h _ hw) (hml.trans hl.1.symm) (by rw [hb]; exact (xb_d D_Machine_converted 43 rfl)) (Nat.le_of_ble_eq_true rfl) (Nat.le_of_ble_eq_true rfl) (Nat.le_of_ble_eq_true rfl) (show k + 0 ≤ MC by omega) (show n + 0 ≤ MS by omega) (xt_w1 hB.1 m_0e750959) (xt_cdOf hB.1 m_0e750959) (hts _ m_64857de5) hB hR hS hA (fun vv h37 H locs hq hEh37 hR hS => ?_) (fun XX ax h37 H locs hq hEh37 hex hR hS => ?_)
    · obtain ⟨r38, rfl, hw⟩ := hq
      have hw := hw hEh37
      have hE := hE.tr hEh37
      refine W.eq (g2 := F0 m 166 ls [.long r38]) rfl ?_
      exact xb_lret hx hb hr hlocks (show k ≤ MC by omega) (show n ≤ MS by omega) hE hR hS (xb_d D_Machine_converted 44 rfl) hw
    · exact False.elim hq
  have hw := hw.2
  by_cases hc39 : x1 = 184
  · have hw := hw.1 hc39
    refine xt_numi hc39 ?_
    refine lv_tableIn (off := 166) (tgt := 167) hx hb (xb_d D_Machine_converted 1 rfl) (by decide +kernel) (by decide +kernel) (by decide +kernel) (by decide) ?_
    exact am_Machine_converted_L167 l hfl D A σ MC MS h0 Qr x0 x2 h hw p e s m args below meth c hC H locs ls k n hE (lv_sub hl [0, 2] rfl) hR hS (by omega) (by omega)
  have hw := hw.2
  by_cases hc40 : x1 = 185
  · have hw := hw.1 hc40
    refine xt_numi hc40 ?_
    refine lv_tableIn (off := 176) (tgt := 177) hx hb (xb_d D_Machine_converted 1 rfl) (by decide +kernel) (by decide +kernel) (by decide +kernel) (by decide) ?_
    refine lv_aload_n hx hb (xb_d D_Machine_converted 51 rfl) rfl (lv_at hl 0 rfl) ?_
    obtain ⟨hk41, hw⟩ := hw
    refine xb_getP (C := R_Machine) (T := F_Machine) (N := 18) hx hb 7 2 hts fin_Machine hown hR hk41 (by decide) rfl (by decide) rfl (hts _ m_ba1eb42f) (fun _ h9 => h9) (xb_d D_Machine_converted 52 rfl) ?_
    obtain ⟨b42, eb42, hw⟩ := hw
    refine xb_some eb42 ?_
    refine lv_lload_n hx hb (xb_d D_Machine_converted 53 rfl) rfl (lv_at hl 2 rfl) ?_
    refine lv_iconst (v := 1) hx hb (xb_d D_Machine_converted 54 rfl) (by decide) ?_
    obtain ⟨hk43, hw⟩ := hw
    refine xb_call (D := D) (A := A) (σ := σ) (h := h) (d := 4) (mc := 0) (ms := 0) (maxL := 7) (rest := []) (av := [.ref b42, .long x2, .int 1]) (fun T hT X => by obtain ⟨cb, r1, r2, r3⟩ := xb_recv (ci := 5) hR rfl hk43 (by decide); exact xt_invV X hx hown (hts _ m_823c8e4a) (hts _ m_3b32aa18) (hts _ m_dc35161d) (xt_sigOf (hts _ m_0e750959)) nm_Format_ofWhole (by rw [hT]; exact r1) r2 r3 (g := F0 m 183 ls [.int 1, .long x2, .ref b42]) rfl (argsL := [.long x2, .int 1]) (rest := []) rfl rfl (by rw [hb]; exact (xb_d D_Machine_converted 55 rfl))) (ok_Format_ofWhole l hfl D A σ b42 x2 1 h _ hw) (hml.trans hl.1.symm) (by rw [hb]; exact (xb_d D_Machine_converted 55 rfl)) (Nat.le_of_ble_eq_true rfl) (Nat.le_of_ble_eq_true rfl) (Nat.le_of_ble_eq_true rfl) (show k + 0 ≤ MC by omega) (show n + 0 ≤ MS by omega) (xt_w1 hB.1 m_0e750959) (xt_cdOf hB.1 m_0e750959) (hts _ m_64857de5) hB hR hS hA (fun vv h44 H locs hq hEh44 hR hS => ?_) (fun XX ax h44 H locs hq hEh44 hex hR hS => ?_)
    · obtain ⟨r45, rfl, hw⟩ := hq
      have hw := hw hEh44
      have hE := hE.tr hEh44
      refine W.eq (g2 := F0 m 186 ls [.long r45]) rfl ?_
      exact xb_lret hx hb hr hlocks (show k ≤ MC by omega) (show n ≤ MS by omega) hE hR hS (xb_d D_Machine_converted 56 rfl) hw
    · exact False.elim hq
  have hw := hw.2
  by_cases hc46 : x1 = 186
  · have hw := hw.1 hc46
    refine xt_numi hc46 ?_
    refine lv_tableIn (off := 166) (tgt := 167) hx hb (xb_d D_Machine_converted 1 rfl) (by decide +kernel) (by decide +kernel) (by decide +kernel) (by decide) ?_
    exact am_Machine_converted_L167 l hfl D A σ MC MS h0 Qr x0 x2 h hw p e s m args below meth c hC H locs ls k n hE (lv_sub hl [0, 2] rfl) hR hS (by omega) (by omega)
  have hw := hw.2
  by_cases hc47 : x1 = 187
  · have hw := hw.1 hc47
    refine xt_numi hc47 ?_
    refine lv_tableIn (off := 186) (tgt := 187) hx hb (xb_d D_Machine_converted 1 rfl) (by decide +kernel) (by decide +kernel) (by decide +kernel) (by decide) ?_
    refine lv_aload_n hx hb (xb_d D_Machine_converted 57 rfl) rfl (lv_at hl 0 rfl) ?_
    obtain ⟨hk48, hw⟩ := hw
    refine xb_getP (C := R_Machine) (T := F_Machine) (N := 18) hx hb 7 2 hts fin_Machine hown hR hk48 (by decide) rfl (by decide) rfl (hts _ m_ba1eb42f) (fun _ h9 => h9) (xb_d D_Machine_converted 58 rfl) ?_
    obtain ⟨b49, eb49, hw⟩ := hw
    refine xb_some eb49 ?_
    refine lv_aload_n hx hb (xb_d D_Machine_converted 59 rfl) rfl (lv_at hl 0 rfl) ?_
    refine xb_getP (C := R_Machine) (T := F_Machine) (N := 18) hx hb 7 1 hts fin_Machine hown hR hk48 (by decide) rfl (by decide) rfl (hts _ m_ae64f9ca) (fun _ h9 => h9) (xb_d D_Machine_converted 60 rfl) ?_
    obtain ⟨b50, eb50, hw⟩ := hw
    refine xb_some eb50 ?_
    refine lv_lload_n hx hb (xb_d D_Machine_converted 61 rfl) rfl (lv_at hl 2 rfl) ?_
    obtain ⟨hk51, hw⟩ := hw
    refine xb_call (D := D) (A := A) (σ := σ) (h := h) (d := 4) (mc := 0) (ms := 0) (maxL := 5) (rest := []) (av := [.ref b49, .ref b50, .long x2]) (fun T hT X => by obtain ⟨cb, r1, r2, r3⟩ := xb_recv (ci := 5) hR rfl hk51 (by decide); exact xt_invV X hx hown (hts _ m_4c45bc79) (hts _ m_df7caa06) (hts _ m_7d394ae2) (xt_sigOf (hts _ m_57489b92)) nm_Format_ofOther (by rw [hT]; exact r1) r2 r3 (g := F0 m 196 ls [.long x2, .ref b50, .ref b49]) rfl (argsL := [.ref b50, .long x2]) (rest := []) rfl rfl (by rw [hb]; exact (xb_d D_Machine_converted 62 rfl))) (ok_Format_ofOther l hfl D A σ b49 b50 x2 h _ hw) (hml.trans hl.1.symm) (by rw [hb]; exact (xb_d D_Machine_converted 62 rfl)) (Nat.le_of_ble_eq_true rfl) (Nat.le_of_ble_eq_true rfl) (Nat.le_of_ble_eq_true rfl) (show k + 0 ≤ MC by omega) (show n + 0 ≤ MS by omega) (xt_w1 hB.1 m_57489b92) (xt_cdOf hB.1 m_57489b92) (hts _ m_64857de5) hB hR hS hA (fun vv h52 H locs hq hEh52 hR hS => ?_) (fun XX ax h52 H locs hq hEh52 hex hR hS => ?_)
    · obtain ⟨r53, rfl, hw⟩ := hq
      have hw := hw hEh52
      have hE := hE.tr hEh52
      refine W.eq (g2 := F0 m 199 ls [.long r53]) rfl ?_
      exact xb_lret hx hb hr hlocks (show k ≤ MC by omega) (show n ≤ MS by omega) hE hR hS (xb_d D_Machine_converted 63 rfl) hw
    · exact False.elim hq
  have hw := hw.2
  have hw := hw hc1 hc2 hc3 hc4 hc5 hc6 hc7 hc8 hc9 hc10 hc11 hc12 hc18 hc19 hc25 hc26 hc33 hc39 hc40 hc46 hc47
  refine lv_tableOut (tgt := 200) hx hb (xb_d D_Machine_converted 1 rfl) (by have a0 := xb_nl (167) 167 (by decide) hc1; have a1 := xb_nl (168) 168 (by decide) hc2; have a2 := xb_nl (169) 169 (by decide) hc3; have a3 := xb_nl (170) 170 (by decide) hc4; have a4 := xb_nl (171) 171 (by decide) hc5; have a5 := xb_nl (172) 172 (by decide) hc6; have a6 := xb_nl (173) 173 (by decide) hc7; have a7 := xb_nl (174) 174 (by decide) hc8; have a8 := xb_nl (175) 175 (by decide) hc9; have a9 := xb_nl (176) 176 (by decide) hc10; have a10 := xb_nl (177) 177 (by decide) hc11; have a11 := xb_nl (178) 178 (by decide) hc12; have a12 := xb_nl (179) 179 (by decide) hc18; have a13 := xb_nl (180) 180 (by decide) hc19; have a14 := xb_nl (181) 181 (by decide) hc25; have a15 := xb_nl (182) 182 (by decide) hc26; have a16 := xb_nl (183) 183 (by decide) hc33; have a17 := xb_nl (184) 184 (by decide) hc39; have a18 := xb_nl (185) 185 (by decide) hc40; have a19 := xb_nl (186) 186 (by decide) hc46; have a20 := xb_nl (187) 187 (by decide) hc47; omega) (by decide) ?_
  exact am_Machine_converted_L200 l hfl D A σ MC MS h0 Qr x2 h hw p e s m args below meth c hC H locs ls k n hE (lv_sub hl [2] rfl) hR hS (by omega) (by omega)

theorem m_cf38f219 : (.constant "StackHost$Machine" 103 20000000 : Cond) ∈ xt_tbl := xt_in (xt_t7 (List.mem_of_getElem? (i := 238) (by decide +kernel))) (by decide +kernel)
set_option maxRecDepth 100000 in
def T_Machine_passFree : List (Nat × Instr × Nat) := [(0, .iconst 0, 1), (1, .istore_n 1, 1), (2, .iload_n 1, 1), (3, .ldc 103, 2), (5, .if_icmp .ge 161, 3), (8, .aload_n 0, 1), (9, .getfield 46, 3), (12, .ifCond .eq 154, 3), (15, .aload_n 0, 1), (16, .getfield 104, 3), (19, .aload_n 0, 1), (20, .getfield 108, 3), (23, .baload, 1), (24, .tableswitch 135 1 11 #[60, 73, 73, 135, 86, 135, 135, 135, 135, 135, 102], 60), (84, .aload_n 0, 1), (85, .dup, 1), (86, .getfield 108, 3), (89, .iconst 1, 1), (90, .iadd, 1), (91, .putfield 108, 3), (94, .goto 66, 3), (97, .aload_n 0, 1), (98, .dup, 1), (99, .getfield 108, 3), (102, .iconst 2, 1), (103, .iadd, 1), (104, .putfield 108, 3), (107, .goto 53, 3), (110, .aload_n 0, 1), (111, .aload_n 0, 1), (112, .getfield 111, 3), (115, .aload_n 0, 1), (116, .getfield 108, 3), (119, .iaload, 1), (120, .putfield 108, 3), (123, .goto 37, 3), (126, .aload_n 0, 1), (127, .getfield 111, 3), (130, .aload_n 0, 1), (131, .getfield 108, 3), (134, .iaload, 1), (135, .iconst 1, 1), (136, .if_icmp .ne 10, 3), (139, .aload_n 0, 1), (140, .invokevirtual 114, 3), (143, .goto 17, 3), (146, .aload_n 0, 1), (147, .dup, 1), (148, .getfield 108, 3), (151, .iconst 1, 1), (152, .iadd, 1), (153, .putfield 108, 3), (156, .goto 4, 3), (159, .return_, 1), (160, .iinc 1 1, 3), (163, .goto (-161), 3), (166, .return_, 1)]
theorem D_Machine_passFree : ∀ q ∈ T_Machine_passFree, decode b_Machine_passFree q.1 = .ok (q.2.1, q.2.2) := by decide +kernel
def w_Machine_passFree_L166 (Qr : xb_H → Prop) (h : xb_H) : Prop :=
    Qr h

def w_Machine_passFree_L160 (K2 : Nat → Int32 → xb_H → Prop) (Qr : xb_H → Prop) (x0 : Nat) (x1 : Int32) (h : xb_H) : Prop :=
    K2 x0 (x1 + 1) h

def w_Machine_passFree_L159 (K2 : Nat → Int32 → xb_H → Prop) (Qr : xb_H → Prop) (h : xb_H) : Prop :=
    Qr h

def w_Machine_passFree_L97 (K2 : Nat → Int32 → xb_H → Prop) (Qr : xb_H → Prop) (x0 : Nat) (x1 : Int32) (h : xb_H) : Prop :=
    xb_k h x0 = 8 ∧ ∀ h2 : xb_H, h2 = xb_I h x0 15 ((xb_i h x0 15) + 2) → w_Machine_passFree_L160 K2 Qr x0 x1 h2

def w_Machine_passFree_L2 (Qr : xb_H → Prop) : Nat → Nat → Int32 → xb_H → Prop
  | 0, _, _, _ => False
  | n9 + 1, x0, x1, h =>
    (((20000000 : Int32) ≤ x1 → w_Machine_passFree_L166 Qr h) ∧ (¬ (20000000 : Int32) ≤ x1 → xb_k h x0 = 8 ∧ (((xb_i h x0 3) = (0 : Int32) → w_Machine_passFree_L166 Qr h) ∧ (¬ (xb_i h x0 3) = (0 : Int32) → ∃ b4 : Nat, (xb_r h x0 13) = some b4 ∧ xb_k h b4 = 100 ∧ vp_in (xb_i h x0 15) (xb_n h b4) ∧ (((xb_i h b4 (Int32.toNatClampNeg (xb_i h x0 15))) = 1 → ∀ h8 : xb_H, h8 = xb_I h x0 15 ((xb_i h x0 15) + 1) → w_Machine_passFree_L160 (w_Machine_passFree_L2 Qr n9) Qr x0 x1 h8) ∧ ((xb_i h b4 (Int32.toNatClampNeg (xb_i h x0 15))) = 2 → w_Machine_passFree_L97 (w_Machine_passFree_L2 Qr n9) Qr x0 x1 h) ∧ ((xb_i h b4 (Int32.toNatClampNeg (xb_i h x0 15))) = 3 → w_Machine_passFree_L97 (w_Machine_passFree_L2 Qr n9) Qr x0 x1 h) ∧ ((xb_i h b4 (Int32.toNatClampNeg (xb_i h x0 15))) = 4 → w_Machine_passFree_L159 (w_Machine_passFree_L2 Qr n9) Qr h) ∧ ((xb_i h b4 (Int32.toNatClampNeg (xb_i h x0 15))) = 5 → ∃ b13 : Nat, (xb_r h x0 14) = some b13 ∧ xb_k h b13 = 102 ∧ vp_in (xb_i h x0 15) (xb_n h b13) ∧ ∀ h16 : xb_H, h16 = xb_I h x0 15 (xb_i h b13 (Int32.toNatClampNeg (xb_i h x0 15))) → w_Machine_passFree_L160 (w_Machine_passFree_L2 Qr n9) Qr x0 x1 h16) ∧ ((xb_i h b4 (Int32.toNatClampNeg (xb_i h x0 15))) = 6 → w_Machine_passFree_L159 (w_Machine_passFree_L2 Qr n9) Qr h) ∧ ((xb_i h b4 (Int32.toNatClampNeg (xb_i h x0 15))) = 7 → w_Machine_passFree_L159 (w_Machine_passFree_L2 Qr n9) Qr h) ∧ ((xb_i h b4 (Int32.toNatClampNeg (xb_i h x0 15))) = 8 → w_Machine_passFree_L159 (w_Machine_passFree_L2 Qr n9) Qr h) ∧ ((xb_i h b4 (Int32.toNatClampNeg (xb_i h x0 15))) = 9 → w_Machine_passFree_L159 (w_Machine_passFree_L2 Qr n9) Qr h) ∧ ((xb_i h b4 (Int32.toNatClampNeg (xb_i h x0 15))) = 10 → w_Machine_passFree_L159 (w_Machine_passFree_L2 Qr n9) Qr h) ∧ ((xb_i h b4 (Int32.toNatClampNeg (xb_i h x0 15))) = 11 → ∃ b23 : Nat, (xb_r h x0 14) = some b23 ∧ xb_k h b23 = 102 ∧ vp_in (xb_i h x0 15) (xb_n h b23) ∧ ((¬ (xb_i h b23 (Int32.toNatClampNeg (xb_i h x0 15))) = (1 : Int32) → ∀ h27 : xb_H, h27 = xb_I h x0 15 ((xb_i h x0 15) + 1) → w_Machine_passFree_L160 (w_Machine_passFree_L2 Qr n9) Qr x0 x1 h27) ∧ ((xb_i h b23 (Int32.toNatClampNeg (xb_i h x0 15))) = (1 : Int32) → w_Machine_endCall x0 h (fun (h28 : xb_H) => xb_ext h h28 → w_Machine_passFree_L160 (w_Machine_passFree_L2 Qr n9) Qr x0 x1 h28)))) ∧ (¬ (xb_i h b4 (Int32.toNatClampNeg (xb_i h x0 15))) = 1 → ¬ (xb_i h b4 (Int32.toNatClampNeg (xb_i h x0 15))) = 2 → ¬ (xb_i h b4 (Int32.toNatClampNeg (xb_i h x0 15))) = 3 → ¬ (xb_i h b4 (Int32.toNatClampNeg (xb_i h x0 15))) = 4 → ¬ (xb_i h b4 (Int32.toNatClampNeg (xb_i h x0 15))) = 5 → ¬ (xb_i h b4 (Int32.toNatClampNeg (xb_i h x0 15))) = 6 → ¬ (xb_i h b4 (Int32.toNatClampNeg (xb_i h x0 15))) = 7 → ¬ (xb_i h b4 (Int32.toNatClampNeg (xb_i h x0 15))) = 8 → ¬ (xb_i h b4 (Int32.toNatClampNeg (xb_i h x0 15))) = 9 → ¬ (xb_i h b4 (Int32.toNatClampNeg (xb_i h x0 15))) = 10 → ¬ (xb_i h b4 (Int32.toNatClampNeg (xb_i h x0 15))) = 11 → w_Machine_passFree_L159 (w_Machine_passFree_L2 Qr n9) Qr h))))))

def w_Machine_passFree (x0 : Nat) (h : xb_H) (Qr : xb_H → Prop) : Prop :=
    (∃ n8 : Nat, w_Machine_passFree_L2 Qr n8 x0 0 h)

set_option maxHeartbeats 4000000 in
set_option maxRecDepth 100000 in
theorem am_Machine_passFree_L166 (l : Launch) (hfl : l.flags = pinnedFlags ++ [noTraceFlag]) (D : va_G) (A : Nat → Prop) (σ MC MS : Nat) (h0 : xb_H) (Qr : xb_H → Prop) (h : xb_H) (hw : w_Machine_passFree_L166 Qr h) : xb_am l D A σ 5 MC MS h0 (fun v h => v = none ∧ Qr h) (fun _ _ => False) y_Machine_passFree.cls y_Machine_passFree.name b_Machine_passFree 2 ([] : List ExceptionTableEntry) none 166 [] [] h 0 0 := by
  unfold w_Machine_passFree_L166 at hw
  intro p e s m args below meth c hC H locs ls k n hE hl hR hS hk hn
  obtain ⟨hx, hb, hown, hlocks, htab, hml, hr, hB, hA, hnm⟩ := id hC
  have hts := hB.1.1.at args
  exact xb_vret hx hb hr hlocks (show k ≤ MC by omega) (show n ≤ MS by omega) hE hR hS (xb_d D_Machine_passFree 56 rfl) hw

set_option maxHeartbeats 4000000 in
set_option maxRecDepth 100000 in
theorem am_Machine_passFree_L160 (l : Launch) (hfl : l.flags = pinnedFlags ++ [noTraceFlag]) (D : va_G) (A : Nat → Prop) (σ MC MS : Nat) (h0 : xb_H) (Qr : xb_H → Prop) (K2 : Nat → Int32 → xb_H → Prop) (hK2 : ∀ (x0 : Nat) (x1 : Int32) (h : xb_H), K2 x0 x1 h → xb_am l D A σ 5 MC MS h0 (fun v h => v = none ∧ Qr h) (fun _ _ => False) y_Machine_passFree.cls y_Machine_passFree.name b_Machine_passFree 2 ([] : List ExceptionTableEntry) none 2 [(0, .ref x0), (1, .int x1)] [] h 0 0) (x0 : Nat) (x1 : Int32) (h : xb_H) (hw : w_Machine_passFree_L160 K2 Qr x0 x1 h) : xb_am l D A σ 5 MC MS h0 (fun v h => v = none ∧ Qr h) (fun _ _ => False) y_Machine_passFree.cls y_Machine_passFree.name b_Machine_passFree 2 ([] : List ExceptionTableEntry) none 160 [(0, .ref x0), (1, .int x1)] [] h 0 0 := by
  unfold w_Machine_passFree_L160 at hw
  intro p e s m args below meth c hC H locs ls k n hE hl hR hS hk hn
  obtain ⟨hx, hb, hown, hlocks, htab, hml, hr, hB, hA, hnm⟩ := id hC
  have hts := hB.1.1.at args
  refine lv_iinc (v := (x1 + 1)) (k := 1) hx hb (xb_d D_Machine_passFree 54 rfl) hl rfl (by first | rfl | decide) (by decide) rfl (fun ls hl => ?_)
  have hl : lv_has ls 2 [(1, .int (x1 + 1)), (0, .ref x0)] := hl
  refine lv_goto (tgt := 2) hx hb (xb_d D_Machine_passFree 55 rfl) rfl ?_
  exact hK2 x0 (x1 + 1) h hw p e s m args below meth c hC H locs ls k n hE (lv_sub hl [1, 0] rfl) hR hS (by omega) (by omega)

set_option maxHeartbeats 4000000 in
set_option maxRecDepth 100000 in
theorem am_Machine_passFree_L159 (l : Launch) (hfl : l.flags = pinnedFlags ++ [noTraceFlag]) (D : va_G) (A : Nat → Prop) (σ MC MS : Nat) (h0 : xb_H) (Qr : xb_H → Prop) (K2 : Nat → Int32 → xb_H → Prop) (hK2 : ∀ (x0 : Nat) (x1 : Int32) (h : xb_H), K2 x0 x1 h → xb_am l D A σ 5 MC MS h0 (fun v h => v = none ∧ Qr h) (fun _ _ => False) y_Machine_passFree.cls y_Machine_passFree.name b_Machine_passFree 2 ([] : List ExceptionTableEntry) none 2 [(0, .ref x0), (1, .int x1)] [] h 0 0) (h : xb_H) (hw : w_Machine_passFree_L159 K2 Qr h) : xb_am l D A σ 5 MC MS h0 (fun v h => v = none ∧ Qr h) (fun _ _ => False) y_Machine_passFree.cls y_Machine_passFree.name b_Machine_passFree 2 ([] : List ExceptionTableEntry) none 159 [] [] h 0 0 := by
  unfold w_Machine_passFree_L159 at hw
  intro p e s m args below meth c hC H locs ls k n hE hl hR hS hk hn
  obtain ⟨hx, hb, hown, hlocks, htab, hml, hr, hB, hA, hnm⟩ := id hC
  have hts := hB.1.1.at args
  exact xb_vret hx hb hr hlocks (show k ≤ MC by omega) (show n ≤ MS by omega) hE hR hS (xb_d D_Machine_passFree 53 rfl) hw

set_option maxHeartbeats 4000000 in
set_option maxRecDepth 100000 in
theorem am_Machine_passFree_L97 (l : Launch) (hfl : l.flags = pinnedFlags ++ [noTraceFlag]) (D : va_G) (A : Nat → Prop) (σ MC MS : Nat) (h0 : xb_H) (Qr : xb_H → Prop) (K2 : Nat → Int32 → xb_H → Prop) (hK2 : ∀ (x0 : Nat) (x1 : Int32) (h : xb_H), K2 x0 x1 h → xb_am l D A σ 5 MC MS h0 (fun v h => v = none ∧ Qr h) (fun _ _ => False) y_Machine_passFree.cls y_Machine_passFree.name b_Machine_passFree 2 ([] : List ExceptionTableEntry) none 2 [(0, .ref x0), (1, .int x1)] [] h 0 0) (x0 : Nat) (x1 : Int32) (h : xb_H) (hw : w_Machine_passFree_L97 K2 Qr x0 x1 h) : xb_am l D A σ 5 MC MS h0 (fun v h => v = none ∧ Qr h) (fun _ _ => False) y_Machine_passFree.cls y_Machine_passFree.name b_Machine_passFree 2 ([] : List ExceptionTableEntry) none 97 [(0, .ref x0), (1, .int x1)] [] h 0 0 := by
  unfold w_Machine_passFree_L97 at hw
  intro p e s m args below meth c hC H locs ls k n hE hl hR hS hk hn
  obtain ⟨hx, hb, hown, hlocks, htab, hml, hr, hB, hA, hnm⟩ := id hC
  have hts := hB.1.1.at args
  refine lv_aload_n hx hb (xb_d D_Machine_passFree 21 rfl) rfl (lv_at hl 0 rfl) ?_
  refine lv_dup hx hb (xb_d D_Machine_passFree 22 rfl) rfl ?_
  obtain ⟨hk1, hw⟩ := hw
  refine xb_getI (C := R_Machine) (T := F_Machine) (N := 18) hx hb 7 15 hts fin_Machine hown hR hk1 (by decide) rfl (by decide) rfl (hts _ m_6a595805) (fun _ h9 => h9) (xb_d D_Machine_passFree 23 rfl) ?_
  refine lv_iconst (v := 2) hx hb (xb_d D_Machine_passFree 24 rfl) (by decide) ?_
  refine lv_iadd hx hb (xb_d D_Machine_passFree 25 rfl) ?_
  refine xb_putI (C := R_Machine) (T := F_Machine) (N := 18) (ty := .int) (x := ((xb_i h x0 15) + 2)) hx hb 7 15 hts fin_Machine t_Machine t_Machine_ok n_Machine hown hR hS hk1 (by decide) rfl (by decide) rfl (hts _ m_6a595805) (fun _ h9 => h9) rfl (by decide +kernel) rfl rfl (xb_d D_Machine_passFree 26 rfl) (fun H locs hR hS => ?_)
  obtain ⟨h2, eh2⟩ : ∃ x : xb_H, x = xb_I h x0 15 ((xb_i h x0 15) + 2) := ⟨_, rfl⟩
  rw [← eh2] at hR
  have hw := hw h2 eh2
  have hE : xb_ext h0 h2 := by rw [eh2]; exact hE
  refine lv_goto (tgt := 160) hx hb (xb_d D_Machine_passFree 27 rfl) rfl ?_
  exact am_Machine_passFree_L160 l hfl D A σ MC MS h0 Qr K2 hK2 x0 x1 h2 hw p e s m args below meth c hC H locs ls k n hE (lv_sub hl [0, 1] rfl) hR hS (by omega) (by omega)

set_option maxHeartbeats 4000000 in
set_option maxRecDepth 100000 in
theorem am_Machine_passFree_L2 (l : Launch) (hfl : l.flags = pinnedFlags ++ [noTraceFlag]) (D : va_G) (A : Nat → Prop) (σ MC MS : Nat) (h0 : xb_H) (Qr : xb_H → Prop) (n9 : Nat) : ∀ (x0 : Nat) (x1 : Int32) (h : xb_H), w_Machine_passFree_L2 Qr n9 x0 x1 h → xb_am l D A σ 5 MC MS h0 (fun v h => v = none ∧ Qr h) (fun _ _ => False) y_Machine_passFree.cls y_Machine_passFree.name b_Machine_passFree 2 ([] : List ExceptionTableEntry) none 2 [(0, .ref x0), (1, .int x1)] [] h 0 0 := by
  induction n9 with
  | zero => intro x0 x1 h hw; exact False.elim hw
  | succ n9 ih =>
    intro x0 x1 h hw
    unfold w_Machine_passFree_L2 at hw
    intro p e s m args below meth c hC H locs ls k n hE hl hR hS hk hn
    obtain ⟨hx, hb, hown, hlocks, htab, hml, hr, hB, hA, hnm⟩ := id hC
    have hts := hB.1.1.at args
    refine lv_iload_n hx hb (xb_d D_Machine_passFree 2 rfl) rfl (lv_at hl 1 rfl) ?_
    refine lv_ldc (v := 20000000) hx hb hown (hts _ m_cf38f219) (xb_d D_Machine_passFree 3 rfl) ?_
    refine lv_icmp_ge (tgt := 166) hx hb (xb_d D_Machine_passFree 4 rfl) rfl (fun hc1 => ?_) (fun hc1 => ?_)
    · have hw := hw.1 hc1
      exact am_Machine_passFree_L166 l hfl D A σ MC MS h0 Qr h hw p e s m args below meth c hC H locs ls k n hE (lv_sub hl [] rfl) hR hS (by omega) (by omega)
    · have hw := hw.2 hc1
      refine lv_aload_n hx hb (xb_d D_Machine_passFree 5 rfl) rfl (lv_at hl 0 rfl) ?_
      obtain ⟨hk2, hw⟩ := hw
      refine xb_getI (C := R_Machine) (T := F_Machine) (N := 18) hx hb 7 3 hts fin_Machine hown hR hk2 (by decide) rfl (by decide) rfl (hts _ m_87cf9501) (fun _ h9 => h9) (xb_d D_Machine_passFree 6 rfl) ?_
      refine lv_if_eq (tgt := 166) hx hb (xb_d D_Machine_passFree 7 rfl) rfl (fun hc3 => ?_) (fun hc3 => ?_)
      · have hw := hw.1 hc3
        exact am_Machine_passFree_L166 l hfl D A σ MC MS h0 Qr h hw p e s m args below meth c hC H locs ls k n hE (lv_sub hl [] rfl) hR hS (by omega) (by omega)
      · have hw := hw.2 hc3
        refine lv_aload_n hx hb (xb_d D_Machine_passFree 8 rfl) rfl (lv_at hl 0 rfl) ?_
        refine xb_getP (C := R_Machine) (T := F_Machine) (N := 18) hx hb 7 13 hts fin_Machine hown hR hk2 (by decide) rfl (by decide) rfl (hts _ m_a6a0f666) (fun _ h9 => h9) (xb_d D_Machine_passFree 9 rfl) ?_
        obtain ⟨b4, eb4, hw⟩ := hw
        refine xb_some eb4 ?_
        refine lv_aload_n hx hb (xb_d D_Machine_passFree 10 rfl) rfl (lv_at hl 0 rfl) ?_
        refine xb_getI (C := R_Machine) (T := F_Machine) (N := 18) hx hb 7 15 hts fin_Machine hown hR hk2 (by decide) rfl (by decide) rfl (hts _ m_6a595805) (fun _ h9 => h9) (xb_d D_Machine_passFree 11 rfl) ?_
        obtain ⟨hk6, hw⟩ := hw
        obtain ⟨hi5, hw⟩ := hw
        refine xb_bald hx hb hR hk6 hi5 (xb_d D_Machine_passFree 12 rfl) ?_
        by_cases hc7 : (xb_i h b4 (Int32.toNatClampNeg (xb_i h x0 15))) = 1
        · have hw := hw.1 hc7
          refine xt_numi hc7 ?_
          refine lv_tableIn (off := 60) (tgt := 84) hx hb (xb_d D_Machine_passFree 13 rfl) (by decide +kernel) (by decide +kernel) (by decide +kernel) (by decide) ?_
          refine lv_aload_n hx hb (xb_d D_Machine_passFree 14 rfl) rfl (lv_at hl 0 rfl) ?_
          refine lv_dup hx hb (xb_d D_Machine_passFree 15 rfl) rfl ?_
          refine xb_getI (C := R_Machine) (T := F_Machine) (N := 18) hx hb 7 15 hts fin_Machine hown hR hk2 (by decide) rfl (by decide) rfl (hts _ m_6a595805) (fun _ h9 => h9) (xb_d D_Machine_passFree 16 rfl) ?_
          refine lv_iconst (v := 1) hx hb (xb_d D_Machine_passFree 17 rfl) (by decide) ?_
          refine lv_iadd hx hb (xb_d D_Machine_passFree 18 rfl) ?_
          refine xb_putI (C := R_Machine) (T := F_Machine) (N := 18) (ty := .int) (x := ((xb_i h x0 15) + 1)) hx hb 7 15 hts fin_Machine t_Machine t_Machine_ok n_Machine hown hR hS hk2 (by decide) rfl (by decide) rfl (hts _ m_6a595805) (fun _ h9 => h9) rfl (by decide +kernel) rfl rfl (xb_d D_Machine_passFree 19 rfl) (fun H locs hR hS => ?_)
          obtain ⟨h8, eh8⟩ : ∃ x : xb_H, x = xb_I h x0 15 ((xb_i h x0 15) + 1) := ⟨_, rfl⟩
          rw [← eh8] at hR
          have hw := hw h8 eh8
          have hE : xb_ext h0 h8 := by rw [eh8]; exact hE
          refine lv_goto (tgt := 160) hx hb (xb_d D_Machine_passFree 20 rfl) rfl ?_
          exact am_Machine_passFree_L160 l hfl D A σ MC MS h0 Qr (w_Machine_passFree_L2 Qr n9) ih x0 x1 h8 hw p e s m args below meth c hC H locs ls k n hE (lv_sub hl [0, 1] rfl) hR hS (by omega) (by omega)
        have hw := hw.2
        by_cases hc9 : (xb_i h b4 (Int32.toNatClampNeg (xb_i h x0 15))) = 2
        · have hw := hw.1 hc9
          refine xt_numi hc9 ?_
          refine lv_tableIn (off := 73) (tgt := 97) hx hb (xb_d D_Machine_passFree 13 rfl) (by decide +kernel) (by decide +kernel) (by decide +kernel) (by decide) ?_
          exact am_Machine_passFree_L97 l hfl D A σ MC MS h0 Qr (w_Machine_passFree_L2 Qr n9) ih x0 x1 h hw p e s m args below meth c hC H locs ls k n hE (lv_sub hl [0, 1] rfl) hR hS (by omega) (by omega)
        have hw := hw.2
        by_cases hc10 : (xb_i h b4 (Int32.toNatClampNeg (xb_i h x0 15))) = 3
        · have hw := hw.1 hc10
          refine xt_numi hc10 ?_
          refine lv_tableIn (off := 73) (tgt := 97) hx hb (xb_d D_Machine_passFree 13 rfl) (by decide +kernel) (by decide +kernel) (by decide +kernel) (by decide) ?_
          exact am_Machine_passFree_L97 l hfl D A σ MC MS h0 Qr (w_Machine_passFree_L2 Qr n9) ih x0 x1 h hw p e s m args below meth c hC H locs ls k n hE (lv_sub hl [0, 1] rfl) hR hS (by omega) (by omega)
        have hw := hw.2
        by_cases hc11 : (xb_i h b4 (Int32.toNatClampNeg (xb_i h x0 15))) = 4
        · have hw := hw.1 hc11
          refine xt_numi hc11 ?_
          refine lv_tableIn (off := 135) (tgt := 159) hx hb (xb_d D_Machine_passFree 13 rfl) (by decide +kernel) (by decide +kernel) (by decide +kernel) (by decide) ?_
          exact am_Machine_passFree_L159 l hfl D A σ MC MS h0 Qr (w_Machine_passFree_L2 Qr n9) ih h hw p e s m args below meth c hC H locs ls k n hE (lv_sub hl [] rfl) hR hS (by omega) (by omega)
        have hw := hw.2
        by_cases hc12 : (xb_i h b4 (Int32.toNatClampNeg (xb_i h x0 15))) = 5
        · have hw := hw.1 hc12
          refine xt_numi hc12 ?_
          refine lv_tableIn (off := 86) (tgt := 110) hx hb (xb_d D_Machine_passFree 13 rfl) (by decide +kernel) (by decide +kernel) (by decide +kernel) (by decide) ?_
          refine lv_aload_n hx hb (xb_d D_Machine_passFree 28 rfl) rfl (lv_at hl 0 rfl) ?_
          refine lv_aload_n hx hb (xb_d D_Machine_passFree 29 rfl) rfl (lv_at hl 0 rfl) ?_
          refine xb_getP (C := R_Machine) (T := F_Machine) (N := 18) hx hb 7 14 hts fin_Machine hown hR hk2 (by decide) rfl (by decide) rfl (hts _ m_8f763f86) (fun _ h9 => h9) (xb_d D_Machine_passFree 30 rfl) ?_
          obtain ⟨b13, eb13, hw⟩ := hw
          refine xb_some eb13 ?_
          refine lv_aload_n hx hb (xb_d D_Machine_passFree 31 rfl) rfl (lv_at hl 0 rfl) ?_
          refine xb_getI (C := R_Machine) (T := F_Machine) (N := 18) hx hb 7 15 hts fin_Machine hown hR hk2 (by decide) rfl (by decide) rfl (hts _ m_6a595805) (fun _ h9 => h9) (xb_d D_Machine_passFree 32 rfl) ?_
          obtain ⟨hk15, hw⟩ := hw
          obtain ⟨hi14, hw⟩ := hw
          refine xb_iald hx hb hR hk15 hi14 (xb_d D_Machine_passFree 33 rfl) ?_
          refine xb_putI (C := R_Machine) (T := F_Machine) (N := 18) (ty := .int) (x := (xb_i h b13 (Int32.toNatClampNeg (xb_i h x0 15)))) hx hb 7 15 hts fin_Machine t_Machine t_Machine_ok n_Machine hown hR hS hk2 (by decide) rfl (by decide) rfl (hts _ m_6a595805) (fun _ h9 => h9) rfl (by decide +kernel) rfl rfl (xb_d D_Machine_passFree 34 rfl) (fun H locs hR hS => ?_)
          obtain ⟨h16, eh16⟩ : ∃ x : xb_H, x = xb_I h x0 15 (xb_i h b13 (Int32.toNatClampNeg (xb_i h x0 15))) := ⟨_, rfl⟩
          rw [← eh16] at hR
          have hw := hw h16 eh16
          have hE : xb_ext h0 h16 := by rw [eh16]; exact hE
          refine lv_goto (tgt := 160) hx hb (xb_d D_Machine_passFree 35 rfl) rfl ?_
          exact am_Machine_passFree_L160 l hfl D A σ MC MS h0 Qr (w_Machine_passFree_L2 Qr n9) ih x0 x1 h16 hw p e s m args below meth c hC H locs ls k n hE (lv_sub hl [0, 1] rfl) hR hS (by omega) (by omega)
        have hw := hw.2
        by_cases hc17 : (xb_i h b4 (Int32.toNatClampNeg (xb_i h x0 15))) = 6
        · have hw := hw.1 hc17
          refine xt_numi hc17 ?_
          refine lv_tableIn (off := 135) (tgt := 159) hx hb (xb_d D_Machine_passFree 13 rfl) (by decide +kernel) (by decide +kernel) (by decide +kernel) (by decide) ?_
          exact am_Machine_passFree_L159 l hfl D A σ MC MS h0 Qr (w_Machine_passFree_L2 Qr n9) ih h hw p e s m args below meth c hC H locs ls k n hE (lv_sub hl [] rfl) hR hS (by omega) (by omega)
        have hw := hw.2
        by_cases hc18 : (xb_i h b4 (Int32.toNatClampNeg (xb_i h x0 15))) = 7
        · have hw := hw.1 hc18
          refine xt_numi hc18 ?_
          refine lv_tableIn (off := 135) (tgt := 159) hx hb (xb_d D_Machine_passFree 13 rfl) (by decide +kernel) (by decide +kernel) (by decide +kernel) (by decide) ?_
          exact am_Machine_passFree_L159 l hfl D A σ MC MS h0 Qr (w_Machine_passFree_L2 Qr n9) ih h hw p e s m args below meth c hC H locs ls k n hE (lv_sub hl [] rfl) hR hS (by omega) (by omega)
        have hw := hw.2
        by_cases hc19 : (xb_i h b4 (Int32.toNatClampNeg (xb_i h x0 15))) = 8
        · have hw := hw.1 hc19
          refine xt_numi hc19 ?_
          refine lv_tableIn (off := 135) (tgt := 159) hx hb (xb_d D_Machine_passFree 13 rfl) (by decide +kernel) (by decide +kernel) (by decide +kernel) (by decide) ?_
          exact am_Machine_passFree_L159 l hfl D A σ MC MS h0 Qr (w_Machine_passFree_L2 Qr n9) ih h hw p e s m args below meth c hC H locs ls k n hE (lv_sub hl [] rfl) hR hS (by omega) (by omega)
        have hw := hw.2
        by_cases hc20 : (xb_i h b4 (Int32.toNatClampNeg (xb_i h x0 15))) = 9
        · have hw := hw.1 hc20
          refine xt_numi hc20 ?_
          refine lv_tableIn (off := 135) (tgt := 159) hx hb (xb_d D_Machine_passFree 13 rfl) (by decide +kernel) (by decide +kernel) (by decide +kernel) (by decide) ?_
          exact am_Machine_passFree_L159 l hfl D A σ MC MS h0 Qr (w_Machine_passFree_L2 Qr n9) ih h hw p e s m args below meth c hC H locs ls k n hE (lv_sub hl [] rfl) hR hS (by omega) (by omega)
        have hw := hw.2
        by_cases hc21 : (xb_i h b4 (Int32.toNatClampNeg (xb_i h x0 15))) = 10
        · have hw := hw.1 hc21
          refine xt_numi hc21 ?_
          refine lv_tableIn (off := 135) (tgt := 159) hx hb (xb_d D_Machine_passFree 13 rfl) (by decide +kernel) (by decide +kernel) (by decide +kernel) (by decide) ?_
          exact am_Machine_passFree_L159 l hfl D A σ MC MS h0 Qr (w_Machine_passFree_L2 Qr n9) ih h hw p e s m args below meth c hC H locs ls k n hE (lv_sub hl [] rfl) hR hS (by omega) (by omega)
        have hw := hw.2
        by_cases hc22 : (xb_i h b4 (Int32.toNatClampNeg (xb_i h x0 15))) = 11
        · have hw := hw.1 hc22
          refine xt_numi hc22 ?_
          refine lv_tableIn (off := 102) (tgt := 126) hx hb (xb_d D_Machine_passFree 13 rfl) (by decide +kernel) (by decide +kernel) (by decide +kernel) (by decide) ?_
          refine lv_aload_n hx hb (xb_d D_Machine_passFree 36 rfl) rfl (lv_at hl 0 rfl) ?_
          refine xb_getP (C := R_Machine) (T := F_Machine) (N := 18) hx hb 7 14 hts fin_Machine hown hR hk2 (by decide) rfl (by decide) rfl (hts _ m_8f763f86) (fun _ h9 => h9) (xb_d D_Machine_passFree 37 rfl) ?_
          obtain ⟨b23, eb23, hw⟩ := hw
          refine xb_some eb23 ?_
          refine lv_aload_n hx hb (xb_d D_Machine_passFree 38 rfl) rfl (lv_at hl 0 rfl) ?_
          refine xb_getI (C := R_Machine) (T := F_Machine) (N := 18) hx hb 7 15 hts fin_Machine hown hR hk2 (by decide) rfl (by decide) rfl (hts _ m_6a595805) (fun _ h9 => h9) (xb_d D_Machine_passFree 39 rfl) ?_
          obtain ⟨hk25, hw⟩ := hw
          obtain ⟨hi24, hw⟩ := hw
          refine xb_iald hx hb hR hk25 hi24 (xb_d D_Machine_passFree 40 rfl) ?_
          refine lv_iconst (v := 1) hx hb (xb_d D_Machine_passFree 41 rfl) (by decide) ?_
          refine lv_icmp_ne (tgt := 146) hx hb (xb_d D_Machine_passFree 42 rfl) rfl (fun hc26 => ?_) (fun hc26 => ?_)
          · have hw := hw.1 hc26
            refine lv_aload_n hx hb (xb_d D_Machine_passFree 46 rfl) rfl (lv_at hl 0 rfl) ?_
            refine lv_dup hx hb (xb_d D_Machine_passFree 47 rfl) rfl ?_
            refine xb_getI (C := R_Machine) (T := F_Machine) (N := 18) hx hb 7 15 hts fin_Machine hown hR hk2 (by decide) rfl (by decide) rfl (hts _ m_6a595805) (fun _ h9 => h9) (xb_d D_Machine_passFree 48 rfl) ?_
            refine lv_iconst (v := 1) hx hb (xb_d D_Machine_passFree 49 rfl) (by decide) ?_
            refine lv_iadd hx hb (xb_d D_Machine_passFree 50 rfl) ?_
            refine xb_putI (C := R_Machine) (T := F_Machine) (N := 18) (ty := .int) (x := ((xb_i h x0 15) + 1)) hx hb 7 15 hts fin_Machine t_Machine t_Machine_ok n_Machine hown hR hS hk2 (by decide) rfl (by decide) rfl (hts _ m_6a595805) (fun _ h9 => h9) rfl (by decide +kernel) rfl rfl (xb_d D_Machine_passFree 51 rfl) (fun H locs hR hS => ?_)
            obtain ⟨h27, eh27⟩ : ∃ x : xb_H, x = xb_I h x0 15 ((xb_i h x0 15) + 1) := ⟨_, rfl⟩
            rw [← eh27] at hR
            have hw := hw h27 eh27
            have hE : xb_ext h0 h27 := by rw [eh27]; exact hE
            refine lv_goto (tgt := 160) hx hb (xb_d D_Machine_passFree 52 rfl) rfl ?_
            exact am_Machine_passFree_L160 l hfl D A σ MC MS h0 Qr (w_Machine_passFree_L2 Qr n9) ih x0 x1 h27 hw p e s m args below meth c hC H locs ls k n hE (lv_sub hl [0, 1] rfl) hR hS (by omega) (by omega)
          · have hw := hw.2 hc26
            refine lv_aload_n hx hb (xb_d D_Machine_passFree 43 rfl) rfl (lv_at hl 0 rfl) ?_
            refine xb_call (D := D) (A := A) (σ := σ) (h := h) (d := 4) (mc := 0) (ms := 0) (maxL := 7) (rest := []) (av := [.ref x0]) (fun T hT X => by obtain ⟨cb, r1, r2, r3⟩ := xb_recv (ci := 7) hR rfl hk2 (by decide); exact xt_invV X hx hown (hts _ m_decb3334) (hts _ m_d830cba0) (hts _ m_0077867b) (xt_sigOf (hts _ m_d7f63aa1)) nm_Machine_endCall (by rw [hT]; exact r1) r2 r3 (g := F0 m 140 ls [.ref x0]) rfl (argsL := []) (rest := []) rfl rfl (by rw [hb]; exact (xb_d D_Machine_passFree 44 rfl))) (ok_Machine_endCall l hfl D A σ x0 h _ hw) (hml.trans hl.1.symm) (by rw [hb]; exact (xb_d D_Machine_passFree 44 rfl)) (Nat.le_of_ble_eq_true rfl) (Nat.le_of_ble_eq_true rfl) (Nat.le_of_ble_eq_true rfl) (show k + 0 ≤ MC by omega) (show n + 0 ≤ MS by omega) (xt_w1 hB.1 m_d7f63aa1) (xt_cdOf hB.1 m_d7f63aa1) (hts _ m_73451f9b) hB hR hS hA (fun vv h28 H locs hq hEh28 hR hS => ?_) (fun XX ax h28 H locs hq hEh28 hex hR hS => ?_)
            · obtain ⟨rfl, hw⟩ := hq
              have hw := hw hEh28
              have hE := hE.tr hEh28
              refine W.eq (g2 := F0 m 143 ls []) rfl ?_
              refine lv_goto (tgt := 160) hx hb (xb_d D_Machine_passFree 45 rfl) rfl ?_
              exact am_Machine_passFree_L160 l hfl D A σ MC MS h0 Qr (w_Machine_passFree_L2 Qr n9) ih x0 x1 h28 hw p e s m args below meth c hC H locs ls k n hE (lv_sub hl [0, 1] rfl) hR hS (by omega) (by omega)
            · exact False.elim hq
        have hw := hw.2
        have hw := hw hc7 hc9 hc10 hc11 hc12 hc17 hc18 hc19 hc20 hc21 hc22
        refine lv_tableOut (tgt := 159) hx hb (xb_d D_Machine_passFree 13 rfl) (by have a0 := xb_nl (1) 1 (by decide) hc7; have a1 := xb_nl (2) 2 (by decide) hc9; have a2 := xb_nl (3) 3 (by decide) hc10; have a3 := xb_nl (4) 4 (by decide) hc11; have a4 := xb_nl (5) 5 (by decide) hc12; have a5 := xb_nl (6) 6 (by decide) hc17; have a6 := xb_nl (7) 7 (by decide) hc18; have a7 := xb_nl (8) 8 (by decide) hc19; have a8 := xb_nl (9) 9 (by decide) hc20; have a9 := xb_nl (10) 10 (by decide) hc21; have a10 := xb_nl (11) 11 (by decide) hc22; omega) (by decide) ?_
        exact am_Machine_passFree_L159 l hfl D A σ MC MS h0 Qr (w_Machine_passFree_L2 Qr n9) ih h hw p e s m args below meth c hC H locs ls k n hE (lv_sub hl [] rfl) hR hS (by omega) (by omega)

set_option maxHeartbeats 4000000 in
set_option maxRecDepth 100000 in
theorem ok_Machine_passFree (l : Launch) (hfl : l.flags = pinnedFlags ++ [noTraceFlag]) (D : va_G) (A : Nat → Prop) (σ : Nat) (x0 : Nat) (h : xb_H) (Qr : xb_H → Prop) (hw : w_Machine_passFree x0 h Qr) : xt_Met l y_Machine_passFree [.code y_Machine_passFree b_Machine_passFree 2 none] (xb_rm 5 0 0) (xb_Pc D A σ h [.ref x0]) (xb_Qc D A h (fun v h => v = none ∧ Qr h) (fun _ _ => False)) 0 0 A := by
  refine xb_ofAm (cc := b_Machine_passFree) (by decide) (Nat.le_of_ble_eq_true rfl) ?_
  unfold w_Machine_passFree at hw
  show xb_am l D A σ 5 0 0 h (fun v h => v = none ∧ Qr h) (fun _ _ => False) y_Machine_passFree.cls y_Machine_passFree.name b_Machine_passFree 2 ([] : List ExceptionTableEntry) none 0 [(0, .ref x0)] [] h 0 0
  obtain ⟨MC, hMC⟩ : ∃ x, x = 0 := ⟨_, rfl⟩
  obtain ⟨MS, hMS⟩ : ∃ x, x = 0 := ⟨_, rfl⟩
  rw [show xb_am l D A σ 5 0 0 = xb_am l D A σ 5 MC MS by rw [hMC, hMS]]
  obtain ⟨h0, hh0⟩ : ∃ x, x = h := ⟨_, rfl⟩
  rw [show xb_am l D A σ 5 MC MS h = xb_am l D A σ 5 MC MS h0 by rw [hh0]]
  intro p e s m args below meth c hC H locs ls k n hE hl hR hS hk hn
  obtain ⟨hx, hb, hown, hlocks, htab, hml, hr, hB, hA, hnm⟩ := id hC
  have hts := hB.1.1.at args
  refine lv_iconst (v := 0) hx hb (xb_d D_Machine_passFree 0 rfl) (by decide) ?_
  refine lv_istore_n hx hb (xb_d D_Machine_passFree 1 rfl) rfl hl (by decide) rfl (fun ls hl => ?_)
  have hl : lv_has ls 2 [(1, .int 0), (0, .ref x0)] := hl
  obtain ⟨n8, hw⟩ := hw
  exact am_Machine_passFree_L2 l hfl D A σ MC MS h0 Qr n8 x0 0 h hw p e s m args below meth c hC H locs ls k n hE (lv_sub hl [1, 0] rfl) hR hS (by omega) (by omega)

theorem m_e0680bb7 : (.methodLink "StackHost$Machine" 332 y_Whole_reckonLong : Cond) ∈ xt_tbl := xt_in (xt_t8 (List.mem_of_getElem? (i := 203) (by decide +kernel))) (by decide +kernel)
theorem m_2d21212b : (.static y_Whole_reckonLong : Cond) ∈ xt_tbl := xt_in (xt_t8 (List.mem_of_getElem? (i := 204) (by decide +kernel))) (by decide +kernel)
theorem m_58193057 : (.code y_Whole_reckonLong b_Whole_reckonLong 5 (some .long) : Cond) ∈ xt_tbl := xt_in (xt_t8 (List.mem_of_getElem? (i := 205) (by decide +kernel))) (by decide +kernel)
theorem m_3e9209a5 : (.constantLong "StackHost$Machine" 330 (-1) : Cond) ∈ xt_tbl := xt_in (xt_t8 (List.mem_of_getElem? (i := 202) (by decide +kernel))) (by decide +kernel)
theorem m_ed05e460 : (.methodLink "StackHost$Machine" 326 y_Whole_countLong : Cond) ∈ xt_tbl := xt_in (xt_t8 (List.mem_of_getElem? (i := 192) (by decide +kernel))) (by decide +kernel)
theorem m_a75d6ada : (.static y_Whole_countLong : Cond) ∈ xt_tbl := xt_in (xt_t8 (List.mem_of_getElem? (i := 193) (by decide +kernel))) (by decide +kernel)
theorem m_fccded66 : (.code y_Whole_countLong b_Whole_countLong 3 (some .int) : Cond) ∈ xt_tbl := xt_in (xt_t8 (List.mem_of_getElem? (i := 194) (by decide +kernel))) (by decide +kernel)
theorem nm_Whole_reckonLong : xt_nm y_Whole_reckonLong 3 := ⟨by decide +kernel, by decide +kernel⟩
theorem nm_Whole_countLong : xt_nm y_Whole_countLong 2 := ⟨by decide +kernel, by decide +kernel⟩
set_option maxRecDepth 100000 in
def T_Machine_reckonLong : List (Nat × Instr × Nat) := [(0, .aload_n 0, 1), (1, .getfield 35, 3), (4, .aload_n 0, 1), (5, .getfield 53, 3), (8, .iconst 1, 1), (9, .isub, 1), (10, .laload, 1), (11, .lstore_n 2, 1), (12, .iload_n 1, 1), (13, .bipush 123, 2), (15, .if_icmp .gt 24, 3), (18, .aload_n 0, 1), (19, .getfield 35, 3), (22, .aload_n 0, 1), (23, .getfield 53, 3), (26, .iconst 1, 1), (27, .isub, 1), (28, .iload_n 1, 1), (29, .bipush 121, 2), (31, .isub, 1), (32, .lload_n 2, 1), (33, .invokestatic 326, 3), (36, .i2l, 1), (37, .lastore, 1), (38, .return_, 1), (39, .aload_n 0, 1), (40, .getfield 35, 3), (43, .aload_n 0, 1), (44, .getfield 53, 3), (47, .iconst 2, 1), (48, .isub, 1), (49, .laload, 1), (50, .lstore 4, 2), (52, .iload_n 1, 1), (53, .bipush 124, 2), (55, .isub, 1), (56, .istore 6, 2), (58, .iload 6, 2), (60, .lload_n 2, 1), (61, .lconst 0, 1), (62, .lcmp, 1), (63, .ifCond .ne 7, 3), (66, .iconst 1, 1), (67, .goto 4, 3), (70, .iconst 0, 1), (71, .lload 4, 2), (73, .ldc2_w 22, 3), (76, .lcmp, 1), (77, .ifCond .ne 15, 3), (80, .lload_n 2, 1), (81, .ldc2_w 330, 3), (84, .lcmp, 1), (85, .ifCond .ne 7, 3), (88, .iconst 1, 1), (89, .goto 4, 3), (92, .iconst 0, 1), (93, .invokestatic 319, 3), (96, .istore 7, 2), (98, .iload 7, 2), (100, .ifCond .eq 10, 3), (103, .aload_n 0, 1), (104, .iload 7, 2), (106, .invokevirtual 156, 3), (109, .return_, 1), (110, .aload_n 0, 1), (111, .dup, 1), (112, .getfield 53, 3), (115, .iconst 1, 1), (116, .isub, 1), (117, .putfield 53, 3), (120, .aload_n 0, 1), (121, .getfield 35, 3), (124, .aload_n 0, 1), (125, .getfield 53, 3), (128, .iconst 1, 1), (129, .isub, 1), (130, .iload 6, 2), (132, .lload 4, 2), (134, .lload_n 2, 1), (135, .invokestatic 332, 3), (138, .lastore, 1), (139, .return_, 1)]
theorem D_Machine_reckonLong : ∀ q ∈ T_Machine_reckonLong, decode b_Machine_reckonLong q.1 = .ok (q.2.1, q.2.2) := by decide +kernel
def w_Machine_reckonLong_L93 (Qr : xb_H → Prop) (x0 : Nat) (x2 : Int64) (x4 : Int64) (x6 : Int32) (y0 : Int32) (y1 : Int32) (y2 : Int32) (h : xb_H) : Prop :=
    w_Whole_trapOf y2 y1 y0 h (fun (r2 : Int32) (h1 : xb_H) => xb_ext h h1 → ((r2 = (0 : Int32) → xb_k h1 x0 = 8 ∧ ∀ h5 : xb_H, h5 = xb_I h1 x0 10 ((xb_i h1 x0 10) - 1) → ∃ b6 : Nat, (xb_r h5 x0 9) = some b6 ∧ w_Whole_reckonLong x6 x4 x2 h5 (fun (r8 : Int64) (h7 : xb_H) => xb_ext h5 h7 → xb_k h7 b6 = 103 ∧ vp_in ((xb_i h5 x0 10) - 1) (xb_n h7 b6) ∧ ∀ h11 : xb_H, h11 = xb_L h7 b6 (Int32.toNatClampNeg ((xb_i h5 x0 10) - 1)) r8 → Qr h11)) ∧ (¬ r2 = (0 : Int32) → xb_k h1 x0 = 8 ∧ w_Machine_fall x0 r2 h1 (fun (h13 : xb_H) => xb_ext h1 h13 → Qr h13))))

def w_Machine_reckonLong_L92 (Qr : xb_H → Prop) (x0 : Nat) (x2 : Int64) (x4 : Int64) (x6 : Int32) (y0 : Int32) (y1 : Int32) (h : xb_H) : Prop :=
    w_Machine_reckonLong_L93 Qr x0 x2 x4 x6 0 y0 y1 h

def w_Machine_reckonLong_L71 (Qr : xb_H → Prop) (x0 : Nat) (x2 : Int64) (x4 : Int64) (x6 : Int32) (y0 : Int32) (y1 : Int32) (h : xb_H) : Prop :=
    ((¬ x4 = ((-9223372036854775808) : Int64) → w_Machine_reckonLong_L92 Qr x0 x2 x4 x6 y0 y1 h) ∧ (x4 = ((-9223372036854775808) : Int64) → ((¬ x2 = ((-1) : Int64) → w_Machine_reckonLong_L92 Qr x0 x2 x4 x6 y0 y1 h) ∧ (x2 = ((-1) : Int64) → w_Machine_reckonLong_L93 Qr x0 x2 x4 x6 1 y0 y1 h))))

def w_Machine_reckonLong (x0 : Nat) (x1 : Int32) (h : xb_H) (Qr : xb_H → Prop) : Prop :=
    xb_k h x0 = 8 ∧ ∃ b2 : Nat, (xb_r h x0 9) = some b2 ∧ xb_k h b2 = 103 ∧ vp_in ((xb_i h x0 10) - 1) (xb_n h b2) ∧ ∀ v5 : Int64, v5 = (xb_l h b2 (Int32.toNatClampNeg ((xb_i h x0 10) - 1))) → (((123 : Int32) < x1 → ∃ b7 : Nat, (xb_r h x0 9) = some b7 ∧ xb_k h b7 = 103 ∧ vp_in ((xb_i h x0 10) - 2) (xb_n h b7) ∧ ∀ v10 : Int64, v10 = (xb_l h b7 (Int32.toNatClampNeg ((xb_i h x0 10) - 2))) → ∀ v11 : Int32, v11 = (x1 - 124) → ((¬ v5 = (0 : Int64) → w_Machine_reckonLong_L71 Qr x0 v5 v10 v11 0 v11 h) ∧ (v5 = (0 : Int64) → w_Machine_reckonLong_L71 Qr x0 v5 v10 v11 1 v11 h))) ∧ (¬ (123 : Int32) < x1 → ∃ b13 : Nat, (xb_r h x0 9) = some b13 ∧ w_Whole_countLong (x1 - 121) v5 h (fun (r15 : Int32) (h14 : xb_H) => xb_ext h h14 → xb_k h14 b13 = 103 ∧ vp_in ((xb_i h x0 10) - 1) (xb_n h14 b13) ∧ ∀ h18 : xb_H, h18 = xb_L h14 b13 (Int32.toNatClampNeg ((xb_i h x0 10) - 1)) (Int32.toInt64 r15) → Qr h18)))

set_option maxHeartbeats 4000000 in
set_option maxRecDepth 100000 in
theorem am_Machine_reckonLong_L93 (l : Launch) (hfl : l.flags = pinnedFlags ++ [noTraceFlag]) (D : va_G) (A : Nat → Prop) (σ MC MS : Nat) (h0 : xb_H) (Qr : xb_H → Prop) (x0 : Nat) (x2 : Int64) (x4 : Int64) (x6 : Int32) (y0 : Int32) (y1 : Int32) (y2 : Int32) (h : xb_H) (hw : w_Machine_reckonLong_L93 Qr x0 x2 x4 x6 y0 y1 y2 h) : xb_am l D A σ 5 MC MS h0 (fun v h => v = none ∧ Qr h) (fun _ _ => False) y_Machine_reckonLong.cls y_Machine_reckonLong.name b_Machine_reckonLong 8 ([] : List ExceptionTableEntry) none 93 [(0, .ref x0), (2, .long x2), (4, .long x4), (6, .int x6)] [.int y0, .int y1, .int y2] h 0 0 := by
  unfold w_Machine_reckonLong_L93 at hw
  intro p e s m args below meth c hC H locs ls k n hE hl hR hS hk hn
  obtain ⟨hx, hb, hown, hlocks, htab, hml, hr, hB, hA, hnm⟩ := id hC
  have hts := hB.1.1.at args
  refine xb_call (D := D) (A := A) (σ := σ) (h := h) (d := 2) (mc := 0) (ms := 0) (maxL := 3) (rest := []) (av := [.int y2, .int y1, .int y0]) (fun T hT X => xt_invS X hx hown (hts _ m_87de7cde) (hts _ m_8958e44d) (hts _ m_912e4ef6) (xt_sgS (hts _ m_26bff918)).1 (xt_sgS (hts _ m_26bff918)).2 nm_Whole_trapOf (g := F0 m 93 ls [.int y0, .int y1, .int y2]) rfl (argsL := [.int y2, .int y1, .int y0]) (rest := []) rfl rfl (by rw [hb]; exact (xb_d D_Machine_reckonLong 56 rfl))) (ok_Whole_trapOf l hfl D A σ y2 y1 y0 h _ hw) (hml.trans hl.1.symm) (by rw [hb]; exact (xb_d D_Machine_reckonLong 56 rfl)) (Nat.le_of_ble_eq_true rfl) (Nat.le_of_ble_eq_true rfl) (Nat.le_of_ble_eq_true rfl) (show k + 0 ≤ MC by omega) (show n + 0 ≤ MS by omega) (xt_w1 hB.1 m_26bff918) (xt_cdOf hB.1 m_26bff918) (hts _ m_912e4ef6) hB hR hS hA (fun vv h1 H locs hq hEh1 hR hS => ?_) (fun XX ax h1 H locs hq hEh1 hex hR hS => ?_)
  · obtain ⟨r2, rfl, hw⟩ := hq
    have hw := hw hEh1
    have hE := hE.tr hEh1
    refine W.eq (g2 := F0 m 96 ls [.int r2]) rfl ?_
    refine lv_istore hx hb (xb_d D_Machine_reckonLong 57 rfl) hl (by decide) rfl (fun ls hl => ?_)
    have hl : lv_has ls 8 [(7, .int r2), (0, .ref x0), (2, .long x2), (4, .long x4), (6, .int x6)] := hl
    refine lv_iload hx hb (xb_d D_Machine_reckonLong 58 rfl) (lv_at hl 0 rfl) ?_
    refine lv_if_eq (tgt := 110) hx hb (xb_d D_Machine_reckonLong 59 rfl) rfl (fun hc3 => ?_) (fun hc3 => ?_)
    · have hw := hw.1 hc3
      refine lv_aload_n hx hb (xb_d D_Machine_reckonLong 64 rfl) rfl (lv_at hl 1 rfl) ?_
      refine lv_dup hx hb (xb_d D_Machine_reckonLong 65 rfl) rfl ?_
      obtain ⟨hk4, hw⟩ := hw
      refine xb_getI (C := R_Machine) (T := F_Machine) (N := 18) hx hb 7 10 hts fin_Machine hown hR hk4 (by decide) rfl (by decide) rfl (hts _ m_79cf62f6) (fun _ h9 => h9) (xb_d D_Machine_reckonLong 66 rfl) ?_
      refine lv_iconst (v := 1) hx hb (xb_d D_Machine_reckonLong 67 rfl) (by decide) ?_
      refine lv_isub hx hb (xb_d D_Machine_reckonLong 68 rfl) ?_
      refine xb_putI (C := R_Machine) (T := F_Machine) (N := 18) (ty := .int) (x := ((xb_i h1 x0 10) - 1)) hx hb 7 10 hts fin_Machine t_Machine t_Machine_ok n_Machine hown hR hS hk4 (by decide) rfl (by decide) rfl (hts _ m_79cf62f6) (fun _ h9 => h9) rfl (by decide +kernel) rfl rfl (xb_d D_Machine_reckonLong 69 rfl) (fun H locs hR hS => ?_)
      obtain ⟨h5, eh5⟩ : ∃ x : xb_H, x = xb_I h1 x0 10 ((xb_i h1 x0 10) - 1) := ⟨_, rfl⟩
      rw [← eh5] at hR
      have hw := hw h5 eh5
      have hE : xb_ext h0 h5 := by rw [eh5]; exact hE
      refine lv_aload_n hx hb (xb_d D_Machine_reckonLong 70 rfl) rfl (lv_at hl 1 rfl) ?_
      have hk4 : xb_k h5 x0 = 8 := by rw [eh5]; exact hk4
      refine xb_getP (C := R_Machine) (T := F_Machine) (N := 18) hx hb 7 9 hts fin_Machine hown hR hk4 (by decide) rfl (by decide) rfl (hts _ m_6904195b) (fun _ h9 => h9) (xb_d D_Machine_reckonLong 71 rfl) ?_
      obtain ⟨b6, eb6, hw⟩ := hw
      refine xb_some eb6 ?_
      refine lv_aload_n hx hb (xb_d D_Machine_reckonLong 72 rfl) rfl (lv_at hl 1 rfl) ?_
      refine xb_getI (C := R_Machine) (T := F_Machine) (N := 18) hx hb 7 10 hts fin_Machine hown hR hk4 (by decide) rfl (by decide) rfl (hts _ m_79cf62f6) (fun _ h9 => h9) (xb_d D_Machine_reckonLong 73 rfl) ?_
      refine lv_iconst (v := 1) hx hb (xb_d D_Machine_reckonLong 74 rfl) (by decide) ?_
      refine lv_isub hx hb (xb_d D_Machine_reckonLong 75 rfl) ?_
      refine lv_iload hx hb (xb_d D_Machine_reckonLong 76 rfl) (lv_at hl 4 rfl) ?_
      refine lv_lload hx hb (xb_d D_Machine_reckonLong 77 rfl) (lv_at hl 3 rfl) ?_
      refine lv_lload_n hx hb (xb_d D_Machine_reckonLong 78 rfl) rfl (lv_at hl 2 rfl) ?_
      refine xb_call (D := D) (A := A) (σ := σ) (h := h5) (d := 4) (mc := 0) (ms := 0) (maxL := 5) (rest := [.int ((xb_i h5 x0 10) - 1), .ref b6]) (av := [.int x6, .long x4, .long x2]) (fun T hT X => xt_invS X hx hown (hts _ m_e0680bb7) (hts _ m_2d21212b) (hts _ m_912e4ef6) (xt_sgS (hts _ m_58193057)).1 (xt_sgS (hts _ m_58193057)).2 nm_Whole_reckonLong (g := F0 m 135 ls [.long x2, .long x4, .int x6, .int ((xb_i h5 x0 10) - 1), .ref b6]) rfl (argsL := [.int x6, .long x4, .long x2]) (rest := [.int ((xb_i h5 x0 10) - 1), .ref b6]) rfl rfl (by rw [hb]; exact (xb_d D_Machine_reckonLong 79 rfl))) (ok_Whole_reckonLong l hfl D A σ x6 x4 x2 h5 _ hw) (hml.trans hl.1.symm) (by rw [hb]; exact (xb_d D_Machine_reckonLong 79 rfl)) (Nat.le_of_ble_eq_true rfl) (Nat.le_of_ble_eq_true rfl) (Nat.le_of_ble_eq_true rfl) (show k + 0 ≤ MC by omega) (show n + 0 ≤ MS by omega) (xt_w1 hB.1 m_58193057) (xt_cdOf hB.1 m_58193057) (hts _ m_912e4ef6) hB hR hS hA (fun vv h7 H locs hq hEh7 hR hS => ?_) (fun XX ax h7 H locs hq hEh7 hex hR hS => ?_)
      · obtain ⟨r8, rfl, hw⟩ := hq
        have hw := hw hEh7
        have hE := hE.tr hEh7
        refine W.eq (g2 := F0 m 138 ls [.long r8, .int ((xb_i h5 x0 10) - 1), .ref b6]) rfl ?_
        obtain ⟨hk9, hw⟩ := hw
        obtain ⟨hi10, hw⟩ := hw
        refine xb_last hx hb hR hS hk9 hi10 (xb_d D_Machine_reckonLong 80 rfl) (fun H locs hR hS => ?_)
        obtain ⟨h11, eh11⟩ : ∃ x : xb_H, x = xb_L h7 b6 (Int32.toNatClampNeg ((xb_i h5 x0 10) - 1)) r8 := ⟨_, rfl⟩
        rw [← eh11] at hR
        have hw := hw h11 eh11
        have hE : xb_ext h0 h11 := by rw [eh11]; exact hE
        exact xb_vret hx hb hr hlocks (show k ≤ MC by omega) (show n ≤ MS by omega) hE hR hS (xb_d D_Machine_reckonLong 81 rfl) hw
      · exact False.elim hq
    · have hw := hw.2 hc3
      refine lv_aload_n hx hb (xb_d D_Machine_reckonLong 60 rfl) rfl (lv_at hl 1 rfl) ?_
      refine lv_iload hx hb (xb_d D_Machine_reckonLong 61 rfl) (lv_at hl 0 rfl) ?_
      obtain ⟨hk12, hw⟩ := hw
      refine xb_call (D := D) (A := A) (σ := σ) (h := h1) (d := 2) (mc := 0) (ms := 0) (maxL := 3) (rest := []) (av := [.ref x0, .int r2]) (fun T hT X => by obtain ⟨cb, r1, r2, r3⟩ := xb_recv (ci := 7) hR rfl hk12 (by decide); exact xt_invV X hx hown (hts _ m_8f5db99d) (hts _ m_0ddc8afe) (hts _ m_f5561462) (xt_sigOf (hts _ m_f0d4fd47)) nm_Machine_fall (by rw [hT]; exact r1) r2 r3 (g := F0 m 106 ls [.int r2, .ref x0]) rfl (argsL := [.int r2]) (rest := []) rfl rfl (by rw [hb]; exact (xb_d D_Machine_reckonLong 62 rfl))) (ok_Machine_fall l hfl D A σ x0 r2 h1 _ hw) (hml.trans hl.1.symm) (by rw [hb]; exact (xb_d D_Machine_reckonLong 62 rfl)) (Nat.le_of_ble_eq_true rfl) (Nat.le_of_ble_eq_true rfl) (Nat.le_of_ble_eq_true rfl) (show k + 0 ≤ MC by omega) (show n + 0 ≤ MS by omega) (xt_w1 hB.1 m_f0d4fd47) (xt_cdOf hB.1 m_f0d4fd47) (hts _ m_73451f9b) hB hR hS hA (fun vv h13 H locs hq hEh13 hR hS => ?_) (fun XX ax h13 H locs hq hEh13 hex hR hS => ?_)
      · obtain ⟨rfl, hw⟩ := hq
        have hw := hw hEh13
        have hE := hE.tr hEh13
        refine W.eq (g2 := F0 m 109 ls []) rfl ?_
        exact xb_vret hx hb hr hlocks (show k ≤ MC by omega) (show n ≤ MS by omega) hE hR hS (xb_d D_Machine_reckonLong 63 rfl) hw
      · exact False.elim hq
  · exact False.elim hq

set_option maxHeartbeats 4000000 in
set_option maxRecDepth 100000 in
theorem am_Machine_reckonLong_L92 (l : Launch) (hfl : l.flags = pinnedFlags ++ [noTraceFlag]) (D : va_G) (A : Nat → Prop) (σ MC MS : Nat) (h0 : xb_H) (Qr : xb_H → Prop) (x0 : Nat) (x2 : Int64) (x4 : Int64) (x6 : Int32) (y0 : Int32) (y1 : Int32) (h : xb_H) (hw : w_Machine_reckonLong_L92 Qr x0 x2 x4 x6 y0 y1 h) : xb_am l D A σ 5 MC MS h0 (fun v h => v = none ∧ Qr h) (fun _ _ => False) y_Machine_reckonLong.cls y_Machine_reckonLong.name b_Machine_reckonLong 8 ([] : List ExceptionTableEntry) none 92 [(0, .ref x0), (2, .long x2), (4, .long x4), (6, .int x6)] [.int y0, .int y1] h 0 0 := by
  unfold w_Machine_reckonLong_L92 at hw
  intro p e s m args below meth c hC H locs ls k n hE hl hR hS hk hn
  obtain ⟨hx, hb, hown, hlocks, htab, hml, hr, hB, hA, hnm⟩ := id hC
  have hts := hB.1.1.at args
  refine lv_iconst (v := 0) hx hb (xb_d D_Machine_reckonLong 55 rfl) (by decide) ?_
  exact am_Machine_reckonLong_L93 l hfl D A σ MC MS h0 Qr x0 x2 x4 x6 0 y0 y1 h hw p e s m args below meth c hC H locs ls k n hE (lv_sub hl [0, 1, 2, 3] rfl) hR hS (by omega) (by omega)

set_option maxHeartbeats 4000000 in
set_option maxRecDepth 100000 in
theorem am_Machine_reckonLong_L71 (l : Launch) (hfl : l.flags = pinnedFlags ++ [noTraceFlag]) (D : va_G) (A : Nat → Prop) (σ MC MS : Nat) (h0 : xb_H) (Qr : xb_H → Prop) (x0 : Nat) (x2 : Int64) (x4 : Int64) (x6 : Int32) (y0 : Int32) (y1 : Int32) (h : xb_H) (hw : w_Machine_reckonLong_L71 Qr x0 x2 x4 x6 y0 y1 h) : xb_am l D A σ 5 MC MS h0 (fun v h => v = none ∧ Qr h) (fun _ _ => False) y_Machine_reckonLong.cls y_Machine_reckonLong.name b_Machine_reckonLong 8 ([] : List ExceptionTableEntry) none 71 [(0, .ref x0), (2, .long x2), (4, .long x4), (6, .int x6)] [.int y0, .int y1] h 0 0 := by
  unfold w_Machine_reckonLong_L71 at hw
  intro p e s m args below meth c hC H locs ls k n hE hl hR hS hk hn
  obtain ⟨hx, hb, hown, hlocks, htab, hml, hr, hB, hA, hnm⟩ := id hC
  have hts := hB.1.1.at args
  refine lv_lload hx hb (xb_d D_Machine_reckonLong 45 rfl) (lv_at hl 2 rfl) ?_
  refine lv_ldc2 (v := (-9223372036854775808)) hx hb hown (hts _ m_a8868524) (xb_d D_Machine_reckonLong 46 rfl) ?_
  refine xb_lc_ne (tgt := 92) hx hb (xb_d D_Machine_reckonLong 47 rfl) (xb_d D_Machine_reckonLong 48 rfl) rfl (fun hc1 => ?_) (fun hc1 => ?_)
  · have hw := hw.1 hc1
    exact am_Machine_reckonLong_L92 l hfl D A σ MC MS h0 Qr x0 x2 x4 x6 y0 y1 h hw p e s m args below meth c hC H locs ls k n hE (lv_sub hl [0, 1, 2, 3] rfl) hR hS (by omega) (by omega)
  · have hw := hw.2 hc1
    refine lv_lload_n hx hb (xb_d D_Machine_reckonLong 49 rfl) rfl (lv_at hl 1 rfl) ?_
    refine lv_ldc2 (v := (-1)) hx hb hown (hts _ m_3e9209a5) (xb_d D_Machine_reckonLong 50 rfl) ?_
    refine xb_lc_ne (tgt := 92) hx hb (xb_d D_Machine_reckonLong 51 rfl) (xb_d D_Machine_reckonLong 52 rfl) rfl (fun hc2 => ?_) (fun hc2 => ?_)
    · have hw := hw.1 hc2
      exact am_Machine_reckonLong_L92 l hfl D A σ MC MS h0 Qr x0 x2 x4 x6 y0 y1 h hw p e s m args below meth c hC H locs ls k n hE (lv_sub hl [0, 1, 2, 3] rfl) hR hS (by omega) (by omega)
    · have hw := hw.2 hc2
      refine lv_iconst (v := 1) hx hb (xb_d D_Machine_reckonLong 53 rfl) (by decide) ?_
      refine lv_goto (tgt := 93) hx hb (xb_d D_Machine_reckonLong 54 rfl) rfl ?_
      exact am_Machine_reckonLong_L93 l hfl D A σ MC MS h0 Qr x0 x2 x4 x6 1 y0 y1 h hw p e s m args below meth c hC H locs ls k n hE (lv_sub hl [0, 1, 2, 3] rfl) hR hS (by omega) (by omega)

set_option maxHeartbeats 4000000 in
set_option maxRecDepth 100000 in
theorem ok_Machine_reckonLong (l : Launch) (hfl : l.flags = pinnedFlags ++ [noTraceFlag]) (D : va_G) (A : Nat → Prop) (σ : Nat) (x0 : Nat) (x1 : Int32) (h : xb_H) (Qr : xb_H → Prop) (hw : w_Machine_reckonLong x0 x1 h Qr) : xt_Met l y_Machine_reckonLong [.code y_Machine_reckonLong b_Machine_reckonLong 8 none] (xb_rm 5 0 0) (xb_Pc D A σ h [.ref x0, .int x1]) (xb_Qc D A h (fun v h => v = none ∧ Qr h) (fun _ _ => False)) 0 0 A := by
  refine xb_ofAm (cc := b_Machine_reckonLong) (by decide) (Nat.le_of_ble_eq_true rfl) ?_
  unfold w_Machine_reckonLong at hw
  show xb_am l D A σ 5 0 0 h (fun v h => v = none ∧ Qr h) (fun _ _ => False) y_Machine_reckonLong.cls y_Machine_reckonLong.name b_Machine_reckonLong 8 ([] : List ExceptionTableEntry) none 0 [(0, .ref x0), (1, .int x1)] [] h 0 0
  obtain ⟨MC, hMC⟩ : ∃ x, x = 0 := ⟨_, rfl⟩
  obtain ⟨MS, hMS⟩ : ∃ x, x = 0 := ⟨_, rfl⟩
  rw [show xb_am l D A σ 5 0 0 = xb_am l D A σ 5 MC MS by rw [hMC, hMS]]
  obtain ⟨h0, hh0⟩ : ∃ x, x = h := ⟨_, rfl⟩
  rw [show xb_am l D A σ 5 MC MS h = xb_am l D A σ 5 MC MS h0 by rw [hh0]]
  intro p e s m args below meth c hC H locs ls k n hE hl hR hS hk hn
  obtain ⟨hx, hb, hown, hlocks, htab, hml, hr, hB, hA, hnm⟩ := id hC
  have hts := hB.1.1.at args
  refine lv_aload_n hx hb (xb_d D_Machine_reckonLong 0 rfl) rfl (lv_at hl 0 rfl) ?_
  obtain ⟨hk1, hw⟩ := hw
  refine xb_getP (C := R_Machine) (T := F_Machine) (N := 18) hx hb 7 9 hts fin_Machine hown hR hk1 (by decide) rfl (by decide) rfl (hts _ m_6904195b) (fun _ h9 => h9) (xb_d D_Machine_reckonLong 1 rfl) ?_
  obtain ⟨b2, eb2, hw⟩ := hw
  refine xb_some eb2 ?_
  refine lv_aload_n hx hb (xb_d D_Machine_reckonLong 2 rfl) rfl (lv_at hl 0 rfl) ?_
  refine xb_getI (C := R_Machine) (T := F_Machine) (N := 18) hx hb 7 10 hts fin_Machine hown hR hk1 (by decide) rfl (by decide) rfl (hts _ m_79cf62f6) (fun _ h9 => h9) (xb_d D_Machine_reckonLong 3 rfl) ?_
  refine lv_iconst (v := 1) hx hb (xb_d D_Machine_reckonLong 4 rfl) (by decide) ?_
  refine lv_isub hx hb (xb_d D_Machine_reckonLong 5 rfl) ?_
  obtain ⟨hk4, hw⟩ := hw
  obtain ⟨hi3, hw⟩ := hw
  refine xb_lald hx hb hR hk4 hi3 (xb_d D_Machine_reckonLong 6 rfl) ?_
  obtain ⟨v5, ev5⟩ : ∃ x : Int64, x = (xb_l h b2 (Int32.toNatClampNeg ((xb_i h x0 10) - 1))) := ⟨_, rfl⟩
  have hw := hw v5 ev5
  refine xt_numl (y := v5) ev5.symm ?_
  refine lv_lstore_n hx hb (xb_d D_Machine_reckonLong 7 rfl) rfl hl (by decide) rfl (fun ls hl => ?_)
  have hl : lv_has ls 8 [(2, .long v5), (0, .ref x0), (1, .int x1)] := hl
  refine lv_iload_n hx hb (xb_d D_Machine_reckonLong 8 rfl) rfl (lv_at hl 2 rfl) ?_
  refine lv_bipush (v := 123) hx hb (xb_d D_Machine_reckonLong 9 rfl) (by decide) ?_
  refine lv_icmp_gt (tgt := 39) hx hb (xb_d D_Machine_reckonLong 10 rfl) rfl (fun hc6 => ?_) (fun hc6 => ?_)
  · have hw := hw.1 hc6
    refine lv_aload_n hx hb (xb_d D_Machine_reckonLong 25 rfl) rfl (lv_at hl 1 rfl) ?_
    refine xb_getP (C := R_Machine) (T := F_Machine) (N := 18) hx hb 7 9 hts fin_Machine hown hR hk1 (by decide) rfl (by decide) rfl (hts _ m_6904195b) (fun _ h9 => h9) (xb_d D_Machine_reckonLong 26 rfl) ?_
    obtain ⟨b7, eb7, hw⟩ := hw
    refine xb_some eb7 ?_
    refine lv_aload_n hx hb (xb_d D_Machine_reckonLong 27 rfl) rfl (lv_at hl 1 rfl) ?_
    refine xb_getI (C := R_Machine) (T := F_Machine) (N := 18) hx hb 7 10 hts fin_Machine hown hR hk1 (by decide) rfl (by decide) rfl (hts _ m_79cf62f6) (fun _ h9 => h9) (xb_d D_Machine_reckonLong 28 rfl) ?_
    refine lv_iconst (v := 2) hx hb (xb_d D_Machine_reckonLong 29 rfl) (by decide) ?_
    refine lv_isub hx hb (xb_d D_Machine_reckonLong 30 rfl) ?_
    obtain ⟨hk9, hw⟩ := hw
    obtain ⟨hi8, hw⟩ := hw
    refine xb_lald hx hb hR hk9 hi8 (xb_d D_Machine_reckonLong 31 rfl) ?_
    obtain ⟨v10, ev10⟩ : ∃ x : Int64, x = (xb_l h b7 (Int32.toNatClampNeg ((xb_i h x0 10) - 2))) := ⟨_, rfl⟩
    have hw := hw v10 ev10
    refine xt_numl (y := v10) ev10.symm ?_
    refine lv_lstore hx hb (xb_d D_Machine_reckonLong 32 rfl) hl (by decide) rfl (fun ls hl => ?_)
    have hl : lv_has ls 8 [(4, .long v10), (2, .long v5), (0, .ref x0), (1, .int x1)] := hl
    refine lv_iload_n hx hb (xb_d D_Machine_reckonLong 33 rfl) rfl (lv_at hl 3 rfl) ?_
    refine lv_bipush (v := 124) hx hb (xb_d D_Machine_reckonLong 34 rfl) (by decide) ?_
    refine lv_isub hx hb (xb_d D_Machine_reckonLong 35 rfl) ?_
    obtain ⟨v11, ev11⟩ : ∃ x : Int32, x = (x1 - 124) := ⟨_, rfl⟩
    have hw := hw v11 ev11
    refine xt_numi (y := v11) ev11.symm ?_
    refine lv_istore hx hb (xb_d D_Machine_reckonLong 36 rfl) hl (by decide) rfl (fun ls hl => ?_)
    have hl : lv_has ls 8 [(6, .int v11), (4, .long v10), (2, .long v5), (0, .ref x0), (1, .int x1)] := hl
    refine lv_iload hx hb (xb_d D_Machine_reckonLong 37 rfl) (lv_at hl 0 rfl) ?_
    refine lv_lload_n hx hb (xb_d D_Machine_reckonLong 38 rfl) rfl (lv_at hl 2 rfl) ?_
    refine lv_lconst (v := 0) hx hb (xb_d D_Machine_reckonLong 39 rfl) (by decide) ?_
    refine xb_lc_ne (tgt := 70) hx hb (xb_d D_Machine_reckonLong 40 rfl) (xb_d D_Machine_reckonLong 41 rfl) rfl (fun hc12 => ?_) (fun hc12 => ?_)
    · have hw := hw.1 hc12
      refine lv_iconst (v := 0) hx hb (xb_d D_Machine_reckonLong 44 rfl) (by decide) ?_
      exact am_Machine_reckonLong_L71 l hfl D A σ MC MS h0 Qr x0 v5 v10 v11 0 v11 h hw p e s m args below meth c hC H locs ls k n hE (lv_sub hl [3, 2, 1, 0] rfl) hR hS (by omega) (by omega)
    · have hw := hw.2 hc12
      refine lv_iconst (v := 1) hx hb (xb_d D_Machine_reckonLong 42 rfl) (by decide) ?_
      refine lv_goto (tgt := 71) hx hb (xb_d D_Machine_reckonLong 43 rfl) rfl ?_
      exact am_Machine_reckonLong_L71 l hfl D A σ MC MS h0 Qr x0 v5 v10 v11 1 v11 h hw p e s m args below meth c hC H locs ls k n hE (lv_sub hl [3, 2, 1, 0] rfl) hR hS (by omega) (by omega)
  · have hw := hw.2 hc6
    refine lv_aload_n hx hb (xb_d D_Machine_reckonLong 11 rfl) rfl (lv_at hl 1 rfl) ?_
    refine xb_getP (C := R_Machine) (T := F_Machine) (N := 18) hx hb 7 9 hts fin_Machine hown hR hk1 (by decide) rfl (by decide) rfl (hts _ m_6904195b) (fun _ h9 => h9) (xb_d D_Machine_reckonLong 12 rfl) ?_
    obtain ⟨b13, eb13, hw⟩ := hw
    refine xb_some eb13 ?_
    refine lv_aload_n hx hb (xb_d D_Machine_reckonLong 13 rfl) rfl (lv_at hl 1 rfl) ?_
    refine xb_getI (C := R_Machine) (T := F_Machine) (N := 18) hx hb 7 10 hts fin_Machine hown hR hk1 (by decide) rfl (by decide) rfl (hts _ m_79cf62f6) (fun _ h9 => h9) (xb_d D_Machine_reckonLong 14 rfl) ?_
    refine lv_iconst (v := 1) hx hb (xb_d D_Machine_reckonLong 15 rfl) (by decide) ?_
    refine lv_isub hx hb (xb_d D_Machine_reckonLong 16 rfl) ?_
    refine lv_iload_n hx hb (xb_d D_Machine_reckonLong 17 rfl) rfl (lv_at hl 2 rfl) ?_
    refine lv_bipush (v := 121) hx hb (xb_d D_Machine_reckonLong 18 rfl) (by decide) ?_
    refine lv_isub hx hb (xb_d D_Machine_reckonLong 19 rfl) ?_
    refine lv_lload_n hx hb (xb_d D_Machine_reckonLong 20 rfl) rfl (lv_at hl 0 rfl) ?_
    refine xb_call (D := D) (A := A) (σ := σ) (h := h) (d := 3) (mc := 0) (ms := 0) (maxL := 3) (rest := [.int ((xb_i h x0 10) - 1), .ref b13]) (av := [.int (x1 - 121), .long v5]) (fun T hT X => xt_invS X hx hown (hts _ m_ed05e460) (hts _ m_a75d6ada) (hts _ m_912e4ef6) (xt_sgS (hts _ m_fccded66)).1 (xt_sgS (hts _ m_fccded66)).2 nm_Whole_countLong (g := F0 m 33 ls [.long v5, .int (x1 - 121), .int ((xb_i h x0 10) - 1), .ref b13]) rfl (argsL := [.int (x1 - 121), .long v5]) (rest := [.int ((xb_i h x0 10) - 1), .ref b13]) rfl rfl (by rw [hb]; exact (xb_d D_Machine_reckonLong 21 rfl))) (ok_Whole_countLong l hfl D A σ (x1 - 121) v5 h _ hw) (hml.trans hl.1.symm) (by rw [hb]; exact (xb_d D_Machine_reckonLong 21 rfl)) (Nat.le_of_ble_eq_true rfl) (Nat.le_of_ble_eq_true rfl) (Nat.le_of_ble_eq_true rfl) (show k + 0 ≤ MC by omega) (show n + 0 ≤ MS by omega) (xt_w1 hB.1 m_fccded66) (xt_cdOf hB.1 m_fccded66) (hts _ m_912e4ef6) hB hR hS hA (fun vv h14 H locs hq hEh14 hR hS => ?_) (fun XX ax h14 H locs hq hEh14 hex hR hS => ?_)
    · obtain ⟨r15, rfl, hw⟩ := hq
      have hw := hw hEh14
      have hE := hE.tr hEh14
      refine W.eq (g2 := F0 m 36 ls [.int r15, .int ((xb_i h x0 10) - 1), .ref b13]) rfl ?_
      refine lv_i2l hx hb (xb_d D_Machine_reckonLong 22 rfl) rfl ?_
      obtain ⟨hk16, hw⟩ := hw
      obtain ⟨hi17, hw⟩ := hw
      refine xb_last hx hb hR hS hk16 hi17 (xb_d D_Machine_reckonLong 23 rfl) (fun H locs hR hS => ?_)
      obtain ⟨h18, eh18⟩ : ∃ x : xb_H, x = xb_L h14 b13 (Int32.toNatClampNeg ((xb_i h x0 10) - 1)) (Int32.toInt64 r15) := ⟨_, rfl⟩
      rw [← eh18] at hR
      have hw := hw h18 eh18
      have hE : xb_ext h0 h18 := by rw [eh18]; exact hE
      exact xb_vret hx hb hr hlocks (show k ≤ MC by omega) (show n ≤ MS by omega) hE hR hS (xb_d D_Machine_reckonLong 24 rfl) hw
    · exact False.elim hq

theorem m_5779b1eb : (.methodLink "StackHost$Machine" 341 y_Format_trapOfWhole : Cond) ∈ xt_tbl := xt_in (xt_t8 (List.mem_of_getElem? (i := 20) (by decide +kernel))) (by decide +kernel)
theorem m_7f346871 : (.instanceMethod y_Format_trapOfWhole : Cond) ∈ xt_tbl := xt_in (xt_t8 (List.mem_of_getElem? (i := 21) (by decide +kernel))) (by decide +kernel)
theorem m_15b5aa11 : (.selects "StackHost$Format" y_Format_trapOfWhole y_Format_trapOfWhole : Cond) ∈ xt_tbl := xt_in (xt_t8 (List.mem_of_getElem? (i := 22) (by decide +kernel))) (by decide +kernel)
theorem m_55f37b3c : (.code y_Format_trapOfWhole b_Format_trapOfWhole 9 (some .int) : Cond) ∈ xt_tbl := xt_in (xt_t8 (List.mem_of_getElem? (i := 23) (by decide +kernel))) (by decide +kernel)
theorem m_3a4d21d8 : (.methodLink "StackHost$Machine" 345 y_Format_isNegative : Cond) ∈ xt_tbl := xt_in (xt_t8 (List.mem_of_getElem? (i := 40) (by decide +kernel))) (by decide +kernel)
theorem m_9ef39c76 : (.methodLink "StackHost$Machine" 349 y_Format_wholePart : Cond) ∈ xt_tbl := xt_in (xt_t8 (List.mem_of_getElem? (i := 41) (by decide +kernel))) (by decide +kernel)
theorem nm_Format_trapOfWhole : xt_nm y_Format_trapOfWhole 3 := ⟨by decide +kernel, by decide +kernel⟩
set_option maxRecDepth 100000 in
def T_Machine_truncate : List (Nat × Instr × Nat) := [(0, .aload_n 1, 1), (1, .lload_n 2, 1), (2, .iload 4, 2), (4, .iload 5, 2), (6, .invokevirtual 341, 3), (9, .istore 6, 2), (11, .iload 6, 2), (13, .ifCond .eq 10, 3), (16, .aload_n 0, 1), (17, .iload 6, 2), (19, .invokevirtual 156, 3), (22, .return_, 1), (23, .aload_n 1, 1), (24, .lload_n 2, 1), (25, .invokevirtual 345, 3), (28, .ifCond .eq 12, 3), (31, .aload_n 1, 1), (32, .lload_n 2, 1), (33, .invokevirtual 349, 3), (36, .lneg, 1), (37, .goto 8, 3), (40, .aload_n 1, 1), (41, .lload_n 2, 1), (42, .invokevirtual 349, 3), (45, .lstore 7, 2), (47, .aload_n 0, 1), (48, .getfield 35, 3), (51, .aload_n 0, 1), (52, .getfield 53, 3), (55, .iconst 1, 1), (56, .isub, 1), (57, .iload 4, 2), (59, .bipush 32, 2), (61, .if_icmp .ne 12, 3), (64, .lload 7, 2), (66, .ldc2_w 74, 3), (69, .land, 1), (70, .goto 5, 3), (73, .lload 7, 2), (75, .lastore, 1), (76, .return_, 1)]
theorem D_Machine_truncate : ∀ q ∈ T_Machine_truncate, decode b_Machine_truncate q.1 = .ok (q.2.1, q.2.2) := by decide +kernel
def w_Machine_truncate_L75 (Qr : xb_H → Prop) (y0 : Int64) (y1 : Int32) (y2 : Nat) (h : xb_H) : Prop :=
    xb_k h y2 = 103 ∧ vp_in y1 (xb_n h y2) ∧ ∀ h3 : xb_H, h3 = xb_L h y2 (Int32.toNatClampNeg y1) y0 → Qr h3

def w_Machine_truncate_L45 (Qr : xb_H → Prop) (x0 : Nat) (x4 : Int32) (y0 : Int64) (h : xb_H) : Prop :=
    xb_k h x0 = 8 ∧ ∃ b2 : Nat, (xb_r h x0 9) = some b2 ∧ ((¬ x4 = (32 : Int32) → w_Machine_truncate_L75 Qr y0 ((xb_i h x0 10) - 1) b2 h) ∧ (x4 = (32 : Int32) → w_Machine_truncate_L75 Qr (y0 &&& 4294967295) ((xb_i h x0 10) - 1) b2 h))

def w_Machine_truncate (x0 : Nat) (x1 : Nat) (x2 : Int64) (x4 : Int32) (x5 : Int32) (h : xb_H) (Qr : xb_H → Prop) : Prop :=
    xb_k h x1 = 6 ∧ w_Format_trapOfWhole x1 x2 x4 x5 h (fun (r3 : Int32) (h2 : xb_H) => xb_ext h h2 → ((r3 = (0 : Int32) → w_Format_isNegative x1 x2 h2 (fun (r6 : Int32) (h5 : xb_H) => xb_ext h2 h5 → ((r6 = (0 : Int32) → w_Format_wholePart x1 x2 h5 (fun (r9 : Int64) (h8 : xb_H) => xb_ext h5 h8 → w_Machine_truncate_L45 Qr x0 x4 r9 h8)) ∧ (¬ r6 = (0 : Int32) → w_Format_wholePart x1 x2 h5 (fun (r11 : Int64) (h10 : xb_H) => xb_ext h5 h10 → w_Machine_truncate_L45 Qr x0 x4 (-r11) h10))))) ∧ (¬ r3 = (0 : Int32) → xb_k h2 x0 = 8 ∧ w_Machine_fall x0 r3 h2 (fun (h13 : xb_H) => xb_ext h2 h13 → Qr h13))))

set_option maxHeartbeats 4000000 in
set_option maxRecDepth 100000 in
theorem am_Machine_truncate_L75 (l : Launch) (hfl : l.flags = pinnedFlags ++ [noTraceFlag]) (D : va_G) (A : Nat → Prop) (σ MC MS : Nat) (h0 : xb_H) (Qr : xb_H → Prop) (y0 : Int64) (y1 : Int32) (y2 : Nat) (h : xb_H) (hw : w_Machine_truncate_L75 Qr y0 y1 y2 h) : xb_am l D A σ 5 MC MS h0 (fun v h => v = none ∧ Qr h) (fun _ _ => False) y_Machine_truncate.cls y_Machine_truncate.name b_Machine_truncate 9 ([] : List ExceptionTableEntry) none 75 [] [.long y0, .int y1, .ref y2] h 0 0 := by
  unfold w_Machine_truncate_L75 at hw
  intro p e s m args below meth c hC H locs ls k n hE hl hR hS hk hn
  obtain ⟨hx, hb, hown, hlocks, htab, hml, hr, hB, hA, hnm⟩ := id hC
  have hts := hB.1.1.at args
  obtain ⟨hk1, hw⟩ := hw
  obtain ⟨hi2, hw⟩ := hw
  refine xb_last hx hb hR hS hk1 hi2 (xb_d D_Machine_truncate 39 rfl) (fun H locs hR hS => ?_)
  obtain ⟨h3, eh3⟩ : ∃ x : xb_H, x = xb_L h y2 (Int32.toNatClampNeg y1) y0 := ⟨_, rfl⟩
  rw [← eh3] at hR
  have hw := hw h3 eh3
  have hE : xb_ext h0 h3 := by rw [eh3]; exact hE
  exact xb_vret hx hb hr hlocks (show k ≤ MC by omega) (show n ≤ MS by omega) hE hR hS (xb_d D_Machine_truncate 40 rfl) hw

set_option maxHeartbeats 4000000 in
set_option maxRecDepth 100000 in
theorem am_Machine_truncate_L45 (l : Launch) (hfl : l.flags = pinnedFlags ++ [noTraceFlag]) (D : va_G) (A : Nat → Prop) (σ MC MS : Nat) (h0 : xb_H) (Qr : xb_H → Prop) (x0 : Nat) (x4 : Int32) (y0 : Int64) (h : xb_H) (hw : w_Machine_truncate_L45 Qr x0 x4 y0 h) : xb_am l D A σ 5 MC MS h0 (fun v h => v = none ∧ Qr h) (fun _ _ => False) y_Machine_truncate.cls y_Machine_truncate.name b_Machine_truncate 9 ([] : List ExceptionTableEntry) none 45 [(0, .ref x0), (4, .int x4)] [.long y0] h 0 0 := by
  unfold w_Machine_truncate_L45 at hw
  intro p e s m args below meth c hC H locs ls k n hE hl hR hS hk hn
  obtain ⟨hx, hb, hown, hlocks, htab, hml, hr, hB, hA, hnm⟩ := id hC
  have hts := hB.1.1.at args
  refine lv_lstore hx hb (xb_d D_Machine_truncate 24 rfl) hl (by decide) rfl (fun ls hl => ?_)
  have hl : lv_has ls 9 [(7, .long y0), (0, .ref x0), (4, .int x4)] := hl
  refine lv_aload_n hx hb (xb_d D_Machine_truncate 25 rfl) rfl (lv_at hl 1 rfl) ?_
  obtain ⟨hk1, hw⟩ := hw
  refine xb_getP (C := R_Machine) (T := F_Machine) (N := 18) hx hb 7 9 hts fin_Machine hown hR hk1 (by decide) rfl (by decide) rfl (hts _ m_6904195b) (fun _ h9 => h9) (xb_d D_Machine_truncate 26 rfl) ?_
  obtain ⟨b2, eb2, hw⟩ := hw
  refine xb_some eb2 ?_
  refine lv_aload_n hx hb (xb_d D_Machine_truncate 27 rfl) rfl (lv_at hl 1 rfl) ?_
  refine xb_getI (C := R_Machine) (T := F_Machine) (N := 18) hx hb 7 10 hts fin_Machine hown hR hk1 (by decide) rfl (by decide) rfl (hts _ m_79cf62f6) (fun _ h9 => h9) (xb_d D_Machine_truncate 28 rfl) ?_
  refine lv_iconst (v := 1) hx hb (xb_d D_Machine_truncate 29 rfl) (by decide) ?_
  refine lv_isub hx hb (xb_d D_Machine_truncate 30 rfl) ?_
  refine lv_iload hx hb (xb_d D_Machine_truncate 31 rfl) (lv_at hl 2 rfl) ?_
  refine lv_bipush (v := 32) hx hb (xb_d D_Machine_truncate 32 rfl) (by decide) ?_
  refine lv_icmp_ne (tgt := 73) hx hb (xb_d D_Machine_truncate 33 rfl) rfl (fun hc3 => ?_) (fun hc3 => ?_)
  · have hw := hw.1 hc3
    refine lv_lload hx hb (xb_d D_Machine_truncate 38 rfl) (lv_at hl 0 rfl) ?_
    exact am_Machine_truncate_L75 l hfl D A σ MC MS h0 Qr y0 ((xb_i h x0 10) - 1) b2 h hw p e s m args below meth c hC H locs ls k n hE (lv_sub hl [] rfl) hR hS (by omega) (by omega)
  · have hw := hw.2 hc3
    refine lv_lload hx hb (xb_d D_Machine_truncate 34 rfl) (lv_at hl 0 rfl) ?_
    refine lv_ldc2 (v := 4294967295) hx hb hown (hts _ m_2b0551dd) (xb_d D_Machine_truncate 35 rfl) ?_
    refine lv_land hx hb (xb_d D_Machine_truncate 36 rfl) ?_
    refine lv_goto (tgt := 75) hx hb (xb_d D_Machine_truncate 37 rfl) rfl ?_
    exact am_Machine_truncate_L75 l hfl D A σ MC MS h0 Qr (y0 &&& 4294967295) ((xb_i h x0 10) - 1) b2 h hw p e s m args below meth c hC H locs ls k n hE (lv_sub hl [] rfl) hR hS (by omega) (by omega)

set_option maxHeartbeats 4000000 in
set_option maxRecDepth 100000 in
theorem ok_Machine_truncate (l : Launch) (hfl : l.flags = pinnedFlags ++ [noTraceFlag]) (D : va_G) (A : Nat → Prop) (σ : Nat) (x0 : Nat) (x1 : Nat) (x2 : Int64) (x4 : Int32) (x5 : Int32) (h : xb_H) (Qr : xb_H → Prop) (hw : w_Machine_truncate x0 x1 x2 x4 x5 h Qr) : xt_Met l y_Machine_truncate [.code y_Machine_truncate b_Machine_truncate 9 none] (xb_rm 5 0 0) (xb_Pc D A σ h [.ref x0, .ref x1, .long x2, .int x4, .int x5]) (xb_Qc D A h (fun v h => v = none ∧ Qr h) (fun _ _ => False)) 0 0 A := by
  refine xb_ofAm (cc := b_Machine_truncate) (by decide) (Nat.le_of_ble_eq_true rfl) ?_
  unfold w_Machine_truncate at hw
  show xb_am l D A σ 5 0 0 h (fun v h => v = none ∧ Qr h) (fun _ _ => False) y_Machine_truncate.cls y_Machine_truncate.name b_Machine_truncate 9 ([] : List ExceptionTableEntry) none 0 [(0, .ref x0), (1, .ref x1), (2, .long x2), (4, .int x4), (5, .int x5)] [] h 0 0
  obtain ⟨MC, hMC⟩ : ∃ x, x = 0 := ⟨_, rfl⟩
  obtain ⟨MS, hMS⟩ : ∃ x, x = 0 := ⟨_, rfl⟩
  rw [show xb_am l D A σ 5 0 0 = xb_am l D A σ 5 MC MS by rw [hMC, hMS]]
  obtain ⟨h0, hh0⟩ : ∃ x, x = h := ⟨_, rfl⟩
  rw [show xb_am l D A σ 5 MC MS h = xb_am l D A σ 5 MC MS h0 by rw [hh0]]
  intro p e s m args below meth c hC H locs ls k n hE hl hR hS hk hn
  obtain ⟨hx, hb, hown, hlocks, htab, hml, hr, hB, hA, hnm⟩ := id hC
  have hts := hB.1.1.at args
  refine lv_aload_n hx hb (xb_d D_Machine_truncate 0 rfl) rfl (lv_at hl 1 rfl) ?_
  refine lv_lload_n hx hb (xb_d D_Machine_truncate 1 rfl) rfl (lv_at hl 2 rfl) ?_
  refine lv_iload hx hb (xb_d D_Machine_truncate 2 rfl) (lv_at hl 3 rfl) ?_
  refine lv_iload hx hb (xb_d D_Machine_truncate 3 rfl) (lv_at hl 4 rfl) ?_
  obtain ⟨hk1, hw⟩ := hw
  refine xb_call (D := D) (A := A) (σ := σ) (h := h) (d := 4) (mc := 0) (ms := 0) (maxL := 9) (rest := []) (av := [.ref x1, .long x2, .int x4, .int x5]) (fun T hT X => by obtain ⟨cb, r1, r2, r3⟩ := xb_recv (ci := 5) hR rfl hk1 (by decide); exact xt_invV X hx hown (hts _ m_5779b1eb) (hts _ m_7f346871) (hts _ m_15b5aa11) (xt_sigOf (hts _ m_55f37b3c)) nm_Format_trapOfWhole (by rw [hT]; exact r1) r2 r3 (g := F0 m 6 ls [.int x5, .int x4, .long x2, .ref x1]) rfl (argsL := [.long x2, .int x4, .int x5]) (rest := []) rfl rfl (by rw [hb]; exact (xb_d D_Machine_truncate 4 rfl))) (ok_Format_trapOfWhole l hfl D A σ x1 x2 x4 x5 h _ hw) (hml.trans hl.1.symm) (by rw [hb]; exact (xb_d D_Machine_truncate 4 rfl)) (Nat.le_of_ble_eq_true rfl) (Nat.le_of_ble_eq_true rfl) (Nat.le_of_ble_eq_true rfl) (show k + 0 ≤ MC by omega) (show n + 0 ≤ MS by omega) (xt_w1 hB.1 m_55f37b3c) (xt_cdOf hB.1 m_55f37b3c) (hts _ m_64857de5) hB hR hS hA (fun vv h2 H locs hq hEh2 hR hS => ?_) (fun XX ax h2 H locs hq hEh2 hex hR hS => ?_)
  · obtain ⟨r3, rfl, hw⟩ := hq
    have hw := hw hEh2
    have hE := hE.tr hEh2
    refine W.eq (g2 := F0 m 9 ls [.int r3]) rfl ?_
    refine lv_istore hx hb (xb_d D_Machine_truncate 5 rfl) hl (by decide) rfl (fun ls hl => ?_)
    have hl : lv_has ls 9 [(6, .int r3), (0, .ref x0), (1, .ref x1), (2, .long x2), (4, .int x4), (5, .int x5)] := hl
    refine lv_iload hx hb (xb_d D_Machine_truncate 6 rfl) (lv_at hl 0 rfl) ?_
    refine lv_if_eq (tgt := 23) hx hb (xb_d D_Machine_truncate 7 rfl) rfl (fun hc4 => ?_) (fun hc4 => ?_)
    · have hw := hw.1 hc4
      refine lv_aload_n hx hb (xb_d D_Machine_truncate 12 rfl) rfl (lv_at hl 2 rfl) ?_
      refine lv_lload_n hx hb (xb_d D_Machine_truncate 13 rfl) rfl (lv_at hl 3 rfl) ?_
      have hk1 : xb_k h2 x1 = 6 := hEh2.k hk1
      refine xb_call (D := D) (A := A) (σ := σ) (h := h2) (d := 2) (mc := 0) (ms := 0) (maxL := 3) (rest := []) (av := [.ref x1, .long x2]) (fun T hT X => by obtain ⟨cb, r1, r2, r3⟩ := xb_recv (ci := 5) hR rfl hk1 (by decide); exact xt_invV X hx hown (hts _ m_3a4d21d8) (hts _ m_9e016368) (hts _ m_42f2e51b) (xt_sigOf (hts _ m_6ee44111)) nm_Format_isNegative (by rw [hT]; exact r1) r2 r3 (g := F0 m 25 ls [.long x2, .ref x1]) rfl (argsL := [.long x2]) (rest := []) rfl rfl (by rw [hb]; exact (xb_d D_Machine_truncate 14 rfl))) (ok_Format_isNegative l hfl D A σ x1 x2 h2 _ hw) (hml.trans hl.1.symm) (by rw [hb]; exact (xb_d D_Machine_truncate 14 rfl)) (Nat.le_of_ble_eq_true rfl) (Nat.le_of_ble_eq_true rfl) (Nat.le_of_ble_eq_true rfl) (show k + 0 ≤ MC by omega) (show n + 0 ≤ MS by omega) (xt_w1 hB.1 m_6ee44111) (xt_cdOf hB.1 m_6ee44111) (hts _ m_64857de5) hB hR hS hA (fun vv h5 H locs hq hEh5 hR hS => ?_) (fun XX ax h5 H locs hq hEh5 hex hR hS => ?_)
      · obtain ⟨r6, rfl, hw⟩ := hq
        have hw := hw hEh5
        have hE := hE.tr hEh5
        refine W.eq (g2 := F0 m 28 ls [.int r6]) rfl ?_
        refine lv_if_eq (tgt := 40) hx hb (xb_d D_Machine_truncate 15 rfl) rfl (fun hc7 => ?_) (fun hc7 => ?_)
        · have hw := hw.1 hc7
          refine lv_aload_n hx hb (xb_d D_Machine_truncate 21 rfl) rfl (lv_at hl 2 rfl) ?_
          refine lv_lload_n hx hb (xb_d D_Machine_truncate 22 rfl) rfl (lv_at hl 3 rfl) ?_
          have hk1 : xb_k h5 x1 = 6 := hEh5.k hk1
          refine xb_call (D := D) (A := A) (σ := σ) (h := h5) (d := 3) (mc := 0) (ms := 0) (maxL := 9) (rest := []) (av := [.ref x1, .long x2]) (fun T hT X => by obtain ⟨cb, r1, r2, r3⟩ := xb_recv (ci := 5) hR rfl hk1 (by decide); exact xt_invV X hx hown (hts _ m_9ef39c76) (hts _ m_a11ea4dc) (hts _ m_e5b75821) (xt_sigOf (hts _ m_0c5f14ae)) nm_Format_wholePart (by rw [hT]; exact r1) r2 r3 (g := F0 m 42 ls [.long x2, .ref x1]) rfl (argsL := [.long x2]) (rest := []) rfl rfl (by rw [hb]; exact (xb_d D_Machine_truncate 23 rfl))) (ok_Format_wholePart l hfl D A σ x1 x2 h5 _ hw) (hml.trans hl.1.symm) (by rw [hb]; exact (xb_d D_Machine_truncate 23 rfl)) (Nat.le_of_ble_eq_true rfl) (Nat.le_of_ble_eq_true rfl) (Nat.le_of_ble_eq_true rfl) (show k + 0 ≤ MC by omega) (show n + 0 ≤ MS by omega) (xt_w1 hB.1 m_0c5f14ae) (xt_cdOf hB.1 m_0c5f14ae) (hts _ m_64857de5) hB hR hS hA (fun vv h8 H locs hq hEh8 hR hS => ?_) (fun XX ax h8 H locs hq hEh8 hex hR hS => ?_)
          · obtain ⟨r9, rfl, hw⟩ := hq
            have hw := hw hEh8
            have hE := hE.tr hEh8
            refine W.eq (g2 := F0 m 45 ls [.long r9]) rfl ?_
            exact am_Machine_truncate_L45 l hfl D A σ MC MS h0 Qr x0 x4 r9 h8 hw p e s m args below meth c hC H locs ls k n hE (lv_sub hl [1, 4] rfl) hR hS (by omega) (by omega)
          · exact False.elim hq
        · have hw := hw.2 hc7
          refine lv_aload_n hx hb (xb_d D_Machine_truncate 16 rfl) rfl (lv_at hl 2 rfl) ?_
          refine lv_lload_n hx hb (xb_d D_Machine_truncate 17 rfl) rfl (lv_at hl 3 rfl) ?_
          have hk1 : xb_k h5 x1 = 6 := hEh5.k hk1
          refine xb_call (D := D) (A := A) (σ := σ) (h := h5) (d := 3) (mc := 0) (ms := 0) (maxL := 9) (rest := []) (av := [.ref x1, .long x2]) (fun T hT X => by obtain ⟨cb, r1, r2, r3⟩ := xb_recv (ci := 5) hR rfl hk1 (by decide); exact xt_invV X hx hown (hts _ m_9ef39c76) (hts _ m_a11ea4dc) (hts _ m_e5b75821) (xt_sigOf (hts _ m_0c5f14ae)) nm_Format_wholePart (by rw [hT]; exact r1) r2 r3 (g := F0 m 33 ls [.long x2, .ref x1]) rfl (argsL := [.long x2]) (rest := []) rfl rfl (by rw [hb]; exact (xb_d D_Machine_truncate 18 rfl))) (ok_Format_wholePart l hfl D A σ x1 x2 h5 _ hw) (hml.trans hl.1.symm) (by rw [hb]; exact (xb_d D_Machine_truncate 18 rfl)) (Nat.le_of_ble_eq_true rfl) (Nat.le_of_ble_eq_true rfl) (Nat.le_of_ble_eq_true rfl) (show k + 0 ≤ MC by omega) (show n + 0 ≤ MS by omega) (xt_w1 hB.1 m_0c5f14ae) (xt_cdOf hB.1 m_0c5f14ae) (hts _ m_64857de5) hB hR hS hA (fun vv h10 H locs hq hEh10 hR hS => ?_) (fun XX ax h10 H locs hq hEh10 hex hR hS => ?_)
          · obtain ⟨r11, rfl, hw⟩ := hq
            have hw := hw hEh10
            have hE := hE.tr hEh10
            refine W.eq (g2 := F0 m 36 ls [.long r11]) rfl ?_
            refine lv_lneg hx hb (xb_d D_Machine_truncate 19 rfl) ?_
            refine lv_goto (tgt := 45) hx hb (xb_d D_Machine_truncate 20 rfl) rfl ?_
            exact am_Machine_truncate_L45 l hfl D A σ MC MS h0 Qr x0 x4 (-r11) h10 hw p e s m args below meth c hC H locs ls k n hE (lv_sub hl [1, 4] rfl) hR hS (by omega) (by omega)
          · exact False.elim hq
      · exact False.elim hq
    · have hw := hw.2 hc4
      refine lv_aload_n hx hb (xb_d D_Machine_truncate 8 rfl) rfl (lv_at hl 1 rfl) ?_
      refine lv_iload hx hb (xb_d D_Machine_truncate 9 rfl) (lv_at hl 0 rfl) ?_
      obtain ⟨hk12, hw⟩ := hw
      refine xb_call (D := D) (A := A) (σ := σ) (h := h2) (d := 2) (mc := 0) (ms := 0) (maxL := 3) (rest := []) (av := [.ref x0, .int r3]) (fun T hT X => by obtain ⟨cb, r1, r2, r3⟩ := xb_recv (ci := 7) hR rfl hk12 (by decide); exact xt_invV X hx hown (hts _ m_8f5db99d) (hts _ m_0ddc8afe) (hts _ m_f5561462) (xt_sigOf (hts _ m_f0d4fd47)) nm_Machine_fall (by rw [hT]; exact r1) r2 r3 (g := F0 m 19 ls [.int r3, .ref x0]) rfl (argsL := [.int r3]) (rest := []) rfl rfl (by rw [hb]; exact (xb_d D_Machine_truncate 10 rfl))) (ok_Machine_fall l hfl D A σ x0 r3 h2 _ hw) (hml.trans hl.1.symm) (by rw [hb]; exact (xb_d D_Machine_truncate 10 rfl)) (Nat.le_of_ble_eq_true rfl) (Nat.le_of_ble_eq_true rfl) (Nat.le_of_ble_eq_true rfl) (show k + 0 ≤ MC by omega) (show n + 0 ≤ MS by omega) (xt_w1 hB.1 m_f0d4fd47) (xt_cdOf hB.1 m_f0d4fd47) (hts _ m_73451f9b) hB hR hS hA (fun vv h13 H locs hq hEh13 hR hS => ?_) (fun XX ax h13 H locs hq hEh13 hex hR hS => ?_)
      · obtain ⟨rfl, hw⟩ := hq
        have hw := hw hEh13
        have hE := hE.tr hEh13
        refine W.eq (g2 := F0 m 22 ls []) rfl ?_
        exact xb_vret hx hb hr hlocks (show k ≤ MC by omega) (show n ≤ MS by omega) hE hR hS (xb_d D_Machine_truncate 11 rfl) hw
      · exact False.elim hq
  · exact False.elim hq

