theorem m_5610b66b : (.methodLink "StackHost$Machine" 304 y_Format_reckonTwo : Cond) ∈ xt_tbl := xt_in (xt_t8 (List.mem_of_getElem? (i := 105) (by decide +kernel))) (by decide +kernel)
theorem m_e04f8616 : (.instanceMethod y_Format_reckonTwo : Cond) ∈ xt_tbl := xt_in (xt_t8 (List.mem_of_getElem? (i := 106) (by decide +kernel))) (by decide +kernel)
theorem m_16b8250f : (.selects "StackHost$Format" y_Format_reckonTwo y_Format_reckonTwo : Cond) ∈ xt_tbl := xt_in (xt_t8 (List.mem_of_getElem? (i := 107) (by decide +kernel))) (by decide +kernel)
theorem m_f110ac2a : (.code y_Format_reckonTwo b_Format_reckonTwo 6 (some .long) : Cond) ∈ xt_tbl := xt_in (xt_t8 (List.mem_of_getElem? (i := 108) (by decide +kernel))) (by decide +kernel)
theorem m_4d1726a0 : (.methodLink "StackHost$Machine" 301 y_Format_reckonOne : Cond) ∈ xt_tbl := xt_in (xt_t8 (List.mem_of_getElem? (i := 86) (by decide +kernel))) (by decide +kernel)
theorem m_9ee2b80a : (.instanceMethod y_Format_reckonOne : Cond) ∈ xt_tbl := xt_in (xt_t8 (List.mem_of_getElem? (i := 87) (by decide +kernel))) (by decide +kernel)
theorem m_c7f2623d : (.selects "StackHost$Format" y_Format_reckonOne y_Format_reckonOne : Cond) ∈ xt_tbl := xt_in (xt_t8 (List.mem_of_getElem? (i := 88) (by decide +kernel))) (by decide +kernel)
theorem m_eef03726 : (.code y_Format_reckonOne b_Format_reckonOne 4 (some .long) : Cond) ∈ xt_tbl := xt_in (xt_t8 (List.mem_of_getElem? (i := 89) (by decide +kernel))) (by decide +kernel)
theorem nm_Format_reckonTwo : xt_nm y_Format_reckonTwo 3 := ⟨by decide +kernel, by decide +kernel⟩
theorem nm_Format_reckonOne : xt_nm y_Format_reckonOne 2 := ⟨by decide +kernel, by decide +kernel⟩
set_option maxRecDepth 100000 in
def T_Machine_reckonFloating : List (Nat × Instr × Nat) := [(0, .iload_n 1, 1), (1, .sipush 153, 3), (4, .if_icmp .lt 7, 3), (7, .iconst 1, 1), (8, .goto 4, 3), (11, .iconst 0, 1), (12, .istore_n 2, 1), (13, .iload_n 2, 1), (14, .ifCond .eq 10, 3), (17, .aload_n 0, 1), (18, .getfield 24, 3), (21, .goto 7, 3), (24, .aload_n 0, 1), (25, .getfield 16, 3), (28, .astore_n 3, 1), (29, .iload_n 1, 1), (30, .iload_n 2, 1), (31, .ifCond .eq 9, 3), (34, .sipush 153, 3), (37, .goto 6, 3), (40, .sipush 139, 3), (43, .isub, 1), (44, .istore 4, 2), (46, .iload 4, 2), (48, .bipush 7, 2), (50, .if_icmp .ge 34, 3), (53, .aload_n 0, 1), (54, .getfield 35, 3), (57, .aload_n 0, 1), (58, .getfield 53, 3), (61, .iconst 1, 1), (62, .isub, 1), (63, .aload_n 3, 1), (64, .iload 4, 2), (66, .aload_n 0, 1), (67, .getfield 35, 3), (70, .aload_n 0, 1), (71, .getfield 53, 3), (74, .iconst 1, 1), (75, .isub, 1), (76, .laload, 1), (77, .invokevirtual 301, 3), (80, .lastore, 1), (81, .goto 53, 3), (84, .aload_n 0, 1), (85, .dup, 1), (86, .getfield 53, 3), (89, .iconst 1, 1), (90, .isub, 1), (91, .putfield 53, 3), (94, .aload_n 0, 1), (95, .getfield 35, 3), (98, .aload_n 0, 1), (99, .getfield 53, 3), (102, .iconst 1, 1), (103, .isub, 1), (104, .aload_n 3, 1), (105, .iload 4, 2), (107, .bipush 7, 2), (109, .isub, 1), (110, .aload_n 0, 1), (111, .getfield 35, 3), (114, .aload_n 0, 1), (115, .getfield 53, 3), (118, .iconst 1, 1), (119, .isub, 1), (120, .laload, 1), (121, .aload_n 0, 1), (122, .getfield 35, 3), (125, .aload_n 0, 1), (126, .getfield 53, 3), (129, .laload, 1), (130, .invokevirtual 304, 3), (133, .lastore, 1), (134, .return_, 1)]
theorem D_Machine_reckonFloating : ∀ q ∈ T_Machine_reckonFloating, decode b_Machine_reckonFloating q.1 = .ok (q.2.1, q.2.2) := by decide +kernel

set_option maxHeartbeats 4000000 in
set_option maxRecDepth 100000 in
theorem am_Machine_reckonFloating_L134 (l : Launch) (hfl : l.flags = pinnedFlags ++ [noTraceFlag]) (D : va_G) (A : Nat → Prop) (σ MC MS : Nat) (h0 : xb_H) (Qr : xb_H → Prop) (h : xb_H) (hw : w_Machine_reckonFloating_L134 Qr h) : xb_am l D A σ 6 MC MS h0 (fun v h _ _ => v = none ∧ Qr h) (fun _ _ _ _ => False) y_Machine_reckonFloating.cls y_Machine_reckonFloating.name b_Machine_reckonFloating 5 ([] : List ExceptionTableEntry) none 134 [] [] h 0 0 := by
  unfold w_Machine_reckonFloating_L134 at hw
  intro p e s m args below meth c hC H locs ls k n hE hl hR hS hk hn
  obtain ⟨hx, hb, hown, hlocks, htab, hml, hr, hB, hA, hnm⟩ := id hC
  have hts := hB.1.1.at args
  exact xb_vret 0 0 hx hb hr hlocks (show k + 0 ≤ MC by omega) (show n + 0 ≤ MS by omega) hE hR hS (xb_d D_Machine_reckonFloating 74 rfl) hw

set_option maxHeartbeats 4000000 in
set_option maxRecDepth 100000 in
theorem am_Machine_reckonFloating_L43 (l : Launch) (hfl : l.flags = pinnedFlags ++ [noTraceFlag]) (D : va_G) (A : Nat → Prop) (σ MC MS : Nat) (h0 : xb_H) (Qr : xb_H → Prop) (x0 : Nat) (x3 : Nat) (y0 : Int32) (y1 : Int32) (h : xb_H) (hw : w_Machine_reckonFloating_L43 Qr x0 x3 y0 y1 h) : xb_am l D A σ 6 MC MS h0 (fun v h _ _ => v = none ∧ Qr h) (fun _ _ _ _ => False) y_Machine_reckonFloating.cls y_Machine_reckonFloating.name b_Machine_reckonFloating 5 ([] : List ExceptionTableEntry) none 43 [(0, .ref x0), (3, .ref x3)] [.int y0, .int y1] h 0 0 := by
  unfold w_Machine_reckonFloating_L43 at hw
  intro p e s m args below meth c hC H locs ls k n hE hl hR hS hk hn
  obtain ⟨hx, hb, hown, hlocks, htab, hml, hr, hB, hA, hnm⟩ := id hC
  have hts := hB.1.1.at args
  refine lv_isub hx hb (xb_d D_Machine_reckonFloating 21 rfl) ?_
  obtain ⟨v1, ev1⟩ : ∃ x : Int32, x = (y1 - y0) := ⟨_, rfl⟩
  have hw := hw v1 ev1
  refine xt_numi (y := v1) ev1.symm ?_
  refine lv_istore hx hb (xb_d D_Machine_reckonFloating 22 rfl) hl (by decide) rfl (fun ls hl => ?_)
  have hl : lv_has ls 5 [(4, .int v1), (0, .ref x0), (3, .ref x3)] := hl
  refine lv_iload hx hb (xb_d D_Machine_reckonFloating 23 rfl) (lv_at hl 0 rfl) ?_
  refine lv_bipush (v := 7) hx hb (xb_d D_Machine_reckonFloating 24 rfl) (by decide) ?_
  refine lv_icmp_ge (tgt := 84) hx hb (xb_d D_Machine_reckonFloating 25 rfl) rfl (fun hc2 => ?_) (fun hc2 => ?_)
  · have hw := hw.1 hc2
    refine lv_aload_n hx hb (xb_d D_Machine_reckonFloating 44 rfl) rfl (lv_at hl 1 rfl) ?_
    refine lv_dup hx hb (xb_d D_Machine_reckonFloating 45 rfl) rfl ?_
    obtain ⟨hk3, hw⟩ := hw
    refine xb_getI (C := R_Machine) (T := F_Machine) (N := 18) hx hb 7 10 hts fin_Machine hown hR hk3 (by decide) rfl (by decide) rfl (hts _ m_79cf62f6) (fun _ h9 => h9) (xb_d D_Machine_reckonFloating 46 rfl) ?_
    refine lv_iconst (v := 1) hx hb (xb_d D_Machine_reckonFloating 47 rfl) (by decide) ?_
    refine lv_isub hx hb (xb_d D_Machine_reckonFloating 48 rfl) ?_
    refine xb_putI (C := R_Machine) (T := F_Machine) (N := 18) (ty := .int) (x := ((xb_i h x0 10) - 1)) hx hb 7 10 hts fin_Machine t_Machine t_Machine_ok n_Machine hown hR hS hk3 (by decide) rfl (by decide) rfl (hts _ m_79cf62f6) (fun _ h9 => h9) rfl (by decide +kernel) rfl rfl (xb_d D_Machine_reckonFloating 49 rfl) (fun H locs hR hS => ?_)
    obtain ⟨h4, eh4⟩ : ∃ x : xb_H, x = xb_I h x0 10 ((xb_i h x0 10) - 1) := ⟨_, rfl⟩
    rw [← eh4] at hR
    have hw := hw h4 eh4
    have hE : xb_ext h0 h4 := by rw [eh4]; exact hE
    refine lv_aload_n hx hb (xb_d D_Machine_reckonFloating 50 rfl) rfl (lv_at hl 1 rfl) ?_
    have hk3 : xb_k h4 x0 = 8 := by rw [eh4]; exact hk3
    refine xb_getP (C := R_Machine) (T := F_Machine) (N := 18) hx hb 7 9 hts fin_Machine hown hR hk3 (by decide) rfl (by decide) rfl (hts _ m_6904195b) (fun _ h9 => h9) (xb_d D_Machine_reckonFloating 51 rfl) ?_
    obtain ⟨b5, eb5, hw⟩ := hw
    refine xb_some eb5 ?_
    refine lv_aload_n hx hb (xb_d D_Machine_reckonFloating 52 rfl) rfl (lv_at hl 1 rfl) ?_
    refine xb_getI (C := R_Machine) (T := F_Machine) (N := 18) hx hb 7 10 hts fin_Machine hown hR hk3 (by decide) rfl (by decide) rfl (hts _ m_79cf62f6) (fun _ h9 => h9) (xb_d D_Machine_reckonFloating 53 rfl) ?_
    refine lv_iconst (v := 1) hx hb (xb_d D_Machine_reckonFloating 54 rfl) (by decide) ?_
    refine lv_isub hx hb (xb_d D_Machine_reckonFloating 55 rfl) ?_
    refine lv_aload_n hx hb (xb_d D_Machine_reckonFloating 56 rfl) rfl (lv_at hl 2 rfl) ?_
    refine lv_iload hx hb (xb_d D_Machine_reckonFloating 57 rfl) (lv_at hl 0 rfl) ?_
    refine lv_bipush (v := 7) hx hb (xb_d D_Machine_reckonFloating 58 rfl) (by decide) ?_
    refine lv_isub hx hb (xb_d D_Machine_reckonFloating 59 rfl) ?_
    refine lv_aload_n hx hb (xb_d D_Machine_reckonFloating 60 rfl) rfl (lv_at hl 1 rfl) ?_
    refine xb_getP (C := R_Machine) (T := F_Machine) (N := 18) hx hb 7 9 hts fin_Machine hown hR hk3 (by decide) rfl (by decide) rfl (hts _ m_6904195b) (fun _ h9 => h9) (xb_d D_Machine_reckonFloating 61 rfl) ?_
    obtain ⟨b6, eb6, hw⟩ := hw
    refine xb_some eb6 ?_
    refine lv_aload_n hx hb (xb_d D_Machine_reckonFloating 62 rfl) rfl (lv_at hl 1 rfl) ?_
    refine xb_getI (C := R_Machine) (T := F_Machine) (N := 18) hx hb 7 10 hts fin_Machine hown hR hk3 (by decide) rfl (by decide) rfl (hts _ m_79cf62f6) (fun _ h9 => h9) (xb_d D_Machine_reckonFloating 63 rfl) ?_
    refine lv_iconst (v := 1) hx hb (xb_d D_Machine_reckonFloating 64 rfl) (by decide) ?_
    refine lv_isub hx hb (xb_d D_Machine_reckonFloating 65 rfl) ?_
    obtain ⟨hk8, hw⟩ := hw
    obtain ⟨hi7, hw⟩ := hw
    refine xb_lald hx hb hR hk8 hi7 (xb_d D_Machine_reckonFloating 66 rfl) ?_
    refine lv_aload_n hx hb (xb_d D_Machine_reckonFloating 67 rfl) rfl (lv_at hl 1 rfl) ?_
    refine xb_getP (C := R_Machine) (T := F_Machine) (N := 18) hx hb 7 9 hts fin_Machine hown hR hk3 (by decide) rfl (by decide) rfl (hts _ m_6904195b) (fun _ h9 => h9) (xb_d D_Machine_reckonFloating 68 rfl) ?_
    obtain ⟨b9, eb9, hw⟩ := hw
    refine xb_some eb9 ?_
    refine lv_aload_n hx hb (xb_d D_Machine_reckonFloating 69 rfl) rfl (lv_at hl 1 rfl) ?_
    refine xb_getI (C := R_Machine) (T := F_Machine) (N := 18) hx hb 7 10 hts fin_Machine hown hR hk3 (by decide) rfl (by decide) rfl (hts _ m_79cf62f6) (fun _ h9 => h9) (xb_d D_Machine_reckonFloating 70 rfl) ?_
    obtain ⟨hk11, hw⟩ := hw
    obtain ⟨hi10, hw⟩ := hw
    refine xb_lald hx hb hR hk11 hi10 (xb_d D_Machine_reckonFloating 71 rfl) ?_
    obtain ⟨hk12, hw⟩ := hw
    refine xb_call0 (D := D) (A := A) (σ := σ) (h := h4) (d := 5) (maxL := 6) (rest := [.int ((xb_i h4 x0 10) - 1), .ref b5]) (av := [.ref x3, .int (v1 - 7), .long (xb_l h4 b6 (Int32.toNatClampNeg ((xb_i h4 x0 10) - 1))), .long (xb_l h4 b9 (Int32.toNatClampNeg (xb_i h4 x0 10)))]) (fun T hT X => by obtain ⟨cb9, ra9, rb9, rc9⟩ := xb_recv (ci := 5) hR rfl hk12 (by decide); exact xt_invV X hx hown (hts _ m_5610b66b) (hts _ m_e04f8616) (hts _ m_16b8250f) (xt_sigOf (hts _ m_f110ac2a)) nm_Format_reckonTwo (by rw [hT]; exact ra9) rb9 rc9 (g := F0 m 130 ls [.long (xb_l h4 b9 (Int32.toNatClampNeg (xb_i h4 x0 10))), .long (xb_l h4 b6 (Int32.toNatClampNeg ((xb_i h4 x0 10) - 1))), .int (v1 - 7), .ref x3, .int ((xb_i h4 x0 10) - 1), .ref b5]) rfl (argsL := [.int (v1 - 7), .long (xb_l h4 b6 (Int32.toNatClampNeg ((xb_i h4 x0 10) - 1))), .long (xb_l h4 b9 (Int32.toNatClampNeg (xb_i h4 x0 10)))]) (rest := [.int ((xb_i h4 x0 10) - 1), .ref b5]) rfl rfl (by rw [hb]; exact (xb_d D_Machine_reckonFloating 72 rfl))) (ok_Format_reckonTwo l hfl D A σ x3 (v1 - 7) (xb_l h4 b6 (Int32.toNatClampNeg ((xb_i h4 x0 10) - 1))) (xb_l h4 b9 (Int32.toNatClampNeg (xb_i h4 x0 10))) h4 _ hw) (hml.trans hl.1.symm) (by rw [hb]; exact (xb_d D_Machine_reckonFloating 72 rfl)) (Nat.le_of_ble_eq_true rfl) (Nat.le_of_ble_eq_true rfl) (Nat.le_of_ble_eq_true rfl) (show k ≤ MC by omega) (show n ≤ MS by omega) (xt_w1 hB.1 m_f110ac2a) (xt_cdOf hB.1 m_f110ac2a) (hts _ m_64857de5) hB hR hS hA (fun vv h13 H locs hq hEh13 hR hS => ?_)
    obtain ⟨r14, rfl, hw⟩ := hq
    have hw := hw hEh13
    have hE := hE.tr hEh13
    refine W.eq (g2 := F0 m 133 ls [.long r14, .int ((xb_i h4 x0 10) - 1), .ref b5]) rfl ?_
    obtain ⟨hk15, hw⟩ := hw
    obtain ⟨hi16, hw⟩ := hw
    refine xb_last hx hb hR hS hk15 hi16 (xb_d D_Machine_reckonFloating 73 rfl) (fun H locs hR hS => ?_)
    obtain ⟨h17, eh17⟩ : ∃ x : xb_H, x = xb_L h13 b5 (Int32.toNatClampNeg ((xb_i h4 x0 10) - 1)) r14 := ⟨_, rfl⟩
    rw [← eh17] at hR
    have hw := hw h17 eh17
    have hE : xb_ext h0 h17 := by rw [eh17]; exact hE
    exact am_Machine_reckonFloating_L134 l hfl D A σ MC MS h0 Qr h17 hw p e s m args below meth c hC H locs ls k n hE (lv_sub hl [] rfl) hR hS (by omega) (by omega)
  · have hw := hw.2 hc2
    refine lv_aload_n hx hb (xb_d D_Machine_reckonFloating 26 rfl) rfl (lv_at hl 1 rfl) ?_
    obtain ⟨hk18, hw⟩ := hw
    refine xb_getP (C := R_Machine) (T := F_Machine) (N := 18) hx hb 7 9 hts fin_Machine hown hR hk18 (by decide) rfl (by decide) rfl (hts _ m_6904195b) (fun _ h9 => h9) (xb_d D_Machine_reckonFloating 27 rfl) ?_
    obtain ⟨b19, eb19, hw⟩ := hw
    refine xb_some eb19 ?_
    refine lv_aload_n hx hb (xb_d D_Machine_reckonFloating 28 rfl) rfl (lv_at hl 1 rfl) ?_
    refine xb_getI (C := R_Machine) (T := F_Machine) (N := 18) hx hb 7 10 hts fin_Machine hown hR hk18 (by decide) rfl (by decide) rfl (hts _ m_79cf62f6) (fun _ h9 => h9) (xb_d D_Machine_reckonFloating 29 rfl) ?_
    refine lv_iconst (v := 1) hx hb (xb_d D_Machine_reckonFloating 30 rfl) (by decide) ?_
    refine lv_isub hx hb (xb_d D_Machine_reckonFloating 31 rfl) ?_
    refine lv_aload_n hx hb (xb_d D_Machine_reckonFloating 32 rfl) rfl (lv_at hl 2 rfl) ?_
    refine lv_iload hx hb (xb_d D_Machine_reckonFloating 33 rfl) (lv_at hl 0 rfl) ?_
    refine lv_aload_n hx hb (xb_d D_Machine_reckonFloating 34 rfl) rfl (lv_at hl 1 rfl) ?_
    refine xb_getP (C := R_Machine) (T := F_Machine) (N := 18) hx hb 7 9 hts fin_Machine hown hR hk18 (by decide) rfl (by decide) rfl (hts _ m_6904195b) (fun _ h9 => h9) (xb_d D_Machine_reckonFloating 35 rfl) ?_
    obtain ⟨b20, eb20, hw⟩ := hw
    refine xb_some eb20 ?_
    refine lv_aload_n hx hb (xb_d D_Machine_reckonFloating 36 rfl) rfl (lv_at hl 1 rfl) ?_
    refine xb_getI (C := R_Machine) (T := F_Machine) (N := 18) hx hb 7 10 hts fin_Machine hown hR hk18 (by decide) rfl (by decide) rfl (hts _ m_79cf62f6) (fun _ h9 => h9) (xb_d D_Machine_reckonFloating 37 rfl) ?_
    refine lv_iconst (v := 1) hx hb (xb_d D_Machine_reckonFloating 38 rfl) (by decide) ?_
    refine lv_isub hx hb (xb_d D_Machine_reckonFloating 39 rfl) ?_
    obtain ⟨hk22, hw⟩ := hw
    obtain ⟨hi21, hw⟩ := hw
    refine xb_lald hx hb hR hk22 hi21 (xb_d D_Machine_reckonFloating 40 rfl) ?_
    obtain ⟨hk23, hw⟩ := hw
    refine xb_call0 (D := D) (A := A) (σ := σ) (h := h) (d := 5) (maxL := 4) (rest := [.int ((xb_i h x0 10) - 1), .ref b19]) (av := [.ref x3, .int v1, .long (xb_l h b20 (Int32.toNatClampNeg ((xb_i h x0 10) - 1)))]) (fun T hT X => by obtain ⟨cb9, ra9, rb9, rc9⟩ := xb_recv (ci := 5) hR rfl hk23 (by decide); exact xt_invV X hx hown (hts _ m_4d1726a0) (hts _ m_9ee2b80a) (hts _ m_c7f2623d) (xt_sigOf (hts _ m_eef03726)) nm_Format_reckonOne (by rw [hT]; exact ra9) rb9 rc9 (g := F0 m 77 ls [.long (xb_l h b20 (Int32.toNatClampNeg ((xb_i h x0 10) - 1))), .int v1, .ref x3, .int ((xb_i h x0 10) - 1), .ref b19]) rfl (argsL := [.int v1, .long (xb_l h b20 (Int32.toNatClampNeg ((xb_i h x0 10) - 1)))]) (rest := [.int ((xb_i h x0 10) - 1), .ref b19]) rfl rfl (by rw [hb]; exact (xb_d D_Machine_reckonFloating 41 rfl))) (ok_Format_reckonOne l hfl D A σ x3 v1 (xb_l h b20 (Int32.toNatClampNeg ((xb_i h x0 10) - 1))) h _ hw) (hml.trans hl.1.symm) (by rw [hb]; exact (xb_d D_Machine_reckonFloating 41 rfl)) (Nat.le_of_ble_eq_true rfl) (Nat.le_of_ble_eq_true rfl) (Nat.le_of_ble_eq_true rfl) (show k ≤ MC by omega) (show n ≤ MS by omega) (xt_w1 hB.1 m_eef03726) (xt_cdOf hB.1 m_eef03726) (hts _ m_64857de5) hB hR hS hA (fun vv h24 H locs hq hEh24 hR hS => ?_)
    obtain ⟨r25, rfl, hw⟩ := hq
    have hw := hw hEh24
    have hE := hE.tr hEh24
    refine W.eq (g2 := F0 m 80 ls [.long r25, .int ((xb_i h x0 10) - 1), .ref b19]) rfl ?_
    obtain ⟨hk26, hw⟩ := hw
    obtain ⟨hi27, hw⟩ := hw
    refine xb_last hx hb hR hS hk26 hi27 (xb_d D_Machine_reckonFloating 42 rfl) (fun H locs hR hS => ?_)
    obtain ⟨h28, eh28⟩ : ∃ x : xb_H, x = xb_L h24 b19 (Int32.toNatClampNeg ((xb_i h x0 10) - 1)) r25 := ⟨_, rfl⟩
    rw [← eh28] at hR
    have hw := hw h28 eh28
    have hE : xb_ext h0 h28 := by rw [eh28]; exact hE
    refine lv_goto (tgt := 134) hx hb (xb_d D_Machine_reckonFloating 43 rfl) rfl ?_
    exact am_Machine_reckonFloating_L134 l hfl D A σ MC MS h0 Qr h28 hw p e s m args below meth c hC H locs ls k n hE (lv_sub hl [] rfl) hR hS (by omega) (by omega)

set_option maxHeartbeats 4000000 in
set_option maxRecDepth 100000 in
theorem am_Machine_reckonFloating_L28 (l : Launch) (hfl : l.flags = pinnedFlags ++ [noTraceFlag]) (D : va_G) (A : Nat → Prop) (σ MC MS : Nat) (h0 : xb_H) (Qr : xb_H → Prop) (x0 : Nat) (x1 : Int32) (x2 : Int32) (y0 : Nat) (h : xb_H) (hw : w_Machine_reckonFloating_L28 Qr x0 x1 x2 y0 h) : xb_am l D A σ 6 MC MS h0 (fun v h _ _ => v = none ∧ Qr h) (fun _ _ _ _ => False) y_Machine_reckonFloating.cls y_Machine_reckonFloating.name b_Machine_reckonFloating 5 ([] : List ExceptionTableEntry) none 28 [(0, .ref x0), (1, .int x1), (2, .int x2)] [.ref y0] h 0 0 := by
  unfold w_Machine_reckonFloating_L28 at hw
  intro p e s m args below meth c hC H locs ls k n hE hl hR hS hk hn
  obtain ⟨hx, hb, hown, hlocks, htab, hml, hr, hB, hA, hnm⟩ := id hC
  have hts := hB.1.1.at args
  refine lv_astore_n hx hb (xb_d D_Machine_reckonFloating 14 rfl) rfl hl (by decide) rfl (fun ls hl => ?_)
  have hl : lv_has ls 5 [(3, .ref y0), (0, .ref x0), (1, .int x1), (2, .int x2)] := hl
  refine lv_iload_n hx hb (xb_d D_Machine_reckonFloating 15 rfl) rfl (lv_at hl 2 rfl) ?_
  refine lv_iload_n hx hb (xb_d D_Machine_reckonFloating 16 rfl) rfl (lv_at hl 3 rfl) ?_
  refine lv_if_eq (tgt := 40) hx hb (xb_d D_Machine_reckonFloating 17 rfl) rfl (fun hc1 => ?_) (fun hc1 => ?_)
  · have hw := hw.1 hc1
    refine lv_sipush (v := 139) hx hb (xb_d D_Machine_reckonFloating 20 rfl) (by decide) ?_
    exact am_Machine_reckonFloating_L43 l hfl D A σ MC MS h0 Qr x0 y0 139 x1 h hw p e s m args below meth c hC H locs ls k n hE (lv_sub hl [1, 0] rfl) hR hS (by omega) (by omega)
  · have hw := hw.2 hc1
    refine lv_sipush (v := 153) hx hb (xb_d D_Machine_reckonFloating 18 rfl) (by decide) ?_
    refine lv_goto (tgt := 43) hx hb (xb_d D_Machine_reckonFloating 19 rfl) rfl ?_
    exact am_Machine_reckonFloating_L43 l hfl D A σ MC MS h0 Qr x0 y0 153 x1 h hw p e s m args below meth c hC H locs ls k n hE (lv_sub hl [1, 0] rfl) hR hS (by omega) (by omega)

set_option maxHeartbeats 4000000 in
set_option maxRecDepth 100000 in
theorem am_Machine_reckonFloating_L12 (l : Launch) (hfl : l.flags = pinnedFlags ++ [noTraceFlag]) (D : va_G) (A : Nat → Prop) (σ MC MS : Nat) (h0 : xb_H) (Qr : xb_H → Prop) (x0 : Nat) (x1 : Int32) (y0 : Int32) (h : xb_H) (hw : w_Machine_reckonFloating_L12 Qr x0 x1 y0 h) : xb_am l D A σ 6 MC MS h0 (fun v h _ _ => v = none ∧ Qr h) (fun _ _ _ _ => False) y_Machine_reckonFloating.cls y_Machine_reckonFloating.name b_Machine_reckonFloating 5 ([] : List ExceptionTableEntry) none 12 [(0, .ref x0), (1, .int x1)] [.int y0] h 0 0 := by
  unfold w_Machine_reckonFloating_L12 at hw
  intro p e s m args below meth c hC H locs ls k n hE hl hR hS hk hn
  obtain ⟨hx, hb, hown, hlocks, htab, hml, hr, hB, hA, hnm⟩ := id hC
  have hts := hB.1.1.at args
  refine lv_istore_n hx hb (xb_d D_Machine_reckonFloating 6 rfl) rfl hl (by decide) rfl (fun ls hl => ?_)
  have hl : lv_has ls 5 [(2, .int y0), (0, .ref x0), (1, .int x1)] := hl
  refine lv_iload_n hx hb (xb_d D_Machine_reckonFloating 7 rfl) rfl (lv_at hl 0 rfl) ?_
  refine lv_if_eq (tgt := 24) hx hb (xb_d D_Machine_reckonFloating 8 rfl) rfl (fun hc1 => ?_) (fun hc1 => ?_)
  · have hw := hw.1 hc1
    refine lv_aload_n hx hb (xb_d D_Machine_reckonFloating 12 rfl) rfl (lv_at hl 1 rfl) ?_
    obtain ⟨hk2, hw⟩ := hw
    refine xb_getP (C := R_Machine) (T := F_Machine) (N := 18) hx hb 7 1 hts fin_Machine hown hR hk2 (by decide) rfl (by decide) rfl (hts _ m_ae64f9ca) (fun _ h9 => h9) (xb_d D_Machine_reckonFloating 13 rfl) ?_
    obtain ⟨b3, eb3, hw⟩ := hw
    refine xb_some eb3 ?_
    exact am_Machine_reckonFloating_L28 l hfl D A σ MC MS h0 Qr x0 x1 y0 b3 h hw p e s m args below meth c hC H locs ls k n hE (lv_sub hl [1, 2, 0] rfl) hR hS (by omega) (by omega)
  · have hw := hw.2 hc1
    refine lv_aload_n hx hb (xb_d D_Machine_reckonFloating 9 rfl) rfl (lv_at hl 1 rfl) ?_
    obtain ⟨hk4, hw⟩ := hw
    refine xb_getP (C := R_Machine) (T := F_Machine) (N := 18) hx hb 7 2 hts fin_Machine hown hR hk4 (by decide) rfl (by decide) rfl (hts _ m_ba1eb42f) (fun _ h9 => h9) (xb_d D_Machine_reckonFloating 10 rfl) ?_
    obtain ⟨b5, eb5, hw⟩ := hw
    refine xb_some eb5 ?_
    refine lv_goto (tgt := 28) hx hb (xb_d D_Machine_reckonFloating 11 rfl) rfl ?_
    exact am_Machine_reckonFloating_L28 l hfl D A σ MC MS h0 Qr x0 x1 y0 b5 h hw p e s m args below meth c hC H locs ls k n hE (lv_sub hl [1, 2, 0] rfl) hR hS (by omega) (by omega)

set_option maxHeartbeats 4000000 in
set_option maxRecDepth 100000 in
theorem ok_Machine_reckonFloating (l : Launch) (hfl : l.flags = pinnedFlags ++ [noTraceFlag]) (D : va_G) (A : Nat → Prop) (σ : Nat) (x0 : Nat) (x1 : Int32) (h : xb_H) (Qr : xb_H → Prop) (hw : w_Machine_reckonFloating x0 x1 h Qr) : xb_Met l y_Machine_reckonFloating [.code y_Machine_reckonFloating b_Machine_reckonFloating 5 none] (xb_rm 6 0 0) (xb_Pc D A σ h [.ref x0, .int x1]) (xb_Qc D A h 0 0 (fun v h _ _ => v = none ∧ Qr h) (fun _ _ _ _ => False)) A := by
  refine xb_ofAm (cc := b_Machine_reckonFloating) (by decide) (Nat.le_of_ble_eq_true rfl) ?_
  unfold w_Machine_reckonFloating at hw
  show xb_am l D A σ 6 0 0 h (fun v h _ _ => v = none ∧ Qr h) (fun _ _ _ _ => False) y_Machine_reckonFloating.cls y_Machine_reckonFloating.name b_Machine_reckonFloating 5 ([] : List ExceptionTableEntry) none 0 [(0, .ref x0), (1, .int x1)] [] h 0 0
  obtain ⟨MC, hMC⟩ : ∃ x, x = 0 := ⟨_, rfl⟩
  obtain ⟨MS, hMS⟩ : ∃ x, x = 0 := ⟨_, rfl⟩
  rw [show xb_am l D A σ 6 0 0 = xb_am l D A σ 6 MC MS by rw [hMC, hMS]]
  obtain ⟨h0, hh0⟩ : ∃ x, x = h := ⟨_, rfl⟩
  rw [show xb_am l D A σ 6 MC MS h = xb_am l D A σ 6 MC MS h0 by rw [hh0]]
  intro p e s m args below meth c hC H locs ls k n hE hl hR hS hk hn
  obtain ⟨hx, hb, hown, hlocks, htab, hml, hr, hB, hA, hnm⟩ := id hC
  have hts := hB.1.1.at args
  refine lv_iload_n hx hb (xb_d D_Machine_reckonFloating 0 rfl) rfl (lv_at hl 1 rfl) ?_
  refine lv_sipush (v := 153) hx hb (xb_d D_Machine_reckonFloating 1 rfl) (by decide) ?_
  refine lv_icmp_lt (tgt := 11) hx hb (xb_d D_Machine_reckonFloating 2 rfl) rfl (fun hc1 => ?_) (fun hc1 => ?_)
  · have hw := hw.1 hc1
    refine lv_iconst (v := 0) hx hb (xb_d D_Machine_reckonFloating 5 rfl) (by decide) ?_
    exact am_Machine_reckonFloating_L12 l hfl D A σ MC MS h0 Qr x0 x1 0 h hw p e s m args below meth c hC H locs ls k n hE (lv_sub hl [0, 1] rfl) hR hS (by omega) (by omega)
  · have hw := hw.2 hc1
    refine lv_iconst (v := 1) hx hb (xb_d D_Machine_reckonFloating 3 rfl) (by decide) ?_
    refine lv_goto (tgt := 12) hx hb (xb_d D_Machine_reckonFloating 4 rfl) rfl ?_
    exact am_Machine_reckonFloating_L12 l hfl D A σ MC MS h0 Qr x0 x1 1 h hw p e s m args below meth c hC H locs ls k n hE (lv_sub hl [0, 1] rfl) hR hS (by omega) (by omega)

theorem m_70762adc : (.methodLink "StackHost$Machine" 298 y_Machine_reckonLong : Cond) ∈ xt_tbl := xt_in (xt_t8 (List.mem_of_getElem? (i := 188) (by decide +kernel))) (by decide +kernel)
theorem m_c764cec6 : (.instanceMethod y_Machine_reckonLong : Cond) ∈ xt_tbl := xt_in (xt_t8 (List.mem_of_getElem? (i := 190) (by decide +kernel))) (by decide +kernel)
theorem m_6bf99063 : (.selects "StackHost$Machine" y_Machine_reckonLong y_Machine_reckonLong : Cond) ∈ xt_tbl := xt_in (xt_v8 (q := (⟨"StackHost$Machine", "reckonLong", "(I)V"⟩, 18)) (List.mem_of_getElem? (i := 7) (by decide +kernel))) (by decide +kernel)
theorem m_d1cda5f1 : (.code y_Machine_reckonLong b_Machine_reckonLong 8 none : Cond) ∈ xt_tbl := xt_in (xt_t8 (List.mem_of_getElem? (i := 191) (by decide +kernel))) (by decide +kernel)
theorem m_9cdb1e1f : (.methodLink "StackHost$Machine" 295 y_Machine_reckonShort : Cond) ∈ xt_tbl := xt_in (xt_t8 (List.mem_of_getElem? (i := 163) (by decide +kernel))) (by decide +kernel)
theorem m_b63c993f : (.instanceMethod y_Machine_reckonShort : Cond) ∈ xt_tbl := xt_in (xt_t8 (List.mem_of_getElem? (i := 165) (by decide +kernel))) (by decide +kernel)
theorem m_a8dc9191 : (.selects "StackHost$Machine" y_Machine_reckonShort y_Machine_reckonShort : Cond) ∈ xt_tbl := xt_in (xt_v8 (q := (⟨"StackHost$Machine", "reckonShort", "(I)V"⟩, 18)) (List.mem_of_getElem? (i := 6) (by decide +kernel))) (by decide +kernel)
theorem m_72b93e58 : (.code y_Machine_reckonShort b_Machine_reckonShort 6 none : Cond) ∈ xt_tbl := xt_in (xt_t8 (List.mem_of_getElem? (i := 166) (by decide +kernel))) (by decide +kernel)
theorem m_32e64923 : (.methodLink "StackHost$Machine" 292 y_Machine_compare : Cond) ∈ xt_tbl := xt_in (xt_t8 (List.mem_of_getElem? (i := 148) (by decide +kernel))) (by decide +kernel)
theorem m_ebb28528 : (.instanceMethod y_Machine_compare : Cond) ∈ xt_tbl := xt_in (xt_t8 (List.mem_of_getElem? (i := 150) (by decide +kernel))) (by decide +kernel)
theorem m_2b4b7dab : (.selects "StackHost$Machine" y_Machine_compare y_Machine_compare : Cond) ∈ xt_tbl := xt_in (xt_v8 (q := (⟨"StackHost$Machine", "compare", "(I)V"⟩, 18)) (List.mem_of_getElem? (i := 5) (by decide +kernel))) (by decide +kernel)
theorem m_5e8846bd : (.code y_Machine_compare b_Machine_compare 7 none : Cond) ∈ xt_tbl := xt_in (xt_t8 (List.mem_of_getElem? (i := 151) (by decide +kernel))) (by decide +kernel)
theorem nm_Machine_reckonLong : xt_nm y_Machine_reckonLong 1 := ⟨by decide +kernel, by decide +kernel⟩
theorem nm_Machine_reckonShort : xt_nm y_Machine_reckonShort 1 := ⟨by decide +kernel, by decide +kernel⟩
theorem nm_Machine_compare : xt_nm y_Machine_compare 1 := ⟨by decide +kernel, by decide +kernel⟩
set_option maxRecDepth 100000 in
def T_Machine_reckonWhole : List (Nat × Instr × Nat) := [(0, .iload_n 1, 1), (1, .bipush 102, 2), (3, .if_icmp .gt 11, 3), (6, .aload_n 0, 1), (7, .iload_n 1, 1), (8, .invokevirtual 292, 3), (11, .goto 22, 3), (14, .iload_n 1, 1), (15, .bipush 120, 2), (17, .if_icmp .gt 11, 3), (20, .aload_n 0, 1), (21, .iload_n 1, 1), (22, .invokevirtual 295, 3), (25, .goto 8, 3), (28, .aload_n 0, 1), (29, .iload_n 1, 1), (30, .invokevirtual 298, 3), (33, .return_, 1)]
theorem D_Machine_reckonWhole : ∀ q ∈ T_Machine_reckonWhole, decode b_Machine_reckonWhole q.1 = .ok (q.2.1, q.2.2) := by decide +kernel

set_option maxHeartbeats 4000000 in
set_option maxRecDepth 100000 in
theorem am_Machine_reckonWhole_L33 (l : Launch) (hfl : l.flags = pinnedFlags ++ [noTraceFlag]) (D : va_G) (A : Nat → Prop) (σ MC MS : Nat) (h0 : xb_H) (Qr : xb_H → Prop) (h : xb_H) (hw : w_Machine_reckonWhole_L33 Qr h) : xb_am l D A σ 6 MC MS h0 (fun v h _ _ => v = none ∧ Qr h) (fun _ _ _ _ => False) y_Machine_reckonWhole.cls y_Machine_reckonWhole.name b_Machine_reckonWhole 2 ([] : List ExceptionTableEntry) none 33 [] [] h 0 0 := by
  unfold w_Machine_reckonWhole_L33 at hw
  intro p e s m args below meth c hC H locs ls k n hE hl hR hS hk hn
  obtain ⟨hx, hb, hown, hlocks, htab, hml, hr, hB, hA, hnm⟩ := id hC
  have hts := hB.1.1.at args
  exact xb_vret 0 0 hx hb hr hlocks (show k + 0 ≤ MC by omega) (show n + 0 ≤ MS by omega) hE hR hS (xb_d D_Machine_reckonWhole 17 rfl) hw

set_option maxHeartbeats 4000000 in
set_option maxRecDepth 100000 in
theorem ok_Machine_reckonWhole (l : Launch) (hfl : l.flags = pinnedFlags ++ [noTraceFlag]) (D : va_G) (A : Nat → Prop) (σ : Nat) (x0 : Nat) (x1 : Int32) (h : xb_H) (Qr : xb_H → Prop) (hw : w_Machine_reckonWhole x0 x1 h Qr) : xb_Met l y_Machine_reckonWhole [.code y_Machine_reckonWhole b_Machine_reckonWhole 2 none] (xb_rm 6 0 0) (xb_Pc D A σ h [.ref x0, .int x1]) (xb_Qc D A h 0 0 (fun v h _ _ => v = none ∧ Qr h) (fun _ _ _ _ => False)) A := by
  refine xb_ofAm (cc := b_Machine_reckonWhole) (by decide) (Nat.le_of_ble_eq_true rfl) ?_
  unfold w_Machine_reckonWhole at hw
  show xb_am l D A σ 6 0 0 h (fun v h _ _ => v = none ∧ Qr h) (fun _ _ _ _ => False) y_Machine_reckonWhole.cls y_Machine_reckonWhole.name b_Machine_reckonWhole 2 ([] : List ExceptionTableEntry) none 0 [(0, .ref x0), (1, .int x1)] [] h 0 0
  obtain ⟨MC, hMC⟩ : ∃ x, x = 0 := ⟨_, rfl⟩
  obtain ⟨MS, hMS⟩ : ∃ x, x = 0 := ⟨_, rfl⟩
  rw [show xb_am l D A σ 6 0 0 = xb_am l D A σ 6 MC MS by rw [hMC, hMS]]
  obtain ⟨h0, hh0⟩ : ∃ x, x = h := ⟨_, rfl⟩
  rw [show xb_am l D A σ 6 MC MS h = xb_am l D A σ 6 MC MS h0 by rw [hh0]]
  intro p e s m args below meth c hC H locs ls k n hE hl hR hS hk hn
  obtain ⟨hx, hb, hown, hlocks, htab, hml, hr, hB, hA, hnm⟩ := id hC
  have hts := hB.1.1.at args
  refine lv_iload_n hx hb (xb_d D_Machine_reckonWhole 0 rfl) rfl (lv_at hl 1 rfl) ?_
  refine lv_bipush (v := 102) hx hb (xb_d D_Machine_reckonWhole 1 rfl) (by decide) ?_
  refine lv_icmp_gt (tgt := 14) hx hb (xb_d D_Machine_reckonWhole 2 rfl) rfl (fun hc1 => ?_) (fun hc1 => ?_)
  · have hw := hw.1 hc1
    refine lv_iload_n hx hb (xb_d D_Machine_reckonWhole 7 rfl) rfl (lv_at hl 1 rfl) ?_
    refine lv_bipush (v := 120) hx hb (xb_d D_Machine_reckonWhole 8 rfl) (by decide) ?_
    refine lv_icmp_gt (tgt := 28) hx hb (xb_d D_Machine_reckonWhole 9 rfl) rfl (fun hc2 => ?_) (fun hc2 => ?_)
    · have hw := hw.1 hc2
      refine lv_aload_n hx hb (xb_d D_Machine_reckonWhole 14 rfl) rfl (lv_at hl 0 rfl) ?_
      refine lv_iload_n hx hb (xb_d D_Machine_reckonWhole 15 rfl) rfl (lv_at hl 1 rfl) ?_
      obtain ⟨hk3, hw⟩ := hw
      refine xb_call0 (D := D) (A := A) (σ := σ) (h := h) (d := 5) (maxL := 8) (rest := []) (av := [.ref x0, .int x1]) (fun T hT X => by obtain ⟨cb9, ra9, rb9, rc9⟩ := xb_recv (ci := 7) hR rfl hk3 (by decide); exact xt_invV X hx hown (hts _ m_70762adc) (hts _ m_c764cec6) (hts _ m_6bf99063) (xt_sigOf (hts _ m_d1cda5f1)) nm_Machine_reckonLong (by rw [hT]; exact ra9) rb9 rc9 (g := F0 m 30 ls [.int x1, .ref x0]) rfl (argsL := [.int x1]) (rest := []) rfl rfl (by rw [hb]; exact (xb_d D_Machine_reckonWhole 16 rfl))) (ok_Machine_reckonLong l hfl D A σ x0 x1 h _ hw) (hml.trans hl.1.symm) (by rw [hb]; exact (xb_d D_Machine_reckonWhole 16 rfl)) (Nat.le_of_ble_eq_true rfl) (Nat.le_of_ble_eq_true rfl) (Nat.le_of_ble_eq_true rfl) (show k ≤ MC by omega) (show n ≤ MS by omega) (xt_w1 hB.1 m_d1cda5f1) (xt_cdOf hB.1 m_d1cda5f1) (hts _ m_73451f9b) hB hR hS hA (fun vv h4 H locs hq hEh4 hR hS => ?_)
      obtain ⟨rfl, hw⟩ := hq
      have hw := hw hEh4
      have hE := hE.tr hEh4
      refine W.eq (g2 := F0 m 33 ls []) rfl ?_
      exact am_Machine_reckonWhole_L33 l hfl D A σ MC MS h0 Qr h4 hw p e s m args below meth c hC H locs ls k n hE (lv_sub hl [] rfl) hR hS (by omega) (by omega)
    · have hw := hw.2 hc2
      refine lv_aload_n hx hb (xb_d D_Machine_reckonWhole 10 rfl) rfl (lv_at hl 0 rfl) ?_
      refine lv_iload_n hx hb (xb_d D_Machine_reckonWhole 11 rfl) rfl (lv_at hl 1 rfl) ?_
      obtain ⟨hk6, hw⟩ := hw
      refine xb_call0 (D := D) (A := A) (σ := σ) (h := h) (d := 4) (maxL := 6) (rest := []) (av := [.ref x0, .int x1]) (fun T hT X => by obtain ⟨cb9, ra9, rb9, rc9⟩ := xb_recv (ci := 7) hR rfl hk6 (by decide); exact xt_invV X hx hown (hts _ m_9cdb1e1f) (hts _ m_b63c993f) (hts _ m_a8dc9191) (xt_sigOf (hts _ m_72b93e58)) nm_Machine_reckonShort (by rw [hT]; exact ra9) rb9 rc9 (g := F0 m 22 ls [.int x1, .ref x0]) rfl (argsL := [.int x1]) (rest := []) rfl rfl (by rw [hb]; exact (xb_d D_Machine_reckonWhole 12 rfl))) (ok_Machine_reckonShort l hfl D A σ x0 x1 h _ hw) (hml.trans hl.1.symm) (by rw [hb]; exact (xb_d D_Machine_reckonWhole 12 rfl)) (Nat.le_of_ble_eq_true rfl) (Nat.le_of_ble_eq_true rfl) (Nat.le_of_ble_eq_true rfl) (show k ≤ MC by omega) (show n ≤ MS by omega) (xt_w1 hB.1 m_72b93e58) (xt_cdOf hB.1 m_72b93e58) (hts _ m_73451f9b) hB hR hS hA (fun vv h7 H locs hq hEh7 hR hS => ?_)
      obtain ⟨rfl, hw⟩ := hq
      have hw := hw hEh7
      have hE := hE.tr hEh7
      refine W.eq (g2 := F0 m 25 ls []) rfl ?_
      refine lv_goto (tgt := 33) hx hb (xb_d D_Machine_reckonWhole 13 rfl) rfl ?_
      exact am_Machine_reckonWhole_L33 l hfl D A σ MC MS h0 Qr h7 hw p e s m args below meth c hC H locs ls k n hE (lv_sub hl [] rfl) hR hS (by omega) (by omega)
  · have hw := hw.2 hc1
    refine lv_aload_n hx hb (xb_d D_Machine_reckonWhole 3 rfl) rfl (lv_at hl 0 rfl) ?_
    refine lv_iload_n hx hb (xb_d D_Machine_reckonWhole 4 rfl) rfl (lv_at hl 1 rfl) ?_
    obtain ⟨hk9, hw⟩ := hw
    refine xb_call0 (D := D) (A := A) (σ := σ) (h := h) (d := 5) (maxL := 7) (rest := []) (av := [.ref x0, .int x1]) (fun T hT X => by obtain ⟨cb9, ra9, rb9, rc9⟩ := xb_recv (ci := 7) hR rfl hk9 (by decide); exact xt_invV X hx hown (hts _ m_32e64923) (hts _ m_ebb28528) (hts _ m_2b4b7dab) (xt_sigOf (hts _ m_5e8846bd)) nm_Machine_compare (by rw [hT]; exact ra9) rb9 rc9 (g := F0 m 8 ls [.int x1, .ref x0]) rfl (argsL := [.int x1]) (rest := []) rfl rfl (by rw [hb]; exact (xb_d D_Machine_reckonWhole 5 rfl))) (ok_Machine_compare l hfl D A σ x0 x1 h _ hw) (hml.trans hl.1.symm) (by rw [hb]; exact (xb_d D_Machine_reckonWhole 5 rfl)) (Nat.le_of_ble_eq_true rfl) (Nat.le_of_ble_eq_true rfl) (Nat.le_of_ble_eq_true rfl) (show k ≤ MC by omega) (show n ≤ MS by omega) (xt_w1 hB.1 m_5e8846bd) (xt_cdOf hB.1 m_5e8846bd) (hts _ m_73451f9b) hB hR hS hA (fun vv h10 H locs hq hEh10 hR hS => ?_)
    obtain ⟨rfl, hw⟩ := hq
    have hw := hw hEh10
    have hE := hE.tr hEh10
    refine W.eq (g2 := F0 m 11 ls []) rfl ?_
    refine lv_goto (tgt := 33) hx hb (xb_d D_Machine_reckonWhole 6 rfl) rfl ?_
    exact am_Machine_reckonWhole_L33 l hfl D A σ MC MS h0 Qr h10 hw p e s m args below meth c hC H locs ls k n hE (lv_sub hl [] rfl) hR hS (by omega) (by omega)

theorem m_41903b94 : (.methodLink "StackHost$Machine" 271 y_World_grow : Cond) ∈ xt_tbl := xt_in (xt_t8 (List.mem_of_getElem? (i := 217) (by decide +kernel))) (by decide +kernel)
theorem m_34bae24b : (.instanceMethod y_World_grow : Cond) ∈ xt_tbl := xt_in (xt_t7 (List.mem_of_getElem? (i := 92) (by decide +kernel))) (by decide +kernel)
theorem m_04718ef1 : (.selects "StackHost$World" y_World_grow y_World_grow : Cond) ∈ xt_tbl := xt_in (xt_t7 (List.mem_of_getElem? (i := 93) (by decide +kernel))) (by decide +kernel)
theorem m_89170230 : (.code y_World_grow b_World_grow 8 (some .int) : Cond) ∈ xt_tbl := xt_in (xt_t7 (List.mem_of_getElem? (i := 94) (by decide +kernel))) (by decide +kernel)
theorem m_af1596dc : (.fieldLink "StackHost$Machine" 266 "StackHost$Memory" "pageCount" "I" : Cond) ∈ xt_tbl := xt_in (xt_t7 (List.mem_of_getElem? (i := 80) (by decide +kernel))) (by decide +kernel)
theorem nm_World_grow : xt_nm y_World_grow 2 := ⟨by decide +kernel, by decide +kernel⟩
set_option maxRecDepth 100000 in
def T_Machine_sizeMemory : List (Nat × Instr × Nat) := [(0, .iload_n 1, 1), (1, .bipush 63, 2), (3, .if_icmp .ne 21, 3), (6, .aload_n 0, 1), (7, .aload_n 0, 1), (8, .getfield 117, 3), (11, .getfield 262, 3), (14, .getfield 266, 3), (17, .i2l, 1), (18, .invokevirtual 198, 3), (21, .goto 44, 3), (24, .aload_n 0, 1), (25, .getfield 35, 3), (28, .aload_n 0, 1), (29, .getfield 53, 3), (32, .iconst 1, 1), (33, .isub, 1), (34, .aload_n 0, 1), (35, .getfield 42, 3), (38, .aload_n 0, 1), (39, .getfield 117, 3), (42, .getfield 262, 3), (45, .aload_n 0, 1), (46, .getfield 35, 3), (49, .aload_n 0, 1), (50, .getfield 53, 3), (53, .iconst 1, 1), (54, .isub, 1), (55, .laload, 1), (56, .invokevirtual 271, 3), (59, .i2l, 1), (60, .ldc2_w 74, 3), (63, .land, 1), (64, .lastore, 1), (65, .aload_n 0, 1), (66, .aload_n 0, 1), (67, .getfield 111, 3), (70, .aload_n 0, 1), (71, .getfield 108, 3), (74, .iaload, 1), (75, .putfield 108, 3), (78, .return_, 1)]
theorem D_Machine_sizeMemory : ∀ q ∈ T_Machine_sizeMemory, decode b_Machine_sizeMemory q.1 = .ok (q.2.1, q.2.2) := by decide +kernel

set_option maxHeartbeats 4000000 in
set_option maxRecDepth 100000 in
theorem am_Machine_sizeMemory_L65 (l : Launch) (hfl : l.flags = pinnedFlags ++ [noTraceFlag]) (D : va_G) (A : Nat → Prop) (σ MC MS : Nat) (h0 : xb_H) (Qr : xb_H → Nat → Nat → Prop) (x0 : Nat) (h : xb_H) (bc : Nat) (bs : Nat) (hw : w_Machine_sizeMemory_L65 Qr x0 h bc bs) : xb_am l D A σ 6 MC MS h0 (fun v h bc bs => v = none ∧ Qr h bc bs) (fun _ _ _ _ => False) y_Machine_sizeMemory.cls y_Machine_sizeMemory.name b_Machine_sizeMemory 2 ([] : List ExceptionTableEntry) none 65 [(0, .ref x0)] [] h bc bs := by
  unfold w_Machine_sizeMemory_L65 at hw
  intro p e s m args below meth c hC H locs ls k n hE hl hR hS hk hn
  obtain ⟨hx, hb, hown, hlocks, htab, hml, hr, hB, hA, hnm⟩ := id hC
  have hts := hB.1.1.at args
  refine lv_aload_n hx hb (xb_d D_Machine_sizeMemory 34 rfl) rfl (lv_at hl 0 rfl) ?_
  refine lv_aload_n hx hb (xb_d D_Machine_sizeMemory 35 rfl) rfl (lv_at hl 0 rfl) ?_
  obtain ⟨hk1, hw⟩ := hw
  refine xb_getP (C := R_Machine) (T := F_Machine) (N := 18) hx hb 7 14 hts fin_Machine hown hR hk1 (by decide) rfl (by decide) rfl (hts _ m_8f763f86) (fun _ h9 => h9) (xb_d D_Machine_sizeMemory 36 rfl) ?_
  obtain ⟨b2, eb2, hw⟩ := hw
  refine xb_some eb2 ?_
  refine lv_aload_n hx hb (xb_d D_Machine_sizeMemory 37 rfl) rfl (lv_at hl 0 rfl) ?_
  refine xb_getI (C := R_Machine) (T := F_Machine) (N := 18) hx hb 7 15 hts fin_Machine hown hR hk1 (by decide) rfl (by decide) rfl (hts _ m_6a595805) (fun _ h9 => h9) (xb_d D_Machine_sizeMemory 38 rfl) ?_
  obtain ⟨hk4, hw⟩ := hw
  obtain ⟨hi3, hw⟩ := hw
  refine xb_iald hx hb hR hk4 hi3 (xb_d D_Machine_sizeMemory 39 rfl) ?_
  refine xb_putI (C := R_Machine) (T := F_Machine) (N := 18) (ty := .int) (x := (xb_i h b2 (Int32.toNatClampNeg (xb_i h x0 15)))) hx hb 7 15 hts fin_Machine t_Machine t_Machine_ok n_Machine hown hR hS hk1 (by decide) rfl (by decide) rfl (hts _ m_6a595805) (fun _ h9 => h9) rfl (by decide +kernel) rfl rfl (xb_d D_Machine_sizeMemory 40 rfl) (fun H locs hR hS => ?_)
  obtain ⟨h5, eh5⟩ : ∃ x : xb_H, x = xb_I h x0 15 (xb_i h b2 (Int32.toNatClampNeg (xb_i h x0 15))) := ⟨_, rfl⟩
  rw [← eh5] at hR
  have hw := hw h5 eh5
  have hE : xb_ext h0 h5 := by rw [eh5]; exact hE
  exact xb_vret bc bs hx hb hr hlocks (show k + bc ≤ MC by omega) (show n + bs ≤ MS by omega) hE hR hS (xb_d D_Machine_sizeMemory 41 rfl) hw

set_option maxHeartbeats 4000000 in
set_option maxRecDepth 100000 in
theorem ok_Machine_sizeMemory (l : Launch) (hfl : l.flags = pinnedFlags ++ [noTraceFlag]) (D : va_G) (A : Nat → Prop) (σ : Nat) (x0 : Nat) (x1 : Int32) (h : xb_H) (bc : Nat) (bs : Nat) (Qr : xb_H → Nat → Nat → Prop) (hw : w_Machine_sizeMemory x0 x1 h bc bs Qr) : xb_Met l y_Machine_sizeMemory [.code y_Machine_sizeMemory b_Machine_sizeMemory 2 none] (xb_rm 6 bc bs) (xb_Pc D A σ h [.ref x0, .int x1]) (xb_Qc D A h bc bs (fun v h bc bs => v = none ∧ Qr h bc bs) (fun _ _ _ _ => False)) A := by
  refine xb_ofAm (cc := b_Machine_sizeMemory) (by decide) (Nat.le_of_ble_eq_true rfl) ?_
  unfold w_Machine_sizeMemory at hw
  show xb_am l D A σ 6 bc bs h (fun v h bc bs => v = none ∧ Qr h bc bs) (fun _ _ _ _ => False) y_Machine_sizeMemory.cls y_Machine_sizeMemory.name b_Machine_sizeMemory 2 ([] : List ExceptionTableEntry) none 0 [(0, .ref x0), (1, .int x1)] [] h bc bs
  obtain ⟨MC, hMC⟩ : ∃ x, x = bc := ⟨_, rfl⟩
  obtain ⟨MS, hMS⟩ : ∃ x, x = bs := ⟨_, rfl⟩
  rw [show xb_am l D A σ 6 bc bs = xb_am l D A σ 6 MC MS by rw [hMC, hMS]]
  obtain ⟨h0, hh0⟩ : ∃ x, x = h := ⟨_, rfl⟩
  rw [show xb_am l D A σ 6 MC MS h = xb_am l D A σ 6 MC MS h0 by rw [hh0]]
  intro p e s m args below meth c hC H locs ls k n hE hl hR hS hk hn
  obtain ⟨hx, hb, hown, hlocks, htab, hml, hr, hB, hA, hnm⟩ := id hC
  have hts := hB.1.1.at args
  refine lv_iload_n hx hb (xb_d D_Machine_sizeMemory 0 rfl) rfl (lv_at hl 1 rfl) ?_
  refine lv_bipush (v := 63) hx hb (xb_d D_Machine_sizeMemory 1 rfl) (by decide) ?_
  refine lv_icmp_ne (tgt := 24) hx hb (xb_d D_Machine_sizeMemory 2 rfl) rfl (fun hc1 => ?_) (fun hc1 => ?_)
  · have hw := hw.1 hc1
    refine lv_aload_n hx hb (xb_d D_Machine_sizeMemory 11 rfl) rfl (lv_at hl 0 rfl) ?_
    obtain ⟨hk2, hw⟩ := hw
    refine xb_getP (C := R_Machine) (T := F_Machine) (N := 18) hx hb 7 9 hts fin_Machine hown hR hk2 (by decide) rfl (by decide) rfl (hts _ m_6904195b) (fun _ h9 => h9) (xb_d D_Machine_sizeMemory 12 rfl) ?_
    obtain ⟨b3, eb3, hw⟩ := hw
    refine xb_some eb3 ?_
    refine lv_aload_n hx hb (xb_d D_Machine_sizeMemory 13 rfl) rfl (lv_at hl 0 rfl) ?_
    refine xb_getI (C := R_Machine) (T := F_Machine) (N := 18) hx hb 7 10 hts fin_Machine hown hR hk2 (by decide) rfl (by decide) rfl (hts _ m_79cf62f6) (fun _ h9 => h9) (xb_d D_Machine_sizeMemory 14 rfl) ?_
    refine lv_iconst (v := 1) hx hb (xb_d D_Machine_sizeMemory 15 rfl) (by decide) ?_
    refine lv_isub hx hb (xb_d D_Machine_sizeMemory 16 rfl) ?_
    refine lv_aload_n hx hb (xb_d D_Machine_sizeMemory 17 rfl) rfl (lv_at hl 0 rfl) ?_
    refine xb_getP (C := R_Machine) (T := F_Machine) (N := 18) hx hb 7 0 hts fin_Machine hown hR hk2 (by decide) rfl (by decide) rfl (hts _ m_436e7c8c) (fun _ h9 => h9) (xb_d D_Machine_sizeMemory 18 rfl) ?_
    obtain ⟨b4, eb4, hw⟩ := hw
    refine xb_some eb4 ?_
    refine lv_aload_n hx hb (xb_d D_Machine_sizeMemory 19 rfl) rfl (lv_at hl 0 rfl) ?_
    refine xb_getP (C := R_Machine) (T := F_Machine) (N := 18) hx hb 7 12 hts fin_Machine hown hR hk2 (by decide) rfl (by decide) rfl (hts _ m_a347cb26) (fun _ h9 => h9) (xb_d D_Machine_sizeMemory 20 rfl) ?_
    obtain ⟨b5, eb5, hw⟩ := hw
    refine xb_some eb5 ?_
    obtain ⟨hk6, hw⟩ := hw
    refine xb_getP (C := R_Instance) (T := F_Instance) (N := 8) hx hb 10 7 hts fin_Instance hown hR hk6 (by decide) rfl (by decide) rfl (hts _ m_e2094cf0) (fun _ h9 => h9) (xb_d D_Machine_sizeMemory 21 rfl) ?_
    obtain ⟨b7, eb7, hw⟩ := hw
    refine xb_some eb7 ?_
    refine lv_aload_n hx hb (xb_d D_Machine_sizeMemory 22 rfl) rfl (lv_at hl 0 rfl) ?_
    refine xb_getP (C := R_Machine) (T := F_Machine) (N := 18) hx hb 7 9 hts fin_Machine hown hR hk2 (by decide) rfl (by decide) rfl (hts _ m_6904195b) (fun _ h9 => h9) (xb_d D_Machine_sizeMemory 23 rfl) ?_
    obtain ⟨b8, eb8, hw⟩ := hw
    refine xb_some eb8 ?_
    refine lv_aload_n hx hb (xb_d D_Machine_sizeMemory 24 rfl) rfl (lv_at hl 0 rfl) ?_
    refine xb_getI (C := R_Machine) (T := F_Machine) (N := 18) hx hb 7 10 hts fin_Machine hown hR hk2 (by decide) rfl (by decide) rfl (hts _ m_79cf62f6) (fun _ h9 => h9) (xb_d D_Machine_sizeMemory 25 rfl) ?_
    refine lv_iconst (v := 1) hx hb (xb_d D_Machine_sizeMemory 26 rfl) (by decide) ?_
    refine lv_isub hx hb (xb_d D_Machine_sizeMemory 27 rfl) ?_
    obtain ⟨hk10, hw⟩ := hw
    obtain ⟨hi9, hw⟩ := hw
    refine xb_lald hx hb hR hk10 hi9 (xb_d D_Machine_sizeMemory 28 rfl) ?_
    obtain ⟨hk11, hw⟩ := hw
    refine xb_call (D := D) (A := A) (σ := σ) (h := h) (d := 5) (mc := bc) (ms := bs) (maxL := 8) (rest := [.int ((xb_i h x0 10) - 1), .ref b3]) (av := [.ref b4, .ref b7, .long (xb_l h b8 (Int32.toNatClampNeg ((xb_i h x0 10) - 1)))]) (fun T hT X => by obtain ⟨cb9, ra9, rb9, rc9⟩ := xb_recv (ci := 6) hR rfl hk11 (by decide); exact xt_invV X hx hown (hts _ m_41903b94) (hts _ m_34bae24b) (hts _ m_04718ef1) (xt_sigOf (hts _ m_89170230)) nm_World_grow (by rw [hT]; exact ra9) rb9 rc9 (g := F0 m 56 ls [.long (xb_l h b8 (Int32.toNatClampNeg ((xb_i h x0 10) - 1))), .ref b7, .ref b4, .int ((xb_i h x0 10) - 1), .ref b3]) rfl (argsL := [.ref b7, .long (xb_l h b8 (Int32.toNatClampNeg ((xb_i h x0 10) - 1)))]) (rest := [.int ((xb_i h x0 10) - 1), .ref b3]) rfl rfl (by rw [hb]; exact (xb_d D_Machine_sizeMemory 29 rfl))) (ok_World_grow l hfl D A σ b4 b7 (xb_l h b8 (Int32.toNatClampNeg ((xb_i h x0 10) - 1))) h bc bs _ hw) (hml.trans hl.1.symm) (by rw [hb]; exact (xb_d D_Machine_sizeMemory 29 rfl)) (Nat.le_of_ble_eq_true rfl) (Nat.le_of_ble_eq_true rfl) (Nat.le_of_ble_eq_true rfl) (show k + bc ≤ MC by omega) (show n + bs ≤ MS by omega) (xt_w1 hB.1 m_89170230) (xt_cdOf hB.1 m_89170230) (hts _ m_4534b440) hB hR hS hA (fun vv h12 bc13 bs13 kk13 nn13 H locs hk13 hn13 hq hEh12 hR hS => ?_) (fun XX ax h12 bc13 bs13 kk13 nn13 H locs hk13 hn13 hq hEh12 hex hR hS => ?_)
    · obtain ⟨r13, rfl, hw⟩ := hq
      have hw := hw hEh12
      have hE := hE.tr hEh12
      refine W.eq (g2 := F0 m 59 ls [.int r13, .int ((xb_i h x0 10) - 1), .ref b3]) rfl ?_
      refine lv_i2l hx hb (xb_d D_Machine_sizeMemory 30 rfl) rfl ?_
      refine lv_ldc2 (v := 4294967295) hx hb hown (hts _ m_2b0551dd) (xb_d D_Machine_sizeMemory 31 rfl) ?_
      refine lv_land hx hb (xb_d D_Machine_sizeMemory 32 rfl) ?_
      obtain ⟨hk14, hw⟩ := hw
      obtain ⟨hi15, hw⟩ := hw
      refine xb_last hx hb hR hS hk14 hi15 (xb_d D_Machine_sizeMemory 33 rfl) (fun H locs hR hS => ?_)
      obtain ⟨h16, eh16⟩ : ∃ x : xb_H, x = xb_L h12 b3 (Int32.toNatClampNeg ((xb_i h x0 10) - 1)) ((Int32.toInt64 r13) &&& 4294967295) := ⟨_, rfl⟩
      rw [← eh16] at hR
      have hw := hw h16 eh16
      have hE : xb_ext h0 h16 := by rw [eh16]; exact hE
      exact am_Machine_sizeMemory_L65 l hfl D A σ MC MS h0 Qr x0 h16 bc13 bs13 hw p e s m args below meth c hC H locs ls (k + kk13) (n + nn13) hE (lv_sub hl [0] rfl) hR hS (by omega) (by omega)
    · exact False.elim hq
  · have hw := hw.2 hc1
    refine lv_aload_n hx hb (xb_d D_Machine_sizeMemory 3 rfl) rfl (lv_at hl 0 rfl) ?_
    refine lv_aload_n hx hb (xb_d D_Machine_sizeMemory 4 rfl) rfl (lv_at hl 0 rfl) ?_
    obtain ⟨hk17, hw⟩ := hw
    refine xb_getP (C := R_Machine) (T := F_Machine) (N := 18) hx hb 7 12 hts fin_Machine hown hR hk17 (by decide) rfl (by decide) rfl (hts _ m_a347cb26) (fun _ h9 => h9) (xb_d D_Machine_sizeMemory 5 rfl) ?_
    obtain ⟨b18, eb18, hw⟩ := hw
    refine xb_some eb18 ?_
    obtain ⟨hk19, hw⟩ := hw
    refine xb_getP (C := R_Instance) (T := F_Instance) (N := 8) hx hb 10 7 hts fin_Instance hown hR hk19 (by decide) rfl (by decide) rfl (hts _ m_e2094cf0) (fun _ h9 => h9) (xb_d D_Machine_sizeMemory 6 rfl) ?_
    obtain ⟨b20, eb20, hw⟩ := hw
    refine xb_some eb20 ?_
    obtain ⟨hk21, hw⟩ := hw
    refine xb_getI (C := R_Memory) (T := F_Memory) (N := 4) hx hb 12 3 hts fin_Memory hown hR hk21 (by decide) rfl (by decide) rfl (hts _ m_af1596dc) (fun _ h9 => h9) (xb_d D_Machine_sizeMemory 7 rfl) ?_
    refine lv_i2l hx hb (xb_d D_Machine_sizeMemory 8 rfl) rfl ?_
    refine xb_call0 (D := D) (A := A) (σ := σ) (h := h) (d := 2) (maxL := 3) (rest := []) (av := [.ref x0, .long (Int32.toInt64 (xb_i h b20 3))]) (fun T hT X => by obtain ⟨cb9, ra9, rb9, rc9⟩ := xb_recv (ci := 7) hR rfl hk17 (by decide); exact xt_invV X hx hown (hts _ m_b93b25cc) (hts _ m_5256b489) (hts _ m_b846adde) (xt_sigOf (hts _ m_ea231fcd)) nm_Machine_putValue (by rw [hT]; exact ra9) rb9 rc9 (g := F0 m 18 ls [.long (Int32.toInt64 (xb_i h b20 3)), .ref x0]) rfl (argsL := [.long (Int32.toInt64 (xb_i h b20 3))]) (rest := []) rfl rfl (by rw [hb]; exact (xb_d D_Machine_sizeMemory 9 rfl))) (ok_Machine_putValue l hfl D A σ x0 (Int32.toInt64 (xb_i h b20 3)) h _ hw) (hml.trans hl.1.symm) (by rw [hb]; exact (xb_d D_Machine_sizeMemory 9 rfl)) (Nat.le_of_ble_eq_true rfl) (Nat.le_of_ble_eq_true rfl) (Nat.le_of_ble_eq_true rfl) (show k ≤ MC by omega) (show n ≤ MS by omega) (xt_w1 hB.1 m_ea231fcd) (xt_cdOf hB.1 m_ea231fcd) (hts _ m_73451f9b) hB hR hS hA (fun vv h22 H locs hq hEh22 hR hS => ?_)
    obtain ⟨rfl, hw⟩ := hq
    have hw := hw hEh22
    have hE := hE.tr hEh22
    refine W.eq (g2 := F0 m 21 ls []) rfl ?_
    refine lv_goto (tgt := 65) hx hb (xb_d D_Machine_sizeMemory 10 rfl) rfl ?_
    exact am_Machine_sizeMemory_L65 l hfl D A σ MC MS h0 Qr x0 h22 bc bs hw p e s m args below meth c hC H locs ls k n hE (lv_sub hl [0] rfl) hR hS (by omega) (by omega)

theorem m_325c67ec : (.methodLink "StackHost$Reader" 73 y_Reader_limitTo : Cond) ∈ xt_tbl := xt_in (xt_t3 (List.mem_of_getElem? (i := 191) (by decide +kernel))) (by decide +kernel)
theorem m_aae9c79d : (.instanceMethod y_Reader_limitTo : Cond) ∈ xt_tbl := xt_in (xt_t3 (List.mem_of_getElem? (i := 193) (by decide +kernel))) (by decide +kernel)
theorem m_77da441a : (.selects "StackHost$Reader" y_Reader_limitTo y_Reader_limitTo : Cond) ∈ xt_tbl := xt_in (xt_v1 (q := (⟨"StackHost$Reader", "limitTo", "(I)V"⟩, 6)) (List.mem_of_getElem? (i := 5) (by decide +kernel))) (by decide +kernel)
theorem m_436ffbb5 : (.code y_Reader_limitTo b_Reader_limitTo 2 none : Cond) ∈ xt_tbl := xt_in (xt_t3 (List.mem_of_getElem? (i := 194) (by decide +kernel))) (by decide +kernel)
theorem m_d5d63d05 : (.methodLink "StackHost$Reader" 58 y_Row_lines : Cond) ∈ xt_tbl := xt_in (xt_t4 (List.mem_of_getElem? (i := 74) (by decide +kernel))) (by decide +kernel)
theorem m_a003c873 : (.methodLink "StackHost$Reader" 184 y_Reader_readLocals : Cond) ∈ xt_tbl := xt_in (xt_t4 (List.mem_of_getElem? (i := 82) (by decide +kernel))) (by decide +kernel)
theorem m_7bbbebb7 : (.instanceMethod y_Reader_readLocals : Cond) ∈ xt_tbl := xt_in (xt_t4 (List.mem_of_getElem? (i := 84) (by decide +kernel))) (by decide +kernel)
theorem m_9f15dbe0 : (.selects "StackHost$Reader" y_Reader_readLocals y_Reader_readLocals : Cond) ∈ xt_tbl := xt_in (xt_v2 (q := (⟨"StackHost$Reader", "readLocals", "()I"⟩, 6)) (List.mem_of_getElem? (i := 14) (by decide +kernel))) (by decide +kernel)
theorem m_7f51cc8a : (.code y_Reader_readLocals b_Reader_readLocals 10 (some .int) : Cond) ∈ xt_tbl := xt_in (xt_t4 (List.mem_of_getElem? (i := 85) (by decide +kernel))) (by decide +kernel)
theorem m_4dbee54b : (.fieldLink "StackHost$Reader" 54 "StackHost$StackModule" "bodies" "LStackHost$Row;" : Cond) ∈ xt_tbl := xt_in (xt_t3 (List.mem_of_getElem? (i := 101) (by decide +kernel))) (by decide +kernel)
theorem m_90e667a6 : (.methodLink "StackHost$Reader" 166 y_Reader_readExpression : Cond) ∈ xt_tbl := xt_in (xt_t4 (List.mem_of_getElem? (i := 27) (by decide +kernel))) (by decide +kernel)
theorem m_02684d67 : (.instanceMethod y_Reader_readExpression : Cond) ∈ xt_tbl := xt_in (xt_t4 (List.mem_of_getElem? (i := 29) (by decide +kernel))) (by decide +kernel)
theorem m_97aecff3 : (.selects "StackHost$Reader" y_Reader_readExpression y_Reader_readExpression : Cond) ∈ xt_tbl := xt_in (xt_v2 (q := (⟨"StackHost$Reader", "readExpression", "()V"⟩, 6)) (List.mem_of_getElem? (i := 3) (by decide +kernel))) (by decide +kernel)
theorem m_150d97f6 : (.code y_Reader_readExpression b_Reader_readExpression 6 none : Cond) ∈ xt_tbl := xt_in (xt_t4 (List.mem_of_getElem? (i := 30) (by decide +kernel))) (by decide +kernel)
theorem nm_Reader_limitTo : xt_nm y_Reader_limitTo 1 := ⟨by decide +kernel, by decide +kernel⟩
theorem nm_Reader_readLocals : xt_nm y_Reader_readLocals 0 := ⟨by decide +kernel, by decide +kernel⟩
theorem nm_Reader_readExpression : xt_nm y_Reader_readExpression 0 := ⟨by decide +kernel, by decide +kernel⟩
set_option maxRecDepth 100000 in
def T_Reader_readBody : List (Nat × Instr × Nat) := [(0, .aload_n 0, 1), (1, .getfield 30, 3), (4, .istore_n 1, 1), (5, .aload_n 0, 1), (6, .aload_n 0, 1), (7, .invokevirtual 70, 3), (10, .invokevirtual 73, 3), (13, .aload_n 0, 1), (14, .getfield 15, 3), (17, .getfield 181, 3), (20, .invokevirtual 58, 3), (23, .istore_n 2, 1), (24, .aload_n 0, 1), (25, .invokevirtual 184, 3), (28, .istore_n 3, 1), (29, .aload_n 0, 1), (30, .getfield 15, 3), (33, .getfield 54, 3), (36, .aload_n 0, 1), (37, .getfield 41, 3), (40, .i2l, 1), (41, .invokevirtual 87, 3), (44, .aload_n 0, 1), (45, .getfield 15, 3), (48, .getfield 54, 3), (51, .iload_n 3, 1), (52, .i2l, 1), (53, .invokevirtual 87, 3), (56, .aload_n 0, 1), (57, .getfield 15, 3), (60, .getfield 54, 3), (63, .iload_n 2, 1), (64, .i2l, 1), (65, .invokevirtual 87, 3), (68, .aload_n 0, 1), (69, .getfield 15, 3), (72, .getfield 54, 3), (75, .aload_n 0, 1), (76, .getfield 15, 3), (79, .getfield 181, 3), (82, .invokevirtual 58, 3), (85, .iload_n 2, 1), (86, .isub, 1), (87, .i2l, 1), (88, .invokevirtual 87, 3), (91, .aload_n 0, 1), (92, .getfield 15, 3), (95, .getfield 54, 3), (98, .lconst 0, 1), (99, .invokevirtual 87, 3), (102, .aload_n 0, 1), (103, .invokevirtual 166, 3), (106, .aload_n 0, 1), (107, .getfield 41, 3), (110, .aload_n 0, 1), (111, .getfield 30, 3), (114, .if_icmp .ge 16, 3), (117, .aload_n 0, 1), (118, .getfield 15, 3), (121, .bipush 7, 2), (123, .aload_n 0, 1), (124, .getfield 41, 3), (127, .invokevirtual 37, 3), (130, .aload_n 0, 1), (131, .iload_n 1, 1), (132, .putfield 30, 3), (135, .return_, 1)]
theorem D_Reader_readBody : ∀ q ∈ T_Reader_readBody, decode b_Reader_readBody q.1 = .ok (q.2.1, q.2.2) := by decide +kernel

set_option maxHeartbeats 4000000 in
set_option maxRecDepth 100000 in
theorem am_Reader_readBody_L130 (l : Launch) (hfl : l.flags = pinnedFlags ++ [noTraceFlag]) (D : va_G) (A : Nat → Prop) (σ MC MS : Nat) (h0 : xb_H) (Qr : xb_H → Nat → Nat → Prop) (Qt : String → xb_H → Nat → Nat → Prop) (x0 : Nat) (x1 : Int32) (h : xb_H) (bc : Nat) (bs : Nat) (hw : w_Reader_readBody_L130 Qr Qt x0 x1 h bc bs) : xb_am l D A σ 6 MC MS h0 (fun v h bc bs => v = none ∧ Qr h bc bs) Qt y_Reader_readBody.cls y_Reader_readBody.name b_Reader_readBody 4 ([] : List ExceptionTableEntry) none 130 [(0, .ref x0), (1, .int x1)] [] h bc bs := by
  unfold w_Reader_readBody_L130 at hw
  intro p e s m args below meth c hC H locs ls k n hE hl hR hS hk hn
  obtain ⟨hx, hb, hown, hlocks, htab, hml, hr, hB, hA, hnm⟩ := id hC
  have hts := hB.1.1.at args
  refine lv_aload_n hx hb (xb_d D_Reader_readBody 63 rfl) rfl (lv_at hl 0 rfl) ?_
  refine lv_iload_n hx hb (xb_d D_Reader_readBody 64 rfl) rfl (lv_at hl 1 rfl) ?_
  obtain ⟨hk1, hw⟩ := hw
  refine xb_putI (C := R_Reader) (T := F_Reader) (N := 6) (ty := .int) (x := x1) hx hb 3 4 hts fin_Reader t_Reader t_Reader_ok n_Reader hown hR hS hk1 (by decide) rfl (by decide) rfl (hts _ m_49916c4b) (fun _ h9 => h9) rfl (by decide +kernel) rfl rfl (xb_d D_Reader_readBody 65 rfl) (fun H locs hR hS => ?_)
  obtain ⟨h2, eh2⟩ : ∃ x : xb_H, x = xb_I h x0 4 x1 := ⟨_, rfl⟩
  rw [← eh2] at hR
  have hw := hw h2 eh2
  have hE : xb_ext h0 h2 := by rw [eh2]; exact hE
  exact xb_vret bc bs hx hb hr hlocks (show k + bc ≤ MC by omega) (show n + bs ≤ MS by omega) hE hR hS (xb_d D_Reader_readBody 66 rfl) hw

set_option maxHeartbeats 4000000 in
set_option maxRecDepth 100000 in
theorem ok_Reader_readBody (l : Launch) (hfl : l.flags = pinnedFlags ++ [noTraceFlag]) (D : va_G) (A : Nat → Prop) (σ : Nat) (x0 : Nat) (h : xb_H) (bc : Nat) (bs : Nat) (Qr : xb_H → Nat → Nat → Prop) (Qt : String → xb_H → Nat → Nat → Prop) (hw : w_Reader_readBody x0 h bc bs Qr Qt) : xb_Met l y_Reader_readBody [.code y_Reader_readBody b_Reader_readBody 4 none] (xb_rm 6 bc bs) (xb_Pc D A σ h [.ref x0]) (xb_Qc D A h bc bs (fun v h bc bs => v = none ∧ Qr h bc bs) Qt) A := by
  refine xb_ofAm (cc := b_Reader_readBody) (by decide) (Nat.le_of_ble_eq_true rfl) ?_
  unfold w_Reader_readBody at hw
  show xb_am l D A σ 6 bc bs h (fun v h bc bs => v = none ∧ Qr h bc bs) Qt y_Reader_readBody.cls y_Reader_readBody.name b_Reader_readBody 4 ([] : List ExceptionTableEntry) none 0 [(0, .ref x0)] [] h bc bs
  obtain ⟨MC, hMC⟩ : ∃ x, x = bc := ⟨_, rfl⟩
  obtain ⟨MS, hMS⟩ : ∃ x, x = bs := ⟨_, rfl⟩
  rw [show xb_am l D A σ 6 bc bs = xb_am l D A σ 6 MC MS by rw [hMC, hMS]]
  obtain ⟨h0, hh0⟩ : ∃ x, x = h := ⟨_, rfl⟩
  rw [show xb_am l D A σ 6 MC MS h = xb_am l D A σ 6 MC MS h0 by rw [hh0]]
  intro p e s m args below meth c hC H locs ls k n hE hl hR hS hk hn
  obtain ⟨hx, hb, hown, hlocks, htab, hml, hr, hB, hA, hnm⟩ := id hC
  have hts := hB.1.1.at args
  refine lv_aload_n hx hb (xb_d D_Reader_readBody 0 rfl) rfl (lv_at hl 0 rfl) ?_
  obtain ⟨hk1, hw⟩ := hw
  refine xb_getI (C := R_Reader) (T := F_Reader) (N := 6) hx hb 3 4 hts fin_Reader hown hR hk1 (by decide) rfl (by decide) rfl (hts _ m_49916c4b) (fun _ h9 => h9) (xb_d D_Reader_readBody 1 rfl) ?_
  obtain ⟨v2, ev2⟩ : ∃ x : Int32, x = (xb_i h x0 4) := ⟨_, rfl⟩
  have hw := hw v2 ev2
  refine xt_numi (y := v2) ev2.symm ?_
  refine lv_istore_n hx hb (xb_d D_Reader_readBody 2 rfl) rfl hl (by decide) rfl (fun ls hl => ?_)
  have hl : lv_has ls 4 [(1, .int v2), (0, .ref x0)] := hl
  refine lv_aload_n hx hb (xb_d D_Reader_readBody 3 rfl) rfl (lv_at hl 1 rfl) ?_
  refine lv_aload_n hx hb (xb_d D_Reader_readBody 4 rfl) rfl (lv_at hl 1 rfl) ?_
  refine xb_call (D := D) (A := A) (σ := σ) (h := h) (d := 3) (mc := bc) (ms := bs) (maxL := 4) (rest := [.ref x0]) (av := [.ref x0]) (fun T hT X => by obtain ⟨cb9, ra9, rb9, rc9⟩ := xb_recv (ci := 3) hR rfl hk1 (by decide); exact xt_invV X hx hown (hts _ m_2c379b4d) (hts _ m_a120e786) (hts _ m_e903c73e) (xt_sigOf (hts _ m_99690a98)) nm_Reader_count (by rw [hT]; exact ra9) rb9 rc9 (g := F0 m 7 ls [.ref x0, .ref x0]) rfl (argsL := []) (rest := [.ref x0]) rfl rfl (by rw [hb]; exact (xb_d D_Reader_readBody 5 rfl))) (ok_Reader_count l hfl D A σ x0 h bc bs _ _ hw) (hml.trans hl.1.symm) (by rw [hb]; exact (xb_d D_Reader_readBody 5 rfl)) (Nat.le_of_ble_eq_true rfl) (Nat.le_of_ble_eq_true rfl) (Nat.le_of_ble_eq_true rfl) (show k + bc ≤ MC by omega) (show n + bs ≤ MS by omega) (xt_w1 hB.1 m_99690a98) (xt_cdOf hB.1 m_99690a98) (hts _ m_938fcec4) hB hR hS hA (fun vv h3 bc4 bs4 kk4 nn4 H locs hk4 hn4 hq hEh3 hR hS => ?_) (fun XX ax h3 bc4 bs4 kk4 nn4 H locs hk4 hn4 hq hEh3 hex hR hS => ?_)
  · obtain ⟨r4, rfl, hw⟩ := hq
    have hw := hw hEh3
    have hE := hE.tr hEh3
    refine W.eq (g2 := F0 m 10 ls [.int r4, .ref x0]) rfl ?_
    have hk1 : xb_k h3 x0 = 4 := hEh3.k hk1
    refine xb_call (D := D) (A := A) (σ := σ) (h := h3) (d := 3) (mc := bc4) (ms := bs4) (maxL := 2) (rest := []) (av := [.ref x0, .int r4]) (fun T hT X => by obtain ⟨cb9, ra9, rb9, rc9⟩ := xb_recv (ci := 3) hR rfl hk1 (by decide); exact xt_invV X hx hown (hts _ m_325c67ec) (hts _ m_aae9c79d) (hts _ m_77da441a) (xt_sigOf (hts _ m_436ffbb5)) nm_Reader_limitTo (by rw [hT]; exact ra9) rb9 rc9 (g := F0 m 10 ls [.int r4, .ref x0]) rfl (argsL := [.int r4]) (rest := []) rfl rfl (by rw [hb]; exact (xb_d D_Reader_readBody 6 rfl))) (ok_Reader_limitTo l hfl D A σ x0 r4 h3 bc4 bs4 _ _ hw) (hml.trans hl.1.symm) (by rw [hb]; exact (xb_d D_Reader_readBody 6 rfl)) (Nat.le_of_ble_eq_true rfl) (Nat.le_of_ble_eq_true rfl) (Nat.le_of_ble_eq_true rfl) (show (k + kk4) + bc4 ≤ MC by omega) (show (n + nn4) + bs4 ≤ MS by omega) (xt_w1 hB.1 m_436ffbb5) (xt_cdOf hB.1 m_436ffbb5) (hts _ m_938fcec4) hB hR hS hA (fun vv h5 bc6 bs6 kk6 nn6 H locs hk6 hn6 hq hEh5 hR hS => ?_) (fun XX ax h5 bc6 bs6 kk6 nn6 H locs hk6 hn6 hq hEh5 hex hR hS => ?_)
    · obtain ⟨rfl, hw⟩ := hq
      have hw := hw hEh5
      have hE := hE.tr hEh5
      refine W.eq (g2 := F0 m 13 ls []) rfl ?_
      refine lv_aload_n hx hb (xb_d D_Reader_readBody 7 rfl) rfl (lv_at hl 1 rfl) ?_
      have hk1 : xb_k h5 x0 = 4 := hEh5.k hk1
      refine xb_getP (C := R_Reader) (T := F_Reader) (N := 6) hx hb 3 0 hts fin_Reader hown hR hk1 (by decide) rfl (by decide) rfl (hts _ m_76d8349c) (fun _ h9 => h9) (xb_d D_Reader_readBody 8 rfl) ?_
      obtain ⟨b7, eb7, hw⟩ := hw
      refine xb_some eb7 ?_
      obtain ⟨hk8, hw⟩ := hw
      refine xb_getP (C := R_StackModule) (T := F_StackModule) (N := 19) hx hb 2 12 hts fin_StackModule hown hR hk8 (by decide) rfl (by decide) rfl (hts _ m_b25766a4) (fun _ h9 => h9) (xb_d D_Reader_readBody 9 rfl) ?_
      obtain ⟨b9, eb9, hw⟩ := hw
      refine xb_some eb9 ?_
      obtain ⟨hk10, hw⟩ := hw
      refine xb_call0 (D := D) (A := A) (σ := σ) (h := h5) (d := 2) (maxL := 1) (rest := []) (av := [.ref b9]) (fun T hT X => by obtain ⟨cb9, ra9, rb9, rc9⟩ := xb_recv (ci := 1) hR rfl hk10 (by decide); exact xt_invV X hx hown (hts _ m_d5d63d05) (hts _ m_ded65609) (hts _ m_a4161156) (xt_sigOf (hts _ m_83ba3721)) nm_Row_lines (by rw [hT]; exact ra9) rb9 rc9 (g := F0 m 20 ls [.ref b9]) rfl (argsL := []) (rest := []) rfl rfl (by rw [hb]; exact (xb_d D_Reader_readBody 10 rfl))) (ok_Row_lines l hfl D A σ b9 h5 _ hw) (hml.trans hl.1.symm) (by rw [hb]; exact (xb_d D_Reader_readBody 10 rfl)) (Nat.le_of_ble_eq_true rfl) (Nat.le_of_ble_eq_true rfl) (Nat.le_of_ble_eq_true rfl) (show ((k + kk4) + kk6) ≤ MC by omega) (show ((n + nn4) + nn6) ≤ MS by omega) (xt_w1 hB.1 m_83ba3721) (xt_cdOf hB.1 m_83ba3721) (hts _ m_c1bef504) hB hR hS hA (fun vv h11 H locs hq hEh11 hR hS => ?_)
      obtain ⟨r12, rfl, hw⟩ := hq
      have hw := hw hEh11
      have hE := hE.tr hEh11
      refine W.eq (g2 := F0 m 23 ls [.int r12]) rfl ?_
      refine lv_istore_n hx hb (xb_d D_Reader_readBody 11 rfl) rfl hl (by decide) rfl (fun ls hl => ?_)
      have hl : lv_has ls 4 [(2, .int r12), (1, .int v2), (0, .ref x0)] := hl
      refine lv_aload_n hx hb (xb_d D_Reader_readBody 12 rfl) rfl (lv_at hl 2 rfl) ?_
      have hk1 : xb_k h11 x0 = 4 := hEh11.k hk1
      refine xb_call (D := D) (A := A) (σ := σ) (h := h11) (d := 5) (mc := bc6) (ms := bs6) (maxL := 10) (rest := []) (av := [.ref x0]) (fun T hT X => by obtain ⟨cb9, ra9, rb9, rc9⟩ := xb_recv (ci := 3) hR rfl hk1 (by decide); exact xt_invV X hx hown (hts _ m_a003c873) (hts _ m_7bbbebb7) (hts _ m_9f15dbe0) (xt_sigOf (hts _ m_7f51cc8a)) nm_Reader_readLocals (by rw [hT]; exact ra9) rb9 rc9 (g := F0 m 25 ls [.ref x0]) rfl (argsL := []) (rest := []) rfl rfl (by rw [hb]; exact (xb_d D_Reader_readBody 13 rfl))) (ok_Reader_readLocals l hfl D A σ x0 h11 bc6 bs6 _ _ hw) (hml.trans hl.1.symm) (by rw [hb]; exact (xb_d D_Reader_readBody 13 rfl)) (Nat.le_of_ble_eq_true rfl) (Nat.le_of_ble_eq_true rfl) (Nat.le_of_ble_eq_true rfl) (show ((k + kk4) + kk6) + bc6 ≤ MC by omega) (show ((n + nn4) + nn6) + bs6 ≤ MS by omega) (xt_w1 hB.1 m_7f51cc8a) (xt_cdOf hB.1 m_7f51cc8a) (hts _ m_938fcec4) hB hR hS hA (fun vv h13 bc14 bs14 kk14 nn14 H locs hk14 hn14 hq hEh13 hR hS => ?_) (fun XX ax h13 bc14 bs14 kk14 nn14 H locs hk14 hn14 hq hEh13 hex hR hS => ?_)
      · obtain ⟨r14, rfl, hw⟩ := hq
        have hw := hw hEh13
        have hE := hE.tr hEh13
        refine W.eq (g2 := F0 m 28 ls [.int r14]) rfl ?_
        refine lv_istore_n hx hb (xb_d D_Reader_readBody 14 rfl) rfl hl (by decide) rfl (fun ls hl => ?_)
        have hl : lv_has ls 4 [(3, .int r14), (2, .int r12), (1, .int v2), (0, .ref x0)] := hl
        refine lv_aload_n hx hb (xb_d D_Reader_readBody 15 rfl) rfl (lv_at hl 3 rfl) ?_
        have hk1 : xb_k h13 x0 = 4 := hEh13.k hk1
        refine xb_getP (C := R_Reader) (T := F_Reader) (N := 6) hx hb 3 0 hts fin_Reader hown hR hk1 (by decide) rfl (by decide) rfl (hts _ m_76d8349c) (fun _ h9 => h9) (xb_d D_Reader_readBody 16 rfl) ?_
        obtain ⟨b15, eb15, hw⟩ := hw
        refine xb_some eb15 ?_
        obtain ⟨hk16, hw⟩ := hw
        refine xb_getP (C := R_StackModule) (T := F_StackModule) (N := 19) hx hb 2 11 hts fin_StackModule hown hR hk16 (by decide) rfl (by decide) rfl (hts _ m_4dbee54b) (fun _ h9 => h9) (xb_d D_Reader_readBody 17 rfl) ?_
        obtain ⟨b17, eb17, hw⟩ := hw
        refine xb_some eb17 ?_
        refine lv_aload_n hx hb (xb_d D_Reader_readBody 18 rfl) rfl (lv_at hl 3 rfl) ?_
        refine xb_getI (C := R_Reader) (T := F_Reader) (N := 6) hx hb 3 3 hts fin_Reader hown hR hk1 (by decide) rfl (by decide) rfl (hts _ m_a9b84ac2) (fun _ h9 => h9) (xb_d D_Reader_readBody 19 rfl) ?_
        refine lv_i2l hx hb (xb_d D_Reader_readBody 20 rfl) rfl ?_
        obtain ⟨hk18, hw⟩ := hw
        refine xb_call (D := D) (A := A) (σ := σ) (h := h13) (d := 4) (mc := bc14) (ms := bs14) (maxL := 3) (rest := []) (av := [.ref b17, .long (Int32.toInt64 (xb_i h13 x0 3))]) (fun T hT X => by obtain ⟨cb9, ra9, rb9, rc9⟩ := xb_recv (ci := 1) hR rfl hk18 (by decide); exact xt_invV X hx hown (hts _ m_da067afc) (hts _ m_7e8d081f) (hts _ m_4e47f51a) (xt_sigOf (hts _ m_4f1bdc54)) nm_Row_add (by rw [hT]; exact ra9) rb9 rc9 (g := F0 m 41 ls [.long (Int32.toInt64 (xb_i h13 x0 3)), .ref b17]) rfl (argsL := [.long (Int32.toInt64 (xb_i h13 x0 3))]) (rest := []) rfl rfl (by rw [hb]; exact (xb_d D_Reader_readBody 21 rfl))) (ok_Row_add l hfl D A σ b17 (Int32.toInt64 (xb_i h13 x0 3)) h13 bc14 bs14 _ hw) (hml.trans hl.1.symm) (by rw [hb]; exact (xb_d D_Reader_readBody 21 rfl)) (Nat.le_of_ble_eq_true rfl) (Nat.le_of_ble_eq_true rfl) (Nat.le_of_ble_eq_true rfl) (show (((k + kk4) + kk6) + kk14) + bc14 ≤ MC by omega) (show (((n + nn4) + nn6) + nn14) + bs14 ≤ MS by omega) (xt_w1 hB.1 m_4f1bdc54) (xt_cdOf hB.1 m_4f1bdc54) (hts _ m_c1bef504) hB hR hS hA (fun vv h19 bc20 bs20 kk20 nn20 H locs hk20 hn20 hq hEh19 hR hS => ?_) (fun XX ax h19 bc20 bs20 kk20 nn20 H locs hk20 hn20 hq hEh19 hex hR hS => ?_)
        · obtain ⟨rfl, hw⟩ := hq
          have hw := hw hEh19
          have hE := hE.tr hEh19
          refine W.eq (g2 := F0 m 44 ls []) rfl ?_
          refine lv_aload_n hx hb (xb_d D_Reader_readBody 22 rfl) rfl (lv_at hl 3 rfl) ?_
          have hk1 : xb_k h19 x0 = 4 := hEh19.k hk1
          refine xb_getP (C := R_Reader) (T := F_Reader) (N := 6) hx hb 3 0 hts fin_Reader hown hR hk1 (by decide) rfl (by decide) rfl (hts _ m_76d8349c) (fun _ h9 => h9) (xb_d D_Reader_readBody 23 rfl) ?_
          obtain ⟨b21, eb21, hw⟩ := hw
          refine xb_some eb21 ?_
          obtain ⟨hk22, hw⟩ := hw
          refine xb_getP (C := R_StackModule) (T := F_StackModule) (N := 19) hx hb 2 11 hts fin_StackModule hown hR hk22 (by decide) rfl (by decide) rfl (hts _ m_4dbee54b) (fun _ h9 => h9) (xb_d D_Reader_readBody 24 rfl) ?_
          obtain ⟨b23, eb23, hw⟩ := hw
          refine xb_some eb23 ?_
          refine lv_iload_n hx hb (xb_d D_Reader_readBody 25 rfl) rfl (lv_at hl 0 rfl) ?_
          refine lv_i2l hx hb (xb_d D_Reader_readBody 26 rfl) rfl ?_
          obtain ⟨hk24, hw⟩ := hw
          refine xb_call (D := D) (A := A) (σ := σ) (h := h19) (d := 4) (mc := bc20) (ms := bs20) (maxL := 3) (rest := []) (av := [.ref b23, .long (Int32.toInt64 r14)]) (fun T hT X => by obtain ⟨cb9, ra9, rb9, rc9⟩ := xb_recv (ci := 1) hR rfl hk24 (by decide); exact xt_invV X hx hown (hts _ m_da067afc) (hts _ m_7e8d081f) (hts _ m_4e47f51a) (xt_sigOf (hts _ m_4f1bdc54)) nm_Row_add (by rw [hT]; exact ra9) rb9 rc9 (g := F0 m 53 ls [.long (Int32.toInt64 r14), .ref b23]) rfl (argsL := [.long (Int32.toInt64 r14)]) (rest := []) rfl rfl (by rw [hb]; exact (xb_d D_Reader_readBody 27 rfl))) (ok_Row_add l hfl D A σ b23 (Int32.toInt64 r14) h19 bc20 bs20 _ hw) (hml.trans hl.1.symm) (by rw [hb]; exact (xb_d D_Reader_readBody 27 rfl)) (Nat.le_of_ble_eq_true rfl) (Nat.le_of_ble_eq_true rfl) (Nat.le_of_ble_eq_true rfl) (show ((((k + kk4) + kk6) + kk14) + kk20) + bc20 ≤ MC by omega) (show ((((n + nn4) + nn6) + nn14) + nn20) + bs20 ≤ MS by omega) (xt_w1 hB.1 m_4f1bdc54) (xt_cdOf hB.1 m_4f1bdc54) (hts _ m_c1bef504) hB hR hS hA (fun vv h25 bc26 bs26 kk26 nn26 H locs hk26 hn26 hq hEh25 hR hS => ?_) (fun XX ax h25 bc26 bs26 kk26 nn26 H locs hk26 hn26 hq hEh25 hex hR hS => ?_)
          · obtain ⟨rfl, hw⟩ := hq
            have hw := hw hEh25
            have hE := hE.tr hEh25
            refine W.eq (g2 := F0 m 56 ls []) rfl ?_
            refine lv_aload_n hx hb (xb_d D_Reader_readBody 28 rfl) rfl (lv_at hl 3 rfl) ?_
            have hk1 : xb_k h25 x0 = 4 := hEh25.k hk1
            refine xb_getP (C := R_Reader) (T := F_Reader) (N := 6) hx hb 3 0 hts fin_Reader hown hR hk1 (by decide) rfl (by decide) rfl (hts _ m_76d8349c) (fun _ h9 => h9) (xb_d D_Reader_readBody 29 rfl) ?_
            obtain ⟨b27, eb27, hw⟩ := hw
            refine xb_some eb27 ?_
            obtain ⟨hk28, hw⟩ := hw
            refine xb_getP (C := R_StackModule) (T := F_StackModule) (N := 19) hx hb 2 11 hts fin_StackModule hown hR hk28 (by decide) rfl (by decide) rfl (hts _ m_4dbee54b) (fun _ h9 => h9) (xb_d D_Reader_readBody 30 rfl) ?_
            obtain ⟨b29, eb29, hw⟩ := hw
            refine xb_some eb29 ?_
            refine lv_iload_n hx hb (xb_d D_Reader_readBody 31 rfl) rfl (lv_at hl 1 rfl) ?_
            refine lv_i2l hx hb (xb_d D_Reader_readBody 32 rfl) rfl ?_
            obtain ⟨hk30, hw⟩ := hw
            refine xb_call (D := D) (A := A) (σ := σ) (h := h25) (d := 4) (mc := bc26) (ms := bs26) (maxL := 3) (rest := []) (av := [.ref b29, .long (Int32.toInt64 r12)]) (fun T hT X => by obtain ⟨cb9, ra9, rb9, rc9⟩ := xb_recv (ci := 1) hR rfl hk30 (by decide); exact xt_invV X hx hown (hts _ m_da067afc) (hts _ m_7e8d081f) (hts _ m_4e47f51a) (xt_sigOf (hts _ m_4f1bdc54)) nm_Row_add (by rw [hT]; exact ra9) rb9 rc9 (g := F0 m 65 ls [.long (Int32.toInt64 r12), .ref b29]) rfl (argsL := [.long (Int32.toInt64 r12)]) (rest := []) rfl rfl (by rw [hb]; exact (xb_d D_Reader_readBody 33 rfl))) (ok_Row_add l hfl D A σ b29 (Int32.toInt64 r12) h25 bc26 bs26 _ hw) (hml.trans hl.1.symm) (by rw [hb]; exact (xb_d D_Reader_readBody 33 rfl)) (Nat.le_of_ble_eq_true rfl) (Nat.le_of_ble_eq_true rfl) (Nat.le_of_ble_eq_true rfl) (show (((((k + kk4) + kk6) + kk14) + kk20) + kk26) + bc26 ≤ MC by omega) (show (((((n + nn4) + nn6) + nn14) + nn20) + nn26) + bs26 ≤ MS by omega) (xt_w1 hB.1 m_4f1bdc54) (xt_cdOf hB.1 m_4f1bdc54) (hts _ m_c1bef504) hB hR hS hA (fun vv h31 bc32 bs32 kk32 nn32 H locs hk32 hn32 hq hEh31 hR hS => ?_) (fun XX ax h31 bc32 bs32 kk32 nn32 H locs hk32 hn32 hq hEh31 hex hR hS => ?_)
            · obtain ⟨rfl, hw⟩ := hq
              have hw := hw hEh31
              have hE := hE.tr hEh31
              refine W.eq (g2 := F0 m 68 ls []) rfl ?_
              refine lv_aload_n hx hb (xb_d D_Reader_readBody 34 rfl) rfl (lv_at hl 3 rfl) ?_
              have hk1 : xb_k h31 x0 = 4 := hEh31.k hk1
              refine xb_getP (C := R_Reader) (T := F_Reader) (N := 6) hx hb 3 0 hts fin_Reader hown hR hk1 (by decide) rfl (by decide) rfl (hts _ m_76d8349c) (fun _ h9 => h9) (xb_d D_Reader_readBody 35 rfl) ?_
              obtain ⟨b33, eb33, hw⟩ := hw
              refine xb_some eb33 ?_
              obtain ⟨hk34, hw⟩ := hw
              refine xb_getP (C := R_StackModule) (T := F_StackModule) (N := 19) hx hb 2 11 hts fin_StackModule hown hR hk34 (by decide) rfl (by decide) rfl (hts _ m_4dbee54b) (fun _ h9 => h9) (xb_d D_Reader_readBody 36 rfl) ?_
              obtain ⟨b35, eb35, hw⟩ := hw
              refine xb_some eb35 ?_
              refine lv_aload_n hx hb (xb_d D_Reader_readBody 37 rfl) rfl (lv_at hl 3 rfl) ?_
              refine xb_getP (C := R_Reader) (T := F_Reader) (N := 6) hx hb 3 0 hts fin_Reader hown hR hk1 (by decide) rfl (by decide) rfl (hts _ m_76d8349c) (fun _ h9 => h9) (xb_d D_Reader_readBody 38 rfl) ?_
              obtain ⟨b36, eb36, hw⟩ := hw
              refine xb_some eb36 ?_
              obtain ⟨hk37, hw⟩ := hw
              refine xb_getP (C := R_StackModule) (T := F_StackModule) (N := 19) hx hb 2 12 hts fin_StackModule hown hR hk37 (by decide) rfl (by decide) rfl (hts _ m_b25766a4) (fun _ h9 => h9) (xb_d D_Reader_readBody 39 rfl) ?_
              obtain ⟨b38, eb38, hw⟩ := hw
              refine xb_some eb38 ?_
              obtain ⟨hk39, hw⟩ := hw
              refine xb_call0 (D := D) (A := A) (σ := σ) (h := h31) (d := 2) (maxL := 1) (rest := [.ref b35]) (av := [.ref b38]) (fun T hT X => by obtain ⟨cb9, ra9, rb9, rc9⟩ := xb_recv (ci := 1) hR rfl hk39 (by decide); exact xt_invV X hx hown (hts _ m_d5d63d05) (hts _ m_ded65609) (hts _ m_a4161156) (xt_sigOf (hts _ m_83ba3721)) nm_Row_lines (by rw [hT]; exact ra9) rb9 rc9 (g := F0 m 82 ls [.ref b38, .ref b35]) rfl (argsL := []) (rest := [.ref b35]) rfl rfl (by rw [hb]; exact (xb_d D_Reader_readBody 40 rfl))) (ok_Row_lines l hfl D A σ b38 h31 _ hw) (hml.trans hl.1.symm) (by rw [hb]; exact (xb_d D_Reader_readBody 40 rfl)) (Nat.le_of_ble_eq_true rfl) (Nat.le_of_ble_eq_true rfl) (Nat.le_of_ble_eq_true rfl) (show ((((((k + kk4) + kk6) + kk14) + kk20) + kk26) + kk32) ≤ MC by omega) (show ((((((n + nn4) + nn6) + nn14) + nn20) + nn26) + nn32) ≤ MS by omega) (xt_w1 hB.1 m_83ba3721) (xt_cdOf hB.1 m_83ba3721) (hts _ m_c1bef504) hB hR hS hA (fun vv h40 H locs hq hEh40 hR hS => ?_)
              obtain ⟨r41, rfl, hw⟩ := hq
              have hw := hw hEh40
              have hE := hE.tr hEh40
              refine W.eq (g2 := F0 m 85 ls [.int r41, .ref b35]) rfl ?_
              refine lv_iload_n hx hb (xb_d D_Reader_readBody 41 rfl) rfl (lv_at hl 1 rfl) ?_
              refine lv_isub hx hb (xb_d D_Reader_readBody 42 rfl) ?_
              refine lv_i2l hx hb (xb_d D_Reader_readBody 43 rfl) rfl ?_
              obtain ⟨hk42, hw⟩ := hw
              refine xb_call (D := D) (A := A) (σ := σ) (h := h40) (d := 4) (mc := bc32) (ms := bs32) (maxL := 3) (rest := []) (av := [.ref b35, .long (Int32.toInt64 (r41 - r12))]) (fun T hT X => by obtain ⟨cb9, ra9, rb9, rc9⟩ := xb_recv (ci := 1) hR rfl hk42 (by decide); exact xt_invV X hx hown (hts _ m_da067afc) (hts _ m_7e8d081f) (hts _ m_4e47f51a) (xt_sigOf (hts _ m_4f1bdc54)) nm_Row_add (by rw [hT]; exact ra9) rb9 rc9 (g := F0 m 88 ls [.long (Int32.toInt64 (r41 - r12)), .ref b35]) rfl (argsL := [.long (Int32.toInt64 (r41 - r12))]) (rest := []) rfl rfl (by rw [hb]; exact (xb_d D_Reader_readBody 44 rfl))) (ok_Row_add l hfl D A σ b35 (Int32.toInt64 (r41 - r12)) h40 bc32 bs32 _ hw) (hml.trans hl.1.symm) (by rw [hb]; exact (xb_d D_Reader_readBody 44 rfl)) (Nat.le_of_ble_eq_true rfl) (Nat.le_of_ble_eq_true rfl) (Nat.le_of_ble_eq_true rfl) (show ((((((k + kk4) + kk6) + kk14) + kk20) + kk26) + kk32) + bc32 ≤ MC by omega) (show ((((((n + nn4) + nn6) + nn14) + nn20) + nn26) + nn32) + bs32 ≤ MS by omega) (xt_w1 hB.1 m_4f1bdc54) (xt_cdOf hB.1 m_4f1bdc54) (hts _ m_c1bef504) hB hR hS hA (fun vv h43 bc44 bs44 kk44 nn44 H locs hk44 hn44 hq hEh43 hR hS => ?_) (fun XX ax h43 bc44 bs44 kk44 nn44 H locs hk44 hn44 hq hEh43 hex hR hS => ?_)
              · obtain ⟨rfl, hw⟩ := hq
                have hw := hw hEh43
                have hE := hE.tr hEh43
                refine W.eq (g2 := F0 m 91 ls []) rfl ?_
                refine lv_aload_n hx hb (xb_d D_Reader_readBody 45 rfl) rfl (lv_at hl 3 rfl) ?_
                have hk1 : xb_k h40 x0 = 4 := hEh40.k hk1
                have hk1 : xb_k h43 x0 = 4 := hEh43.k hk1
                refine xb_getP (C := R_Reader) (T := F_Reader) (N := 6) hx hb 3 0 hts fin_Reader hown hR hk1 (by decide) rfl (by decide) rfl (hts _ m_76d8349c) (fun _ h9 => h9) (xb_d D_Reader_readBody 46 rfl) ?_
                obtain ⟨b45, eb45, hw⟩ := hw
                refine xb_some eb45 ?_
                obtain ⟨hk46, hw⟩ := hw
                refine xb_getP (C := R_StackModule) (T := F_StackModule) (N := 19) hx hb 2 11 hts fin_StackModule hown hR hk46 (by decide) rfl (by decide) rfl (hts _ m_4dbee54b) (fun _ h9 => h9) (xb_d D_Reader_readBody 47 rfl) ?_
                obtain ⟨b47, eb47, hw⟩ := hw
                refine xb_some eb47 ?_
                refine lv_lconst (v := 0) hx hb (xb_d D_Reader_readBody 48 rfl) (by decide) ?_
                obtain ⟨hk48, hw⟩ := hw
                refine xb_call (D := D) (A := A) (σ := σ) (h := h43) (d := 4) (mc := bc44) (ms := bs44) (maxL := 3) (rest := []) (av := [.ref b47, .long 0]) (fun T hT X => by obtain ⟨cb9, ra9, rb9, rc9⟩ := xb_recv (ci := 1) hR rfl hk48 (by decide); exact xt_invV X hx hown (hts _ m_da067afc) (hts _ m_7e8d081f) (hts _ m_4e47f51a) (xt_sigOf (hts _ m_4f1bdc54)) nm_Row_add (by rw [hT]; exact ra9) rb9 rc9 (g := F0 m 99 ls [.long 0, .ref b47]) rfl (argsL := [.long 0]) (rest := []) rfl rfl (by rw [hb]; exact (xb_d D_Reader_readBody 49 rfl))) (ok_Row_add l hfl D A σ b47 0 h43 bc44 bs44 _ hw) (hml.trans hl.1.symm) (by rw [hb]; exact (xb_d D_Reader_readBody 49 rfl)) (Nat.le_of_ble_eq_true rfl) (Nat.le_of_ble_eq_true rfl) (Nat.le_of_ble_eq_true rfl) (show (((((((k + kk4) + kk6) + kk14) + kk20) + kk26) + kk32) + kk44) + bc44 ≤ MC by omega) (show (((((((n + nn4) + nn6) + nn14) + nn20) + nn26) + nn32) + nn44) + bs44 ≤ MS by omega) (xt_w1 hB.1 m_4f1bdc54) (xt_cdOf hB.1 m_4f1bdc54) (hts _ m_c1bef504) hB hR hS hA (fun vv h49 bc50 bs50 kk50 nn50 H locs hk50 hn50 hq hEh49 hR hS => ?_) (fun XX ax h49 bc50 bs50 kk50 nn50 H locs hk50 hn50 hq hEh49 hex hR hS => ?_)
                · obtain ⟨rfl, hw⟩ := hq
                  have hw := hw hEh49
                  have hE := hE.tr hEh49
                  refine W.eq (g2 := F0 m 102 ls []) rfl ?_
                  refine lv_aload_n hx hb (xb_d D_Reader_readBody 50 rfl) rfl (lv_at hl 3 rfl) ?_
                  have hk1 : xb_k h49 x0 = 4 := hEh49.k hk1
                  refine xb_call (D := D) (A := A) (σ := σ) (h := h49) (d := 5) (mc := bc50) (ms := bs50) (maxL := 6) (rest := []) (av := [.ref x0]) (fun T hT X => by obtain ⟨cb9, ra9, rb9, rc9⟩ := xb_recv (ci := 3) hR rfl hk1 (by decide); exact xt_invV X hx hown (hts _ m_90e667a6) (hts _ m_02684d67) (hts _ m_97aecff3) (xt_sigOf (hts _ m_150d97f6)) nm_Reader_readExpression (by rw [hT]; exact ra9) rb9 rc9 (g := F0 m 103 ls [.ref x0]) rfl (argsL := []) (rest := []) rfl rfl (by rw [hb]; exact (xb_d D_Reader_readBody 51 rfl))) (ok_Reader_readExpression l hfl D A σ x0 h49 bc50 bs50 _ _ hw) (hml.trans hl.1.symm) (by rw [hb]; exact (xb_d D_Reader_readBody 51 rfl)) (Nat.le_of_ble_eq_true rfl) (Nat.le_of_ble_eq_true rfl) (Nat.le_of_ble_eq_true rfl) (show ((((((((k + kk4) + kk6) + kk14) + kk20) + kk26) + kk32) + kk44) + kk50) + bc50 ≤ MC by omega) (show ((((((((n + nn4) + nn6) + nn14) + nn20) + nn26) + nn32) + nn44) + nn50) + bs50 ≤ MS by omega) (xt_w1 hB.1 m_150d97f6) (xt_cdOf hB.1 m_150d97f6) (hts _ m_938fcec4) hB hR hS hA (fun vv h51 bc52 bs52 kk52 nn52 H locs hk52 hn52 hq hEh51 hR hS => ?_) (fun XX ax h51 bc52 bs52 kk52 nn52 H locs hk52 hn52 hq hEh51 hex hR hS => ?_)
                  · obtain ⟨rfl, hw⟩ := hq
                    have hw := hw hEh51
                    have hE := hE.tr hEh51
                    refine W.eq (g2 := F0 m 106 ls []) rfl ?_
                    refine lv_aload_n hx hb (xb_d D_Reader_readBody 52 rfl) rfl (lv_at hl 3 rfl) ?_
                    have hk1 : xb_k h51 x0 = 4 := hEh51.k hk1
                    refine xb_getI (C := R_Reader) (T := F_Reader) (N := 6) hx hb 3 3 hts fin_Reader hown hR hk1 (by decide) rfl (by decide) rfl (hts _ m_a9b84ac2) (fun _ h9 => h9) (xb_d D_Reader_readBody 53 rfl) ?_
                    refine lv_aload_n hx hb (xb_d D_Reader_readBody 54 rfl) rfl (lv_at hl 3 rfl) ?_
                    refine xb_getI (C := R_Reader) (T := F_Reader) (N := 6) hx hb 3 4 hts fin_Reader hown hR hk1 (by decide) rfl (by decide) rfl (hts _ m_49916c4b) (fun _ h9 => h9) (xb_d D_Reader_readBody 55 rfl) ?_
                    refine lv_icmp_ge (tgt := 130) hx hb (xb_d D_Reader_readBody 56 rfl) rfl (fun hc53 => ?_) (fun hc53 => ?_)
                    · have hw := hw.1 hc53
                      exact am_Reader_readBody_L130 l hfl D A σ MC MS h0 Qr Qt x0 v2 h51 bc52 bs52 hw p e s m args below meth c hC H locs ls (((((((((k + kk4) + kk6) + kk14) + kk20) + kk26) + kk32) + kk44) + kk50) + kk52) (((((((((n + nn4) + nn6) + nn14) + nn20) + nn26) + nn32) + nn44) + nn50) + nn52) hE (lv_sub hl [3, 2] rfl) hR hS (by omega) (by omega)
                    · have hw := hw.2 hc53
                      refine lv_aload_n hx hb (xb_d D_Reader_readBody 57 rfl) rfl (lv_at hl 3 rfl) ?_
                      refine xb_getP (C := R_Reader) (T := F_Reader) (N := 6) hx hb 3 0 hts fin_Reader hown hR hk1 (by decide) rfl (by decide) rfl (hts _ m_76d8349c) (fun _ h9 => h9) (xb_d D_Reader_readBody 58 rfl) ?_
                      obtain ⟨b54, eb54, hw⟩ := hw
                      refine xb_some eb54 ?_
                      refine lv_bipush (v := 7) hx hb (xb_d D_Reader_readBody 59 rfl) (by decide) ?_
                      refine lv_aload_n hx hb (xb_d D_Reader_readBody 60 rfl) rfl (lv_at hl 3 rfl) ?_
                      refine xb_getI (C := R_Reader) (T := F_Reader) (N := 6) hx hb 3 3 hts fin_Reader hown hR hk1 (by decide) rfl (by decide) rfl (hts _ m_a9b84ac2) (fun _ h9 => h9) (xb_d D_Reader_readBody 61 rfl) ?_
                      obtain ⟨hk55, hw⟩ := hw
                      refine xb_call (D := D) (A := A) (σ := σ) (h := h51) (d := 2) (mc := bc52) (ms := bs52) (maxL := 3) (rest := []) (av := [.ref b54, .int 7, .int (xb_i h51 x0 3)]) (fun T hT X => by obtain ⟨cb9, ra9, rb9, rc9⟩ := xb_recv (ci := 2) hR rfl hk55 (by decide); exact xt_invV X hx hown (hts _ m_6fcde429) (hts _ m_865d5b07) (hts _ m_113f8f75) (xt_sigOf (hts _ m_73e65e5f)) nm_StackModule_fail (by rw [hT]; exact ra9) rb9 rc9 (g := F0 m 127 ls [.int (xb_i h51 x0 3), .int 7, .ref b54]) rfl (argsL := [.int 7, .int (xb_i h51 x0 3)]) (rest := []) rfl rfl (by rw [hb]; exact (xb_d D_Reader_readBody 62 rfl))) (ok_StackModule_fail l hfl D A σ b54 7 (xb_i h51 x0 3) h51 bc52 bs52 _ _ hw) (hml.trans hl.1.symm) (by rw [hb]; exact (xb_d D_Reader_readBody 62 rfl)) (Nat.le_of_ble_eq_true rfl) (Nat.le_of_ble_eq_true rfl) (Nat.le_of_ble_eq_true rfl) (show (((((((((k + kk4) + kk6) + kk14) + kk20) + kk26) + kk32) + kk44) + kk50) + kk52) + bc52 ≤ MC by omega) (show (((((((((n + nn4) + nn6) + nn14) + nn20) + nn26) + nn32) + nn44) + nn50) + nn52) + bs52 ≤ MS by omega) (xt_w1 hB.1 m_73e65e5f) (xt_cdOf hB.1 m_73e65e5f) (hts _ m_9c375545) hB hR hS hA (fun vv h56 bc57 bs57 kk57 nn57 H locs hk57 hn57 hq hEh56 hR hS => ?_) (fun XX ax h56 bc57 bs57 kk57 nn57 H locs hk57 hn57 hq hEh56 hex hR hS => ?_)
                      · obtain ⟨rfl, hw⟩ := hq
                        have hw := hw hEh56
                        have hE := hE.tr hEh56
                        refine W.eq (g2 := F0 m 130 ls []) rfl ?_
                        exact am_Reader_readBody_L130 l hfl D A σ MC MS h0 Qr Qt x0 v2 h56 bc57 bs57 hw p e s m args below meth c hC H locs ls ((((((((((k + kk4) + kk6) + kk14) + kk20) + kk26) + kk32) + kk44) + kk50) + kk52) + kk57) ((((((((((n + nn4) + nn6) + nn14) + nn20) + nn26) + nn32) + nn44) + nn50) + nn52) + nn57) hE (lv_sub hl [3, 2] rfl) hR hS (by omega) (by omega)
                      · exact xb_pass hlocks (fun x hx9 => by rw [htab] at hx9; first | (cases hx9; done) | (simp [tableOf] at hx9; subst hx9; decide) | (simp [tableOf] at hx9; rcases hx9 with rfl | rfl <;> decide) | (simp [tableOf] at hx9; rcases hx9 with rfl | rfl | rfl <;> decide)) (show ((((((((((k + kk4) + kk6) + kk14) + kk20) + kk26) + kk32) + kk44) + kk50) + kk52) + kk57) + bc57 ≤ MC by omega) (show ((((((((((n + nn4) + nn6) + nn14) + nn20) + nn26) + nn32) + nn44) + nn50) + nn52) + nn57) + bs57 ≤ MS by omega) (hE.tr hEh56) hR hS hex hq
                  · exact xb_pass hlocks (fun x hx9 => by rw [htab] at hx9; first | (cases hx9; done) | (simp [tableOf] at hx9; subst hx9; decide) | (simp [tableOf] at hx9; rcases hx9 with rfl | rfl <;> decide) | (simp [tableOf] at hx9; rcases hx9 with rfl | rfl | rfl <;> decide)) (show (((((((((k + kk4) + kk6) + kk14) + kk20) + kk26) + kk32) + kk44) + kk50) + kk52) + bc52 ≤ MC by omega) (show (((((((((n + nn4) + nn6) + nn14) + nn20) + nn26) + nn32) + nn44) + nn50) + nn52) + bs52 ≤ MS by omega) (hE.tr hEh51) hR hS hex hq
                · exact False.elim hq
              · exact False.elim hq
            · exact False.elim hq
          · exact False.elim hq
        · exact False.elim hq
      · exact xb_pass hlocks (fun x hx9 => by rw [htab] at hx9; first | (cases hx9; done) | (simp [tableOf] at hx9; subst hx9; decide) | (simp [tableOf] at hx9; rcases hx9 with rfl | rfl <;> decide) | (simp [tableOf] at hx9; rcases hx9 with rfl | rfl | rfl <;> decide)) (show (((k + kk4) + kk6) + kk14) + bc14 ≤ MC by omega) (show (((n + nn4) + nn6) + nn14) + bs14 ≤ MS by omega) (hE.tr hEh13) hR hS hex hq
    · exact xb_pass hlocks (fun x hx9 => by rw [htab] at hx9; first | (cases hx9; done) | (simp [tableOf] at hx9; subst hx9; decide) | (simp [tableOf] at hx9; rcases hx9 with rfl | rfl <;> decide) | (simp [tableOf] at hx9; rcases hx9 with rfl | rfl | rfl <;> decide)) (show ((k + kk4) + kk6) + bc6 ≤ MC by omega) (show ((n + nn4) + nn6) + bs6 ≤ MS by omega) (hE.tr hEh5) hR hS hex hq
  · exact xb_pass hlocks (fun x hx9 => by rw [htab] at hx9; first | (cases hx9; done) | (simp [tableOf] at hx9; subst hx9; decide) | (simp [tableOf] at hx9; rcases hx9 with rfl | rfl <;> decide) | (simp [tableOf] at hx9; rcases hx9 with rfl | rfl | rfl <;> decide)) (show (k + kk4) + bc4 ≤ MC by omega) (show (n + nn4) + bs4 ≤ MS by omega) (hE.tr hEh3) hR hS hex hq

theorem m_8a7498eb : (.fieldLink "StackHost$Reader" 178 "StackHost$StackModule" "data" "LStackHost$Row;" : Cond) ∈ xt_tbl := xt_in (xt_t3 (List.mem_of_getElem? (i := 111) (by decide +kernel))) (by decide +kernel)
set_option maxRecDepth 100000 in
def T_Reader_readData : List (Nat × Instr × Nat) := [(0, .aload_n 0, 1), (1, .getfield 15, 3), (4, .getfield 178, 3), (7, .aload_n 0, 1), (8, .getfield 41, 3), (11, .i2l, 1), (12, .invokevirtual 87, 3), (15, .aload_n 0, 1), (16, .getfield 15, 3), (19, .getfield 178, 3), (22, .aload_n 0, 1), (23, .invokevirtual 70, 3), (26, .i2l, 1), (27, .ldc2_w 76, 3), (30, .land, 1), (31, .invokevirtual 87, 3), (34, .aload_n 0, 1), (35, .getfield 15, 3), (38, .getfield 178, 3), (41, .aload_n 0, 1), (42, .getfield 41, 3), (45, .i2l, 1), (46, .invokevirtual 87, 3), (49, .aload_n 0, 1), (50, .invokevirtual 166, 3), (53, .aload_n 0, 1), (54, .invokevirtual 70, 3), (57, .istore_n 1, 1), (58, .iload_n 1, 1), (59, .ifCond .lt 16, 3), (62, .iload_n 1, 1), (63, .aload_n 0, 1), (64, .getfield 30, 3), (67, .aload_n 0, 1), (68, .getfield 41, 3), (71, .isub, 1), (72, .if_icmp .le 15, 3), (75, .aload_n 0, 1), (76, .getfield 15, 3), (79, .iconst 2, 1), (80, .aload_n 0, 1), (81, .getfield 30, 3), (84, .invokevirtual 37, 3), (87, .aload_n 0, 1), (88, .getfield 15, 3), (91, .getfield 178, 3), (94, .aload_n 0, 1), (95, .getfield 41, 3), (98, .i2l, 1), (99, .invokevirtual 87, 3), (102, .aload_n 0, 1), (103, .getfield 15, 3), (106, .getfield 178, 3), (109, .iload_n 1, 1), (110, .i2l, 1), (111, .invokevirtual 87, 3), (114, .aload_n 0, 1), (115, .dup, 1), (116, .getfield 41, 3), (119, .iload_n 1, 1), (120, .iadd, 1), (121, .putfield 41, 3), (124, .return_, 1)]
theorem D_Reader_readData : ∀ q ∈ T_Reader_readData, decode b_Reader_readData q.1 = .ok (q.2.1, q.2.2) := by decide +kernel

set_option maxHeartbeats 4000000 in
set_option maxRecDepth 100000 in
theorem am_Reader_readData_L87 (l : Launch) (hfl : l.flags = pinnedFlags ++ [noTraceFlag]) (D : va_G) (A : Nat → Prop) (σ MC MS : Nat) (h0 : xb_H) (Qr : xb_H → Nat → Nat → Prop) (Qt : String → xb_H → Nat → Nat → Prop) (x0 : Nat) (x1 : Int32) (h : xb_H) (bc : Nat) (bs : Nat) (hw : w_Reader_readData_L87 Qr Qt x0 x1 h bc bs) : xb_am l D A σ 6 MC MS h0 (fun v h bc bs => v = none ∧ Qr h bc bs) Qt y_Reader_readData.cls y_Reader_readData.name b_Reader_readData 2 ([] : List ExceptionTableEntry) none 87 [(0, .ref x0), (1, .int x1)] [] h bc bs := by
  unfold w_Reader_readData_L87 at hw
  intro p e s m args below meth c hC H locs ls k n hE hl hR hS hk hn
  obtain ⟨hx, hb, hown, hlocks, htab, hml, hr, hB, hA, hnm⟩ := id hC
  have hts := hB.1.1.at args
  refine lv_aload_n hx hb (xb_d D_Reader_readData 43 rfl) rfl (lv_at hl 0 rfl) ?_
  obtain ⟨hk1, hw⟩ := hw
  refine xb_getP (C := R_Reader) (T := F_Reader) (N := 6) hx hb 3 0 hts fin_Reader hown hR hk1 (by decide) rfl (by decide) rfl (hts _ m_76d8349c) (fun _ h9 => h9) (xb_d D_Reader_readData 44 rfl) ?_
  obtain ⟨b2, eb2, hw⟩ := hw
  refine xb_some eb2 ?_
  obtain ⟨hk3, hw⟩ := hw
  refine xb_getP (C := R_StackModule) (T := F_StackModule) (N := 19) hx hb 2 13 hts fin_StackModule hown hR hk3 (by decide) rfl (by decide) rfl (hts _ m_8a7498eb) (fun _ h9 => h9) (xb_d D_Reader_readData 45 rfl) ?_
  obtain ⟨b4, eb4, hw⟩ := hw
  refine xb_some eb4 ?_
  refine lv_aload_n hx hb (xb_d D_Reader_readData 46 rfl) rfl (lv_at hl 0 rfl) ?_
  refine xb_getI (C := R_Reader) (T := F_Reader) (N := 6) hx hb 3 3 hts fin_Reader hown hR hk1 (by decide) rfl (by decide) rfl (hts _ m_a9b84ac2) (fun _ h9 => h9) (xb_d D_Reader_readData 47 rfl) ?_
  refine lv_i2l hx hb (xb_d D_Reader_readData 48 rfl) rfl ?_
  obtain ⟨hk5, hw⟩ := hw
  refine xb_call (D := D) (A := A) (σ := σ) (h := h) (d := 4) (mc := bc) (ms := bs) (maxL := 3) (rest := []) (av := [.ref b4, .long (Int32.toInt64 (xb_i h x0 3))]) (fun T hT X => by obtain ⟨cb9, ra9, rb9, rc9⟩ := xb_recv (ci := 1) hR rfl hk5 (by decide); exact xt_invV X hx hown (hts _ m_da067afc) (hts _ m_7e8d081f) (hts _ m_4e47f51a) (xt_sigOf (hts _ m_4f1bdc54)) nm_Row_add (by rw [hT]; exact ra9) rb9 rc9 (g := F0 m 99 ls [.long (Int32.toInt64 (xb_i h x0 3)), .ref b4]) rfl (argsL := [.long (Int32.toInt64 (xb_i h x0 3))]) (rest := []) rfl rfl (by rw [hb]; exact (xb_d D_Reader_readData 49 rfl))) (ok_Row_add l hfl D A σ b4 (Int32.toInt64 (xb_i h x0 3)) h bc bs _ hw) (hml.trans hl.1.symm) (by rw [hb]; exact (xb_d D_Reader_readData 49 rfl)) (Nat.le_of_ble_eq_true rfl) (Nat.le_of_ble_eq_true rfl) (Nat.le_of_ble_eq_true rfl) (show k + bc ≤ MC by omega) (show n + bs ≤ MS by omega) (xt_w1 hB.1 m_4f1bdc54) (xt_cdOf hB.1 m_4f1bdc54) (hts _ m_c1bef504) hB hR hS hA (fun vv h6 bc7 bs7 kk7 nn7 H locs hk7 hn7 hq hEh6 hR hS => ?_) (fun XX ax h6 bc7 bs7 kk7 nn7 H locs hk7 hn7 hq hEh6 hex hR hS => ?_)
  · obtain ⟨rfl, hw⟩ := hq
    have hw := hw hEh6
    have hE := hE.tr hEh6
    refine W.eq (g2 := F0 m 102 ls []) rfl ?_
    refine lv_aload_n hx hb (xb_d D_Reader_readData 50 rfl) rfl (lv_at hl 0 rfl) ?_
    have hk1 : xb_k h6 x0 = 4 := hEh6.k hk1
    refine xb_getP (C := R_Reader) (T := F_Reader) (N := 6) hx hb 3 0 hts fin_Reader hown hR hk1 (by decide) rfl (by decide) rfl (hts _ m_76d8349c) (fun _ h9 => h9) (xb_d D_Reader_readData 51 rfl) ?_
    obtain ⟨b8, eb8, hw⟩ := hw
    refine xb_some eb8 ?_
    obtain ⟨hk9, hw⟩ := hw
    refine xb_getP (C := R_StackModule) (T := F_StackModule) (N := 19) hx hb 2 13 hts fin_StackModule hown hR hk9 (by decide) rfl (by decide) rfl (hts _ m_8a7498eb) (fun _ h9 => h9) (xb_d D_Reader_readData 52 rfl) ?_
    obtain ⟨b10, eb10, hw⟩ := hw
    refine xb_some eb10 ?_
    refine lv_iload_n hx hb (xb_d D_Reader_readData 53 rfl) rfl (lv_at hl 1 rfl) ?_
    refine lv_i2l hx hb (xb_d D_Reader_readData 54 rfl) rfl ?_
    obtain ⟨hk11, hw⟩ := hw
    refine xb_call (D := D) (A := A) (σ := σ) (h := h6) (d := 4) (mc := bc7) (ms := bs7) (maxL := 3) (rest := []) (av := [.ref b10, .long (Int32.toInt64 x1)]) (fun T hT X => by obtain ⟨cb9, ra9, rb9, rc9⟩ := xb_recv (ci := 1) hR rfl hk11 (by decide); exact xt_invV X hx hown (hts _ m_da067afc) (hts _ m_7e8d081f) (hts _ m_4e47f51a) (xt_sigOf (hts _ m_4f1bdc54)) nm_Row_add (by rw [hT]; exact ra9) rb9 rc9 (g := F0 m 111 ls [.long (Int32.toInt64 x1), .ref b10]) rfl (argsL := [.long (Int32.toInt64 x1)]) (rest := []) rfl rfl (by rw [hb]; exact (xb_d D_Reader_readData 55 rfl))) (ok_Row_add l hfl D A σ b10 (Int32.toInt64 x1) h6 bc7 bs7 _ hw) (hml.trans hl.1.symm) (by rw [hb]; exact (xb_d D_Reader_readData 55 rfl)) (Nat.le_of_ble_eq_true rfl) (Nat.le_of_ble_eq_true rfl) (Nat.le_of_ble_eq_true rfl) (show (k + kk7) + bc7 ≤ MC by omega) (show (n + nn7) + bs7 ≤ MS by omega) (xt_w1 hB.1 m_4f1bdc54) (xt_cdOf hB.1 m_4f1bdc54) (hts _ m_c1bef504) hB hR hS hA (fun vv h12 bc13 bs13 kk13 nn13 H locs hk13 hn13 hq hEh12 hR hS => ?_) (fun XX ax h12 bc13 bs13 kk13 nn13 H locs hk13 hn13 hq hEh12 hex hR hS => ?_)
    · obtain ⟨rfl, hw⟩ := hq
      have hw := hw hEh12
      have hE := hE.tr hEh12
      refine W.eq (g2 := F0 m 114 ls []) rfl ?_
      refine lv_aload_n hx hb (xb_d D_Reader_readData 56 rfl) rfl (lv_at hl 0 rfl) ?_
      refine lv_dup hx hb (xb_d D_Reader_readData 57 rfl) rfl ?_
      have hk1 : xb_k h12 x0 = 4 := hEh12.k hk1
      refine xb_getI (C := R_Reader) (T := F_Reader) (N := 6) hx hb 3 3 hts fin_Reader hown hR hk1 (by decide) rfl (by decide) rfl (hts _ m_a9b84ac2) (fun _ h9 => h9) (xb_d D_Reader_readData 58 rfl) ?_
      refine lv_iload_n hx hb (xb_d D_Reader_readData 59 rfl) rfl (lv_at hl 1 rfl) ?_
      refine lv_iadd hx hb (xb_d D_Reader_readData 60 rfl) ?_
      refine xb_putI (C := R_Reader) (T := F_Reader) (N := 6) (ty := .int) (x := ((xb_i h12 x0 3) + x1)) hx hb 3 3 hts fin_Reader t_Reader t_Reader_ok n_Reader hown hR hS hk1 (by decide) rfl (by decide) rfl (hts _ m_a9b84ac2) (fun _ h9 => h9) rfl (by decide +kernel) rfl rfl (xb_d D_Reader_readData 61 rfl) (fun H locs hR hS => ?_)
      obtain ⟨h14, eh14⟩ : ∃ x : xb_H, x = xb_I h12 x0 3 ((xb_i h12 x0 3) + x1) := ⟨_, rfl⟩
      rw [← eh14] at hR
      have hw := hw h14 eh14
      have hE : xb_ext h0 h14 := by rw [eh14]; exact hE
      exact xb_vret bc13 bs13 hx hb hr hlocks (show ((k + kk7) + kk13) + bc13 ≤ MC by omega) (show ((n + nn7) + nn13) + bs13 ≤ MS by omega) hE hR hS (xb_d D_Reader_readData 62 rfl) hw
    · exact False.elim hq
  · exact False.elim hq

set_option maxHeartbeats 4000000 in
set_option maxRecDepth 100000 in
theorem am_Reader_readData_L75 (l : Launch) (hfl : l.flags = pinnedFlags ++ [noTraceFlag]) (D : va_G) (A : Nat → Prop) (σ MC MS : Nat) (h0 : xb_H) (Qr : xb_H → Nat → Nat → Prop) (Qt : String → xb_H → Nat → Nat → Prop) (x0 : Nat) (x1 : Int32) (h : xb_H) (bc : Nat) (bs : Nat) (hw : w_Reader_readData_L75 Qr Qt x0 x1 h bc bs) : xb_am l D A σ 6 MC MS h0 (fun v h bc bs => v = none ∧ Qr h bc bs) Qt y_Reader_readData.cls y_Reader_readData.name b_Reader_readData 2 ([] : List ExceptionTableEntry) none 75 [(0, .ref x0), (1, .int x1)] [] h bc bs := by
  unfold w_Reader_readData_L75 at hw
  intro p e s m args below meth c hC H locs ls k n hE hl hR hS hk hn
  obtain ⟨hx, hb, hown, hlocks, htab, hml, hr, hB, hA, hnm⟩ := id hC
  have hts := hB.1.1.at args
  refine lv_aload_n hx hb (xb_d D_Reader_readData 37 rfl) rfl (lv_at hl 0 rfl) ?_
  obtain ⟨hk1, hw⟩ := hw
  refine xb_getP (C := R_Reader) (T := F_Reader) (N := 6) hx hb 3 0 hts fin_Reader hown hR hk1 (by decide) rfl (by decide) rfl (hts _ m_76d8349c) (fun _ h9 => h9) (xb_d D_Reader_readData 38 rfl) ?_
  obtain ⟨b2, eb2, hw⟩ := hw
  refine xb_some eb2 ?_
  refine lv_iconst (v := 2) hx hb (xb_d D_Reader_readData 39 rfl) (by decide) ?_
  refine lv_aload_n hx hb (xb_d D_Reader_readData 40 rfl) rfl (lv_at hl 0 rfl) ?_
  refine xb_getI (C := R_Reader) (T := F_Reader) (N := 6) hx hb 3 4 hts fin_Reader hown hR hk1 (by decide) rfl (by decide) rfl (hts _ m_49916c4b) (fun _ h9 => h9) (xb_d D_Reader_readData 41 rfl) ?_
  obtain ⟨hk3, hw⟩ := hw
  refine xb_call (D := D) (A := A) (σ := σ) (h := h) (d := 2) (mc := bc) (ms := bs) (maxL := 3) (rest := []) (av := [.ref b2, .int 2, .int (xb_i h x0 4)]) (fun T hT X => by obtain ⟨cb9, ra9, rb9, rc9⟩ := xb_recv (ci := 2) hR rfl hk3 (by decide); exact xt_invV X hx hown (hts _ m_6fcde429) (hts _ m_865d5b07) (hts _ m_113f8f75) (xt_sigOf (hts _ m_73e65e5f)) nm_StackModule_fail (by rw [hT]; exact ra9) rb9 rc9 (g := F0 m 84 ls [.int (xb_i h x0 4), .int 2, .ref b2]) rfl (argsL := [.int 2, .int (xb_i h x0 4)]) (rest := []) rfl rfl (by rw [hb]; exact (xb_d D_Reader_readData 42 rfl))) (ok_StackModule_fail l hfl D A σ b2 2 (xb_i h x0 4) h bc bs _ _ hw) (hml.trans hl.1.symm) (by rw [hb]; exact (xb_d D_Reader_readData 42 rfl)) (Nat.le_of_ble_eq_true rfl) (Nat.le_of_ble_eq_true rfl) (Nat.le_of_ble_eq_true rfl) (show k + bc ≤ MC by omega) (show n + bs ≤ MS by omega) (xt_w1 hB.1 m_73e65e5f) (xt_cdOf hB.1 m_73e65e5f) (hts _ m_9c375545) hB hR hS hA (fun vv h4 bc5 bs5 kk5 nn5 H locs hk5 hn5 hq hEh4 hR hS => ?_) (fun XX ax h4 bc5 bs5 kk5 nn5 H locs hk5 hn5 hq hEh4 hex hR hS => ?_)
  · obtain ⟨rfl, hw⟩ := hq
    have hw := hw hEh4
    have hE := hE.tr hEh4
    refine W.eq (g2 := F0 m 87 ls []) rfl ?_
    exact am_Reader_readData_L87 l hfl D A σ MC MS h0 Qr Qt x0 x1 h4 bc5 bs5 hw p e s m args below meth c hC H locs ls (k + kk5) (n + nn5) hE (lv_sub hl [0, 1] rfl) hR hS (by omega) (by omega)
  · exact xb_pass hlocks (fun x hx9 => by rw [htab] at hx9; first | (cases hx9; done) | (simp [tableOf] at hx9; subst hx9; decide) | (simp [tableOf] at hx9; rcases hx9 with rfl | rfl <;> decide) | (simp [tableOf] at hx9; rcases hx9 with rfl | rfl | rfl <;> decide)) (show (k + kk5) + bc5 ≤ MC by omega) (show (n + nn5) + bs5 ≤ MS by omega) (hE.tr hEh4) hR hS hex hq

set_option maxHeartbeats 4000000 in
set_option maxRecDepth 100000 in
theorem ok_Reader_readData (l : Launch) (hfl : l.flags = pinnedFlags ++ [noTraceFlag]) (D : va_G) (A : Nat → Prop) (σ : Nat) (x0 : Nat) (h : xb_H) (bc : Nat) (bs : Nat) (Qr : xb_H → Nat → Nat → Prop) (Qt : String → xb_H → Nat → Nat → Prop) (hw : w_Reader_readData x0 h bc bs Qr Qt) : xb_Met l y_Reader_readData [.code y_Reader_readData b_Reader_readData 2 none] (xb_rm 6 bc bs) (xb_Pc D A σ h [.ref x0]) (xb_Qc D A h bc bs (fun v h bc bs => v = none ∧ Qr h bc bs) Qt) A := by
  refine xb_ofAm (cc := b_Reader_readData) (by decide) (Nat.le_of_ble_eq_true rfl) ?_
  unfold w_Reader_readData at hw
  show xb_am l D A σ 6 bc bs h (fun v h bc bs => v = none ∧ Qr h bc bs) Qt y_Reader_readData.cls y_Reader_readData.name b_Reader_readData 2 ([] : List ExceptionTableEntry) none 0 [(0, .ref x0)] [] h bc bs
  obtain ⟨MC, hMC⟩ : ∃ x, x = bc := ⟨_, rfl⟩
  obtain ⟨MS, hMS⟩ : ∃ x, x = bs := ⟨_, rfl⟩
  rw [show xb_am l D A σ 6 bc bs = xb_am l D A σ 6 MC MS by rw [hMC, hMS]]
  obtain ⟨h0, hh0⟩ : ∃ x, x = h := ⟨_, rfl⟩
  rw [show xb_am l D A σ 6 MC MS h = xb_am l D A σ 6 MC MS h0 by rw [hh0]]
  intro p e s m args below meth c hC H locs ls k n hE hl hR hS hk hn
  obtain ⟨hx, hb, hown, hlocks, htab, hml, hr, hB, hA, hnm⟩ := id hC
  have hts := hB.1.1.at args
  refine lv_aload_n hx hb (xb_d D_Reader_readData 0 rfl) rfl (lv_at hl 0 rfl) ?_
  obtain ⟨hk1, hw⟩ := hw
  refine xb_getP (C := R_Reader) (T := F_Reader) (N := 6) hx hb 3 0 hts fin_Reader hown hR hk1 (by decide) rfl (by decide) rfl (hts _ m_76d8349c) (fun _ h9 => h9) (xb_d D_Reader_readData 1 rfl) ?_
  obtain ⟨b2, eb2, hw⟩ := hw
  refine xb_some eb2 ?_
  obtain ⟨hk3, hw⟩ := hw
  refine xb_getP (C := R_StackModule) (T := F_StackModule) (N := 19) hx hb 2 13 hts fin_StackModule hown hR hk3 (by decide) rfl (by decide) rfl (hts _ m_8a7498eb) (fun _ h9 => h9) (xb_d D_Reader_readData 2 rfl) ?_
  obtain ⟨b4, eb4, hw⟩ := hw
  refine xb_some eb4 ?_
  refine lv_aload_n hx hb (xb_d D_Reader_readData 3 rfl) rfl (lv_at hl 0 rfl) ?_
  refine xb_getI (C := R_Reader) (T := F_Reader) (N := 6) hx hb 3 3 hts fin_Reader hown hR hk1 (by decide) rfl (by decide) rfl (hts _ m_a9b84ac2) (fun _ h9 => h9) (xb_d D_Reader_readData 4 rfl) ?_
  refine lv_i2l hx hb (xb_d D_Reader_readData 5 rfl) rfl ?_
  obtain ⟨hk5, hw⟩ := hw
  refine xb_call (D := D) (A := A) (σ := σ) (h := h) (d := 4) (mc := bc) (ms := bs) (maxL := 3) (rest := []) (av := [.ref b4, .long (Int32.toInt64 (xb_i h x0 3))]) (fun T hT X => by obtain ⟨cb9, ra9, rb9, rc9⟩ := xb_recv (ci := 1) hR rfl hk5 (by decide); exact xt_invV X hx hown (hts _ m_da067afc) (hts _ m_7e8d081f) (hts _ m_4e47f51a) (xt_sigOf (hts _ m_4f1bdc54)) nm_Row_add (by rw [hT]; exact ra9) rb9 rc9 (g := F0 m 12 ls [.long (Int32.toInt64 (xb_i h x0 3)), .ref b4]) rfl (argsL := [.long (Int32.toInt64 (xb_i h x0 3))]) (rest := []) rfl rfl (by rw [hb]; exact (xb_d D_Reader_readData 6 rfl))) (ok_Row_add l hfl D A σ b4 (Int32.toInt64 (xb_i h x0 3)) h bc bs _ hw) (hml.trans hl.1.symm) (by rw [hb]; exact (xb_d D_Reader_readData 6 rfl)) (Nat.le_of_ble_eq_true rfl) (Nat.le_of_ble_eq_true rfl) (Nat.le_of_ble_eq_true rfl) (show k + bc ≤ MC by omega) (show n + bs ≤ MS by omega) (xt_w1 hB.1 m_4f1bdc54) (xt_cdOf hB.1 m_4f1bdc54) (hts _ m_c1bef504) hB hR hS hA (fun vv h6 bc7 bs7 kk7 nn7 H locs hk7 hn7 hq hEh6 hR hS => ?_) (fun XX ax h6 bc7 bs7 kk7 nn7 H locs hk7 hn7 hq hEh6 hex hR hS => ?_)
  · obtain ⟨rfl, hw⟩ := hq
    have hw := hw hEh6
    have hE := hE.tr hEh6
    refine W.eq (g2 := F0 m 15 ls []) rfl ?_
    refine lv_aload_n hx hb (xb_d D_Reader_readData 7 rfl) rfl (lv_at hl 0 rfl) ?_
    have hk1 : xb_k h6 x0 = 4 := hEh6.k hk1
    refine xb_getP (C := R_Reader) (T := F_Reader) (N := 6) hx hb 3 0 hts fin_Reader hown hR hk1 (by decide) rfl (by decide) rfl (hts _ m_76d8349c) (fun _ h9 => h9) (xb_d D_Reader_readData 8 rfl) ?_
    obtain ⟨b8, eb8, hw⟩ := hw
    refine xb_some eb8 ?_
    obtain ⟨hk9, hw⟩ := hw
    refine xb_getP (C := R_StackModule) (T := F_StackModule) (N := 19) hx hb 2 13 hts fin_StackModule hown hR hk9 (by decide) rfl (by decide) rfl (hts _ m_8a7498eb) (fun _ h9 => h9) (xb_d D_Reader_readData 9 rfl) ?_
    obtain ⟨b10, eb10, hw⟩ := hw
    refine xb_some eb10 ?_
    refine lv_aload_n hx hb (xb_d D_Reader_readData 10 rfl) rfl (lv_at hl 0 rfl) ?_
    refine xb_call (D := D) (A := A) (σ := σ) (h := h6) (d := 3) (mc := bc7) (ms := bs7) (maxL := 4) (rest := [.ref b10]) (av := [.ref x0]) (fun T hT X => by obtain ⟨cb9, ra9, rb9, rc9⟩ := xb_recv (ci := 3) hR rfl hk1 (by decide); exact xt_invV X hx hown (hts _ m_2c379b4d) (hts _ m_a120e786) (hts _ m_e903c73e) (xt_sigOf (hts _ m_99690a98)) nm_Reader_count (by rw [hT]; exact ra9) rb9 rc9 (g := F0 m 23 ls [.ref x0, .ref b10]) rfl (argsL := []) (rest := [.ref b10]) rfl rfl (by rw [hb]; exact (xb_d D_Reader_readData 11 rfl))) (ok_Reader_count l hfl D A σ x0 h6 bc7 bs7 _ _ hw) (hml.trans hl.1.symm) (by rw [hb]; exact (xb_d D_Reader_readData 11 rfl)) (Nat.le_of_ble_eq_true rfl) (Nat.le_of_ble_eq_true rfl) (Nat.le_of_ble_eq_true rfl) (show (k + kk7) + bc7 ≤ MC by omega) (show (n + nn7) + bs7 ≤ MS by omega) (xt_w1 hB.1 m_99690a98) (xt_cdOf hB.1 m_99690a98) (hts _ m_938fcec4) hB hR hS hA (fun vv h11 bc12 bs12 kk12 nn12 H locs hk12 hn12 hq hEh11 hR hS => ?_) (fun XX ax h11 bc12 bs12 kk12 nn12 H locs hk12 hn12 hq hEh11 hex hR hS => ?_)
    · obtain ⟨r12, rfl, hw⟩ := hq
      have hw := hw hEh11
      have hE := hE.tr hEh11
      refine W.eq (g2 := F0 m 26 ls [.int r12, .ref b10]) rfl ?_
      refine lv_i2l hx hb (xb_d D_Reader_readData 12 rfl) rfl ?_
      refine lv_ldc2 (v := 4294967295) hx hb hown (hts _ m_687f726b) (xb_d D_Reader_readData 13 rfl) ?_
      refine lv_land hx hb (xb_d D_Reader_readData 14 rfl) ?_
      obtain ⟨hk13, hw⟩ := hw
      refine xb_call (D := D) (A := A) (σ := σ) (h := h11) (d := 4) (mc := bc12) (ms := bs12) (maxL := 3) (rest := []) (av := [.ref b10, .long ((Int32.toInt64 r12) &&& 4294967295)]) (fun T hT X => by obtain ⟨cb9, ra9, rb9, rc9⟩ := xb_recv (ci := 1) hR rfl hk13 (by decide); exact xt_invV X hx hown (hts _ m_da067afc) (hts _ m_7e8d081f) (hts _ m_4e47f51a) (xt_sigOf (hts _ m_4f1bdc54)) nm_Row_add (by rw [hT]; exact ra9) rb9 rc9 (g := F0 m 31 ls [.long ((Int32.toInt64 r12) &&& 4294967295), .ref b10]) rfl (argsL := [.long ((Int32.toInt64 r12) &&& 4294967295)]) (rest := []) rfl rfl (by rw [hb]; exact (xb_d D_Reader_readData 15 rfl))) (ok_Row_add l hfl D A σ b10 ((Int32.toInt64 r12) &&& 4294967295) h11 bc12 bs12 _ hw) (hml.trans hl.1.symm) (by rw [hb]; exact (xb_d D_Reader_readData 15 rfl)) (Nat.le_of_ble_eq_true rfl) (Nat.le_of_ble_eq_true rfl) (Nat.le_of_ble_eq_true rfl) (show ((k + kk7) + kk12) + bc12 ≤ MC by omega) (show ((n + nn7) + nn12) + bs12 ≤ MS by omega) (xt_w1 hB.1 m_4f1bdc54) (xt_cdOf hB.1 m_4f1bdc54) (hts _ m_c1bef504) hB hR hS hA (fun vv h14 bc15 bs15 kk15 nn15 H locs hk15 hn15 hq hEh14 hR hS => ?_) (fun XX ax h14 bc15 bs15 kk15 nn15 H locs hk15 hn15 hq hEh14 hex hR hS => ?_)
      · obtain ⟨rfl, hw⟩ := hq
        have hw := hw hEh14
        have hE := hE.tr hEh14
        refine W.eq (g2 := F0 m 34 ls []) rfl ?_
        refine lv_aload_n hx hb (xb_d D_Reader_readData 16 rfl) rfl (lv_at hl 0 rfl) ?_
        have hk1 : xb_k h11 x0 = 4 := hEh11.k hk1
        have hk1 : xb_k h14 x0 = 4 := hEh14.k hk1
        refine xb_getP (C := R_Reader) (T := F_Reader) (N := 6) hx hb 3 0 hts fin_Reader hown hR hk1 (by decide) rfl (by decide) rfl (hts _ m_76d8349c) (fun _ h9 => h9) (xb_d D_Reader_readData 17 rfl) ?_
        obtain ⟨b16, eb16, hw⟩ := hw
        refine xb_some eb16 ?_
        obtain ⟨hk17, hw⟩ := hw
        refine xb_getP (C := R_StackModule) (T := F_StackModule) (N := 19) hx hb 2 13 hts fin_StackModule hown hR hk17 (by decide) rfl (by decide) rfl (hts _ m_8a7498eb) (fun _ h9 => h9) (xb_d D_Reader_readData 18 rfl) ?_
        obtain ⟨b18, eb18, hw⟩ := hw
        refine xb_some eb18 ?_
        refine lv_aload_n hx hb (xb_d D_Reader_readData 19 rfl) rfl (lv_at hl 0 rfl) ?_
        refine xb_getI (C := R_Reader) (T := F_Reader) (N := 6) hx hb 3 3 hts fin_Reader hown hR hk1 (by decide) rfl (by decide) rfl (hts _ m_a9b84ac2) (fun _ h9 => h9) (xb_d D_Reader_readData 20 rfl) ?_
        refine lv_i2l hx hb (xb_d D_Reader_readData 21 rfl) rfl ?_
        obtain ⟨hk19, hw⟩ := hw
        refine xb_call (D := D) (A := A) (σ := σ) (h := h14) (d := 4) (mc := bc15) (ms := bs15) (maxL := 3) (rest := []) (av := [.ref b18, .long (Int32.toInt64 (xb_i h14 x0 3))]) (fun T hT X => by obtain ⟨cb9, ra9, rb9, rc9⟩ := xb_recv (ci := 1) hR rfl hk19 (by decide); exact xt_invV X hx hown (hts _ m_da067afc) (hts _ m_7e8d081f) (hts _ m_4e47f51a) (xt_sigOf (hts _ m_4f1bdc54)) nm_Row_add (by rw [hT]; exact ra9) rb9 rc9 (g := F0 m 46 ls [.long (Int32.toInt64 (xb_i h14 x0 3)), .ref b18]) rfl (argsL := [.long (Int32.toInt64 (xb_i h14 x0 3))]) (rest := []) rfl rfl (by rw [hb]; exact (xb_d D_Reader_readData 22 rfl))) (ok_Row_add l hfl D A σ b18 (Int32.toInt64 (xb_i h14 x0 3)) h14 bc15 bs15 _ hw) (hml.trans hl.1.symm) (by rw [hb]; exact (xb_d D_Reader_readData 22 rfl)) (Nat.le_of_ble_eq_true rfl) (Nat.le_of_ble_eq_true rfl) (Nat.le_of_ble_eq_true rfl) (show (((k + kk7) + kk12) + kk15) + bc15 ≤ MC by omega) (show (((n + nn7) + nn12) + nn15) + bs15 ≤ MS by omega) (xt_w1 hB.1 m_4f1bdc54) (xt_cdOf hB.1 m_4f1bdc54) (hts _ m_c1bef504) hB hR hS hA (fun vv h20 bc21 bs21 kk21 nn21 H locs hk21 hn21 hq hEh20 hR hS => ?_) (fun XX ax h20 bc21 bs21 kk21 nn21 H locs hk21 hn21 hq hEh20 hex hR hS => ?_)
        · obtain ⟨rfl, hw⟩ := hq
          have hw := hw hEh20
          have hE := hE.tr hEh20
          refine W.eq (g2 := F0 m 49 ls []) rfl ?_
          refine lv_aload_n hx hb (xb_d D_Reader_readData 23 rfl) rfl (lv_at hl 0 rfl) ?_
          have hk1 : xb_k h20 x0 = 4 := hEh20.k hk1
          refine xb_call (D := D) (A := A) (σ := σ) (h := h20) (d := 5) (mc := bc21) (ms := bs21) (maxL := 6) (rest := []) (av := [.ref x0]) (fun T hT X => by obtain ⟨cb9, ra9, rb9, rc9⟩ := xb_recv (ci := 3) hR rfl hk1 (by decide); exact xt_invV X hx hown (hts _ m_90e667a6) (hts _ m_02684d67) (hts _ m_97aecff3) (xt_sigOf (hts _ m_150d97f6)) nm_Reader_readExpression (by rw [hT]; exact ra9) rb9 rc9 (g := F0 m 50 ls [.ref x0]) rfl (argsL := []) (rest := []) rfl rfl (by rw [hb]; exact (xb_d D_Reader_readData 24 rfl))) (ok_Reader_readExpression l hfl D A σ x0 h20 bc21 bs21 _ _ hw) (hml.trans hl.1.symm) (by rw [hb]; exact (xb_d D_Reader_readData 24 rfl)) (Nat.le_of_ble_eq_true rfl) (Nat.le_of_ble_eq_true rfl) (Nat.le_of_ble_eq_true rfl) (show ((((k + kk7) + kk12) + kk15) + kk21) + bc21 ≤ MC by omega) (show ((((n + nn7) + nn12) + nn15) + nn21) + bs21 ≤ MS by omega) (xt_w1 hB.1 m_150d97f6) (xt_cdOf hB.1 m_150d97f6) (hts _ m_938fcec4) hB hR hS hA (fun vv h22 bc23 bs23 kk23 nn23 H locs hk23 hn23 hq hEh22 hR hS => ?_) (fun XX ax h22 bc23 bs23 kk23 nn23 H locs hk23 hn23 hq hEh22 hex hR hS => ?_)
          · obtain ⟨rfl, hw⟩ := hq
            have hw := hw hEh22
            have hE := hE.tr hEh22
            refine W.eq (g2 := F0 m 53 ls []) rfl ?_
            refine lv_aload_n hx hb (xb_d D_Reader_readData 25 rfl) rfl (lv_at hl 0 rfl) ?_
            have hk1 : xb_k h22 x0 = 4 := hEh22.k hk1
            refine xb_call (D := D) (A := A) (σ := σ) (h := h22) (d := 3) (mc := bc23) (ms := bs23) (maxL := 4) (rest := []) (av := [.ref x0]) (fun T hT X => by obtain ⟨cb9, ra9, rb9, rc9⟩ := xb_recv (ci := 3) hR rfl hk1 (by decide); exact xt_invV X hx hown (hts _ m_2c379b4d) (hts _ m_a120e786) (hts _ m_e903c73e) (xt_sigOf (hts _ m_99690a98)) nm_Reader_count (by rw [hT]; exact ra9) rb9 rc9 (g := F0 m 54 ls [.ref x0]) rfl (argsL := []) (rest := []) rfl rfl (by rw [hb]; exact (xb_d D_Reader_readData 26 rfl))) (ok_Reader_count l hfl D A σ x0 h22 bc23 bs23 _ _ hw) (hml.trans hl.1.symm) (by rw [hb]; exact (xb_d D_Reader_readData 26 rfl)) (Nat.le_of_ble_eq_true rfl) (Nat.le_of_ble_eq_true rfl) (Nat.le_of_ble_eq_true rfl) (show (((((k + kk7) + kk12) + kk15) + kk21) + kk23) + bc23 ≤ MC by omega) (show (((((n + nn7) + nn12) + nn15) + nn21) + nn23) + bs23 ≤ MS by omega) (xt_w1 hB.1 m_99690a98) (xt_cdOf hB.1 m_99690a98) (hts _ m_938fcec4) hB hR hS hA (fun vv h24 bc25 bs25 kk25 nn25 H locs hk25 hn25 hq hEh24 hR hS => ?_) (fun XX ax h24 bc25 bs25 kk25 nn25 H locs hk25 hn25 hq hEh24 hex hR hS => ?_)
            · obtain ⟨r25, rfl, hw⟩ := hq
              have hw := hw hEh24
              have hE := hE.tr hEh24
              refine W.eq (g2 := F0 m 57 ls [.int r25]) rfl ?_
              refine lv_istore_n hx hb (xb_d D_Reader_readData 27 rfl) rfl hl (by decide) rfl (fun ls hl => ?_)
              have hl : lv_has ls 2 [(1, .int r25), (0, .ref x0)] := hl
              refine lv_iload_n hx hb (xb_d D_Reader_readData 28 rfl) rfl (lv_at hl 0 rfl) ?_
              refine lv_if_lt (tgt := 75) hx hb (xb_d D_Reader_readData 29 rfl) rfl (fun hc26 => ?_) (fun hc26 => ?_)
              · have hw := hw.1 hc26
                exact am_Reader_readData_L75 l hfl D A σ MC MS h0 Qr Qt x0 r25 h24 bc25 bs25 hw p e s m args below meth c hC H locs ls ((((((k + kk7) + kk12) + kk15) + kk21) + kk23) + kk25) ((((((n + nn7) + nn12) + nn15) + nn21) + nn23) + nn25) hE (lv_sub hl [1, 0] rfl) hR hS (by omega) (by omega)
              · have hw := hw.2 hc26
                refine lv_iload_n hx hb (xb_d D_Reader_readData 30 rfl) rfl (lv_at hl 0 rfl) ?_
                refine lv_aload_n hx hb (xb_d D_Reader_readData 31 rfl) rfl (lv_at hl 1 rfl) ?_
                have hk1 : xb_k h24 x0 = 4 := hEh24.k hk1
                refine xb_getI (C := R_Reader) (T := F_Reader) (N := 6) hx hb 3 4 hts fin_Reader hown hR hk1 (by decide) rfl (by decide) rfl (hts _ m_49916c4b) (fun _ h9 => h9) (xb_d D_Reader_readData 32 rfl) ?_
                refine lv_aload_n hx hb (xb_d D_Reader_readData 33 rfl) rfl (lv_at hl 1 rfl) ?_
                refine xb_getI (C := R_Reader) (T := F_Reader) (N := 6) hx hb 3 3 hts fin_Reader hown hR hk1 (by decide) rfl (by decide) rfl (hts _ m_a9b84ac2) (fun _ h9 => h9) (xb_d D_Reader_readData 34 rfl) ?_
                refine lv_isub hx hb (xb_d D_Reader_readData 35 rfl) ?_
                refine lv_icmp_le (tgt := 87) hx hb (xb_d D_Reader_readData 36 rfl) rfl (fun hc27 => ?_) (fun hc27 => ?_)
                · have hw := hw.1 hc27
                  exact am_Reader_readData_L87 l hfl D A σ MC MS h0 Qr Qt x0 r25 h24 bc25 bs25 hw p e s m args below meth c hC H locs ls ((((((k + kk7) + kk12) + kk15) + kk21) + kk23) + kk25) ((((((n + nn7) + nn12) + nn15) + nn21) + nn23) + nn25) hE (lv_sub hl [1, 0] rfl) hR hS (by omega) (by omega)
                · have hw := hw.2 hc27
                  exact am_Reader_readData_L75 l hfl D A σ MC MS h0 Qr Qt x0 r25 h24 bc25 bs25 hw p e s m args below meth c hC H locs ls ((((((k + kk7) + kk12) + kk15) + kk21) + kk23) + kk25) ((((((n + nn7) + nn12) + nn15) + nn21) + nn23) + nn25) hE (lv_sub hl [1, 0] rfl) hR hS (by omega) (by omega)
            · exact xb_pass hlocks (fun x hx9 => by rw [htab] at hx9; first | (cases hx9; done) | (simp [tableOf] at hx9; subst hx9; decide) | (simp [tableOf] at hx9; rcases hx9 with rfl | rfl <;> decide) | (simp [tableOf] at hx9; rcases hx9 with rfl | rfl | rfl <;> decide)) (show ((((((k + kk7) + kk12) + kk15) + kk21) + kk23) + kk25) + bc25 ≤ MC by omega) (show ((((((n + nn7) + nn12) + nn15) + nn21) + nn23) + nn25) + bs25 ≤ MS by omega) (hE.tr hEh24) hR hS hex hq
          · exact xb_pass hlocks (fun x hx9 => by rw [htab] at hx9; first | (cases hx9; done) | (simp [tableOf] at hx9; subst hx9; decide) | (simp [tableOf] at hx9; rcases hx9 with rfl | rfl <;> decide) | (simp [tableOf] at hx9; rcases hx9 with rfl | rfl | rfl <;> decide)) (show (((((k + kk7) + kk12) + kk15) + kk21) + kk23) + bc23 ≤ MC by omega) (show (((((n + nn7) + nn12) + nn15) + nn21) + nn23) + bs23 ≤ MS by omega) (hE.tr hEh22) hR hS hex hq
        · exact False.elim hq
      · exact False.elim hq
    · exact xb_pass hlocks (fun x hx9 => by rw [htab] at hx9; first | (cases hx9; done) | (simp [tableOf] at hx9; subst hx9; decide) | (simp [tableOf] at hx9; rcases hx9 with rfl | rfl <;> decide) | (simp [tableOf] at hx9; rcases hx9 with rfl | rfl | rfl <;> decide)) (show ((k + kk7) + kk12) + bc12 ≤ MC by omega) (show ((n + nn7) + nn12) + bs12 ≤ MS by omega) (hE.tr hEh11) hR hS hex hq
  · exact False.elim hq

theorem m_058cb54e : (.fieldLink "StackHost$Reader" 175 "StackHost$StackModule" "listed" "LStackHost$Row;" : Cond) ∈ xt_tbl := xt_in (xt_t3 (List.mem_of_getElem? (i := 98) (by decide +kernel))) (by decide +kernel)
theorem m_b3c18b13 : (.fieldLink "StackHost$Reader" 172 "StackHost$StackModule" "elements" "LStackHost$Row;" : Cond) ∈ xt_tbl := xt_in (xt_t3 (List.mem_of_getElem? (i := 94) (by decide +kernel))) (by decide +kernel)
set_option maxRecDepth 100000 in
def T_Reader_readElements : List (Nat × Instr × Nat) := [(0, .aload_n 0, 1), (1, .getfield 15, 3), (4, .getfield 172, 3), (7, .aload_n 0, 1), (8, .getfield 41, 3), (11, .i2l, 1), (12, .invokevirtual 87, 3), (15, .aload_n 0, 1), (16, .getfield 15, 3), (19, .getfield 172, 3), (22, .aload_n 0, 1), (23, .invokevirtual 70, 3), (26, .i2l, 1), (27, .ldc2_w 76, 3), (30, .land, 1), (31, .invokevirtual 87, 3), (34, .aload_n 0, 1), (35, .getfield 15, 3), (38, .getfield 172, 3), (41, .aload_n 0, 1), (42, .getfield 41, 3), (45, .i2l, 1), (46, .invokevirtual 87, 3), (49, .aload_n 0, 1), (50, .invokevirtual 166, 3), (53, .aload_n 0, 1), (54, .invokevirtual 70, 3), (57, .i2l, 1), (58, .ldc2_w 76, 3), (61, .land, 1), (62, .lstore_n 1, 1), (63, .aload_n 0, 1), (64, .getfield 15, 3), (67, .getfield 172, 3), (70, .aload_n 0, 1), (71, .getfield 15, 3), (74, .getfield 175, 3), (77, .invokevirtual 58, 3), (80, .i2l, 1), (81, .invokevirtual 87, 3), (84, .aload_n 0, 1), (85, .getfield 15, 3), (88, .getfield 172, 3), (91, .lload_n 1, 1), (92, .invokevirtual 87, 3), (95, .lconst 0, 1), (96, .lstore_n 3, 1), (97, .lload_n 3, 1), (98, .lload_n 1, 1), (99, .lcmp, 1), (100, .ifCond .ge 44, 3), (103, .aload_n 0, 1), (104, .getfield 15, 3), (107, .getfield 175, 3), (110, .aload_n 0, 1), (111, .getfield 41, 3), (114, .i2l, 1), (115, .invokevirtual 87, 3), (118, .aload_n 0, 1), (119, .getfield 15, 3), (122, .getfield 175, 3), (125, .aload_n 0, 1), (126, .invokevirtual 70, 3), (129, .i2l, 1), (130, .ldc2_w 76, 3), (133, .land, 1), (134, .invokevirtual 87, 3), (137, .lload_n 3, 1), (138, .lconst 1, 1), (139, .ladd, 1), (140, .lstore_n 3, 1), (141, .goto (-44), 3), (144, .return_, 1)]
theorem D_Reader_readElements : ∀ q ∈ T_Reader_readElements, decode b_Reader_readElements q.1 = .ok (q.2.1, q.2.2) := by decide +kernel

set_option maxHeartbeats 4000000 in
set_option maxRecDepth 100000 in
theorem am_Reader_readElements_L97 (l : Launch) (hfl : l.flags = pinnedFlags ++ [noTraceFlag]) (D : va_G) (A : Nat → Prop) (σ MC MS : Nat) (h0 : xb_H) (Qr : xb_H → Nat → Nat → Prop) (Qt : String → xb_H → Nat → Nat → Prop) (n9 : Nat) : ∀ (x0 : Nat) (x1 : Int64) (x3 : Int64) (h : xb_H) (bc : Nat) (bs : Nat), w_Reader_readElements_L97 Qr Qt n9 x0 x1 x3 h bc bs → xb_am l D A σ 6 MC MS h0 (fun v h bc bs => v = none ∧ Qr h bc bs) Qt y_Reader_readElements.cls y_Reader_readElements.name b_Reader_readElements 5 ([] : List ExceptionTableEntry) none 97 [(0, .ref x0), (1, .long x1), (3, .long x3)] [] h bc bs := by
  induction n9 with
  | zero => intro x0 x1 x3 h bc bs hw; exact False.elim hw
  | succ n9 ih =>
    intro x0 x1 x3 h bc bs hw
    unfold w_Reader_readElements_L97 at hw
    intro p e s m args below meth c hC H locs ls k n hE hl hR hS hk hn
    obtain ⟨hx, hb, hown, hlocks, htab, hml, hr, hB, hA, hnm⟩ := id hC
    have hts := hB.1.1.at args
    refine lv_lload_n hx hb (xb_d D_Reader_readElements 47 rfl) rfl (lv_at hl 2 rfl) ?_
    refine lv_lload_n hx hb (xb_d D_Reader_readElements 48 rfl) rfl (lv_at hl 1 rfl) ?_
    refine xb_lc_ge (tgt := 144) hx hb (xb_d D_Reader_readElements 49 rfl) (xb_d D_Reader_readElements 50 rfl) rfl (fun hc1 => ?_) (fun hc1 => ?_)
    · have hw := hw.1 hc1
      exact xb_vret bc bs hx hb hr hlocks (show k + bc ≤ MC by omega) (show n + bs ≤ MS by omega) hE hR hS (xb_d D_Reader_readElements 72 rfl) hw
    · have hw := hw.2 hc1
      refine lv_aload_n hx hb (xb_d D_Reader_readElements 51 rfl) rfl (lv_at hl 0 rfl) ?_
      obtain ⟨hk2, hw⟩ := hw
      refine xb_getP (C := R_Reader) (T := F_Reader) (N := 6) hx hb 3 0 hts fin_Reader hown hR hk2 (by decide) rfl (by decide) rfl (hts _ m_76d8349c) (fun _ h9 => h9) (xb_d D_Reader_readElements 52 rfl) ?_
      obtain ⟨b3, eb3, hw⟩ := hw
      refine xb_some eb3 ?_
      obtain ⟨hk4, hw⟩ := hw
      refine xb_getP (C := R_StackModule) (T := F_StackModule) (N := 19) hx hb 2 10 hts fin_StackModule hown hR hk4 (by decide) rfl (by decide) rfl (hts _ m_058cb54e) (fun _ h9 => h9) (xb_d D_Reader_readElements 53 rfl) ?_
      obtain ⟨b5, eb5, hw⟩ := hw
      refine xb_some eb5 ?_
      refine lv_aload_n hx hb (xb_d D_Reader_readElements 54 rfl) rfl (lv_at hl 0 rfl) ?_
      refine xb_getI (C := R_Reader) (T := F_Reader) (N := 6) hx hb 3 3 hts fin_Reader hown hR hk2 (by decide) rfl (by decide) rfl (hts _ m_a9b84ac2) (fun _ h9 => h9) (xb_d D_Reader_readElements 55 rfl) ?_
      refine lv_i2l hx hb (xb_d D_Reader_readElements 56 rfl) rfl ?_
      obtain ⟨hk6, hw⟩ := hw
      refine xb_call (D := D) (A := A) (σ := σ) (h := h) (d := 4) (mc := bc) (ms := bs) (maxL := 3) (rest := []) (av := [.ref b5, .long (Int32.toInt64 (xb_i h x0 3))]) (fun T hT X => by obtain ⟨cb9, ra9, rb9, rc9⟩ := xb_recv (ci := 1) hR rfl hk6 (by decide); exact xt_invV X hx hown (hts _ m_da067afc) (hts _ m_7e8d081f) (hts _ m_4e47f51a) (xt_sigOf (hts _ m_4f1bdc54)) nm_Row_add (by rw [hT]; exact ra9) rb9 rc9 (g := F0 m 115 ls [.long (Int32.toInt64 (xb_i h x0 3)), .ref b5]) rfl (argsL := [.long (Int32.toInt64 (xb_i h x0 3))]) (rest := []) rfl rfl (by rw [hb]; exact (xb_d D_Reader_readElements 57 rfl))) (ok_Row_add l hfl D A σ b5 (Int32.toInt64 (xb_i h x0 3)) h bc bs _ hw) (hml.trans hl.1.symm) (by rw [hb]; exact (xb_d D_Reader_readElements 57 rfl)) (Nat.le_of_ble_eq_true rfl) (Nat.le_of_ble_eq_true rfl) (Nat.le_of_ble_eq_true rfl) (show k + bc ≤ MC by omega) (show n + bs ≤ MS by omega) (xt_w1 hB.1 m_4f1bdc54) (xt_cdOf hB.1 m_4f1bdc54) (hts _ m_c1bef504) hB hR hS hA (fun vv h7 bc8 bs8 kk8 nn8 H locs hk8 hn8 hq hEh7 hR hS => ?_) (fun XX ax h7 bc8 bs8 kk8 nn8 H locs hk8 hn8 hq hEh7 hex hR hS => ?_)
      · obtain ⟨rfl, hw⟩ := hq
        have hw := hw hEh7
        have hE := hE.tr hEh7
        refine W.eq (g2 := F0 m 118 ls []) rfl ?_
        refine lv_aload_n hx hb (xb_d D_Reader_readElements 58 rfl) rfl (lv_at hl 0 rfl) ?_
        have hk2 : xb_k h7 x0 = 4 := hEh7.k hk2
        refine xb_getP (C := R_Reader) (T := F_Reader) (N := 6) hx hb 3 0 hts fin_Reader hown hR hk2 (by decide) rfl (by decide) rfl (hts _ m_76d8349c) (fun _ h9 => h9) (xb_d D_Reader_readElements 59 rfl) ?_
        obtain ⟨b9, eb9, hw⟩ := hw
        refine xb_some eb9 ?_
        obtain ⟨hk10, hw⟩ := hw
        refine xb_getP (C := R_StackModule) (T := F_StackModule) (N := 19) hx hb 2 10 hts fin_StackModule hown hR hk10 (by decide) rfl (by decide) rfl (hts _ m_058cb54e) (fun _ h9 => h9) (xb_d D_Reader_readElements 60 rfl) ?_
        obtain ⟨b11, eb11, hw⟩ := hw
        refine xb_some eb11 ?_
        refine lv_aload_n hx hb (xb_d D_Reader_readElements 61 rfl) rfl (lv_at hl 0 rfl) ?_
        refine xb_call (D := D) (A := A) (σ := σ) (h := h7) (d := 3) (mc := bc8) (ms := bs8) (maxL := 4) (rest := [.ref b11]) (av := [.ref x0]) (fun T hT X => by obtain ⟨cb9, ra9, rb9, rc9⟩ := xb_recv (ci := 3) hR rfl hk2 (by decide); exact xt_invV X hx hown (hts _ m_2c379b4d) (hts _ m_a120e786) (hts _ m_e903c73e) (xt_sigOf (hts _ m_99690a98)) nm_Reader_count (by rw [hT]; exact ra9) rb9 rc9 (g := F0 m 126 ls [.ref x0, .ref b11]) rfl (argsL := []) (rest := [.ref b11]) rfl rfl (by rw [hb]; exact (xb_d D_Reader_readElements 62 rfl))) (ok_Reader_count l hfl D A σ x0 h7 bc8 bs8 _ _ hw) (hml.trans hl.1.symm) (by rw [hb]; exact (xb_d D_Reader_readElements 62 rfl)) (Nat.le_of_ble_eq_true rfl) (Nat.le_of_ble_eq_true rfl) (Nat.le_of_ble_eq_true rfl) (show (k + kk8) + bc8 ≤ MC by omega) (show (n + nn8) + bs8 ≤ MS by omega) (xt_w1 hB.1 m_99690a98) (xt_cdOf hB.1 m_99690a98) (hts _ m_938fcec4) hB hR hS hA (fun vv h12 bc13 bs13 kk13 nn13 H locs hk13 hn13 hq hEh12 hR hS => ?_) (fun XX ax h12 bc13 bs13 kk13 nn13 H locs hk13 hn13 hq hEh12 hex hR hS => ?_)
        · obtain ⟨r13, rfl, hw⟩ := hq
          have hw := hw hEh12
          have hE := hE.tr hEh12
          refine W.eq (g2 := F0 m 129 ls [.int r13, .ref b11]) rfl ?_
          refine lv_i2l hx hb (xb_d D_Reader_readElements 63 rfl) rfl ?_
          refine lv_ldc2 (v := 4294967295) hx hb hown (hts _ m_687f726b) (xb_d D_Reader_readElements 64 rfl) ?_
          refine lv_land hx hb (xb_d D_Reader_readElements 65 rfl) ?_
          obtain ⟨hk14, hw⟩ := hw
          refine xb_call (D := D) (A := A) (σ := σ) (h := h12) (d := 4) (mc := bc13) (ms := bs13) (maxL := 3) (rest := []) (av := [.ref b11, .long ((Int32.toInt64 r13) &&& 4294967295)]) (fun T hT X => by obtain ⟨cb9, ra9, rb9, rc9⟩ := xb_recv (ci := 1) hR rfl hk14 (by decide); exact xt_invV X hx hown (hts _ m_da067afc) (hts _ m_7e8d081f) (hts _ m_4e47f51a) (xt_sigOf (hts _ m_4f1bdc54)) nm_Row_add (by rw [hT]; exact ra9) rb9 rc9 (g := F0 m 134 ls [.long ((Int32.toInt64 r13) &&& 4294967295), .ref b11]) rfl (argsL := [.long ((Int32.toInt64 r13) &&& 4294967295)]) (rest := []) rfl rfl (by rw [hb]; exact (xb_d D_Reader_readElements 66 rfl))) (ok_Row_add l hfl D A σ b11 ((Int32.toInt64 r13) &&& 4294967295) h12 bc13 bs13 _ hw) (hml.trans hl.1.symm) (by rw [hb]; exact (xb_d D_Reader_readElements 66 rfl)) (Nat.le_of_ble_eq_true rfl) (Nat.le_of_ble_eq_true rfl) (Nat.le_of_ble_eq_true rfl) (show ((k + kk8) + kk13) + bc13 ≤ MC by omega) (show ((n + nn8) + nn13) + bs13 ≤ MS by omega) (xt_w1 hB.1 m_4f1bdc54) (xt_cdOf hB.1 m_4f1bdc54) (hts _ m_c1bef504) hB hR hS hA (fun vv h15 bc16 bs16 kk16 nn16 H locs hk16 hn16 hq hEh15 hR hS => ?_) (fun XX ax h15 bc16 bs16 kk16 nn16 H locs hk16 hn16 hq hEh15 hex hR hS => ?_)
          · obtain ⟨rfl, hw⟩ := hq
            have hw := hw hEh15
            have hE := hE.tr hEh15
            refine W.eq (g2 := F0 m 137 ls []) rfl ?_
            refine lv_lload_n hx hb (xb_d D_Reader_readElements 67 rfl) rfl (lv_at hl 2 rfl) ?_
            refine lv_lconst (v := 1) hx hb (xb_d D_Reader_readElements 68 rfl) (by decide) ?_
            refine lv_ladd hx hb (xb_d D_Reader_readElements 69 rfl) ?_
            obtain ⟨v17, ev17⟩ : ∃ x : Int64, x = (x3 + 1) := ⟨_, rfl⟩
            have hw := hw v17 ev17
            refine xt_numl (y := v17) ev17.symm ?_
            refine lv_lstore_n hx hb (xb_d D_Reader_readElements 70 rfl) rfl hl (by decide) rfl (fun ls hl => ?_)
            have hl : lv_has ls 5 [(3, .long v17), (0, .ref x0), (1, .long x1)] := hl
            refine lv_goto (tgt := 97) hx hb (xb_d D_Reader_readElements 71 rfl) rfl ?_
            exact ih x0 x1 v17 h15 bc16 bs16 hw p e s m args below meth c hC H locs ls (((k + kk8) + kk13) + kk16) (((n + nn8) + nn13) + nn16) hE (lv_sub hl [1, 2, 0] rfl) hR hS (by omega) (by omega)
          · exact False.elim hq
        · exact xb_pass hlocks (fun x hx9 => by rw [htab] at hx9; first | (cases hx9; done) | (simp [tableOf] at hx9; subst hx9; decide) | (simp [tableOf] at hx9; rcases hx9 with rfl | rfl <;> decide) | (simp [tableOf] at hx9; rcases hx9 with rfl | rfl | rfl <;> decide)) (show ((k + kk8) + kk13) + bc13 ≤ MC by omega) (show ((n + nn8) + nn13) + bs13 ≤ MS by omega) (hE.tr hEh12) hR hS hex hq
      · exact False.elim hq

set_option maxHeartbeats 4000000 in
set_option maxRecDepth 100000 in
theorem ok_Reader_readElements (l : Launch) (hfl : l.flags = pinnedFlags ++ [noTraceFlag]) (D : va_G) (A : Nat → Prop) (σ : Nat) (x0 : Nat) (h : xb_H) (bc : Nat) (bs : Nat) (Qr : xb_H → Nat → Nat → Prop) (Qt : String → xb_H → Nat → Nat → Prop) (hw : w_Reader_readElements x0 h bc bs Qr Qt) : xb_Met l y_Reader_readElements [.code y_Reader_readElements b_Reader_readElements 5 none] (xb_rm 6 bc bs) (xb_Pc D A σ h [.ref x0]) (xb_Qc D A h bc bs (fun v h bc bs => v = none ∧ Qr h bc bs) Qt) A := by
  refine xb_ofAm (cc := b_Reader_readElements) (by decide) (Nat.le_of_ble_eq_true rfl) ?_
  unfold w_Reader_readElements at hw
  show xb_am l D A σ 6 bc bs h (fun v h bc bs => v = none ∧ Qr h bc bs) Qt y_Reader_readElements.cls y_Reader_readElements.name b_Reader_readElements 5 ([] : List ExceptionTableEntry) none 0 [(0, .ref x0)] [] h bc bs
  obtain ⟨MC, hMC⟩ : ∃ x, x = bc := ⟨_, rfl⟩
  obtain ⟨MS, hMS⟩ : ∃ x, x = bs := ⟨_, rfl⟩
  rw [show xb_am l D A σ 6 bc bs = xb_am l D A σ 6 MC MS by rw [hMC, hMS]]
  obtain ⟨h0, hh0⟩ : ∃ x, x = h := ⟨_, rfl⟩
  rw [show xb_am l D A σ 6 MC MS h = xb_am l D A σ 6 MC MS h0 by rw [hh0]]
  intro p e s m args below meth c hC H locs ls k n hE hl hR hS hk hn
  obtain ⟨hx, hb, hown, hlocks, htab, hml, hr, hB, hA, hnm⟩ := id hC
  have hts := hB.1.1.at args
  refine lv_aload_n hx hb (xb_d D_Reader_readElements 0 rfl) rfl (lv_at hl 0 rfl) ?_
  obtain ⟨hk1, hw⟩ := hw
  refine xb_getP (C := R_Reader) (T := F_Reader) (N := 6) hx hb 3 0 hts fin_Reader hown hR hk1 (by decide) rfl (by decide) rfl (hts _ m_76d8349c) (fun _ h9 => h9) (xb_d D_Reader_readElements 1 rfl) ?_
  obtain ⟨b2, eb2, hw⟩ := hw
  refine xb_some eb2 ?_
  obtain ⟨hk3, hw⟩ := hw
  refine xb_getP (C := R_StackModule) (T := F_StackModule) (N := 19) hx hb 2 9 hts fin_StackModule hown hR hk3 (by decide) rfl (by decide) rfl (hts _ m_b3c18b13) (fun _ h9 => h9) (xb_d D_Reader_readElements 2 rfl) ?_
  obtain ⟨b4, eb4, hw⟩ := hw
  refine xb_some eb4 ?_
  refine lv_aload_n hx hb (xb_d D_Reader_readElements 3 rfl) rfl (lv_at hl 0 rfl) ?_
  refine xb_getI (C := R_Reader) (T := F_Reader) (N := 6) hx hb 3 3 hts fin_Reader hown hR hk1 (by decide) rfl (by decide) rfl (hts _ m_a9b84ac2) (fun _ h9 => h9) (xb_d D_Reader_readElements 4 rfl) ?_
  refine lv_i2l hx hb (xb_d D_Reader_readElements 5 rfl) rfl ?_
  obtain ⟨hk5, hw⟩ := hw
  refine xb_call (D := D) (A := A) (σ := σ) (h := h) (d := 4) (mc := bc) (ms := bs) (maxL := 3) (rest := []) (av := [.ref b4, .long (Int32.toInt64 (xb_i h x0 3))]) (fun T hT X => by obtain ⟨cb9, ra9, rb9, rc9⟩ := xb_recv (ci := 1) hR rfl hk5 (by decide); exact xt_invV X hx hown (hts _ m_da067afc) (hts _ m_7e8d081f) (hts _ m_4e47f51a) (xt_sigOf (hts _ m_4f1bdc54)) nm_Row_add (by rw [hT]; exact ra9) rb9 rc9 (g := F0 m 12 ls [.long (Int32.toInt64 (xb_i h x0 3)), .ref b4]) rfl (argsL := [.long (Int32.toInt64 (xb_i h x0 3))]) (rest := []) rfl rfl (by rw [hb]; exact (xb_d D_Reader_readElements 6 rfl))) (ok_Row_add l hfl D A σ b4 (Int32.toInt64 (xb_i h x0 3)) h bc bs _ hw) (hml.trans hl.1.symm) (by rw [hb]; exact (xb_d D_Reader_readElements 6 rfl)) (Nat.le_of_ble_eq_true rfl) (Nat.le_of_ble_eq_true rfl) (Nat.le_of_ble_eq_true rfl) (show k + bc ≤ MC by omega) (show n + bs ≤ MS by omega) (xt_w1 hB.1 m_4f1bdc54) (xt_cdOf hB.1 m_4f1bdc54) (hts _ m_c1bef504) hB hR hS hA (fun vv h6 bc7 bs7 kk7 nn7 H locs hk7 hn7 hq hEh6 hR hS => ?_) (fun XX ax h6 bc7 bs7 kk7 nn7 H locs hk7 hn7 hq hEh6 hex hR hS => ?_)
  · obtain ⟨rfl, hw⟩ := hq
    have hw := hw hEh6
    have hE := hE.tr hEh6
    refine W.eq (g2 := F0 m 15 ls []) rfl ?_
    refine lv_aload_n hx hb (xb_d D_Reader_readElements 7 rfl) rfl (lv_at hl 0 rfl) ?_
    have hk1 : xb_k h6 x0 = 4 := hEh6.k hk1
    refine xb_getP (C := R_Reader) (T := F_Reader) (N := 6) hx hb 3 0 hts fin_Reader hown hR hk1 (by decide) rfl (by decide) rfl (hts _ m_76d8349c) (fun _ h9 => h9) (xb_d D_Reader_readElements 8 rfl) ?_
    obtain ⟨b8, eb8, hw⟩ := hw
    refine xb_some eb8 ?_
    obtain ⟨hk9, hw⟩ := hw
    refine xb_getP (C := R_StackModule) (T := F_StackModule) (N := 19) hx hb 2 9 hts fin_StackModule hown hR hk9 (by decide) rfl (by decide) rfl (hts _ m_b3c18b13) (fun _ h9 => h9) (xb_d D_Reader_readElements 9 rfl) ?_
    obtain ⟨b10, eb10, hw⟩ := hw
    refine xb_some eb10 ?_
    refine lv_aload_n hx hb (xb_d D_Reader_readElements 10 rfl) rfl (lv_at hl 0 rfl) ?_
    refine xb_call (D := D) (A := A) (σ := σ) (h := h6) (d := 3) (mc := bc7) (ms := bs7) (maxL := 4) (rest := [.ref b10]) (av := [.ref x0]) (fun T hT X => by obtain ⟨cb9, ra9, rb9, rc9⟩ := xb_recv (ci := 3) hR rfl hk1 (by decide); exact xt_invV X hx hown (hts _ m_2c379b4d) (hts _ m_a120e786) (hts _ m_e903c73e) (xt_sigOf (hts _ m_99690a98)) nm_Reader_count (by rw [hT]; exact ra9) rb9 rc9 (g := F0 m 23 ls [.ref x0, .ref b10]) rfl (argsL := []) (rest := [.ref b10]) rfl rfl (by rw [hb]; exact (xb_d D_Reader_readElements 11 rfl))) (ok_Reader_count l hfl D A σ x0 h6 bc7 bs7 _ _ hw) (hml.trans hl.1.symm) (by rw [hb]; exact (xb_d D_Reader_readElements 11 rfl)) (Nat.le_of_ble_eq_true rfl) (Nat.le_of_ble_eq_true rfl) (Nat.le_of_ble_eq_true rfl) (show (k + kk7) + bc7 ≤ MC by omega) (show (n + nn7) + bs7 ≤ MS by omega) (xt_w1 hB.1 m_99690a98) (xt_cdOf hB.1 m_99690a98) (hts _ m_938fcec4) hB hR hS hA (fun vv h11 bc12 bs12 kk12 nn12 H locs hk12 hn12 hq hEh11 hR hS => ?_) (fun XX ax h11 bc12 bs12 kk12 nn12 H locs hk12 hn12 hq hEh11 hex hR hS => ?_)
    · obtain ⟨r12, rfl, hw⟩ := hq
      have hw := hw hEh11
      have hE := hE.tr hEh11
      refine W.eq (g2 := F0 m 26 ls [.int r12, .ref b10]) rfl ?_
      refine lv_i2l hx hb (xb_d D_Reader_readElements 12 rfl) rfl ?_
      refine lv_ldc2 (v := 4294967295) hx hb hown (hts _ m_687f726b) (xb_d D_Reader_readElements 13 rfl) ?_
      refine lv_land hx hb (xb_d D_Reader_readElements 14 rfl) ?_
      obtain ⟨hk13, hw⟩ := hw
      refine xb_call (D := D) (A := A) (σ := σ) (h := h11) (d := 4) (mc := bc12) (ms := bs12) (maxL := 3) (rest := []) (av := [.ref b10, .long ((Int32.toInt64 r12) &&& 4294967295)]) (fun T hT X => by obtain ⟨cb9, ra9, rb9, rc9⟩ := xb_recv (ci := 1) hR rfl hk13 (by decide); exact xt_invV X hx hown (hts _ m_da067afc) (hts _ m_7e8d081f) (hts _ m_4e47f51a) (xt_sigOf (hts _ m_4f1bdc54)) nm_Row_add (by rw [hT]; exact ra9) rb9 rc9 (g := F0 m 31 ls [.long ((Int32.toInt64 r12) &&& 4294967295), .ref b10]) rfl (argsL := [.long ((Int32.toInt64 r12) &&& 4294967295)]) (rest := []) rfl rfl (by rw [hb]; exact (xb_d D_Reader_readElements 15 rfl))) (ok_Row_add l hfl D A σ b10 ((Int32.toInt64 r12) &&& 4294967295) h11 bc12 bs12 _ hw) (hml.trans hl.1.symm) (by rw [hb]; exact (xb_d D_Reader_readElements 15 rfl)) (Nat.le_of_ble_eq_true rfl) (Nat.le_of_ble_eq_true rfl) (Nat.le_of_ble_eq_true rfl) (show ((k + kk7) + kk12) + bc12 ≤ MC by omega) (show ((n + nn7) + nn12) + bs12 ≤ MS by omega) (xt_w1 hB.1 m_4f1bdc54) (xt_cdOf hB.1 m_4f1bdc54) (hts _ m_c1bef504) hB hR hS hA (fun vv h14 bc15 bs15 kk15 nn15 H locs hk15 hn15 hq hEh14 hR hS => ?_) (fun XX ax h14 bc15 bs15 kk15 nn15 H locs hk15 hn15 hq hEh14 hex hR hS => ?_)
      · obtain ⟨rfl, hw⟩ := hq
        have hw := hw hEh14
        have hE := hE.tr hEh14
        refine W.eq (g2 := F0 m 34 ls []) rfl ?_
        refine lv_aload_n hx hb (xb_d D_Reader_readElements 16 rfl) rfl (lv_at hl 0 rfl) ?_
        have hk1 : xb_k h11 x0 = 4 := hEh11.k hk1
        have hk1 : xb_k h14 x0 = 4 := hEh14.k hk1
        refine xb_getP (C := R_Reader) (T := F_Reader) (N := 6) hx hb 3 0 hts fin_Reader hown hR hk1 (by decide) rfl (by decide) rfl (hts _ m_76d8349c) (fun _ h9 => h9) (xb_d D_Reader_readElements 17 rfl) ?_
        obtain ⟨b16, eb16, hw⟩ := hw
        refine xb_some eb16 ?_
        obtain ⟨hk17, hw⟩ := hw
        refine xb_getP (C := R_StackModule) (T := F_StackModule) (N := 19) hx hb 2 9 hts fin_StackModule hown hR hk17 (by decide) rfl (by decide) rfl (hts _ m_b3c18b13) (fun _ h9 => h9) (xb_d D_Reader_readElements 18 rfl) ?_
        obtain ⟨b18, eb18, hw⟩ := hw
        refine xb_some eb18 ?_
        refine lv_aload_n hx hb (xb_d D_Reader_readElements 19 rfl) rfl (lv_at hl 0 rfl) ?_
        refine xb_getI (C := R_Reader) (T := F_Reader) (N := 6) hx hb 3 3 hts fin_Reader hown hR hk1 (by decide) rfl (by decide) rfl (hts _ m_a9b84ac2) (fun _ h9 => h9) (xb_d D_Reader_readElements 20 rfl) ?_
        refine lv_i2l hx hb (xb_d D_Reader_readElements 21 rfl) rfl ?_
        obtain ⟨hk19, hw⟩ := hw
        refine xb_call (D := D) (A := A) (σ := σ) (h := h14) (d := 4) (mc := bc15) (ms := bs15) (maxL := 3) (rest := []) (av := [.ref b18, .long (Int32.toInt64 (xb_i h14 x0 3))]) (fun T hT X => by obtain ⟨cb9, ra9, rb9, rc9⟩ := xb_recv (ci := 1) hR rfl hk19 (by decide); exact xt_invV X hx hown (hts _ m_da067afc) (hts _ m_7e8d081f) (hts _ m_4e47f51a) (xt_sigOf (hts _ m_4f1bdc54)) nm_Row_add (by rw [hT]; exact ra9) rb9 rc9 (g := F0 m 46 ls [.long (Int32.toInt64 (xb_i h14 x0 3)), .ref b18]) rfl (argsL := [.long (Int32.toInt64 (xb_i h14 x0 3))]) (rest := []) rfl rfl (by rw [hb]; exact (xb_d D_Reader_readElements 22 rfl))) (ok_Row_add l hfl D A σ b18 (Int32.toInt64 (xb_i h14 x0 3)) h14 bc15 bs15 _ hw) (hml.trans hl.1.symm) (by rw [hb]; exact (xb_d D_Reader_readElements 22 rfl)) (Nat.le_of_ble_eq_true rfl) (Nat.le_of_ble_eq_true rfl) (Nat.le_of_ble_eq_true rfl) (show (((k + kk7) + kk12) + kk15) + bc15 ≤ MC by omega) (show (((n + nn7) + nn12) + nn15) + bs15 ≤ MS by omega) (xt_w1 hB.1 m_4f1bdc54) (xt_cdOf hB.1 m_4f1bdc54) (hts _ m_c1bef504) hB hR hS hA (fun vv h20 bc21 bs21 kk21 nn21 H locs hk21 hn21 hq hEh20 hR hS => ?_) (fun XX ax h20 bc21 bs21 kk21 nn21 H locs hk21 hn21 hq hEh20 hex hR hS => ?_)
        · obtain ⟨rfl, hw⟩ := hq
          have hw := hw hEh20
          have hE := hE.tr hEh20
          refine W.eq (g2 := F0 m 49 ls []) rfl ?_
          refine lv_aload_n hx hb (xb_d D_Reader_readElements 23 rfl) rfl (lv_at hl 0 rfl) ?_
          have hk1 : xb_k h20 x0 = 4 := hEh20.k hk1
          refine xb_call (D := D) (A := A) (σ := σ) (h := h20) (d := 5) (mc := bc21) (ms := bs21) (maxL := 6) (rest := []) (av := [.ref x0]) (fun T hT X => by obtain ⟨cb9, ra9, rb9, rc9⟩ := xb_recv (ci := 3) hR rfl hk1 (by decide); exact xt_invV X hx hown (hts _ m_90e667a6) (hts _ m_02684d67) (hts _ m_97aecff3) (xt_sigOf (hts _ m_150d97f6)) nm_Reader_readExpression (by rw [hT]; exact ra9) rb9 rc9 (g := F0 m 50 ls [.ref x0]) rfl (argsL := []) (rest := []) rfl rfl (by rw [hb]; exact (xb_d D_Reader_readElements 24 rfl))) (ok_Reader_readExpression l hfl D A σ x0 h20 bc21 bs21 _ _ hw) (hml.trans hl.1.symm) (by rw [hb]; exact (xb_d D_Reader_readElements 24 rfl)) (Nat.le_of_ble_eq_true rfl) (Nat.le_of_ble_eq_true rfl) (Nat.le_of_ble_eq_true rfl) (show ((((k + kk7) + kk12) + kk15) + kk21) + bc21 ≤ MC by omega) (show ((((n + nn7) + nn12) + nn15) + nn21) + bs21 ≤ MS by omega) (xt_w1 hB.1 m_150d97f6) (xt_cdOf hB.1 m_150d97f6) (hts _ m_938fcec4) hB hR hS hA (fun vv h22 bc23 bs23 kk23 nn23 H locs hk23 hn23 hq hEh22 hR hS => ?_) (fun XX ax h22 bc23 bs23 kk23 nn23 H locs hk23 hn23 hq hEh22 hex hR hS => ?_)
          · obtain ⟨rfl, hw⟩ := hq
            have hw := hw hEh22
            have hE := hE.tr hEh22
            refine W.eq (g2 := F0 m 53 ls []) rfl ?_
            refine lv_aload_n hx hb (xb_d D_Reader_readElements 25 rfl) rfl (lv_at hl 0 rfl) ?_
            have hk1 : xb_k h22 x0 = 4 := hEh22.k hk1
            refine xb_call (D := D) (A := A) (σ := σ) (h := h22) (d := 3) (mc := bc23) (ms := bs23) (maxL := 4) (rest := []) (av := [.ref x0]) (fun T hT X => by obtain ⟨cb9, ra9, rb9, rc9⟩ := xb_recv (ci := 3) hR rfl hk1 (by decide); exact xt_invV X hx hown (hts _ m_2c379b4d) (hts _ m_a120e786) (hts _ m_e903c73e) (xt_sigOf (hts _ m_99690a98)) nm_Reader_count (by rw [hT]; exact ra9) rb9 rc9 (g := F0 m 54 ls [.ref x0]) rfl (argsL := []) (rest := []) rfl rfl (by rw [hb]; exact (xb_d D_Reader_readElements 26 rfl))) (ok_Reader_count l hfl D A σ x0 h22 bc23 bs23 _ _ hw) (hml.trans hl.1.symm) (by rw [hb]; exact (xb_d D_Reader_readElements 26 rfl)) (Nat.le_of_ble_eq_true rfl) (Nat.le_of_ble_eq_true rfl) (Nat.le_of_ble_eq_true rfl) (show (((((k + kk7) + kk12) + kk15) + kk21) + kk23) + bc23 ≤ MC by omega) (show (((((n + nn7) + nn12) + nn15) + nn21) + nn23) + bs23 ≤ MS by omega) (xt_w1 hB.1 m_99690a98) (xt_cdOf hB.1 m_99690a98) (hts _ m_938fcec4) hB hR hS hA (fun vv h24 bc25 bs25 kk25 nn25 H locs hk25 hn25 hq hEh24 hR hS => ?_) (fun XX ax h24 bc25 bs25 kk25 nn25 H locs hk25 hn25 hq hEh24 hex hR hS => ?_)
            · obtain ⟨r25, rfl, hw⟩ := hq
              have hw := hw hEh24
              have hE := hE.tr hEh24
              refine W.eq (g2 := F0 m 57 ls [.int r25]) rfl ?_
              refine lv_i2l hx hb (xb_d D_Reader_readElements 27 rfl) rfl ?_
              refine lv_ldc2 (v := 4294967295) hx hb hown (hts _ m_687f726b) (xb_d D_Reader_readElements 28 rfl) ?_
              refine lv_land hx hb (xb_d D_Reader_readElements 29 rfl) ?_
              obtain ⟨v26, ev26⟩ : ∃ x : Int64, x = ((Int32.toInt64 r25) &&& 4294967295) := ⟨_, rfl⟩
              have hw := hw v26 ev26
              refine xt_numl (y := v26) ev26.symm ?_
              refine lv_lstore_n hx hb (xb_d D_Reader_readElements 30 rfl) rfl hl (by decide) rfl (fun ls hl => ?_)
              have hl : lv_has ls 5 [(1, .long v26), (0, .ref x0)] := hl
              refine lv_aload_n hx hb (xb_d D_Reader_readElements 31 rfl) rfl (lv_at hl 1 rfl) ?_
              have hk1 : xb_k h24 x0 = 4 := hEh24.k hk1
              refine xb_getP (C := R_Reader) (T := F_Reader) (N := 6) hx hb 3 0 hts fin_Reader hown hR hk1 (by decide) rfl (by decide) rfl (hts _ m_76d8349c) (fun _ h9 => h9) (xb_d D_Reader_readElements 32 rfl) ?_
              obtain ⟨b27, eb27, hw⟩ := hw
              refine xb_some eb27 ?_
              obtain ⟨hk28, hw⟩ := hw
              refine xb_getP (C := R_StackModule) (T := F_StackModule) (N := 19) hx hb 2 9 hts fin_StackModule hown hR hk28 (by decide) rfl (by decide) rfl (hts _ m_b3c18b13) (fun _ h9 => h9) (xb_d D_Reader_readElements 33 rfl) ?_
              obtain ⟨b29, eb29, hw⟩ := hw
              refine xb_some eb29 ?_
              refine lv_aload_n hx hb (xb_d D_Reader_readElements 34 rfl) rfl (lv_at hl 1 rfl) ?_
              refine xb_getP (C := R_Reader) (T := F_Reader) (N := 6) hx hb 3 0 hts fin_Reader hown hR hk1 (by decide) rfl (by decide) rfl (hts _ m_76d8349c) (fun _ h9 => h9) (xb_d D_Reader_readElements 35 rfl) ?_
              obtain ⟨b30, eb30, hw⟩ := hw
              refine xb_some eb30 ?_
              obtain ⟨hk31, hw⟩ := hw
              refine xb_getP (C := R_StackModule) (T := F_StackModule) (N := 19) hx hb 2 10 hts fin_StackModule hown hR hk31 (by decide) rfl (by decide) rfl (hts _ m_058cb54e) (fun _ h9 => h9) (xb_d D_Reader_readElements 36 rfl) ?_
              obtain ⟨b32, eb32, hw⟩ := hw
              refine xb_some eb32 ?_
              obtain ⟨hk33, hw⟩ := hw
              refine xb_call0 (D := D) (A := A) (σ := σ) (h := h24) (d := 2) (maxL := 1) (rest := [.ref b29]) (av := [.ref b32]) (fun T hT X => by obtain ⟨cb9, ra9, rb9, rc9⟩ := xb_recv (ci := 1) hR rfl hk33 (by decide); exact xt_invV X hx hown (hts _ m_d5d63d05) (hts _ m_ded65609) (hts _ m_a4161156) (xt_sigOf (hts _ m_83ba3721)) nm_Row_lines (by rw [hT]; exact ra9) rb9 rc9 (g := F0 m 77 ls [.ref b32, .ref b29]) rfl (argsL := []) (rest := [.ref b29]) rfl rfl (by rw [hb]; exact (xb_d D_Reader_readElements 37 rfl))) (ok_Row_lines l hfl D A σ b32 h24 _ hw) (hml.trans hl.1.symm) (by rw [hb]; exact (xb_d D_Reader_readElements 37 rfl)) (Nat.le_of_ble_eq_true rfl) (Nat.le_of_ble_eq_true rfl) (Nat.le_of_ble_eq_true rfl) (show ((((((k + kk7) + kk12) + kk15) + kk21) + kk23) + kk25) ≤ MC by omega) (show ((((((n + nn7) + nn12) + nn15) + nn21) + nn23) + nn25) ≤ MS by omega) (xt_w1 hB.1 m_83ba3721) (xt_cdOf hB.1 m_83ba3721) (hts _ m_c1bef504) hB hR hS hA (fun vv h34 H locs hq hEh34 hR hS => ?_)
              obtain ⟨r35, rfl, hw⟩ := hq
              have hw := hw hEh34
              have hE := hE.tr hEh34
              refine W.eq (g2 := F0 m 80 ls [.int r35, .ref b29]) rfl ?_
              refine lv_i2l hx hb (xb_d D_Reader_readElements 38 rfl) rfl ?_
              obtain ⟨hk36, hw⟩ := hw
              refine xb_call (D := D) (A := A) (σ := σ) (h := h34) (d := 4) (mc := bc25) (ms := bs25) (maxL := 3) (rest := []) (av := [.ref b29, .long (Int32.toInt64 r35)]) (fun T hT X => by obtain ⟨cb9, ra9, rb9, rc9⟩ := xb_recv (ci := 1) hR rfl hk36 (by decide); exact xt_invV X hx hown (hts _ m_da067afc) (hts _ m_7e8d081f) (hts _ m_4e47f51a) (xt_sigOf (hts _ m_4f1bdc54)) nm_Row_add (by rw [hT]; exact ra9) rb9 rc9 (g := F0 m 81 ls [.long (Int32.toInt64 r35), .ref b29]) rfl (argsL := [.long (Int32.toInt64 r35)]) (rest := []) rfl rfl (by rw [hb]; exact (xb_d D_Reader_readElements 39 rfl))) (ok_Row_add l hfl D A σ b29 (Int32.toInt64 r35) h34 bc25 bs25 _ hw) (hml.trans hl.1.symm) (by rw [hb]; exact (xb_d D_Reader_readElements 39 rfl)) (Nat.le_of_ble_eq_true rfl) (Nat.le_of_ble_eq_true rfl) (Nat.le_of_ble_eq_true rfl) (show ((((((k + kk7) + kk12) + kk15) + kk21) + kk23) + kk25) + bc25 ≤ MC by omega) (show ((((((n + nn7) + nn12) + nn15) + nn21) + nn23) + nn25) + bs25 ≤ MS by omega) (xt_w1 hB.1 m_4f1bdc54) (xt_cdOf hB.1 m_4f1bdc54) (hts _ m_c1bef504) hB hR hS hA (fun vv h37 bc38 bs38 kk38 nn38 H locs hk38 hn38 hq hEh37 hR hS => ?_) (fun XX ax h37 bc38 bs38 kk38 nn38 H locs hk38 hn38 hq hEh37 hex hR hS => ?_)
              · obtain ⟨rfl, hw⟩ := hq
                have hw := hw hEh37
                have hE := hE.tr hEh37
                refine W.eq (g2 := F0 m 84 ls []) rfl ?_
                refine lv_aload_n hx hb (xb_d D_Reader_readElements 40 rfl) rfl (lv_at hl 1 rfl) ?_
                have hk1 : xb_k h34 x0 = 4 := hEh34.k hk1
                have hk1 : xb_k h37 x0 = 4 := hEh37.k hk1
                refine xb_getP (C := R_Reader) (T := F_Reader) (N := 6) hx hb 3 0 hts fin_Reader hown hR hk1 (by decide) rfl (by decide) rfl (hts _ m_76d8349c) (fun _ h9 => h9) (xb_d D_Reader_readElements 41 rfl) ?_
                obtain ⟨b39, eb39, hw⟩ := hw
                refine xb_some eb39 ?_
                obtain ⟨hk40, hw⟩ := hw
                refine xb_getP (C := R_StackModule) (T := F_StackModule) (N := 19) hx hb 2 9 hts fin_StackModule hown hR hk40 (by decide) rfl (by decide) rfl (hts _ m_b3c18b13) (fun _ h9 => h9) (xb_d D_Reader_readElements 42 rfl) ?_
                obtain ⟨b41, eb41, hw⟩ := hw
                refine xb_some eb41 ?_
                refine lv_lload_n hx hb (xb_d D_Reader_readElements 43 rfl) rfl (lv_at hl 0 rfl) ?_
                obtain ⟨hk42, hw⟩ := hw
                refine xb_call (D := D) (A := A) (σ := σ) (h := h37) (d := 4) (mc := bc38) (ms := bs38) (maxL := 3) (rest := []) (av := [.ref b41, .long v26]) (fun T hT X => by obtain ⟨cb9, ra9, rb9, rc9⟩ := xb_recv (ci := 1) hR rfl hk42 (by decide); exact xt_invV X hx hown (hts _ m_da067afc) (hts _ m_7e8d081f) (hts _ m_4e47f51a) (xt_sigOf (hts _ m_4f1bdc54)) nm_Row_add (by rw [hT]; exact ra9) rb9 rc9 (g := F0 m 92 ls [.long v26, .ref b41]) rfl (argsL := [.long v26]) (rest := []) rfl rfl (by rw [hb]; exact (xb_d D_Reader_readElements 44 rfl))) (ok_Row_add l hfl D A σ b41 v26 h37 bc38 bs38 _ hw) (hml.trans hl.1.symm) (by rw [hb]; exact (xb_d D_Reader_readElements 44 rfl)) (Nat.le_of_ble_eq_true rfl) (Nat.le_of_ble_eq_true rfl) (Nat.le_of_ble_eq_true rfl) (show (((((((k + kk7) + kk12) + kk15) + kk21) + kk23) + kk25) + kk38) + bc38 ≤ MC by omega) (show (((((((n + nn7) + nn12) + nn15) + nn21) + nn23) + nn25) + nn38) + bs38 ≤ MS by omega) (xt_w1 hB.1 m_4f1bdc54) (xt_cdOf hB.1 m_4f1bdc54) (hts _ m_c1bef504) hB hR hS hA (fun vv h43 bc44 bs44 kk44 nn44 H locs hk44 hn44 hq hEh43 hR hS => ?_) (fun XX ax h43 bc44 bs44 kk44 nn44 H locs hk44 hn44 hq hEh43 hex hR hS => ?_)
                · obtain ⟨rfl, hw⟩ := hq
                  have hw := hw hEh43
                  have hE := hE.tr hEh43
                  refine W.eq (g2 := F0 m 95 ls []) rfl ?_
                  refine lv_lconst (v := 0) hx hb (xb_d D_Reader_readElements 45 rfl) (by decide) ?_
                  refine lv_lstore_n hx hb (xb_d D_Reader_readElements 46 rfl) rfl hl (by decide) rfl (fun ls hl => ?_)
                  have hl : lv_has ls 5 [(3, .long 0), (1, .long v26), (0, .ref x0)] := hl
                  obtain ⟨n8, hw⟩ := hw
                  exact am_Reader_readElements_L97 l hfl D A σ MC MS h0 Qr Qt n8 x0 v26 0 h43 bc44 bs44 hw p e s m args below meth c hC H locs ls ((((((((k + kk7) + kk12) + kk15) + kk21) + kk23) + kk25) + kk38) + kk44) ((((((((n + nn7) + nn12) + nn15) + nn21) + nn23) + nn25) + nn38) + nn44) hE (lv_sub hl [2, 1, 0] rfl) hR hS (by omega) (by omega)
                · exact False.elim hq
              · exact False.elim hq
            · exact xb_pass hlocks (fun x hx9 => by rw [htab] at hx9; first | (cases hx9; done) | (simp [tableOf] at hx9; subst hx9; decide) | (simp [tableOf] at hx9; rcases hx9 with rfl | rfl <;> decide) | (simp [tableOf] at hx9; rcases hx9 with rfl | rfl | rfl <;> decide)) (show ((((((k + kk7) + kk12) + kk15) + kk21) + kk23) + kk25) + bc25 ≤ MC by omega) (show ((((((n + nn7) + nn12) + nn15) + nn21) + nn23) + nn25) + bs25 ≤ MS by omega) (hE.tr hEh24) hR hS hex hq
          · exact xb_pass hlocks (fun x hx9 => by rw [htab] at hx9; first | (cases hx9; done) | (simp [tableOf] at hx9; subst hx9; decide) | (simp [tableOf] at hx9; rcases hx9 with rfl | rfl <;> decide) | (simp [tableOf] at hx9; rcases hx9 with rfl | rfl | rfl <;> decide)) (show (((((k + kk7) + kk12) + kk15) + kk21) + kk23) + bc23 ≤ MC by omega) (show (((((n + nn7) + nn12) + nn15) + nn21) + nn23) + bs23 ≤ MS by omega) (hE.tr hEh22) hR hS hex hq
        · exact False.elim hq
      · exact False.elim hq
    · exact xb_pass hlocks (fun x hx9 => by rw [htab] at hx9; first | (cases hx9; done) | (simp [tableOf] at hx9; subst hx9; decide) | (simp [tableOf] at hx9; rcases hx9 with rfl | rfl <;> decide) | (simp [tableOf] at hx9; rcases hx9 with rfl | rfl | rfl <;> decide)) (show ((k + kk7) + kk12) + bc12 ≤ MC by omega) (show ((n + nn7) + nn12) + bs12 ≤ MS by omega) (hE.tr hEh11) hR hS hex hq
  · exact False.elim hq

