theorem m_e0680bb7 : (.methodLink "StackHost$Machine" 332 y_Whole_reckonLong : Cond) ∈ xt_tbl := xt_in (xt_t8 (List.mem_of_getElem? (i := 203) (by decide +kernel))) (by decide +kernel)
theorem m_2d21212b : (.static y_Whole_reckonLong : Cond) ∈ xt_tbl := xt_in (xt_t8 (List.mem_of_getElem? (i := 204) (by decide +kernel))) (by decide +kernel)
theorem m_58193057 : (.code y_Whole_reckonLong b_Whole_reckonLong 5 (some .long) : Cond) ∈ xt_tbl := xt_in (xt_t8 (List.mem_of_getElem? (i := 205) (by decide +kernel))) (by decide +kernel)
theorem m_3e9209a5 : (.constantLong "StackHost$Machine" 330 (-1) : Cond) ∈ xt_tbl := xt_in (xt_t8 (List.mem_of_getElem? (i := 202) (by decide +kernel))) (by decide +kernel)
theorem m_ed05e460 : (.methodLink "StackHost$Machine" 326 y_Whole_countLong : Cond) ∈ xt_tbl := xt_in (xt_t8 (List.mem_of_getElem? (i := 192) (by decide +kernel))) (by decide +kernel)
theorem m_a75d6ada : (.static y_Whole_countLong : Cond) ∈ xt_tbl := xt_in (xt_t8 (List.mem_of_getElem? (i := 193) (by decide +kernel))) (by decide +kernel)
theorem m_fccded66 : (.code y_Whole_countLong b_Whole_countLong 3 (some .int) : Cond) ∈ xt_tbl := xt_in (xt_t8 (List.mem_of_getElem? (i := 194) (by decide +kernel))) (by decide +kernel)
theorem nm_Whole_reckonLong : xt_nm y_Whole_reckonLong 3 := ⟨by decide +kernel, by decide +kernel⟩
theorem nm_Whole_countLong : xt_nm y_Whole_countLong 2 := ⟨by decide +kernel, by decide +kernel⟩
set_option maxRecDepth 100000 in
def T_Machine_reckonLong : List (Nat × Instr × Nat) := [(0, .aload_n 0, 1), (1, .getfield 35, 3), (4, .aload_n 0, 1), (5, .getfield 53, 3), (8, .iconst 1, 1), (9, .isub, 1), (10, .laload, 1), (11, .lstore_n 2, 1), (12, .iload_n 1, 1), (13, .bipush 123, 2), (15, .if_icmp .gt 24, 3), (18, .aload_n 0, 1), (19, .getfield 35, 3), (22, .aload_n 0, 1), (23, .getfield 53, 3), (26, .iconst 1, 1), (27, .isub, 1), (28, .iload_n 1, 1), (29, .bipush 121, 2), (31, .isub, 1), (32, .lload_n 2, 1), (33, .invokestatic 326, 3), (36, .i2l, 1), (37, .lastore, 1), (38, .return_, 1), (39, .aload_n 0, 1), (40, .getfield 35, 3), (43, .aload_n 0, 1), (44, .getfield 53, 3), (47, .iconst 2, 1), (48, .isub, 1), (49, .laload, 1), (50, .lstore 4, 2), (52, .iload_n 1, 1), (53, .bipush 124, 2), (55, .isub, 1), (56, .istore 6, 2), (58, .iload 6, 2), (60, .lload_n 2, 1), (61, .lconst 0, 1), (62, .lcmp, 1), (63, .ifCond .ne 7, 3), (66, .iconst 1, 1), (67, .goto 4, 3), (70, .iconst 0, 1), (71, .lload 4, 2), (73, .ldc2_w 22, 3), (76, .lcmp, 1), (77, .ifCond .ne 15, 3), (80, .lload_n 2, 1), (81, .ldc2_w 330, 3), (84, .lcmp, 1), (85, .ifCond .ne 7, 3), (88, .iconst 1, 1), (89, .goto 4, 3), (92, .iconst 0, 1), (93, .invokestatic 319, 3), (96, .istore 7, 2), (98, .iload 7, 2), (100, .ifCond .eq 10, 3), (103, .aload_n 0, 1), (104, .iload 7, 2), (106, .invokevirtual 156, 3), (109, .return_, 1), (110, .aload_n 0, 1), (111, .dup, 1), (112, .getfield 53, 3), (115, .iconst 1, 1), (116, .isub, 1), (117, .putfield 53, 3), (120, .aload_n 0, 1), (121, .getfield 35, 3), (124, .aload_n 0, 1), (125, .getfield 53, 3), (128, .iconst 1, 1), (129, .isub, 1), (130, .iload 6, 2), (132, .lload 4, 2), (134, .lload_n 2, 1), (135, .invokestatic 332, 3), (138, .lastore, 1), (139, .return_, 1)]
theorem D_Machine_reckonLong : ∀ q ∈ T_Machine_reckonLong, decode b_Machine_reckonLong q.1 = .ok (q.2.1, q.2.2) := by decide +kernel

set_option maxHeartbeats 4000000 in
set_option maxRecDepth 100000 in
theorem am_Machine_reckonLong_L93 (l : Launch) (hfl : l.flags = pinnedFlags ++ [noTraceFlag]) (D : va_G) (A : Nat → Prop) (σ MC MS : Nat) (h0 : xb_H) (Qr : xb_H → Prop) (x0 : Nat) (x2 : Int64) (x4 : Int64) (x6 : Int32) (y0 : Int32) (y1 : Int32) (y2 : Int32) (h : xb_H) (hw : w_Machine_reckonLong_L93 Qr x0 x2 x4 x6 y0 y1 y2 h) : xb_am l D A σ 5 MC MS h0 (fun v h _ _ => v = none ∧ Qr h) (fun _ _ _ _ => False) y_Machine_reckonLong.cls y_Machine_reckonLong.name b_Machine_reckonLong 8 ([] : List ExceptionTableEntry) none 93 [(0, .ref x0), (2, .long x2), (4, .long x4), (6, .int x6)] [.int y0, .int y1, .int y2] h 0 0 := by
  unfold w_Machine_reckonLong_L93 at hw
  intro p e s m args below meth c hC H locs ls k n hE hl hR hS hk hn
  obtain ⟨hx, hb, hown, hlocks, htab, hml, hr, hB, hA, hnm⟩ := id hC
  have hts := hB.1.1.at args
  refine xb_call0 (D := D) (A := A) (σ := σ) (h := h) (d := 2) (maxL := 3) (rest := []) (av := [.int y2, .int y1, .int y0]) (fun T hT X => xt_invS X hx hown (hts _ m_87de7cde) (hts _ m_8958e44d) (hts _ m_912e4ef6) (xt_sgS (hts _ m_26bff918)).1 (xt_sgS (hts _ m_26bff918)).2 nm_Whole_trapOf (g := F0 m 93 ls [.int y0, .int y1, .int y2]) rfl (argsL := [.int y2, .int y1, .int y0]) (rest := []) rfl rfl (by rw [hb]; exact (xb_d D_Machine_reckonLong 56 rfl))) (ok_Whole_trapOf l hfl D A σ y2 y1 y0 h _ hw) (hml.trans hl.1.symm) (by rw [hb]; exact (xb_d D_Machine_reckonLong 56 rfl)) (Nat.le_of_ble_eq_true rfl) (Nat.le_of_ble_eq_true rfl) (Nat.le_of_ble_eq_true rfl) (show k ≤ MC by omega) (show n ≤ MS by omega) (xt_w1 hB.1 m_26bff918) (xt_cdOf hB.1 m_26bff918) (hts _ m_912e4ef6) hB hR hS hA (fun vv h1 H locs hq hEh1 hR hS => ?_)
  obtain ⟨r2, rfl, hw⟩ := hq
  have hw := hw hEh1
  have hE := hE.tr hEh1
  refine W.eq (g2 := F0 m 96 ls [.int r2]) rfl ?_
  refine lv_istore hx hb (xb_d D_Machine_reckonLong 57 rfl) hl (by decide) rfl (fun ls hl => ?_)
  have hl : lv_has ls 8 [(7, .int r2), (0, .ref x0), (2, .long x2), (4, .long x4), (6, .int x6)] := hl
  refine lv_iload hx hb (xb_d D_Machine_reckonLong 58 rfl) (lv_at hl 0 rfl) ?_
  refine lv_if_eq (tgt := 110) hx hb (xb_d D_Machine_reckonLong 59 rfl) rfl (fun hc3 => ?_) (fun hc3 => ?_)
  · have hw := hw.1 hc3
    refine lv_aload_n hx hb (xb_d D_Machine_reckonLong 64 rfl) rfl (lv_at hl 1 rfl) ?_
    refine lv_dup hx hb (xb_d D_Machine_reckonLong 65 rfl) rfl ?_
    obtain ⟨hk4, hw⟩ := hw
    refine xb_getI (C := R_Machine) (T := F_Machine) (N := 18) hx hb 7 10 hts fin_Machine hown hR hk4 (by decide) rfl (by decide) rfl (hts _ m_79cf62f6) (fun _ h9 => h9) (xb_d D_Machine_reckonLong 66 rfl) ?_
    refine lv_iconst (v := 1) hx hb (xb_d D_Machine_reckonLong 67 rfl) (by decide) ?_
    refine lv_isub hx hb (xb_d D_Machine_reckonLong 68 rfl) ?_
    refine xb_putI (C := R_Machine) (T := F_Machine) (N := 18) (ty := .int) (x := ((xb_i h1 x0 10) - 1)) hx hb 7 10 hts fin_Machine t_Machine t_Machine_ok n_Machine hown hR hS hk4 (by decide) rfl (by decide) rfl (hts _ m_79cf62f6) (fun _ h9 => h9) rfl (by decide +kernel) rfl rfl (xb_d D_Machine_reckonLong 69 rfl) (fun H locs hR hS => ?_)
    obtain ⟨h5, eh5⟩ : ∃ x : xb_H, x = xb_I h1 x0 10 ((xb_i h1 x0 10) - 1) := ⟨_, rfl⟩
    rw [← eh5] at hR
    have hw := hw h5 eh5
    have hE : xb_ext h0 h5 := by rw [eh5]; exact hE
    refine lv_aload_n hx hb (xb_d D_Machine_reckonLong 70 rfl) rfl (lv_at hl 1 rfl) ?_
    have hk4 : xb_k h5 x0 = 8 := by rw [eh5]; exact hk4
    refine xb_getP (C := R_Machine) (T := F_Machine) (N := 18) hx hb 7 9 hts fin_Machine hown hR hk4 (by decide) rfl (by decide) rfl (hts _ m_6904195b) (fun _ h9 => h9) (xb_d D_Machine_reckonLong 71 rfl) ?_
    obtain ⟨b6, eb6, hw⟩ := hw
    refine xb_some eb6 ?_
    refine lv_aload_n hx hb (xb_d D_Machine_reckonLong 72 rfl) rfl (lv_at hl 1 rfl) ?_
    refine xb_getI (C := R_Machine) (T := F_Machine) (N := 18) hx hb 7 10 hts fin_Machine hown hR hk4 (by decide) rfl (by decide) rfl (hts _ m_79cf62f6) (fun _ h9 => h9) (xb_d D_Machine_reckonLong 73 rfl) ?_
    refine lv_iconst (v := 1) hx hb (xb_d D_Machine_reckonLong 74 rfl) (by decide) ?_
    refine lv_isub hx hb (xb_d D_Machine_reckonLong 75 rfl) ?_
    refine lv_iload hx hb (xb_d D_Machine_reckonLong 76 rfl) (lv_at hl 4 rfl) ?_
    refine lv_lload hx hb (xb_d D_Machine_reckonLong 77 rfl) (lv_at hl 3 rfl) ?_
    refine lv_lload_n hx hb (xb_d D_Machine_reckonLong 78 rfl) rfl (lv_at hl 2 rfl) ?_
    refine xb_call0 (D := D) (A := A) (σ := σ) (h := h5) (d := 4) (maxL := 5) (rest := [.int ((xb_i h5 x0 10) - 1), .ref b6]) (av := [.int x6, .long x4, .long x2]) (fun T hT X => xt_invS X hx hown (hts _ m_e0680bb7) (hts _ m_2d21212b) (hts _ m_912e4ef6) (xt_sgS (hts _ m_58193057)).1 (xt_sgS (hts _ m_58193057)).2 nm_Whole_reckonLong (g := F0 m 135 ls [.long x2, .long x4, .int x6, .int ((xb_i h5 x0 10) - 1), .ref b6]) rfl (argsL := [.int x6, .long x4, .long x2]) (rest := [.int ((xb_i h5 x0 10) - 1), .ref b6]) rfl rfl (by rw [hb]; exact (xb_d D_Machine_reckonLong 79 rfl))) (ok_Whole_reckonLong l hfl D A σ x6 x4 x2 h5 _ hw) (hml.trans hl.1.symm) (by rw [hb]; exact (xb_d D_Machine_reckonLong 79 rfl)) (Nat.le_of_ble_eq_true rfl) (Nat.le_of_ble_eq_true rfl) (Nat.le_of_ble_eq_true rfl) (show k ≤ MC by omega) (show n ≤ MS by omega) (xt_w1 hB.1 m_58193057) (xt_cdOf hB.1 m_58193057) (hts _ m_912e4ef6) hB hR hS hA (fun vv h7 H locs hq hEh7 hR hS => ?_)
    obtain ⟨r8, rfl, hw⟩ := hq
    have hw := hw hEh7
    have hE := hE.tr hEh7
    refine W.eq (g2 := F0 m 138 ls [.long r8, .int ((xb_i h5 x0 10) - 1), .ref b6]) rfl ?_
    obtain ⟨hk9, hw⟩ := hw
    obtain ⟨hi10, hw⟩ := hw
    refine xb_last hx hb hR hS hk9 hi10 (xb_d D_Machine_reckonLong 80 rfl) (fun H locs hR hS => ?_)
    obtain ⟨h11, eh11⟩ : ∃ x : xb_H, x = xb_L h7 b6 (Int32.toNatClampNeg ((xb_i h5 x0 10) - 1)) r8 := ⟨_, rfl⟩
    rw [← eh11] at hR
    have hw := hw h11 eh11
    have hE : xb_ext h0 h11 := by rw [eh11]; exact hE
    exact xb_vret 0 0 hx hb hr hlocks (show k + 0 ≤ MC by omega) (show n + 0 ≤ MS by omega) hE hR hS (xb_d D_Machine_reckonLong 81 rfl) hw
  · have hw := hw.2 hc3
    refine lv_aload_n hx hb (xb_d D_Machine_reckonLong 60 rfl) rfl (lv_at hl 1 rfl) ?_
    refine lv_iload hx hb (xb_d D_Machine_reckonLong 61 rfl) (lv_at hl 0 rfl) ?_
    obtain ⟨hk12, hw⟩ := hw
    refine xb_call0 (D := D) (A := A) (σ := σ) (h := h1) (d := 2) (maxL := 3) (rest := []) (av := [.ref x0, .int r2]) (fun T hT X => by obtain ⟨cb9, ra9, rb9, rc9⟩ := xb_recv (ci := 7) hR rfl hk12 (by decide); exact xt_invV X hx hown (hts _ m_8f5db99d) (hts _ m_0ddc8afe) (hts _ m_f5561462) (xt_sigOf (hts _ m_f0d4fd47)) nm_Machine_fall (by rw [hT]; exact ra9) rb9 rc9 (g := F0 m 106 ls [.int r2, .ref x0]) rfl (argsL := [.int r2]) (rest := []) rfl rfl (by rw [hb]; exact (xb_d D_Machine_reckonLong 62 rfl))) (ok_Machine_fall l hfl D A σ x0 r2 h1 _ hw) (hml.trans hl.1.symm) (by rw [hb]; exact (xb_d D_Machine_reckonLong 62 rfl)) (Nat.le_of_ble_eq_true rfl) (Nat.le_of_ble_eq_true rfl) (Nat.le_of_ble_eq_true rfl) (show k ≤ MC by omega) (show n ≤ MS by omega) (xt_w1 hB.1 m_f0d4fd47) (xt_cdOf hB.1 m_f0d4fd47) (hts _ m_73451f9b) hB hR hS hA (fun vv h13 H locs hq hEh13 hR hS => ?_)
    obtain ⟨rfl, hw⟩ := hq
    have hw := hw hEh13
    have hE := hE.tr hEh13
    refine W.eq (g2 := F0 m 109 ls []) rfl ?_
    exact xb_vret 0 0 hx hb hr hlocks (show k + 0 ≤ MC by omega) (show n + 0 ≤ MS by omega) hE hR hS (xb_d D_Machine_reckonLong 63 rfl) hw

set_option maxHeartbeats 4000000 in
set_option maxRecDepth 100000 in
theorem am_Machine_reckonLong_L92 (l : Launch) (hfl : l.flags = pinnedFlags ++ [noTraceFlag]) (D : va_G) (A : Nat → Prop) (σ MC MS : Nat) (h0 : xb_H) (Qr : xb_H → Prop) (x0 : Nat) (x2 : Int64) (x4 : Int64) (x6 : Int32) (y0 : Int32) (y1 : Int32) (h : xb_H) (hw : w_Machine_reckonLong_L92 Qr x0 x2 x4 x6 y0 y1 h) : xb_am l D A σ 5 MC MS h0 (fun v h _ _ => v = none ∧ Qr h) (fun _ _ _ _ => False) y_Machine_reckonLong.cls y_Machine_reckonLong.name b_Machine_reckonLong 8 ([] : List ExceptionTableEntry) none 92 [(0, .ref x0), (2, .long x2), (4, .long x4), (6, .int x6)] [.int y0, .int y1] h 0 0 := by
  unfold w_Machine_reckonLong_L92 at hw
  intro p e s m args below meth c hC H locs ls k n hE hl hR hS hk hn
  obtain ⟨hx, hb, hown, hlocks, htab, hml, hr, hB, hA, hnm⟩ := id hC
  have hts := hB.1.1.at args
  refine lv_iconst (v := 0) hx hb (xb_d D_Machine_reckonLong 55 rfl) (by decide) ?_
  exact am_Machine_reckonLong_L93 l hfl D A σ MC MS h0 Qr x0 x2 x4 x6 0 y0 y1 h hw p e s m args below meth c hC H locs ls k n hE (lv_sub hl [0, 1, 2, 3] rfl) hR hS (by omega) (by omega)

set_option maxHeartbeats 4000000 in
set_option maxRecDepth 100000 in
theorem am_Machine_reckonLong_L71 (l : Launch) (hfl : l.flags = pinnedFlags ++ [noTraceFlag]) (D : va_G) (A : Nat → Prop) (σ MC MS : Nat) (h0 : xb_H) (Qr : xb_H → Prop) (x0 : Nat) (x2 : Int64) (x4 : Int64) (x6 : Int32) (y0 : Int32) (y1 : Int32) (h : xb_H) (hw : w_Machine_reckonLong_L71 Qr x0 x2 x4 x6 y0 y1 h) : xb_am l D A σ 5 MC MS h0 (fun v h _ _ => v = none ∧ Qr h) (fun _ _ _ _ => False) y_Machine_reckonLong.cls y_Machine_reckonLong.name b_Machine_reckonLong 8 ([] : List ExceptionTableEntry) none 71 [(0, .ref x0), (2, .long x2), (4, .long x4), (6, .int x6)] [.int y0, .int y1] h 0 0 := by
  unfold w_Machine_reckonLong_L71 at hw
  intro p e s m args below meth c hC H locs ls k n hE hl hR hS hk hn
  obtain ⟨hx, hb, hown, hlocks, htab, hml, hr, hB, hA, hnm⟩ := id hC
  have hts := hB.1.1.at args
  refine lv_lload hx hb (xb_d D_Machine_reckonLong 45 rfl) (lv_at hl 2 rfl) ?_
  refine lv_ldc2 (v := (-9223372036854775808)) hx hb hown (hts _ m_a8868524) (xb_d D_Machine_reckonLong 46 rfl) ?_
  refine xb_lc_ne (tgt := 92) hx hb (xb_d D_Machine_reckonLong 47 rfl) (xb_d D_Machine_reckonLong 48 rfl) rfl (fun hc1 => ?_) (fun hc1 => ?_)
  · have hw := hw.1 hc1
    exact am_Machine_reckonLong_L92 l hfl D A σ MC MS h0 Qr x0 x2 x4 x6 y0 y1 h hw p e s m args below meth c hC H locs ls k n hE (lv_sub hl [0, 1, 2, 3] rfl) hR hS (by omega) (by omega)
  · have hw := hw.2 hc1
    refine lv_lload_n hx hb (xb_d D_Machine_reckonLong 49 rfl) rfl (lv_at hl 1 rfl) ?_
    refine lv_ldc2 (v := (-1)) hx hb hown (hts _ m_3e9209a5) (xb_d D_Machine_reckonLong 50 rfl) ?_
    refine xb_lc_ne (tgt := 92) hx hb (xb_d D_Machine_reckonLong 51 rfl) (xb_d D_Machine_reckonLong 52 rfl) rfl (fun hc2 => ?_) (fun hc2 => ?_)
    · have hw := hw.1 hc2
      exact am_Machine_reckonLong_L92 l hfl D A σ MC MS h0 Qr x0 x2 x4 x6 y0 y1 h hw p e s m args below meth c hC H locs ls k n hE (lv_sub hl [0, 1, 2, 3] rfl) hR hS (by omega) (by omega)
    · have hw := hw.2 hc2
      refine lv_iconst (v := 1) hx hb (xb_d D_Machine_reckonLong 53 rfl) (by decide) ?_
      refine lv_goto (tgt := 93) hx hb (xb_d D_Machine_reckonLong 54 rfl) rfl ?_
      exact am_Machine_reckonLong_L93 l hfl D A σ MC MS h0 Qr x0 x2 x4 x6 1 y0 y1 h hw p e s m args below meth c hC H locs ls k n hE (lv_sub hl [0, 1, 2, 3] rfl) hR hS (by omega) (by omega)

set_option maxHeartbeats 4000000 in
set_option maxRecDepth 100000 in
theorem ok_Machine_reckonLong (l : Launch) (hfl : l.flags = pinnedFlags ++ [noTraceFlag]) (D : va_G) (A : Nat → Prop) (σ : Nat) (x0 : Nat) (x1 : Int32) (h : xb_H) (Qr : xb_H → Prop) (hw : w_Machine_reckonLong x0 x1 h Qr) : xb_Met l y_Machine_reckonLong [.code y_Machine_reckonLong b_Machine_reckonLong 8 none] (xb_rm 5 0 0) (xb_Pc D A σ h [.ref x0, .int x1]) (xb_Qc D A h 0 0 (fun v h _ _ => v = none ∧ Qr h) (fun _ _ _ _ => False)) A := by
  refine xb_ofAm (cc := b_Machine_reckonLong) (by decide) (Nat.le_of_ble_eq_true rfl) ?_
  unfold w_Machine_reckonLong at hw
  show xb_am l D A σ 5 0 0 h (fun v h _ _ => v = none ∧ Qr h) (fun _ _ _ _ => False) y_Machine_reckonLong.cls y_Machine_reckonLong.name b_Machine_reckonLong 8 ([] : List ExceptionTableEntry) none 0 [(0, .ref x0), (1, .int x1)] [] h 0 0
  obtain ⟨MC, hMC⟩ : ∃ x, x = 0 := ⟨_, rfl⟩
  obtain ⟨MS, hMS⟩ : ∃ x, x = 0 := ⟨_, rfl⟩
  rw [show xb_am l D A σ 5 0 0 = xb_am l D A σ 5 MC MS by rw [hMC, hMS]]
  obtain ⟨h0, hh0⟩ : ∃ x, x = h := ⟨_, rfl⟩
  rw [show xb_am l D A σ 5 MC MS h = xb_am l D A σ 5 MC MS h0 by rw [hh0]]
  intro p e s m args below meth c hC H locs ls k n hE hl hR hS hk hn
  obtain ⟨hx, hb, hown, hlocks, htab, hml, hr, hB, hA, hnm⟩ := id hC
  have hts := hB.1.1.at args
  refine lv_aload_n hx hb (xb_d D_Machine_reckonLong 0 rfl) rfl (lv_at hl 0 rfl) ?_
  obtain ⟨hk1, hw⟩ := hw
  refine xb_getP (C := R_Machine) (T := F_Machine) (N := 18) hx hb 7 9 hts fin_Machine hown hR hk1 (by decide) rfl (by decide) rfl (hts _ m_6904195b) (fun _ h9 => h9) (xb_d D_Machine_reckonLong 1 rfl) ?_
  obtain ⟨b2, eb2, hw⟩ := hw
  refine xb_some eb2 ?_
  refine lv_aload_n hx hb (xb_d D_Machine_reckonLong 2 rfl) rfl (lv_at hl 0 rfl) ?_
  refine xb_getI (C := R_Machine) (T := F_Machine) (N := 18) hx hb 7 10 hts fin_Machine hown hR hk1 (by decide) rfl (by decide) rfl (hts _ m_79cf62f6) (fun _ h9 => h9) (xb_d D_Machine_reckonLong 3 rfl) ?_
  refine lv_iconst (v := 1) hx hb (xb_d D_Machine_reckonLong 4 rfl) (by decide) ?_
  refine lv_isub hx hb (xb_d D_Machine_reckonLong 5 rfl) ?_
  obtain ⟨hk4, hw⟩ := hw
  obtain ⟨hi3, hw⟩ := hw
  refine xb_lald hx hb hR hk4 hi3 (xb_d D_Machine_reckonLong 6 rfl) ?_
  obtain ⟨v5, ev5⟩ : ∃ x : Int64, x = (xb_l h b2 (Int32.toNatClampNeg ((xb_i h x0 10) - 1))) := ⟨_, rfl⟩
  have hw := hw v5 ev5
  refine xt_numl (y := v5) ev5.symm ?_
  refine lv_lstore_n hx hb (xb_d D_Machine_reckonLong 7 rfl) rfl hl (by decide) rfl (fun ls hl => ?_)
  have hl : lv_has ls 8 [(2, .long v5), (0, .ref x0), (1, .int x1)] := hl
  refine lv_iload_n hx hb (xb_d D_Machine_reckonLong 8 rfl) rfl (lv_at hl 2 rfl) ?_
  refine lv_bipush (v := 123) hx hb (xb_d D_Machine_reckonLong 9 rfl) (by decide) ?_
  refine lv_icmp_gt (tgt := 39) hx hb (xb_d D_Machine_reckonLong 10 rfl) rfl (fun hc6 => ?_) (fun hc6 => ?_)
  · have hw := hw.1 hc6
    refine lv_aload_n hx hb (xb_d D_Machine_reckonLong 25 rfl) rfl (lv_at hl 1 rfl) ?_
    refine xb_getP (C := R_Machine) (T := F_Machine) (N := 18) hx hb 7 9 hts fin_Machine hown hR hk1 (by decide) rfl (by decide) rfl (hts _ m_6904195b) (fun _ h9 => h9) (xb_d D_Machine_reckonLong 26 rfl) ?_
    obtain ⟨b7, eb7, hw⟩ := hw
    refine xb_some eb7 ?_
    refine lv_aload_n hx hb (xb_d D_Machine_reckonLong 27 rfl) rfl (lv_at hl 1 rfl) ?_
    refine xb_getI (C := R_Machine) (T := F_Machine) (N := 18) hx hb 7 10 hts fin_Machine hown hR hk1 (by decide) rfl (by decide) rfl (hts _ m_79cf62f6) (fun _ h9 => h9) (xb_d D_Machine_reckonLong 28 rfl) ?_
    refine lv_iconst (v := 2) hx hb (xb_d D_Machine_reckonLong 29 rfl) (by decide) ?_
    refine lv_isub hx hb (xb_d D_Machine_reckonLong 30 rfl) ?_
    obtain ⟨hk9, hw⟩ := hw
    obtain ⟨hi8, hw⟩ := hw
    refine xb_lald hx hb hR hk9 hi8 (xb_d D_Machine_reckonLong 31 rfl) ?_
    obtain ⟨v10, ev10⟩ : ∃ x : Int64, x = (xb_l h b7 (Int32.toNatClampNeg ((xb_i h x0 10) - 2))) := ⟨_, rfl⟩
    have hw := hw v10 ev10
    refine xt_numl (y := v10) ev10.symm ?_
    refine lv_lstore hx hb (xb_d D_Machine_reckonLong 32 rfl) hl (by decide) rfl (fun ls hl => ?_)
    have hl : lv_has ls 8 [(4, .long v10), (2, .long v5), (0, .ref x0), (1, .int x1)] := hl
    refine lv_iload_n hx hb (xb_d D_Machine_reckonLong 33 rfl) rfl (lv_at hl 3 rfl) ?_
    refine lv_bipush (v := 124) hx hb (xb_d D_Machine_reckonLong 34 rfl) (by decide) ?_
    refine lv_isub hx hb (xb_d D_Machine_reckonLong 35 rfl) ?_
    obtain ⟨v11, ev11⟩ : ∃ x : Int32, x = (x1 - 124) := ⟨_, rfl⟩
    have hw := hw v11 ev11
    refine xt_numi (y := v11) ev11.symm ?_
    refine lv_istore hx hb (xb_d D_Machine_reckonLong 36 rfl) hl (by decide) rfl (fun ls hl => ?_)
    have hl : lv_has ls 8 [(6, .int v11), (4, .long v10), (2, .long v5), (0, .ref x0), (1, .int x1)] := hl
    refine lv_iload hx hb (xb_d D_Machine_reckonLong 37 rfl) (lv_at hl 0 rfl) ?_
    refine lv_lload_n hx hb (xb_d D_Machine_reckonLong 38 rfl) rfl (lv_at hl 2 rfl) ?_
    refine lv_lconst (v := 0) hx hb (xb_d D_Machine_reckonLong 39 rfl) (by decide) ?_
    refine xb_lc_ne (tgt := 70) hx hb (xb_d D_Machine_reckonLong 40 rfl) (xb_d D_Machine_reckonLong 41 rfl) rfl (fun hc12 => ?_) (fun hc12 => ?_)
    · have hw := hw.1 hc12
      refine lv_iconst (v := 0) hx hb (xb_d D_Machine_reckonLong 44 rfl) (by decide) ?_
      exact am_Machine_reckonLong_L71 l hfl D A σ MC MS h0 Qr x0 v5 v10 v11 0 v11 h hw p e s m args below meth c hC H locs ls k n hE (lv_sub hl [3, 2, 1, 0] rfl) hR hS (by omega) (by omega)
    · have hw := hw.2 hc12
      refine lv_iconst (v := 1) hx hb (xb_d D_Machine_reckonLong 42 rfl) (by decide) ?_
      refine lv_goto (tgt := 71) hx hb (xb_d D_Machine_reckonLong 43 rfl) rfl ?_
      exact am_Machine_reckonLong_L71 l hfl D A σ MC MS h0 Qr x0 v5 v10 v11 1 v11 h hw p e s m args below meth c hC H locs ls k n hE (lv_sub hl [3, 2, 1, 0] rfl) hR hS (by omega) (by omega)
  · have hw := hw.2 hc6
    refine lv_aload_n hx hb (xb_d D_Machine_reckonLong 11 rfl) rfl (lv_at hl 1 rfl) ?_
    refine xb_getP (C := R_Machine) (T := F_Machine) (N := 18) hx hb 7 9 hts fin_Machine hown hR hk1 (by decide) rfl (by decide) rfl (hts _ m_6904195b) (fun _ h9 => h9) (xb_d D_Machine_reckonLong 12 rfl) ?_
    obtain ⟨b13, eb13, hw⟩ := hw
    refine xb_some eb13 ?_
    refine lv_aload_n hx hb (xb_d D_Machine_reckonLong 13 rfl) rfl (lv_at hl 1 rfl) ?_
    refine xb_getI (C := R_Machine) (T := F_Machine) (N := 18) hx hb 7 10 hts fin_Machine hown hR hk1 (by decide) rfl (by decide) rfl (hts _ m_79cf62f6) (fun _ h9 => h9) (xb_d D_Machine_reckonLong 14 rfl) ?_
    refine lv_iconst (v := 1) hx hb (xb_d D_Machine_reckonLong 15 rfl) (by decide) ?_
    refine lv_isub hx hb (xb_d D_Machine_reckonLong 16 rfl) ?_
    refine lv_iload_n hx hb (xb_d D_Machine_reckonLong 17 rfl) rfl (lv_at hl 2 rfl) ?_
    refine lv_bipush (v := 121) hx hb (xb_d D_Machine_reckonLong 18 rfl) (by decide) ?_
    refine lv_isub hx hb (xb_d D_Machine_reckonLong 19 rfl) ?_
    refine lv_lload_n hx hb (xb_d D_Machine_reckonLong 20 rfl) rfl (lv_at hl 0 rfl) ?_
    refine xb_call0 (D := D) (A := A) (σ := σ) (h := h) (d := 3) (maxL := 3) (rest := [.int ((xb_i h x0 10) - 1), .ref b13]) (av := [.int (x1 - 121), .long v5]) (fun T hT X => xt_invS X hx hown (hts _ m_ed05e460) (hts _ m_a75d6ada) (hts _ m_912e4ef6) (xt_sgS (hts _ m_fccded66)).1 (xt_sgS (hts _ m_fccded66)).2 nm_Whole_countLong (g := F0 m 33 ls [.long v5, .int (x1 - 121), .int ((xb_i h x0 10) - 1), .ref b13]) rfl (argsL := [.int (x1 - 121), .long v5]) (rest := [.int ((xb_i h x0 10) - 1), .ref b13]) rfl rfl (by rw [hb]; exact (xb_d D_Machine_reckonLong 21 rfl))) (ok_Whole_countLong l hfl D A σ (x1 - 121) v5 h _ hw) (hml.trans hl.1.symm) (by rw [hb]; exact (xb_d D_Machine_reckonLong 21 rfl)) (Nat.le_of_ble_eq_true rfl) (Nat.le_of_ble_eq_true rfl) (Nat.le_of_ble_eq_true rfl) (show k ≤ MC by omega) (show n ≤ MS by omega) (xt_w1 hB.1 m_fccded66) (xt_cdOf hB.1 m_fccded66) (hts _ m_912e4ef6) hB hR hS hA (fun vv h14 H locs hq hEh14 hR hS => ?_)
    obtain ⟨r15, rfl, hw⟩ := hq
    have hw := hw hEh14
    have hE := hE.tr hEh14
    refine W.eq (g2 := F0 m 36 ls [.int r15, .int ((xb_i h x0 10) - 1), .ref b13]) rfl ?_
    refine lv_i2l hx hb (xb_d D_Machine_reckonLong 22 rfl) rfl ?_
    obtain ⟨hk16, hw⟩ := hw
    obtain ⟨hi17, hw⟩ := hw
    refine xb_last hx hb hR hS hk16 hi17 (xb_d D_Machine_reckonLong 23 rfl) (fun H locs hR hS => ?_)
    obtain ⟨h18, eh18⟩ : ∃ x : xb_H, x = xb_L h14 b13 (Int32.toNatClampNeg ((xb_i h x0 10) - 1)) (Int32.toInt64 r15) := ⟨_, rfl⟩
    rw [← eh18] at hR
    have hw := hw h18 eh18
    have hE : xb_ext h0 h18 := by rw [eh18]; exact hE
    exact xb_vret 0 0 hx hb hr hlocks (show k + 0 ≤ MC by omega) (show n + 0 ≤ MS by omega) hE hR hS (xb_d D_Machine_reckonLong 24 rfl) hw

theorem m_5779b1eb : (.methodLink "StackHost$Machine" 341 y_Format_trapOfWhole : Cond) ∈ xt_tbl := xt_in (xt_t8 (List.mem_of_getElem? (i := 20) (by decide +kernel))) (by decide +kernel)
theorem m_7f346871 : (.instanceMethod y_Format_trapOfWhole : Cond) ∈ xt_tbl := xt_in (xt_t8 (List.mem_of_getElem? (i := 21) (by decide +kernel))) (by decide +kernel)
theorem m_15b5aa11 : (.selects "StackHost$Format" y_Format_trapOfWhole y_Format_trapOfWhole : Cond) ∈ xt_tbl := xt_in (xt_t8 (List.mem_of_getElem? (i := 22) (by decide +kernel))) (by decide +kernel)
theorem m_55f37b3c : (.code y_Format_trapOfWhole b_Format_trapOfWhole 9 (some .int) : Cond) ∈ xt_tbl := xt_in (xt_t8 (List.mem_of_getElem? (i := 23) (by decide +kernel))) (by decide +kernel)
theorem m_3a4d21d8 : (.methodLink "StackHost$Machine" 345 y_Format_isNegative : Cond) ∈ xt_tbl := xt_in (xt_t8 (List.mem_of_getElem? (i := 40) (by decide +kernel))) (by decide +kernel)
theorem m_9ef39c76 : (.methodLink "StackHost$Machine" 349 y_Format_wholePart : Cond) ∈ xt_tbl := xt_in (xt_t8 (List.mem_of_getElem? (i := 41) (by decide +kernel))) (by decide +kernel)
theorem nm_Format_trapOfWhole : xt_nm y_Format_trapOfWhole 3 := ⟨by decide +kernel, by decide +kernel⟩
set_option maxRecDepth 100000 in
def T_Machine_truncate : List (Nat × Instr × Nat) := [(0, .aload_n 1, 1), (1, .lload_n 2, 1), (2, .iload 4, 2), (4, .iload 5, 2), (6, .invokevirtual 341, 3), (9, .istore 6, 2), (11, .iload 6, 2), (13, .ifCond .eq 10, 3), (16, .aload_n 0, 1), (17, .iload 6, 2), (19, .invokevirtual 156, 3), (22, .return_, 1), (23, .aload_n 1, 1), (24, .lload_n 2, 1), (25, .invokevirtual 345, 3), (28, .ifCond .eq 12, 3), (31, .aload_n 1, 1), (32, .lload_n 2, 1), (33, .invokevirtual 349, 3), (36, .lneg, 1), (37, .goto 8, 3), (40, .aload_n 1, 1), (41, .lload_n 2, 1), (42, .invokevirtual 349, 3), (45, .lstore 7, 2), (47, .aload_n 0, 1), (48, .getfield 35, 3), (51, .aload_n 0, 1), (52, .getfield 53, 3), (55, .iconst 1, 1), (56, .isub, 1), (57, .iload 4, 2), (59, .bipush 32, 2), (61, .if_icmp .ne 12, 3), (64, .lload 7, 2), (66, .ldc2_w 74, 3), (69, .land, 1), (70, .goto 5, 3), (73, .lload 7, 2), (75, .lastore, 1), (76, .return_, 1)]
theorem D_Machine_truncate : ∀ q ∈ T_Machine_truncate, decode b_Machine_truncate q.1 = .ok (q.2.1, q.2.2) := by decide +kernel

set_option maxHeartbeats 4000000 in
set_option maxRecDepth 100000 in
theorem am_Machine_truncate_L75 (l : Launch) (hfl : l.flags = pinnedFlags ++ [noTraceFlag]) (D : va_G) (A : Nat → Prop) (σ MC MS : Nat) (h0 : xb_H) (Qr : xb_H → Prop) (y0 : Int64) (y1 : Int32) (y2 : Nat) (h : xb_H) (hw : w_Machine_truncate_L75 Qr y0 y1 y2 h) : xb_am l D A σ 5 MC MS h0 (fun v h _ _ => v = none ∧ Qr h) (fun _ _ _ _ => False) y_Machine_truncate.cls y_Machine_truncate.name b_Machine_truncate 9 ([] : List ExceptionTableEntry) none 75 [] [.long y0, .int y1, .ref y2] h 0 0 := by
  unfold w_Machine_truncate_L75 at hw
  intro p e s m args below meth c hC H locs ls k n hE hl hR hS hk hn
  obtain ⟨hx, hb, hown, hlocks, htab, hml, hr, hB, hA, hnm⟩ := id hC
  have hts := hB.1.1.at args
  obtain ⟨hk1, hw⟩ := hw
  obtain ⟨hi2, hw⟩ := hw
  refine xb_last hx hb hR hS hk1 hi2 (xb_d D_Machine_truncate 39 rfl) (fun H locs hR hS => ?_)
  obtain ⟨h3, eh3⟩ : ∃ x : xb_H, x = xb_L h y2 (Int32.toNatClampNeg y1) y0 := ⟨_, rfl⟩
  rw [← eh3] at hR
  have hw := hw h3 eh3
  have hE : xb_ext h0 h3 := by rw [eh3]; exact hE
  exact xb_vret 0 0 hx hb hr hlocks (show k + 0 ≤ MC by omega) (show n + 0 ≤ MS by omega) hE hR hS (xb_d D_Machine_truncate 40 rfl) hw

set_option maxHeartbeats 4000000 in
set_option maxRecDepth 100000 in
theorem am_Machine_truncate_L45 (l : Launch) (hfl : l.flags = pinnedFlags ++ [noTraceFlag]) (D : va_G) (A : Nat → Prop) (σ MC MS : Nat) (h0 : xb_H) (Qr : xb_H → Prop) (x0 : Nat) (x4 : Int32) (y0 : Int64) (h : xb_H) (hw : w_Machine_truncate_L45 Qr x0 x4 y0 h) : xb_am l D A σ 5 MC MS h0 (fun v h _ _ => v = none ∧ Qr h) (fun _ _ _ _ => False) y_Machine_truncate.cls y_Machine_truncate.name b_Machine_truncate 9 ([] : List ExceptionTableEntry) none 45 [(0, .ref x0), (4, .int x4)] [.long y0] h 0 0 := by
  unfold w_Machine_truncate_L45 at hw
  intro p e s m args below meth c hC H locs ls k n hE hl hR hS hk hn
  obtain ⟨hx, hb, hown, hlocks, htab, hml, hr, hB, hA, hnm⟩ := id hC
  have hts := hB.1.1.at args
  refine lv_lstore hx hb (xb_d D_Machine_truncate 24 rfl) hl (by decide) rfl (fun ls hl => ?_)
  have hl : lv_has ls 9 [(7, .long y0), (0, .ref x0), (4, .int x4)] := hl
  refine lv_aload_n hx hb (xb_d D_Machine_truncate 25 rfl) rfl (lv_at hl 1 rfl) ?_
  obtain ⟨hk1, hw⟩ := hw
  refine xb_getP (C := R_Machine) (T := F_Machine) (N := 18) hx hb 7 9 hts fin_Machine hown hR hk1 (by decide) rfl (by decide) rfl (hts _ m_6904195b) (fun _ h9 => h9) (xb_d D_Machine_truncate 26 rfl) ?_
  obtain ⟨b2, eb2, hw⟩ := hw
  refine xb_some eb2 ?_
  refine lv_aload_n hx hb (xb_d D_Machine_truncate 27 rfl) rfl (lv_at hl 1 rfl) ?_
  refine xb_getI (C := R_Machine) (T := F_Machine) (N := 18) hx hb 7 10 hts fin_Machine hown hR hk1 (by decide) rfl (by decide) rfl (hts _ m_79cf62f6) (fun _ h9 => h9) (xb_d D_Machine_truncate 28 rfl) ?_
  refine lv_iconst (v := 1) hx hb (xb_d D_Machine_truncate 29 rfl) (by decide) ?_
  refine lv_isub hx hb (xb_d D_Machine_truncate 30 rfl) ?_
  refine lv_iload hx hb (xb_d D_Machine_truncate 31 rfl) (lv_at hl 2 rfl) ?_
  refine lv_bipush (v := 32) hx hb (xb_d D_Machine_truncate 32 rfl) (by decide) ?_
  refine lv_icmp_ne (tgt := 73) hx hb (xb_d D_Machine_truncate 33 rfl) rfl (fun hc3 => ?_) (fun hc3 => ?_)
  · have hw := hw.1 hc3
    refine lv_lload hx hb (xb_d D_Machine_truncate 38 rfl) (lv_at hl 0 rfl) ?_
    exact am_Machine_truncate_L75 l hfl D A σ MC MS h0 Qr y0 ((xb_i h x0 10) - 1) b2 h hw p e s m args below meth c hC H locs ls k n hE (lv_sub hl [] rfl) hR hS (by omega) (by omega)
  · have hw := hw.2 hc3
    refine lv_lload hx hb (xb_d D_Machine_truncate 34 rfl) (lv_at hl 0 rfl) ?_
    refine lv_ldc2 (v := 4294967295) hx hb hown (hts _ m_2b0551dd) (xb_d D_Machine_truncate 35 rfl) ?_
    refine lv_land hx hb (xb_d D_Machine_truncate 36 rfl) ?_
    refine lv_goto (tgt := 75) hx hb (xb_d D_Machine_truncate 37 rfl) rfl ?_
    exact am_Machine_truncate_L75 l hfl D A σ MC MS h0 Qr (y0 &&& 4294967295) ((xb_i h x0 10) - 1) b2 h hw p e s m args below meth c hC H locs ls k n hE (lv_sub hl [] rfl) hR hS (by omega) (by omega)

set_option maxHeartbeats 4000000 in
set_option maxRecDepth 100000 in
theorem ok_Machine_truncate (l : Launch) (hfl : l.flags = pinnedFlags ++ [noTraceFlag]) (D : va_G) (A : Nat → Prop) (σ : Nat) (x0 : Nat) (x1 : Nat) (x2 : Int64) (x4 : Int32) (x5 : Int32) (h : xb_H) (Qr : xb_H → Prop) (hw : w_Machine_truncate x0 x1 x2 x4 x5 h Qr) : xb_Met l y_Machine_truncate [.code y_Machine_truncate b_Machine_truncate 9 none] (xb_rm 5 0 0) (xb_Pc D A σ h [.ref x0, .ref x1, .long x2, .int x4, .int x5]) (xb_Qc D A h 0 0 (fun v h _ _ => v = none ∧ Qr h) (fun _ _ _ _ => False)) A := by
  refine xb_ofAm (cc := b_Machine_truncate) (by decide) (Nat.le_of_ble_eq_true rfl) ?_
  unfold w_Machine_truncate at hw
  show xb_am l D A σ 5 0 0 h (fun v h _ _ => v = none ∧ Qr h) (fun _ _ _ _ => False) y_Machine_truncate.cls y_Machine_truncate.name b_Machine_truncate 9 ([] : List ExceptionTableEntry) none 0 [(0, .ref x0), (1, .ref x1), (2, .long x2), (4, .int x4), (5, .int x5)] [] h 0 0
  obtain ⟨MC, hMC⟩ : ∃ x, x = 0 := ⟨_, rfl⟩
  obtain ⟨MS, hMS⟩ : ∃ x, x = 0 := ⟨_, rfl⟩
  rw [show xb_am l D A σ 5 0 0 = xb_am l D A σ 5 MC MS by rw [hMC, hMS]]
  obtain ⟨h0, hh0⟩ : ∃ x, x = h := ⟨_, rfl⟩
  rw [show xb_am l D A σ 5 MC MS h = xb_am l D A σ 5 MC MS h0 by rw [hh0]]
  intro p e s m args below meth c hC H locs ls k n hE hl hR hS hk hn
  obtain ⟨hx, hb, hown, hlocks, htab, hml, hr, hB, hA, hnm⟩ := id hC
  have hts := hB.1.1.at args
  refine lv_aload_n hx hb (xb_d D_Machine_truncate 0 rfl) rfl (lv_at hl 1 rfl) ?_
  refine lv_lload_n hx hb (xb_d D_Machine_truncate 1 rfl) rfl (lv_at hl 2 rfl) ?_
  refine lv_iload hx hb (xb_d D_Machine_truncate 2 rfl) (lv_at hl 3 rfl) ?_
  refine lv_iload hx hb (xb_d D_Machine_truncate 3 rfl) (lv_at hl 4 rfl) ?_
  obtain ⟨hk1, hw⟩ := hw
  refine xb_call0 (D := D) (A := A) (σ := σ) (h := h) (d := 4) (maxL := 9) (rest := []) (av := [.ref x1, .long x2, .int x4, .int x5]) (fun T hT X => by obtain ⟨cb9, ra9, rb9, rc9⟩ := xb_recv (ci := 5) hR rfl hk1 (by decide); exact xt_invV X hx hown (hts _ m_5779b1eb) (hts _ m_7f346871) (hts _ m_15b5aa11) (xt_sigOf (hts _ m_55f37b3c)) nm_Format_trapOfWhole (by rw [hT]; exact ra9) rb9 rc9 (g := F0 m 6 ls [.int x5, .int x4, .long x2, .ref x1]) rfl (argsL := [.long x2, .int x4, .int x5]) (rest := []) rfl rfl (by rw [hb]; exact (xb_d D_Machine_truncate 4 rfl))) (ok_Format_trapOfWhole l hfl D A σ x1 x2 x4 x5 h _ hw) (hml.trans hl.1.symm) (by rw [hb]; exact (xb_d D_Machine_truncate 4 rfl)) (Nat.le_of_ble_eq_true rfl) (Nat.le_of_ble_eq_true rfl) (Nat.le_of_ble_eq_true rfl) (show k ≤ MC by omega) (show n ≤ MS by omega) (xt_w1 hB.1 m_55f37b3c) (xt_cdOf hB.1 m_55f37b3c) (hts _ m_64857de5) hB hR hS hA (fun vv h2 H locs hq hEh2 hR hS => ?_)
  obtain ⟨r3, rfl, hw⟩ := hq
  have hw := hw hEh2
  have hE := hE.tr hEh2
  refine W.eq (g2 := F0 m 9 ls [.int r3]) rfl ?_
  refine lv_istore hx hb (xb_d D_Machine_truncate 5 rfl) hl (by decide) rfl (fun ls hl => ?_)
  have hl : lv_has ls 9 [(6, .int r3), (0, .ref x0), (1, .ref x1), (2, .long x2), (4, .int x4), (5, .int x5)] := hl
  refine lv_iload hx hb (xb_d D_Machine_truncate 6 rfl) (lv_at hl 0 rfl) ?_
  refine lv_if_eq (tgt := 23) hx hb (xb_d D_Machine_truncate 7 rfl) rfl (fun hc4 => ?_) (fun hc4 => ?_)
  · have hw := hw.1 hc4
    refine lv_aload_n hx hb (xb_d D_Machine_truncate 12 rfl) rfl (lv_at hl 2 rfl) ?_
    refine lv_lload_n hx hb (xb_d D_Machine_truncate 13 rfl) rfl (lv_at hl 3 rfl) ?_
    have hk1 : xb_k h2 x1 = 6 := hEh2.k hk1
    refine xb_call0 (D := D) (A := A) (σ := σ) (h := h2) (d := 2) (maxL := 3) (rest := []) (av := [.ref x1, .long x2]) (fun T hT X => by obtain ⟨cb9, ra9, rb9, rc9⟩ := xb_recv (ci := 5) hR rfl hk1 (by decide); exact xt_invV X hx hown (hts _ m_3a4d21d8) (hts _ m_9e016368) (hts _ m_42f2e51b) (xt_sigOf (hts _ m_6ee44111)) nm_Format_isNegative (by rw [hT]; exact ra9) rb9 rc9 (g := F0 m 25 ls [.long x2, .ref x1]) rfl (argsL := [.long x2]) (rest := []) rfl rfl (by rw [hb]; exact (xb_d D_Machine_truncate 14 rfl))) (ok_Format_isNegative l hfl D A σ x1 x2 h2 _ hw) (hml.trans hl.1.symm) (by rw [hb]; exact (xb_d D_Machine_truncate 14 rfl)) (Nat.le_of_ble_eq_true rfl) (Nat.le_of_ble_eq_true rfl) (Nat.le_of_ble_eq_true rfl) (show k ≤ MC by omega) (show n ≤ MS by omega) (xt_w1 hB.1 m_6ee44111) (xt_cdOf hB.1 m_6ee44111) (hts _ m_64857de5) hB hR hS hA (fun vv h5 H locs hq hEh5 hR hS => ?_)
    obtain ⟨r6, rfl, hw⟩ := hq
    have hw := hw hEh5
    have hE := hE.tr hEh5
    refine W.eq (g2 := F0 m 28 ls [.int r6]) rfl ?_
    refine lv_if_eq (tgt := 40) hx hb (xb_d D_Machine_truncate 15 rfl) rfl (fun hc7 => ?_) (fun hc7 => ?_)
    · have hw := hw.1 hc7
      refine lv_aload_n hx hb (xb_d D_Machine_truncate 21 rfl) rfl (lv_at hl 2 rfl) ?_
      refine lv_lload_n hx hb (xb_d D_Machine_truncate 22 rfl) rfl (lv_at hl 3 rfl) ?_
      have hk1 : xb_k h5 x1 = 6 := hEh5.k hk1
      refine xb_call0 (D := D) (A := A) (σ := σ) (h := h5) (d := 3) (maxL := 9) (rest := []) (av := [.ref x1, .long x2]) (fun T hT X => by obtain ⟨cb9, ra9, rb9, rc9⟩ := xb_recv (ci := 5) hR rfl hk1 (by decide); exact xt_invV X hx hown (hts _ m_9ef39c76) (hts _ m_a11ea4dc) (hts _ m_e5b75821) (xt_sigOf (hts _ m_0c5f14ae)) nm_Format_wholePart (by rw [hT]; exact ra9) rb9 rc9 (g := F0 m 42 ls [.long x2, .ref x1]) rfl (argsL := [.long x2]) (rest := []) rfl rfl (by rw [hb]; exact (xb_d D_Machine_truncate 23 rfl))) (ok_Format_wholePart l hfl D A σ x1 x2 h5 _ hw) (hml.trans hl.1.symm) (by rw [hb]; exact (xb_d D_Machine_truncate 23 rfl)) (Nat.le_of_ble_eq_true rfl) (Nat.le_of_ble_eq_true rfl) (Nat.le_of_ble_eq_true rfl) (show k ≤ MC by omega) (show n ≤ MS by omega) (xt_w1 hB.1 m_0c5f14ae) (xt_cdOf hB.1 m_0c5f14ae) (hts _ m_64857de5) hB hR hS hA (fun vv h8 H locs hq hEh8 hR hS => ?_)
      obtain ⟨r9, rfl, hw⟩ := hq
      have hw := hw hEh8
      have hE := hE.tr hEh8
      refine W.eq (g2 := F0 m 45 ls [.long r9]) rfl ?_
      exact am_Machine_truncate_L45 l hfl D A σ MC MS h0 Qr x0 x4 r9 h8 hw p e s m args below meth c hC H locs ls k n hE (lv_sub hl [1, 4] rfl) hR hS (by omega) (by omega)
    · have hw := hw.2 hc7
      refine lv_aload_n hx hb (xb_d D_Machine_truncate 16 rfl) rfl (lv_at hl 2 rfl) ?_
      refine lv_lload_n hx hb (xb_d D_Machine_truncate 17 rfl) rfl (lv_at hl 3 rfl) ?_
      have hk1 : xb_k h5 x1 = 6 := hEh5.k hk1
      refine xb_call0 (D := D) (A := A) (σ := σ) (h := h5) (d := 3) (maxL := 9) (rest := []) (av := [.ref x1, .long x2]) (fun T hT X => by obtain ⟨cb9, ra9, rb9, rc9⟩ := xb_recv (ci := 5) hR rfl hk1 (by decide); exact xt_invV X hx hown (hts _ m_9ef39c76) (hts _ m_a11ea4dc) (hts _ m_e5b75821) (xt_sigOf (hts _ m_0c5f14ae)) nm_Format_wholePart (by rw [hT]; exact ra9) rb9 rc9 (g := F0 m 33 ls [.long x2, .ref x1]) rfl (argsL := [.long x2]) (rest := []) rfl rfl (by rw [hb]; exact (xb_d D_Machine_truncate 18 rfl))) (ok_Format_wholePart l hfl D A σ x1 x2 h5 _ hw) (hml.trans hl.1.symm) (by rw [hb]; exact (xb_d D_Machine_truncate 18 rfl)) (Nat.le_of_ble_eq_true rfl) (Nat.le_of_ble_eq_true rfl) (Nat.le_of_ble_eq_true rfl) (show k ≤ MC by omega) (show n ≤ MS by omega) (xt_w1 hB.1 m_0c5f14ae) (xt_cdOf hB.1 m_0c5f14ae) (hts _ m_64857de5) hB hR hS hA (fun vv h10 H locs hq hEh10 hR hS => ?_)
      obtain ⟨r11, rfl, hw⟩ := hq
      have hw := hw hEh10
      have hE := hE.tr hEh10
      refine W.eq (g2 := F0 m 36 ls [.long r11]) rfl ?_
      refine lv_lneg hx hb (xb_d D_Machine_truncate 19 rfl) ?_
      refine lv_goto (tgt := 45) hx hb (xb_d D_Machine_truncate 20 rfl) rfl ?_
      exact am_Machine_truncate_L45 l hfl D A σ MC MS h0 Qr x0 x4 (-r11) h10 hw p e s m args below meth c hC H locs ls k n hE (lv_sub hl [1, 4] rfl) hR hS (by omega) (by omega)
  · have hw := hw.2 hc4
    refine lv_aload_n hx hb (xb_d D_Machine_truncate 8 rfl) rfl (lv_at hl 1 rfl) ?_
    refine lv_iload hx hb (xb_d D_Machine_truncate 9 rfl) (lv_at hl 0 rfl) ?_
    obtain ⟨hk12, hw⟩ := hw
    refine xb_call0 (D := D) (A := A) (σ := σ) (h := h2) (d := 2) (maxL := 3) (rest := []) (av := [.ref x0, .int r3]) (fun T hT X => by obtain ⟨cb9, ra9, rb9, rc9⟩ := xb_recv (ci := 7) hR rfl hk12 (by decide); exact xt_invV X hx hown (hts _ m_8f5db99d) (hts _ m_0ddc8afe) (hts _ m_f5561462) (xt_sigOf (hts _ m_f0d4fd47)) nm_Machine_fall (by rw [hT]; exact ra9) rb9 rc9 (g := F0 m 19 ls [.int r3, .ref x0]) rfl (argsL := [.int r3]) (rest := []) rfl rfl (by rw [hb]; exact (xb_d D_Machine_truncate 10 rfl))) (ok_Machine_fall l hfl D A σ x0 r3 h2 _ hw) (hml.trans hl.1.symm) (by rw [hb]; exact (xb_d D_Machine_truncate 10 rfl)) (Nat.le_of_ble_eq_true rfl) (Nat.le_of_ble_eq_true rfl) (Nat.le_of_ble_eq_true rfl) (show k ≤ MC by omega) (show n ≤ MS by omega) (xt_w1 hB.1 m_f0d4fd47) (xt_cdOf hB.1 m_f0d4fd47) (hts _ m_73451f9b) hB hR hS hA (fun vv h13 H locs hq hEh13 hR hS => ?_)
    obtain ⟨rfl, hw⟩ := hq
    have hw := hw hEh13
    have hE := hE.tr hEh13
    refine W.eq (g2 := F0 m 22 ls []) rfl ?_
    exact xb_vret 0 0 hx hb hr hlocks (show k + 0 ≤ MC by omega) (show n + 0 ≤ MS by omega) hE hR hS (xb_d D_Machine_truncate 11 rfl) hw

theorem m_23600e9a : (.fieldLinkNest "StackHost$Machine" 275 "StackHost" "MEMORY_BYTES" "[I" "StackHost" : Cond) ∈ xt_tbl := xt_in (xt_t8 (List.mem_of_getElem? (i := 222) (by decide +kernel))) (by decide +kernel)
theorem m_e2094cf0 : (.fieldLink "StackHost$Machine" 262 "StackHost$Instance" "memory" "LStackHost$Memory;" : Cond) ∈ xt_tbl := xt_in (xt_t7 (List.mem_of_getElem? (i := 18) (by decide +kernel))) (by decide +kernel)
theorem m_679a2d41 : (.methodLink "StackHost$Machine" 278 y_Memory_bytes : Cond) ∈ xt_tbl := xt_in (xt_t8 (List.mem_of_getElem? (i := 223) (by decide +kernel))) (by decide +kernel)
theorem m_2f012601 : (.methodLink "StackHost$Machine" 284 y_Memory_fetch : Cond) ∈ xt_tbl := xt_in (xt_t8 (List.mem_of_getElem? (i := 229) (by decide +kernel))) (by decide +kernel)
theorem m_addf8063 : (.instanceMethod y_Memory_fetch : Cond) ∈ xt_tbl := xt_in (xt_t8 (List.mem_of_getElem? (i := 230) (by decide +kernel))) (by decide +kernel)
theorem m_379410e3 : (.selects "StackHost$Memory" y_Memory_fetch y_Memory_fetch : Cond) ∈ xt_tbl := xt_in (xt_t8 (List.mem_of_getElem? (i := 231) (by decide +kernel))) (by decide +kernel)
theorem m_a847d206 : (.code y_Memory_fetch b_Memory_fetch 6 (some .long) : Cond) ∈ xt_tbl := xt_in (xt_t8 (List.mem_of_getElem? (i := 232) (by decide +kernel))) (by decide +kernel)
theorem m_1b5a3927 : (.methodLink "StackHost$Machine" 288 y_Machine_widened : Cond) ∈ xt_tbl := xt_in (xt_t8 (List.mem_of_getElem? (i := 237) (by decide +kernel))) (by decide +kernel)
theorem m_a1a6ad05 : (.static y_Machine_widened : Cond) ∈ xt_tbl := xt_in (xt_t8 (List.mem_of_getElem? (i := 238) (by decide +kernel))) (by decide +kernel)
theorem m_0b4e7759 : (.code y_Machine_widened b_Machine_widened 3 (some .long) : Cond) ∈ xt_tbl := xt_in (xt_t8 (List.mem_of_getElem? (i := 239) (by decide +kernel))) (by decide +kernel)
theorem m_a4c48a05 : (.methodLink "StackHost$Machine" 281 y_Memory_store : Cond) ∈ xt_tbl := xt_in (xt_t8 (List.mem_of_getElem? (i := 224) (by decide +kernel))) (by decide +kernel)
theorem m_6f3c5f7c : (.instanceMethod y_Memory_store : Cond) ∈ xt_tbl := xt_in (xt_t8 (List.mem_of_getElem? (i := 225) (by decide +kernel))) (by decide +kernel)
theorem m_3520e35d : (.selects "StackHost$Memory" y_Memory_store y_Memory_store : Cond) ∈ xt_tbl := xt_in (xt_t8 (List.mem_of_getElem? (i := 226) (by decide +kernel))) (by decide +kernel)
theorem m_bd30f80b : (.code y_Memory_store b_Memory_store 6 none : Cond) ∈ xt_tbl := xt_in (xt_t8 (List.mem_of_getElem? (i := 227) (by decide +kernel))) (by decide +kernel)
theorem nm_Memory_fetch : xt_nm y_Memory_fetch 2 := ⟨by decide +kernel, by decide +kernel⟩
theorem nm_Machine_widened : xt_nm y_Machine_widened 2 := ⟨by decide +kernel, by decide +kernel⟩
theorem nm_Memory_store : xt_nm y_Memory_store 3 := ⟨by decide +kernel, by decide +kernel⟩
set_option maxRecDepth 100000 in
def T_Machine_useMemory : List (Nat × Instr × Nat) := [(0, .iload_n 1, 1), (1, .bipush 40, 2), (3, .isub, 1), (4, .istore_n 2, 1), (5, .iload_n 1, 1), (6, .bipush 54, 2), (8, .if_icmp .lt 7, 3), (11, .iconst 1, 1), (12, .goto 4, 3), (15, .iconst 0, 1), (16, .istore_n 3, 1), (17, .iload_n 3, 1), (18, .ifCond .eq 12, 3), (21, .aload_n 0, 1), (22, .getfield 53, 3), (25, .iconst 2, 1), (26, .isub, 1), (27, .goto 9, 3), (30, .aload_n 0, 1), (31, .getfield 53, 3), (34, .iconst 1, 1), (35, .isub, 1), (36, .istore 4, 2), (38, .aload_n 0, 1), (39, .getfield 35, 3), (42, .iload 4, 2), (44, .laload, 1), (45, .aload_n 0, 1), (46, .getfield 111, 3), (49, .aload_n 0, 1), (50, .getfield 108, 3), (53, .iconst 2, 1), (54, .iadd, 1), (55, .iaload, 1), (56, .i2l, 1), (57, .ldc2_w 74, 3), (60, .land, 1), (61, .ladd, 1), (62, .lstore 5, 2), (64, .lload 5, 2), (66, .getstatic 275, 3), (69, .iload_n 2, 1), (70, .iaload, 1), (71, .i2l, 1), (72, .ladd, 1), (73, .aload_n 0, 1), (74, .getfield 117, 3), (77, .getfield 262, 3), (80, .invokevirtual 278, 3), (83, .i2l, 1), (84, .lcmp, 1), (85, .ifCond .le 9, 3), (88, .aload_n 0, 1), (89, .iconst 2, 1), (90, .invokevirtual 156, 3), (93, .return_, 1), (94, .iload_n 3, 1), (95, .ifCond .eq 45, 3), (98, .aload_n 0, 1), (99, .getfield 117, 3), (102, .getfield 262, 3), (105, .lload 5, 2), (107, .l2i, 1), (108, .getstatic 275, 3), (111, .iload_n 2, 1), (112, .iaload, 1), (113, .aload_n 0, 1), (114, .getfield 35, 3), (117, .aload_n 0, 1), (118, .getfield 53, 3), (121, .iconst 1, 1), (122, .isub, 1), (123, .laload, 1), (124, .invokevirtual 281, 3), (127, .aload_n 0, 1), (128, .dup, 1), (129, .getfield 53, 3), (132, .iconst 2, 1), (133, .isub, 1), (134, .putfield 53, 3), (137, .goto 36, 3), (140, .aload_n 0, 1), (141, .getfield 117, 3), (144, .getfield 262, 3), (147, .lload 5, 2), (149, .l2i, 1), (150, .getstatic 275, 3), (153, .iload_n 2, 1), (154, .iaload, 1), (155, .invokevirtual 284, 3), (158, .lstore 7, 2), (160, .aload_n 0, 1), (161, .getfield 35, 3), (164, .iload 4, 2), (166, .iload_n 1, 1), (167, .lload 7, 2), (169, .invokestatic 288, 3), (172, .lastore, 1), (173, .aload_n 0, 1), (174, .aload_n 0, 1), (175, .getfield 111, 3), (178, .aload_n 0, 1), (179, .getfield 108, 3), (182, .iaload, 1), (183, .putfield 108, 3), (186, .return_, 1)]
theorem D_Machine_useMemory : ∀ q ∈ T_Machine_useMemory, decode b_Machine_useMemory q.1 = .ok (q.2.1, q.2.2) := by decide +kernel

set_option maxHeartbeats 4000000 in
set_option maxRecDepth 100000 in
theorem am_Machine_useMemory_L173 (l : Launch) (hfl : l.flags = pinnedFlags ++ [noTraceFlag]) (D : va_G) (A : Nat → Prop) (σ MC MS : Nat) (h0 : xb_H) (Qr : xb_H → Prop) (x0 : Nat) (h : xb_H) (hw : w_Machine_useMemory_L173 Qr x0 h) : xb_am l D A σ 5 MC MS h0 (fun v h _ _ => v = none ∧ Qr h) (fun _ _ _ _ => False) y_Machine_useMemory.cls y_Machine_useMemory.name b_Machine_useMemory 9 ([] : List ExceptionTableEntry) none 173 [(0, .ref x0)] [] h 0 0 := by
  unfold w_Machine_useMemory_L173 at hw
  intro p e s m args below meth c hC H locs ls k n hE hl hR hS hk hn
  obtain ⟨hx, hb, hown, hlocks, htab, hml, hr, hB, hA, hnm⟩ := id hC
  have hts := hB.1.1.at args
  refine lv_aload_n hx hb (xb_d D_Machine_useMemory 98 rfl) rfl (lv_at hl 0 rfl) ?_
  refine lv_aload_n hx hb (xb_d D_Machine_useMemory 99 rfl) rfl (lv_at hl 0 rfl) ?_
  obtain ⟨hk1, hw⟩ := hw
  refine xb_getP (C := R_Machine) (T := F_Machine) (N := 18) hx hb 7 14 hts fin_Machine hown hR hk1 (by decide) rfl (by decide) rfl (hts _ m_8f763f86) (fun _ h9 => h9) (xb_d D_Machine_useMemory 100 rfl) ?_
  obtain ⟨b2, eb2, hw⟩ := hw
  refine xb_some eb2 ?_
  refine lv_aload_n hx hb (xb_d D_Machine_useMemory 101 rfl) rfl (lv_at hl 0 rfl) ?_
  refine xb_getI (C := R_Machine) (T := F_Machine) (N := 18) hx hb 7 15 hts fin_Machine hown hR hk1 (by decide) rfl (by decide) rfl (hts _ m_6a595805) (fun _ h9 => h9) (xb_d D_Machine_useMemory 102 rfl) ?_
  obtain ⟨hk4, hw⟩ := hw
  obtain ⟨hi3, hw⟩ := hw
  refine xb_iald hx hb hR hk4 hi3 (xb_d D_Machine_useMemory 103 rfl) ?_
  refine xb_putI (C := R_Machine) (T := F_Machine) (N := 18) (ty := .int) (x := (xb_i h b2 (Int32.toNatClampNeg (xb_i h x0 15)))) hx hb 7 15 hts fin_Machine t_Machine t_Machine_ok n_Machine hown hR hS hk1 (by decide) rfl (by decide) rfl (hts _ m_6a595805) (fun _ h9 => h9) rfl (by decide +kernel) rfl rfl (xb_d D_Machine_useMemory 104 rfl) (fun H locs hR hS => ?_)
  obtain ⟨h5, eh5⟩ : ∃ x : xb_H, x = xb_I h x0 15 (xb_i h b2 (Int32.toNatClampNeg (xb_i h x0 15))) := ⟨_, rfl⟩
  rw [← eh5] at hR
  have hw := hw h5 eh5
  have hE : xb_ext h0 h5 := by rw [eh5]; exact hE
  exact xb_vret 0 0 hx hb hr hlocks (show k + 0 ≤ MC by omega) (show n + 0 ≤ MS by omega) hE hR hS (xb_d D_Machine_useMemory 105 rfl) hw

set_option maxHeartbeats 4000000 in
set_option maxRecDepth 100000 in
theorem am_Machine_useMemory_L36 (l : Launch) (hfl : l.flags = pinnedFlags ++ [noTraceFlag]) (D : va_G) (A : Nat → Prop) (σ MC MS : Nat) (h0 : xb_H) (Qr : xb_H → Prop) (x0 : Nat) (x1 : Int32) (x2 : Int32) (x3 : Int32) (y0 : Int32) (h : xb_H) (hw : w_Machine_useMemory_L36 Qr x0 x1 x2 x3 y0 h) : xb_am l D A σ 5 MC MS h0 (fun v h _ _ => v = none ∧ Qr h) (fun _ _ _ _ => False) y_Machine_useMemory.cls y_Machine_useMemory.name b_Machine_useMemory 9 ([] : List ExceptionTableEntry) none 36 [(0, .ref x0), (1, .int x1), (2, .int x2), (3, .int x3)] [.int y0] h 0 0 := by
  unfold w_Machine_useMemory_L36 at hw
  intro p e s m args below meth c hC H locs ls k n hE hl hR hS hk hn
  obtain ⟨hx, hb, hown, hlocks, htab, hml, hr, hB, hA, hnm⟩ := id hC
  have hts := hB.1.1.at args
  refine lv_istore hx hb (xb_d D_Machine_useMemory 22 rfl) hl (by decide) rfl (fun ls hl => ?_)
  have hl : lv_has ls 9 [(4, .int y0), (0, .ref x0), (1, .int x1), (2, .int x2), (3, .int x3)] := hl
  refine lv_aload_n hx hb (xb_d D_Machine_useMemory 23 rfl) rfl (lv_at hl 1 rfl) ?_
  obtain ⟨hk1, hw⟩ := hw
  refine xb_getP (C := R_Machine) (T := F_Machine) (N := 18) hx hb 7 9 hts fin_Machine hown hR hk1 (by decide) rfl (by decide) rfl (hts _ m_6904195b) (fun _ h9 => h9) (xb_d D_Machine_useMemory 24 rfl) ?_
  obtain ⟨b2, eb2, hw⟩ := hw
  refine xb_some eb2 ?_
  refine lv_iload hx hb (xb_d D_Machine_useMemory 25 rfl) (lv_at hl 0 rfl) ?_
  obtain ⟨hk4, hw⟩ := hw
  obtain ⟨hi3, hw⟩ := hw
  refine xb_lald hx hb hR hk4 hi3 (xb_d D_Machine_useMemory 26 rfl) ?_
  refine lv_aload_n hx hb (xb_d D_Machine_useMemory 27 rfl) rfl (lv_at hl 1 rfl) ?_
  refine xb_getP (C := R_Machine) (T := F_Machine) (N := 18) hx hb 7 14 hts fin_Machine hown hR hk1 (by decide) rfl (by decide) rfl (hts _ m_8f763f86) (fun _ h9 => h9) (xb_d D_Machine_useMemory 28 rfl) ?_
  obtain ⟨b5, eb5, hw⟩ := hw
  refine xb_some eb5 ?_
  refine lv_aload_n hx hb (xb_d D_Machine_useMemory 29 rfl) rfl (lv_at hl 1 rfl) ?_
  refine xb_getI (C := R_Machine) (T := F_Machine) (N := 18) hx hb 7 15 hts fin_Machine hown hR hk1 (by decide) rfl (by decide) rfl (hts _ m_6a595805) (fun _ h9 => h9) (xb_d D_Machine_useMemory 30 rfl) ?_
  refine lv_iconst (v := 2) hx hb (xb_d D_Machine_useMemory 31 rfl) (by decide) ?_
  refine lv_iadd hx hb (xb_d D_Machine_useMemory 32 rfl) ?_
  obtain ⟨hk7, hw⟩ := hw
  obtain ⟨hi6, hw⟩ := hw
  refine xb_iald hx hb hR hk7 hi6 (xb_d D_Machine_useMemory 33 rfl) ?_
  refine lv_i2l hx hb (xb_d D_Machine_useMemory 34 rfl) rfl ?_
  refine lv_ldc2 (v := 4294967295) hx hb hown (hts _ m_2b0551dd) (xb_d D_Machine_useMemory 35 rfl) ?_
  refine lv_land hx hb (xb_d D_Machine_useMemory 36 rfl) ?_
  refine lv_ladd hx hb (xb_d D_Machine_useMemory 37 rfl) ?_
  obtain ⟨v8, ev8⟩ : ∃ x : Int64, x = ((xb_l h b2 (Int32.toNatClampNeg y0)) + ((Int32.toInt64 (xb_i h b5 (Int32.toNatClampNeg ((xb_i h x0 15) + 2)))) &&& 4294967295)) := ⟨_, rfl⟩
  have hw := hw v8 ev8
  refine xt_numl (y := v8) ev8.symm ?_
  refine lv_lstore hx hb (xb_d D_Machine_useMemory 38 rfl) hl (by decide) rfl (fun ls hl => ?_)
  have hl : lv_has ls 9 [(5, .long v8), (4, .int y0), (0, .ref x0), (1, .int x1), (2, .int x2), (3, .int x3)] := hl
  refine lv_lload hx hb (xb_d D_Machine_useMemory 39 rfl) (lv_at hl 0 rfl) ?_
  obtain ⟨tt9, hZtt9, hTtt9⟩ := hB.2.2.2.1
  refine va_getsN hx hb hZtt9 hS hown (hts _ m_23600e9a) (fun _ h9 => h9) (xb_d D_Machine_useMemory 40 rfl) ?_
  refine lv_iload_n hx hb (xb_d D_Machine_useMemory 41 rfl) rfl (lv_at hl 4 rfl) ?_
  obtain ⟨hi10, hw⟩ := hw
  refine va_ti (v := .int (xb_cMB.getD (Int32.toNatClampNeg x2) 0)) hx hb hTtt9 hS hi10 rfl (xb_d D_Machine_useMemory 42 rfl) ?_
  refine lv_i2l hx hb (xb_d D_Machine_useMemory 43 rfl) rfl ?_
  refine lv_ladd hx hb (xb_d D_Machine_useMemory 44 rfl) ?_
  refine lv_aload_n hx hb (xb_d D_Machine_useMemory 45 rfl) rfl (lv_at hl 2 rfl) ?_
  refine xb_getP (C := R_Machine) (T := F_Machine) (N := 18) hx hb 7 12 hts fin_Machine hown hR hk1 (by decide) rfl (by decide) rfl (hts _ m_a347cb26) (fun _ h9 => h9) (xb_d D_Machine_useMemory 46 rfl) ?_
  obtain ⟨b11, eb11, hw⟩ := hw
  refine xb_some eb11 ?_
  obtain ⟨hk12, hw⟩ := hw
  refine xb_getP (C := R_Instance) (T := F_Instance) (N := 8) hx hb 10 7 hts fin_Instance hown hR hk12 (by decide) rfl (by decide) rfl (hts _ m_e2094cf0) (fun _ h9 => h9) (xb_d D_Machine_useMemory 47 rfl) ?_
  obtain ⟨b13, eb13, hw⟩ := hw
  refine xb_some eb13 ?_
  obtain ⟨hk14, hw⟩ := hw
  refine xb_call0 (D := D) (A := A) (σ := σ) (h := h) (d := 2) (maxL := 1) (rest := [.long (v8 + (Int32.toInt64 (xb_cMB.getD (Int32.toNatClampNeg x2) 0)))]) (av := [.ref b13]) (fun T hT X => by obtain ⟨cb9, ra9, rb9, rc9⟩ := xb_recv (ci := 12) hR rfl hk14 (by decide); exact xt_invV X hx hown (hts _ m_679a2d41) (hts _ m_68bf618d) (hts _ m_e440a9a2) (xt_sigOf (hts _ m_f2e0b002)) nm_Memory_bytes (by rw [hT]; exact ra9) rb9 rc9 (g := F0 m 80 ls [.ref b13, .long (v8 + (Int32.toInt64 (xb_cMB.getD (Int32.toNatClampNeg x2) 0)))]) rfl (argsL := []) (rest := [.long (v8 + (Int32.toInt64 (xb_cMB.getD (Int32.toNatClampNeg x2) 0)))]) rfl rfl (by rw [hb]; exact (xb_d D_Machine_useMemory 48 rfl))) (ok_Memory_bytes l hfl D A σ b13 h _ hw) (hml.trans hl.1.symm) (by rw [hb]; exact (xb_d D_Machine_useMemory 48 rfl)) (Nat.le_of_ble_eq_true rfl) (Nat.le_of_ble_eq_true rfl) (Nat.le_of_ble_eq_true rfl) (show k ≤ MC by omega) (show n ≤ MS by omega) (xt_w1 hB.1 m_f2e0b002) (xt_cdOf hB.1 m_f2e0b002) (hts _ m_e7289b5f) hB hR hS hA (fun vv h15 H locs hq hEh15 hR hS => ?_)
  obtain ⟨r16, rfl, hw⟩ := hq
  have hw := hw hEh15
  have hE := hE.tr hEh15
  refine W.eq (g2 := F0 m 83 ls [.int r16, .long (v8 + (Int32.toInt64 (xb_cMB.getD (Int32.toNatClampNeg x2) 0)))]) rfl ?_
  refine lv_i2l hx hb (xb_d D_Machine_useMemory 49 rfl) rfl ?_
  refine xb_lc_le (tgt := 94) hx hb (xb_d D_Machine_useMemory 50 rfl) (xb_d D_Machine_useMemory 51 rfl) rfl (fun hc17 => ?_) (fun hc17 => ?_)
  · have hw := hw.1 hc17
    refine lv_iload_n hx hb (xb_d D_Machine_useMemory 56 rfl) rfl (lv_at hl 5 rfl) ?_
    refine lv_if_eq (tgt := 140) hx hb (xb_d D_Machine_useMemory 57 rfl) rfl (fun hc18 => ?_) (fun hc18 => ?_)
    · have hw := hw.1 hc18
      refine lv_aload_n hx hb (xb_d D_Machine_useMemory 81 rfl) rfl (lv_at hl 2 rfl) ?_
      have hk1 : xb_k h15 x0 = 8 := hEh15.k hk1
      refine xb_getP (C := R_Machine) (T := F_Machine) (N := 18) hx hb 7 12 hts fin_Machine hown hR hk1 (by decide) rfl (by decide) rfl (hts _ m_a347cb26) (fun _ h9 => h9) (xb_d D_Machine_useMemory 82 rfl) ?_
      obtain ⟨b19, eb19, hw⟩ := hw
      refine xb_some eb19 ?_
      obtain ⟨hk20, hw⟩ := hw
      refine xb_getP (C := R_Instance) (T := F_Instance) (N := 8) hx hb 10 7 hts fin_Instance hown hR hk20 (by decide) rfl (by decide) rfl (hts _ m_e2094cf0) (fun _ h9 => h9) (xb_d D_Machine_useMemory 83 rfl) ?_
      obtain ⟨b21, eb21, hw⟩ := hw
      refine xb_some eb21 ?_
      refine lv_lload hx hb (xb_d D_Machine_useMemory 84 rfl) (lv_at hl 0 rfl) ?_
      refine lv_l2i hx hb (xb_d D_Machine_useMemory 85 rfl) rfl ?_
      obtain ⟨tt22, hZtt22, hTtt22⟩ := hB.2.2.2.1
      refine va_getsN hx hb hZtt22 hS hown (hts _ m_23600e9a) (fun _ h9 => h9) (xb_d D_Machine_useMemory 86 rfl) ?_
      refine lv_iload_n hx hb (xb_d D_Machine_useMemory 87 rfl) rfl (lv_at hl 4 rfl) ?_
      obtain ⟨hi23, hw⟩ := hw
      refine va_ti (v := .int (xb_cMB.getD (Int32.toNatClampNeg x2) 0)) hx hb hTtt22 hS hi23 rfl (xb_d D_Machine_useMemory 88 rfl) ?_
      obtain ⟨hk24, hw⟩ := hw
      refine xb_call0 (D := D) (A := A) (σ := σ) (h := h15) (d := 4) (maxL := 6) (rest := []) (av := [.ref b21, .int (Int64.toInt32 v8), .int (xb_cMB.getD (Int32.toNatClampNeg x2) 0)]) (fun T hT X => by obtain ⟨cb9, ra9, rb9, rc9⟩ := xb_recv (ci := 12) hR rfl hk24 (by decide); exact xt_invV X hx hown (hts _ m_2f012601) (hts _ m_addf8063) (hts _ m_379410e3) (xt_sigOf (hts _ m_a847d206)) nm_Memory_fetch (by rw [hT]; exact ra9) rb9 rc9 (g := F0 m 155 ls [.int (xb_cMB.getD (Int32.toNatClampNeg x2) 0), .int (Int64.toInt32 v8), .ref b21]) rfl (argsL := [.int (Int64.toInt32 v8), .int (xb_cMB.getD (Int32.toNatClampNeg x2) 0)]) (rest := []) rfl rfl (by rw [hb]; exact (xb_d D_Machine_useMemory 89 rfl))) (ok_Memory_fetch l hfl D A σ b21 (Int64.toInt32 v8) (xb_cMB.getD (Int32.toNatClampNeg x2) 0) h15 _ hw) (hml.trans hl.1.symm) (by rw [hb]; exact (xb_d D_Machine_useMemory 89 rfl)) (Nat.le_of_ble_eq_true rfl) (Nat.le_of_ble_eq_true rfl) (Nat.le_of_ble_eq_true rfl) (show k ≤ MC by omega) (show n ≤ MS by omega) (xt_w1 hB.1 m_a847d206) (xt_cdOf hB.1 m_a847d206) (hts _ m_e7289b5f) hB hR hS hA (fun vv h25 H locs hq hEh25 hR hS => ?_)
      obtain ⟨r26, rfl, hw⟩ := hq
      have hw := hw hEh25
      have hE := hE.tr hEh25
      refine W.eq (g2 := F0 m 158 ls [.long r26]) rfl ?_
      refine lv_lstore hx hb (xb_d D_Machine_useMemory 90 rfl) hl (by decide) rfl (fun ls hl => ?_)
      have hl : lv_has ls 9 [(7, .long r26), (5, .long v8), (4, .int y0), (0, .ref x0), (1, .int x1), (2, .int x2), (3, .int x3)] := hl
      refine lv_aload_n hx hb (xb_d D_Machine_useMemory 91 rfl) rfl (lv_at hl 3 rfl) ?_
      have hk1 : xb_k h25 x0 = 8 := hEh25.k hk1
      refine xb_getP (C := R_Machine) (T := F_Machine) (N := 18) hx hb 7 9 hts fin_Machine hown hR hk1 (by decide) rfl (by decide) rfl (hts _ m_6904195b) (fun _ h9 => h9) (xb_d D_Machine_useMemory 92 rfl) ?_
      obtain ⟨b27, eb27, hw⟩ := hw
      refine xb_some eb27 ?_
      refine lv_iload hx hb (xb_d D_Machine_useMemory 93 rfl) (lv_at hl 2 rfl) ?_
      refine lv_iload_n hx hb (xb_d D_Machine_useMemory 94 rfl) rfl (lv_at hl 4 rfl) ?_
      refine lv_lload hx hb (xb_d D_Machine_useMemory 95 rfl) (lv_at hl 0 rfl) ?_
      refine xb_call0 (D := D) (A := A) (σ := σ) (h := h25) (d := 2) (maxL := 3) (rest := [.int y0, .ref b27]) (av := [.int x1, .long r26]) (fun T hT X => xt_invS X hx hown (hts _ m_1b5a3927) (hts _ m_a1a6ad05) (hts _ m_73451f9b) (xt_sgS (hts _ m_0b4e7759)).1 (xt_sgS (hts _ m_0b4e7759)).2 nm_Machine_widened (g := F0 m 169 ls [.long r26, .int x1, .int y0, .ref b27]) rfl (argsL := [.int x1, .long r26]) (rest := [.int y0, .ref b27]) rfl rfl (by rw [hb]; exact (xb_d D_Machine_useMemory 96 rfl))) (ok_Machine_widened l hfl D A σ x1 r26 h25 _ hw) (hml.trans hl.1.symm) (by rw [hb]; exact (xb_d D_Machine_useMemory 96 rfl)) (Nat.le_of_ble_eq_true rfl) (Nat.le_of_ble_eq_true rfl) (Nat.le_of_ble_eq_true rfl) (show k ≤ MC by omega) (show n ≤ MS by omega) (xt_w1 hB.1 m_0b4e7759) (xt_cdOf hB.1 m_0b4e7759) (hts _ m_73451f9b) hB hR hS hA (fun vv h28 H locs hq hEh28 hR hS => ?_)
      obtain ⟨r29, rfl, hw⟩ := hq
      have hw := hw hEh28
      have hE := hE.tr hEh28
      refine W.eq (g2 := F0 m 172 ls [.long r29, .int y0, .ref b27]) rfl ?_
      obtain ⟨hk30, hw⟩ := hw
      obtain ⟨hi31, hw⟩ := hw
      refine xb_last hx hb hR hS hk30 hi31 (xb_d D_Machine_useMemory 97 rfl) (fun H locs hR hS => ?_)
      obtain ⟨h32, eh32⟩ : ∃ x : xb_H, x = xb_L h28 b27 (Int32.toNatClampNeg y0) r29 := ⟨_, rfl⟩
      rw [← eh32] at hR
      have hw := hw h32 eh32
      have hE : xb_ext h0 h32 := by rw [eh32]; exact hE
      exact am_Machine_useMemory_L173 l hfl D A σ MC MS h0 Qr x0 h32 hw p e s m args below meth c hC H locs ls k n hE (lv_sub hl [3] rfl) hR hS (by omega) (by omega)
    · have hw := hw.2 hc18
      refine lv_aload_n hx hb (xb_d D_Machine_useMemory 58 rfl) rfl (lv_at hl 2 rfl) ?_
      have hk1 : xb_k h15 x0 = 8 := hEh15.k hk1
      refine xb_getP (C := R_Machine) (T := F_Machine) (N := 18) hx hb 7 12 hts fin_Machine hown hR hk1 (by decide) rfl (by decide) rfl (hts _ m_a347cb26) (fun _ h9 => h9) (xb_d D_Machine_useMemory 59 rfl) ?_
      obtain ⟨b33, eb33, hw⟩ := hw
      refine xb_some eb33 ?_
      obtain ⟨hk34, hw⟩ := hw
      refine xb_getP (C := R_Instance) (T := F_Instance) (N := 8) hx hb 10 7 hts fin_Instance hown hR hk34 (by decide) rfl (by decide) rfl (hts _ m_e2094cf0) (fun _ h9 => h9) (xb_d D_Machine_useMemory 60 rfl) ?_
      obtain ⟨b35, eb35, hw⟩ := hw
      refine xb_some eb35 ?_
      refine lv_lload hx hb (xb_d D_Machine_useMemory 61 rfl) (lv_at hl 0 rfl) ?_
      refine lv_l2i hx hb (xb_d D_Machine_useMemory 62 rfl) rfl ?_
      obtain ⟨tt36, hZtt36, hTtt36⟩ := hB.2.2.2.1
      refine va_getsN hx hb hZtt36 hS hown (hts _ m_23600e9a) (fun _ h9 => h9) (xb_d D_Machine_useMemory 63 rfl) ?_
      refine lv_iload_n hx hb (xb_d D_Machine_useMemory 64 rfl) rfl (lv_at hl 4 rfl) ?_
      obtain ⟨hi37, hw⟩ := hw
      refine va_ti (v := .int (xb_cMB.getD (Int32.toNatClampNeg x2) 0)) hx hb hTtt36 hS hi37 rfl (xb_d D_Machine_useMemory 65 rfl) ?_
      refine lv_aload_n hx hb (xb_d D_Machine_useMemory 66 rfl) rfl (lv_at hl 2 rfl) ?_
      refine xb_getP (C := R_Machine) (T := F_Machine) (N := 18) hx hb 7 9 hts fin_Machine hown hR hk1 (by decide) rfl (by decide) rfl (hts _ m_6904195b) (fun _ h9 => h9) (xb_d D_Machine_useMemory 67 rfl) ?_
      obtain ⟨b38, eb38, hw⟩ := hw
      refine xb_some eb38 ?_
      refine lv_aload_n hx hb (xb_d D_Machine_useMemory 68 rfl) rfl (lv_at hl 2 rfl) ?_
      refine xb_getI (C := R_Machine) (T := F_Machine) (N := 18) hx hb 7 10 hts fin_Machine hown hR hk1 (by decide) rfl (by decide) rfl (hts _ m_79cf62f6) (fun _ h9 => h9) (xb_d D_Machine_useMemory 69 rfl) ?_
      refine lv_iconst (v := 1) hx hb (xb_d D_Machine_useMemory 70 rfl) (by decide) ?_
      refine lv_isub hx hb (xb_d D_Machine_useMemory 71 rfl) ?_
      obtain ⟨hk40, hw⟩ := hw
      obtain ⟨hi39, hw⟩ := hw
      refine xb_lald hx hb hR hk40 hi39 (xb_d D_Machine_useMemory 72 rfl) ?_
      obtain ⟨hk41, hw⟩ := hw
      refine xb_call0 (D := D) (A := A) (σ := σ) (h := h15) (d := 4) (maxL := 6) (rest := []) (av := [.ref b35, .int (Int64.toInt32 v8), .int (xb_cMB.getD (Int32.toNatClampNeg x2) 0), .long (xb_l h15 b38 (Int32.toNatClampNeg ((xb_i h15 x0 10) - 1)))]) (fun T hT X => by obtain ⟨cb9, ra9, rb9, rc9⟩ := xb_recv (ci := 12) hR rfl hk41 (by decide); exact xt_invV X hx hown (hts _ m_a4c48a05) (hts _ m_6f3c5f7c) (hts _ m_3520e35d) (xt_sigOf (hts _ m_bd30f80b)) nm_Memory_store (by rw [hT]; exact ra9) rb9 rc9 (g := F0 m 124 ls [.long (xb_l h15 b38 (Int32.toNatClampNeg ((xb_i h15 x0 10) - 1))), .int (xb_cMB.getD (Int32.toNatClampNeg x2) 0), .int (Int64.toInt32 v8), .ref b35]) rfl (argsL := [.int (Int64.toInt32 v8), .int (xb_cMB.getD (Int32.toNatClampNeg x2) 0), .long (xb_l h15 b38 (Int32.toNatClampNeg ((xb_i h15 x0 10) - 1)))]) (rest := []) rfl rfl (by rw [hb]; exact (xb_d D_Machine_useMemory 73 rfl))) (ok_Memory_store l hfl D A σ b35 (Int64.toInt32 v8) (xb_cMB.getD (Int32.toNatClampNeg x2) 0) (xb_l h15 b38 (Int32.toNatClampNeg ((xb_i h15 x0 10) - 1))) h15 _ hw) (hml.trans hl.1.symm) (by rw [hb]; exact (xb_d D_Machine_useMemory 73 rfl)) (Nat.le_of_ble_eq_true rfl) (Nat.le_of_ble_eq_true rfl) (Nat.le_of_ble_eq_true rfl) (show k ≤ MC by omega) (show n ≤ MS by omega) (xt_w1 hB.1 m_bd30f80b) (xt_cdOf hB.1 m_bd30f80b) (hts _ m_e7289b5f) hB hR hS hA (fun vv h42 H locs hq hEh42 hR hS => ?_)
      obtain ⟨rfl, hw⟩ := hq
      have hw := hw hEh42
      have hE := hE.tr hEh42
      refine W.eq (g2 := F0 m 127 ls []) rfl ?_
      refine lv_aload_n hx hb (xb_d D_Machine_useMemory 74 rfl) rfl (lv_at hl 2 rfl) ?_
      refine lv_dup hx hb (xb_d D_Machine_useMemory 75 rfl) rfl ?_
      have hk1 : xb_k h42 x0 = 8 := hEh42.k hk1
      refine xb_getI (C := R_Machine) (T := F_Machine) (N := 18) hx hb 7 10 hts fin_Machine hown hR hk1 (by decide) rfl (by decide) rfl (hts _ m_79cf62f6) (fun _ h9 => h9) (xb_d D_Machine_useMemory 76 rfl) ?_
      refine lv_iconst (v := 2) hx hb (xb_d D_Machine_useMemory 77 rfl) (by decide) ?_
      refine lv_isub hx hb (xb_d D_Machine_useMemory 78 rfl) ?_
      refine xb_putI (C := R_Machine) (T := F_Machine) (N := 18) (ty := .int) (x := ((xb_i h42 x0 10) - 2)) hx hb 7 10 hts fin_Machine t_Machine t_Machine_ok n_Machine hown hR hS hk1 (by decide) rfl (by decide) rfl (hts _ m_79cf62f6) (fun _ h9 => h9) rfl (by decide +kernel) rfl rfl (xb_d D_Machine_useMemory 79 rfl) (fun H locs hR hS => ?_)
      obtain ⟨h44, eh44⟩ : ∃ x : xb_H, x = xb_I h42 x0 10 ((xb_i h42 x0 10) - 2) := ⟨_, rfl⟩
      rw [← eh44] at hR
      have hw := hw h44 eh44
      have hE : xb_ext h0 h44 := by rw [eh44]; exact hE
      refine lv_goto (tgt := 173) hx hb (xb_d D_Machine_useMemory 80 rfl) rfl ?_
      exact am_Machine_useMemory_L173 l hfl D A σ MC MS h0 Qr x0 h44 hw p e s m args below meth c hC H locs ls k n hE (lv_sub hl [2] rfl) hR hS (by omega) (by omega)
  · have hw := hw.2 hc17
    refine lv_aload_n hx hb (xb_d D_Machine_useMemory 52 rfl) rfl (lv_at hl 2 rfl) ?_
    refine lv_iconst (v := 2) hx hb (xb_d D_Machine_useMemory 53 rfl) (by decide) ?_
    have hk1 : xb_k h15 x0 = 8 := hEh15.k hk1
    refine xb_call0 (D := D) (A := A) (σ := σ) (h := h15) (d := 2) (maxL := 3) (rest := []) (av := [.ref x0, .int 2]) (fun T hT X => by obtain ⟨cb9, ra9, rb9, rc9⟩ := xb_recv (ci := 7) hR rfl hk1 (by decide); exact xt_invV X hx hown (hts _ m_8f5db99d) (hts _ m_0ddc8afe) (hts _ m_f5561462) (xt_sigOf (hts _ m_f0d4fd47)) nm_Machine_fall (by rw [hT]; exact ra9) rb9 rc9 (g := F0 m 90 ls [.int 2, .ref x0]) rfl (argsL := [.int 2]) (rest := []) rfl rfl (by rw [hb]; exact (xb_d D_Machine_useMemory 54 rfl))) (ok_Machine_fall l hfl D A σ x0 2 h15 _ hw) (hml.trans hl.1.symm) (by rw [hb]; exact (xb_d D_Machine_useMemory 54 rfl)) (Nat.le_of_ble_eq_true rfl) (Nat.le_of_ble_eq_true rfl) (Nat.le_of_ble_eq_true rfl) (show k ≤ MC by omega) (show n ≤ MS by omega) (xt_w1 hB.1 m_f0d4fd47) (xt_cdOf hB.1 m_f0d4fd47) (hts _ m_73451f9b) hB hR hS hA (fun vv h45 H locs hq hEh45 hR hS => ?_)
    obtain ⟨rfl, hw⟩ := hq
    have hw := hw hEh45
    have hE := hE.tr hEh45
    refine W.eq (g2 := F0 m 93 ls []) rfl ?_
    exact xb_vret 0 0 hx hb hr hlocks (show k + 0 ≤ MC by omega) (show n + 0 ≤ MS by omega) hE hR hS (xb_d D_Machine_useMemory 55 rfl) hw

set_option maxHeartbeats 4000000 in
set_option maxRecDepth 100000 in
theorem am_Machine_useMemory_L16 (l : Launch) (hfl : l.flags = pinnedFlags ++ [noTraceFlag]) (D : va_G) (A : Nat → Prop) (σ MC MS : Nat) (h0 : xb_H) (Qr : xb_H → Prop) (x0 : Nat) (x1 : Int32) (x2 : Int32) (y0 : Int32) (h : xb_H) (hw : w_Machine_useMemory_L16 Qr x0 x1 x2 y0 h) : xb_am l D A σ 5 MC MS h0 (fun v h _ _ => v = none ∧ Qr h) (fun _ _ _ _ => False) y_Machine_useMemory.cls y_Machine_useMemory.name b_Machine_useMemory 9 ([] : List ExceptionTableEntry) none 16 [(0, .ref x0), (1, .int x1), (2, .int x2)] [.int y0] h 0 0 := by
  unfold w_Machine_useMemory_L16 at hw
  intro p e s m args below meth c hC H locs ls k n hE hl hR hS hk hn
  obtain ⟨hx, hb, hown, hlocks, htab, hml, hr, hB, hA, hnm⟩ := id hC
  have hts := hB.1.1.at args
  refine lv_istore_n hx hb (xb_d D_Machine_useMemory 10 rfl) rfl hl (by decide) rfl (fun ls hl => ?_)
  have hl : lv_has ls 9 [(3, .int y0), (0, .ref x0), (1, .int x1), (2, .int x2)] := hl
  refine lv_iload_n hx hb (xb_d D_Machine_useMemory 11 rfl) rfl (lv_at hl 0 rfl) ?_
  refine lv_if_eq (tgt := 30) hx hb (xb_d D_Machine_useMemory 12 rfl) rfl (fun hc1 => ?_) (fun hc1 => ?_)
  · have hw := hw.1 hc1
    refine lv_aload_n hx hb (xb_d D_Machine_useMemory 18 rfl) rfl (lv_at hl 1 rfl) ?_
    obtain ⟨hk2, hw⟩ := hw
    refine xb_getI (C := R_Machine) (T := F_Machine) (N := 18) hx hb 7 10 hts fin_Machine hown hR hk2 (by decide) rfl (by decide) rfl (hts _ m_79cf62f6) (fun _ h9 => h9) (xb_d D_Machine_useMemory 19 rfl) ?_
    refine lv_iconst (v := 1) hx hb (xb_d D_Machine_useMemory 20 rfl) (by decide) ?_
    refine lv_isub hx hb (xb_d D_Machine_useMemory 21 rfl) ?_
    exact am_Machine_useMemory_L36 l hfl D A σ MC MS h0 Qr x0 x1 x2 y0 ((xb_i h x0 10) - 1) h hw p e s m args below meth c hC H locs ls k n hE (lv_sub hl [1, 2, 3, 0] rfl) hR hS (by omega) (by omega)
  · have hw := hw.2 hc1
    refine lv_aload_n hx hb (xb_d D_Machine_useMemory 13 rfl) rfl (lv_at hl 1 rfl) ?_
    obtain ⟨hk3, hw⟩ := hw
    refine xb_getI (C := R_Machine) (T := F_Machine) (N := 18) hx hb 7 10 hts fin_Machine hown hR hk3 (by decide) rfl (by decide) rfl (hts _ m_79cf62f6) (fun _ h9 => h9) (xb_d D_Machine_useMemory 14 rfl) ?_
    refine lv_iconst (v := 2) hx hb (xb_d D_Machine_useMemory 15 rfl) (by decide) ?_
    refine lv_isub hx hb (xb_d D_Machine_useMemory 16 rfl) ?_
    refine lv_goto (tgt := 36) hx hb (xb_d D_Machine_useMemory 17 rfl) rfl ?_
    exact am_Machine_useMemory_L36 l hfl D A σ MC MS h0 Qr x0 x1 x2 y0 ((xb_i h x0 10) - 2) h hw p e s m args below meth c hC H locs ls k n hE (lv_sub hl [1, 2, 3, 0] rfl) hR hS (by omega) (by omega)

set_option maxHeartbeats 4000000 in
set_option maxRecDepth 100000 in
theorem ok_Machine_useMemory (l : Launch) (hfl : l.flags = pinnedFlags ++ [noTraceFlag]) (D : va_G) (A : Nat → Prop) (σ : Nat) (x0 : Nat) (x1 : Int32) (h : xb_H) (Qr : xb_H → Prop) (hw : w_Machine_useMemory x0 x1 h Qr) : xb_Met l y_Machine_useMemory [.code y_Machine_useMemory b_Machine_useMemory 9 none] (xb_rm 5 0 0) (xb_Pc D A σ h [.ref x0, .int x1]) (xb_Qc D A h 0 0 (fun v h _ _ => v = none ∧ Qr h) (fun _ _ _ _ => False)) A := by
  refine xb_ofAm (cc := b_Machine_useMemory) (by decide) (Nat.le_of_ble_eq_true rfl) ?_
  unfold w_Machine_useMemory at hw
  show xb_am l D A σ 5 0 0 h (fun v h _ _ => v = none ∧ Qr h) (fun _ _ _ _ => False) y_Machine_useMemory.cls y_Machine_useMemory.name b_Machine_useMemory 9 ([] : List ExceptionTableEntry) none 0 [(0, .ref x0), (1, .int x1)] [] h 0 0
  obtain ⟨MC, hMC⟩ : ∃ x, x = 0 := ⟨_, rfl⟩
  obtain ⟨MS, hMS⟩ : ∃ x, x = 0 := ⟨_, rfl⟩
  rw [show xb_am l D A σ 5 0 0 = xb_am l D A σ 5 MC MS by rw [hMC, hMS]]
  obtain ⟨h0, hh0⟩ : ∃ x, x = h := ⟨_, rfl⟩
  rw [show xb_am l D A σ 5 MC MS h = xb_am l D A σ 5 MC MS h0 by rw [hh0]]
  intro p e s m args below meth c hC H locs ls k n hE hl hR hS hk hn
  obtain ⟨hx, hb, hown, hlocks, htab, hml, hr, hB, hA, hnm⟩ := id hC
  have hts := hB.1.1.at args
  refine lv_iload_n hx hb (xb_d D_Machine_useMemory 0 rfl) rfl (lv_at hl 1 rfl) ?_
  refine lv_bipush (v := 40) hx hb (xb_d D_Machine_useMemory 1 rfl) (by decide) ?_
  refine lv_isub hx hb (xb_d D_Machine_useMemory 2 rfl) ?_
  obtain ⟨v1, ev1⟩ : ∃ x : Int32, x = (x1 - 40) := ⟨_, rfl⟩
  have hw := hw v1 ev1
  refine xt_numi (y := v1) ev1.symm ?_
  refine lv_istore_n hx hb (xb_d D_Machine_useMemory 3 rfl) rfl hl (by decide) rfl (fun ls hl => ?_)
  have hl : lv_has ls 9 [(2, .int v1), (0, .ref x0), (1, .int x1)] := hl
  refine lv_iload_n hx hb (xb_d D_Machine_useMemory 4 rfl) rfl (lv_at hl 2 rfl) ?_
  refine lv_bipush (v := 54) hx hb (xb_d D_Machine_useMemory 5 rfl) (by decide) ?_
  refine lv_icmp_lt (tgt := 15) hx hb (xb_d D_Machine_useMemory 6 rfl) rfl (fun hc2 => ?_) (fun hc2 => ?_)
  · have hw := hw.1 hc2
    refine lv_iconst (v := 0) hx hb (xb_d D_Machine_useMemory 9 rfl) (by decide) ?_
    exact am_Machine_useMemory_L16 l hfl D A σ MC MS h0 Qr x0 x1 v1 0 h hw p e s m args below meth c hC H locs ls k n hE (lv_sub hl [1, 2, 0] rfl) hR hS (by omega) (by omega)
  · have hw := hw.2 hc2
    refine lv_iconst (v := 1) hx hb (xb_d D_Machine_useMemory 7 rfl) (by decide) ?_
    refine lv_goto (tgt := 16) hx hb (xb_d D_Machine_useMemory 8 rfl) rfl ?_
    exact am_Machine_useMemory_L16 l hfl D A σ MC MS h0 Qr x0 x1 v1 1 h hw p e s m args below meth c hC H locs ls k n hE (lv_sub hl [1, 2, 0] rfl) hR hS (by omega) (by omega)

theorem m_fae64a5e : (.methodLink "StackHost$Reader" 78 y_Reader_readName : Cond) ∈ xt_tbl := xt_in (xt_t3 (List.mem_of_getElem? (i := 196) (by decide +kernel))) (by decide +kernel)
theorem m_a35a3722 : (.instanceMethod y_Reader_readName : Cond) ∈ xt_tbl := xt_in (xt_t3 (List.mem_of_getElem? (i := 198) (by decide +kernel))) (by decide +kernel)
theorem m_7a3ebdc0 : (.selects "StackHost$Reader" y_Reader_readName y_Reader_readName : Cond) ∈ xt_tbl := xt_in (xt_v1 (q := (⟨"StackHost$Reader", "readName", "()I"⟩, 6)) (List.mem_of_getElem? (i := 6) (by decide +kernel))) (by decide +kernel)
theorem m_76a677e7 : (.code y_Reader_readName b_Reader_readName 5 (some .int) : Cond) ∈ xt_tbl := xt_in (xt_t3 (List.mem_of_getElem? (i := 199) (by decide +kernel))) (by decide +kernel)
theorem m_210c6cf2 : (.fieldLink "StackHost$Reader" 169 "StackHost$StackModule" "exports" "LStackHost$Row;" : Cond) ∈ xt_tbl := xt_in (xt_t3 (List.mem_of_getElem? (i := 89) (by decide +kernel))) (by decide +kernel)
theorem m_da067afc : (.methodLink "StackHost$Reader" 87 y_Row_add : Cond) ∈ xt_tbl := xt_in (xt_t3 (List.mem_of_getElem? (i := 224) (by decide +kernel))) (by decide +kernel)
theorem m_13cda130 : (.methodLink "StackHost$Reader" 148 y_Reader_byteUpTo : Cond) ∈ xt_tbl := xt_in (xt_t4 (List.mem_of_getElem? (i := 6) (by decide +kernel))) (by decide +kernel)
theorem m_a9ff337d : (.instanceMethod y_Reader_byteUpTo : Cond) ∈ xt_tbl := xt_in (xt_t4 (List.mem_of_getElem? (i := 8) (by decide +kernel))) (by decide +kernel)
theorem m_af3157e6 : (.selects "StackHost$Reader" y_Reader_byteUpTo y_Reader_byteUpTo : Cond) ∈ xt_tbl := xt_in (xt_v1 (q := (⟨"StackHost$Reader", "byteUpTo", "(I)I"⟩, 6)) (List.mem_of_getElem? (i := 14) (by decide +kernel))) (by decide +kernel)
theorem m_8a19f6ff : (.code y_Reader_byteUpTo b_Reader_byteUpTo 3 (some .int) : Cond) ∈ xt_tbl := xt_in (xt_t4 (List.mem_of_getElem? (i := 9) (by decide +kernel))) (by decide +kernel)
theorem nm_Reader_readName : xt_nm y_Reader_readName 0 := ⟨by decide +kernel, by decide +kernel⟩
theorem nm_Reader_byteUpTo : xt_nm y_Reader_byteUpTo 1 := ⟨by decide +kernel, by decide +kernel⟩
set_option maxRecDepth 100000 in
def T_Reader_readExport : List (Nat × Instr × Nat) := [(0, .aload_n 0, 1), (1, .getfield 41, 3), (4, .istore_n 1, 1), (5, .aload_n 0, 1), (6, .invokevirtual 78, 3), (9, .istore_n 2, 1), (10, .aload_n 0, 1), (11, .getfield 41, 3), (14, .iload_n 2, 1), (15, .isub, 1), (16, .istore_n 3, 1), (17, .aload_n 0, 1), (18, .getfield 15, 3), (21, .getfield 169, 3), (24, .iload_n 1, 1), (25, .i2l, 1), (26, .invokevirtual 87, 3), (29, .aload_n 0, 1), (30, .getfield 15, 3), (33, .getfield 169, 3), (36, .aload_n 0, 1), (37, .iconst 3, 1), (38, .invokevirtual 148, 3), (41, .i2l, 1), (42, .invokevirtual 87, 3), (45, .aload_n 0, 1), (46, .getfield 15, 3), (49, .getfield 169, 3), (52, .aload_n 0, 1), (53, .invokevirtual 70, 3), (56, .i2l, 1), (57, .ldc2_w 76, 3), (60, .land, 1), (61, .invokevirtual 87, 3), (64, .aload_n 0, 1), (65, .getfield 15, 3), (68, .getfield 169, 3), (71, .iload_n 3, 1), (72, .i2l, 1), (73, .invokevirtual 87, 3), (76, .aload_n 0, 1), (77, .getfield 15, 3), (80, .getfield 169, 3), (83, .iload_n 2, 1), (84, .i2l, 1), (85, .invokevirtual 87, 3), (88, .return_, 1)]
theorem D_Reader_readExport : ∀ q ∈ T_Reader_readExport, decode b_Reader_readExport q.1 = .ok (q.2.1, q.2.2) := by decide +kernel

set_option maxHeartbeats 4000000 in
set_option maxRecDepth 100000 in
theorem ok_Reader_readExport (l : Launch) (hfl : l.flags = pinnedFlags ++ [noTraceFlag]) (D : va_G) (A : Nat → Prop) (σ : Nat) (x0 : Nat) (h : xb_H) (bc : Nat) (bs : Nat) (Qr : xb_H → Nat → Nat → Prop) (Qt : String → xb_H → Nat → Nat → Prop) (hw : w_Reader_readExport x0 h bc bs Qr Qt) : xb_Met l y_Reader_readExport [.code y_Reader_readExport b_Reader_readExport 4 none] (xb_rm 5 bc bs) (xb_Pc D A σ h [.ref x0]) (xb_Qc D A h bc bs (fun v h bc bs => v = none ∧ Qr h bc bs) Qt) A := by
  refine xb_ofAm (cc := b_Reader_readExport) (by decide) (Nat.le_of_ble_eq_true rfl) ?_
  unfold w_Reader_readExport at hw
  show xb_am l D A σ 5 bc bs h (fun v h bc bs => v = none ∧ Qr h bc bs) Qt y_Reader_readExport.cls y_Reader_readExport.name b_Reader_readExport 4 ([] : List ExceptionTableEntry) none 0 [(0, .ref x0)] [] h bc bs
  obtain ⟨MC, hMC⟩ : ∃ x, x = bc := ⟨_, rfl⟩
  obtain ⟨MS, hMS⟩ : ∃ x, x = bs := ⟨_, rfl⟩
  rw [show xb_am l D A σ 5 bc bs = xb_am l D A σ 5 MC MS by rw [hMC, hMS]]
  obtain ⟨h0, hh0⟩ : ∃ x, x = h := ⟨_, rfl⟩
  rw [show xb_am l D A σ 5 MC MS h = xb_am l D A σ 5 MC MS h0 by rw [hh0]]
  intro p e s m args below meth c hC H locs ls k n hE hl hR hS hk hn
  obtain ⟨hx, hb, hown, hlocks, htab, hml, hr, hB, hA, hnm⟩ := id hC
  have hts := hB.1.1.at args
  refine lv_aload_n hx hb (xb_d D_Reader_readExport 0 rfl) rfl (lv_at hl 0 rfl) ?_
  obtain ⟨hk1, hw⟩ := hw
  refine xb_getI (C := R_Reader) (T := F_Reader) (N := 6) hx hb 3 3 hts fin_Reader hown hR hk1 (by decide) rfl (by decide) rfl (hts _ m_a9b84ac2) (fun _ h9 => h9) (xb_d D_Reader_readExport 1 rfl) ?_
  obtain ⟨v2, ev2⟩ : ∃ x : Int32, x = (xb_i h x0 3) := ⟨_, rfl⟩
  have hw := hw v2 ev2
  refine xt_numi (y := v2) ev2.symm ?_
  refine lv_istore_n hx hb (xb_d D_Reader_readExport 2 rfl) rfl hl (by decide) rfl (fun ls hl => ?_)
  have hl : lv_has ls 4 [(1, .int v2), (0, .ref x0)] := hl
  refine lv_aload_n hx hb (xb_d D_Reader_readExport 3 rfl) rfl (lv_at hl 1 rfl) ?_
  refine xb_call (D := D) (A := A) (σ := σ) (h := h) (d := 4) (mc := bc) (ms := bs) (maxL := 5) (rest := []) (av := [.ref x0]) (fun T hT X => by obtain ⟨cb9, ra9, rb9, rc9⟩ := xb_recv (ci := 3) hR rfl hk1 (by decide); exact xt_invV X hx hown (hts _ m_fae64a5e) (hts _ m_a35a3722) (hts _ m_7a3ebdc0) (xt_sigOf (hts _ m_76a677e7)) nm_Reader_readName (by rw [hT]; exact ra9) rb9 rc9 (g := F0 m 6 ls [.ref x0]) rfl (argsL := []) (rest := []) rfl rfl (by rw [hb]; exact (xb_d D_Reader_readExport 4 rfl))) (ok_Reader_readName l hfl D A σ x0 h bc bs _ _ hw) (hml.trans hl.1.symm) (by rw [hb]; exact (xb_d D_Reader_readExport 4 rfl)) (Nat.le_of_ble_eq_true rfl) (Nat.le_of_ble_eq_true rfl) (Nat.le_of_ble_eq_true rfl) (show k + bc ≤ MC by omega) (show n + bs ≤ MS by omega) (xt_w1 hB.1 m_76a677e7) (xt_cdOf hB.1 m_76a677e7) (hts _ m_938fcec4) hB hR hS hA (fun vv h3 bc4 bs4 kk4 nn4 H locs hk4 hn4 hq hEh3 hR hS => ?_) (fun XX ax h3 bc4 bs4 kk4 nn4 H locs hk4 hn4 hq hEh3 hex hR hS => ?_)
  · obtain ⟨r4, rfl, hw⟩ := hq
    have hw := hw hEh3
    have hE := hE.tr hEh3
    refine W.eq (g2 := F0 m 9 ls [.int r4]) rfl ?_
    refine lv_istore_n hx hb (xb_d D_Reader_readExport 5 rfl) rfl hl (by decide) rfl (fun ls hl => ?_)
    have hl : lv_has ls 4 [(2, .int r4), (1, .int v2), (0, .ref x0)] := hl
    refine lv_aload_n hx hb (xb_d D_Reader_readExport 6 rfl) rfl (lv_at hl 2 rfl) ?_
    have hk1 : xb_k h3 x0 = 4 := hEh3.k hk1
    refine xb_getI (C := R_Reader) (T := F_Reader) (N := 6) hx hb 3 3 hts fin_Reader hown hR hk1 (by decide) rfl (by decide) rfl (hts _ m_a9b84ac2) (fun _ h9 => h9) (xb_d D_Reader_readExport 7 rfl) ?_
    refine lv_iload_n hx hb (xb_d D_Reader_readExport 8 rfl) rfl (lv_at hl 0 rfl) ?_
    refine lv_isub hx hb (xb_d D_Reader_readExport 9 rfl) ?_
    obtain ⟨v5, ev5⟩ : ∃ x : Int32, x = ((xb_i h3 x0 3) - r4) := ⟨_, rfl⟩
    have hw := hw v5 ev5
    refine xt_numi (y := v5) ev5.symm ?_
    refine lv_istore_n hx hb (xb_d D_Reader_readExport 10 rfl) rfl hl (by decide) rfl (fun ls hl => ?_)
    have hl : lv_has ls 4 [(3, .int v5), (2, .int r4), (1, .int v2), (0, .ref x0)] := hl
    refine lv_aload_n hx hb (xb_d D_Reader_readExport 11 rfl) rfl (lv_at hl 3 rfl) ?_
    refine xb_getP (C := R_Reader) (T := F_Reader) (N := 6) hx hb 3 0 hts fin_Reader hown hR hk1 (by decide) rfl (by decide) rfl (hts _ m_76d8349c) (fun _ h9 => h9) (xb_d D_Reader_readExport 12 rfl) ?_
    obtain ⟨b6, eb6, hw⟩ := hw
    refine xb_some eb6 ?_
    obtain ⟨hk7, hw⟩ := hw
    refine xb_getP (C := R_StackModule) (T := F_StackModule) (N := 19) hx hb 2 8 hts fin_StackModule hown hR hk7 (by decide) rfl (by decide) rfl (hts _ m_210c6cf2) (fun _ h9 => h9) (xb_d D_Reader_readExport 13 rfl) ?_
    obtain ⟨b8, eb8, hw⟩ := hw
    refine xb_some eb8 ?_
    refine lv_iload_n hx hb (xb_d D_Reader_readExport 14 rfl) rfl (lv_at hl 2 rfl) ?_
    refine lv_i2l hx hb (xb_d D_Reader_readExport 15 rfl) rfl ?_
    obtain ⟨hk9, hw⟩ := hw
    refine xb_call (D := D) (A := A) (σ := σ) (h := h3) (d := 4) (mc := bc4) (ms := bs4) (maxL := 3) (rest := []) (av := [.ref b8, .long (Int32.toInt64 v2)]) (fun T hT X => by obtain ⟨cb9, ra9, rb9, rc9⟩ := xb_recv (ci := 1) hR rfl hk9 (by decide); exact xt_invV X hx hown (hts _ m_da067afc) (hts _ m_7e8d081f) (hts _ m_4e47f51a) (xt_sigOf (hts _ m_4f1bdc54)) nm_Row_add (by rw [hT]; exact ra9) rb9 rc9 (g := F0 m 26 ls [.long (Int32.toInt64 v2), .ref b8]) rfl (argsL := [.long (Int32.toInt64 v2)]) (rest := []) rfl rfl (by rw [hb]; exact (xb_d D_Reader_readExport 16 rfl))) (ok_Row_add l hfl D A σ b8 (Int32.toInt64 v2) h3 bc4 bs4 _ hw) (hml.trans hl.1.symm) (by rw [hb]; exact (xb_d D_Reader_readExport 16 rfl)) (Nat.le_of_ble_eq_true rfl) (Nat.le_of_ble_eq_true rfl) (Nat.le_of_ble_eq_true rfl) (show (k + kk4) + bc4 ≤ MC by omega) (show (n + nn4) + bs4 ≤ MS by omega) (xt_w1 hB.1 m_4f1bdc54) (xt_cdOf hB.1 m_4f1bdc54) (hts _ m_c1bef504) hB hR hS hA (fun vv h10 bc11 bs11 kk11 nn11 H locs hk11 hn11 hq hEh10 hR hS => ?_) (fun XX ax h10 bc11 bs11 kk11 nn11 H locs hk11 hn11 hq hEh10 hex hR hS => ?_)
    · obtain ⟨rfl, hw⟩ := hq
      have hw := hw hEh10
      have hE := hE.tr hEh10
      refine W.eq (g2 := F0 m 29 ls []) rfl ?_
      refine lv_aload_n hx hb (xb_d D_Reader_readExport 17 rfl) rfl (lv_at hl 3 rfl) ?_
      have hk1 : xb_k h10 x0 = 4 := hEh10.k hk1
      refine xb_getP (C := R_Reader) (T := F_Reader) (N := 6) hx hb 3 0 hts fin_Reader hown hR hk1 (by decide) rfl (by decide) rfl (hts _ m_76d8349c) (fun _ h9 => h9) (xb_d D_Reader_readExport 18 rfl) ?_
      obtain ⟨b12, eb12, hw⟩ := hw
      refine xb_some eb12 ?_
      obtain ⟨hk13, hw⟩ := hw
      refine xb_getP (C := R_StackModule) (T := F_StackModule) (N := 19) hx hb 2 8 hts fin_StackModule hown hR hk13 (by decide) rfl (by decide) rfl (hts _ m_210c6cf2) (fun _ h9 => h9) (xb_d D_Reader_readExport 19 rfl) ?_
      obtain ⟨b14, eb14, hw⟩ := hw
      refine xb_some eb14 ?_
      refine lv_aload_n hx hb (xb_d D_Reader_readExport 20 rfl) rfl (lv_at hl 3 rfl) ?_
      refine lv_iconst (v := 3) hx hb (xb_d D_Reader_readExport 21 rfl) (by decide) ?_
      refine xb_call (D := D) (A := A) (σ := σ) (h := h10) (d := 4) (mc := bc11) (ms := bs11) (maxL := 3) (rest := [.ref b14]) (av := [.ref x0, .int 3]) (fun T hT X => by obtain ⟨cb9, ra9, rb9, rc9⟩ := xb_recv (ci := 3) hR rfl hk1 (by decide); exact xt_invV X hx hown (hts _ m_13cda130) (hts _ m_a9ff337d) (hts _ m_af3157e6) (xt_sigOf (hts _ m_8a19f6ff)) nm_Reader_byteUpTo (by rw [hT]; exact ra9) rb9 rc9 (g := F0 m 38 ls [.int 3, .ref x0, .ref b14]) rfl (argsL := [.int 3]) (rest := [.ref b14]) rfl rfl (by rw [hb]; exact (xb_d D_Reader_readExport 22 rfl))) (ok_Reader_byteUpTo l hfl D A σ x0 3 h10 bc11 bs11 _ _ hw) (hml.trans hl.1.symm) (by rw [hb]; exact (xb_d D_Reader_readExport 22 rfl)) (Nat.le_of_ble_eq_true rfl) (Nat.le_of_ble_eq_true rfl) (Nat.le_of_ble_eq_true rfl) (show ((k + kk4) + kk11) + bc11 ≤ MC by omega) (show ((n + nn4) + nn11) + bs11 ≤ MS by omega) (xt_w1 hB.1 m_8a19f6ff) (xt_cdOf hB.1 m_8a19f6ff) (hts _ m_938fcec4) hB hR hS hA (fun vv h15 bc16 bs16 kk16 nn16 H locs hk16 hn16 hq hEh15 hR hS => ?_) (fun XX ax h15 bc16 bs16 kk16 nn16 H locs hk16 hn16 hq hEh15 hex hR hS => ?_)
      · obtain ⟨r16, rfl, hw⟩ := hq
        have hw := hw hEh15
        have hE := hE.tr hEh15
        refine W.eq (g2 := F0 m 41 ls [.int r16, .ref b14]) rfl ?_
        refine lv_i2l hx hb (xb_d D_Reader_readExport 23 rfl) rfl ?_
        obtain ⟨hk17, hw⟩ := hw
        refine xb_call (D := D) (A := A) (σ := σ) (h := h15) (d := 4) (mc := bc16) (ms := bs16) (maxL := 3) (rest := []) (av := [.ref b14, .long (Int32.toInt64 r16)]) (fun T hT X => by obtain ⟨cb9, ra9, rb9, rc9⟩ := xb_recv (ci := 1) hR rfl hk17 (by decide); exact xt_invV X hx hown (hts _ m_da067afc) (hts _ m_7e8d081f) (hts _ m_4e47f51a) (xt_sigOf (hts _ m_4f1bdc54)) nm_Row_add (by rw [hT]; exact ra9) rb9 rc9 (g := F0 m 42 ls [.long (Int32.toInt64 r16), .ref b14]) rfl (argsL := [.long (Int32.toInt64 r16)]) (rest := []) rfl rfl (by rw [hb]; exact (xb_d D_Reader_readExport 24 rfl))) (ok_Row_add l hfl D A σ b14 (Int32.toInt64 r16) h15 bc16 bs16 _ hw) (hml.trans hl.1.symm) (by rw [hb]; exact (xb_d D_Reader_readExport 24 rfl)) (Nat.le_of_ble_eq_true rfl) (Nat.le_of_ble_eq_true rfl) (Nat.le_of_ble_eq_true rfl) (show (((k + kk4) + kk11) + kk16) + bc16 ≤ MC by omega) (show (((n + nn4) + nn11) + nn16) + bs16 ≤ MS by omega) (xt_w1 hB.1 m_4f1bdc54) (xt_cdOf hB.1 m_4f1bdc54) (hts _ m_c1bef504) hB hR hS hA (fun vv h18 bc19 bs19 kk19 nn19 H locs hk19 hn19 hq hEh18 hR hS => ?_) (fun XX ax h18 bc19 bs19 kk19 nn19 H locs hk19 hn19 hq hEh18 hex hR hS => ?_)
        · obtain ⟨rfl, hw⟩ := hq
          have hw := hw hEh18
          have hE := hE.tr hEh18
          refine W.eq (g2 := F0 m 45 ls []) rfl ?_
          refine lv_aload_n hx hb (xb_d D_Reader_readExport 25 rfl) rfl (lv_at hl 3 rfl) ?_
          have hk1 : xb_k h15 x0 = 4 := hEh15.k hk1
          have hk1 : xb_k h18 x0 = 4 := hEh18.k hk1
          refine xb_getP (C := R_Reader) (T := F_Reader) (N := 6) hx hb 3 0 hts fin_Reader hown hR hk1 (by decide) rfl (by decide) rfl (hts _ m_76d8349c) (fun _ h9 => h9) (xb_d D_Reader_readExport 26 rfl) ?_
          obtain ⟨b20, eb20, hw⟩ := hw
          refine xb_some eb20 ?_
          obtain ⟨hk21, hw⟩ := hw
          refine xb_getP (C := R_StackModule) (T := F_StackModule) (N := 19) hx hb 2 8 hts fin_StackModule hown hR hk21 (by decide) rfl (by decide) rfl (hts _ m_210c6cf2) (fun _ h9 => h9) (xb_d D_Reader_readExport 27 rfl) ?_
          obtain ⟨b22, eb22, hw⟩ := hw
          refine xb_some eb22 ?_
          refine lv_aload_n hx hb (xb_d D_Reader_readExport 28 rfl) rfl (lv_at hl 3 rfl) ?_
          refine xb_call (D := D) (A := A) (σ := σ) (h := h18) (d := 3) (mc := bc19) (ms := bs19) (maxL := 4) (rest := [.ref b22]) (av := [.ref x0]) (fun T hT X => by obtain ⟨cb9, ra9, rb9, rc9⟩ := xb_recv (ci := 3) hR rfl hk1 (by decide); exact xt_invV X hx hown (hts _ m_2c379b4d) (hts _ m_a120e786) (hts _ m_e903c73e) (xt_sigOf (hts _ m_99690a98)) nm_Reader_count (by rw [hT]; exact ra9) rb9 rc9 (g := F0 m 53 ls [.ref x0, .ref b22]) rfl (argsL := []) (rest := [.ref b22]) rfl rfl (by rw [hb]; exact (xb_d D_Reader_readExport 29 rfl))) (ok_Reader_count l hfl D A σ x0 h18 bc19 bs19 _ _ hw) (hml.trans hl.1.symm) (by rw [hb]; exact (xb_d D_Reader_readExport 29 rfl)) (Nat.le_of_ble_eq_true rfl) (Nat.le_of_ble_eq_true rfl) (Nat.le_of_ble_eq_true rfl) (show ((((k + kk4) + kk11) + kk16) + kk19) + bc19 ≤ MC by omega) (show ((((n + nn4) + nn11) + nn16) + nn19) + bs19 ≤ MS by omega) (xt_w1 hB.1 m_99690a98) (xt_cdOf hB.1 m_99690a98) (hts _ m_938fcec4) hB hR hS hA (fun vv h23 bc24 bs24 kk24 nn24 H locs hk24 hn24 hq hEh23 hR hS => ?_) (fun XX ax h23 bc24 bs24 kk24 nn24 H locs hk24 hn24 hq hEh23 hex hR hS => ?_)
          · obtain ⟨r24, rfl, hw⟩ := hq
            have hw := hw hEh23
            have hE := hE.tr hEh23
            refine W.eq (g2 := F0 m 56 ls [.int r24, .ref b22]) rfl ?_
            refine lv_i2l hx hb (xb_d D_Reader_readExport 30 rfl) rfl ?_
            refine lv_ldc2 (v := 4294967295) hx hb hown (hts _ m_687f726b) (xb_d D_Reader_readExport 31 rfl) ?_
            refine lv_land hx hb (xb_d D_Reader_readExport 32 rfl) ?_
            obtain ⟨hk25, hw⟩ := hw
            refine xb_call (D := D) (A := A) (σ := σ) (h := h23) (d := 4) (mc := bc24) (ms := bs24) (maxL := 3) (rest := []) (av := [.ref b22, .long ((Int32.toInt64 r24) &&& 4294967295)]) (fun T hT X => by obtain ⟨cb9, ra9, rb9, rc9⟩ := xb_recv (ci := 1) hR rfl hk25 (by decide); exact xt_invV X hx hown (hts _ m_da067afc) (hts _ m_7e8d081f) (hts _ m_4e47f51a) (xt_sigOf (hts _ m_4f1bdc54)) nm_Row_add (by rw [hT]; exact ra9) rb9 rc9 (g := F0 m 61 ls [.long ((Int32.toInt64 r24) &&& 4294967295), .ref b22]) rfl (argsL := [.long ((Int32.toInt64 r24) &&& 4294967295)]) (rest := []) rfl rfl (by rw [hb]; exact (xb_d D_Reader_readExport 33 rfl))) (ok_Row_add l hfl D A σ b22 ((Int32.toInt64 r24) &&& 4294967295) h23 bc24 bs24 _ hw) (hml.trans hl.1.symm) (by rw [hb]; exact (xb_d D_Reader_readExport 33 rfl)) (Nat.le_of_ble_eq_true rfl) (Nat.le_of_ble_eq_true rfl) (Nat.le_of_ble_eq_true rfl) (show (((((k + kk4) + kk11) + kk16) + kk19) + kk24) + bc24 ≤ MC by omega) (show (((((n + nn4) + nn11) + nn16) + nn19) + nn24) + bs24 ≤ MS by omega) (xt_w1 hB.1 m_4f1bdc54) (xt_cdOf hB.1 m_4f1bdc54) (hts _ m_c1bef504) hB hR hS hA (fun vv h26 bc27 bs27 kk27 nn27 H locs hk27 hn27 hq hEh26 hR hS => ?_) (fun XX ax h26 bc27 bs27 kk27 nn27 H locs hk27 hn27 hq hEh26 hex hR hS => ?_)
            · obtain ⟨rfl, hw⟩ := hq
              have hw := hw hEh26
              have hE := hE.tr hEh26
              refine W.eq (g2 := F0 m 64 ls []) rfl ?_
              refine lv_aload_n hx hb (xb_d D_Reader_readExport 34 rfl) rfl (lv_at hl 3 rfl) ?_
              have hk1 : xb_k h23 x0 = 4 := hEh23.k hk1
              have hk1 : xb_k h26 x0 = 4 := hEh26.k hk1
              refine xb_getP (C := R_Reader) (T := F_Reader) (N := 6) hx hb 3 0 hts fin_Reader hown hR hk1 (by decide) rfl (by decide) rfl (hts _ m_76d8349c) (fun _ h9 => h9) (xb_d D_Reader_readExport 35 rfl) ?_
              obtain ⟨b28, eb28, hw⟩ := hw
              refine xb_some eb28 ?_
              obtain ⟨hk29, hw⟩ := hw
              refine xb_getP (C := R_StackModule) (T := F_StackModule) (N := 19) hx hb 2 8 hts fin_StackModule hown hR hk29 (by decide) rfl (by decide) rfl (hts _ m_210c6cf2) (fun _ h9 => h9) (xb_d D_Reader_readExport 36 rfl) ?_
              obtain ⟨b30, eb30, hw⟩ := hw
              refine xb_some eb30 ?_
              refine lv_iload_n hx hb (xb_d D_Reader_readExport 37 rfl) rfl (lv_at hl 0 rfl) ?_
              refine lv_i2l hx hb (xb_d D_Reader_readExport 38 rfl) rfl ?_
              obtain ⟨hk31, hw⟩ := hw
              refine xb_call (D := D) (A := A) (σ := σ) (h := h26) (d := 4) (mc := bc27) (ms := bs27) (maxL := 3) (rest := []) (av := [.ref b30, .long (Int32.toInt64 v5)]) (fun T hT X => by obtain ⟨cb9, ra9, rb9, rc9⟩ := xb_recv (ci := 1) hR rfl hk31 (by decide); exact xt_invV X hx hown (hts _ m_da067afc) (hts _ m_7e8d081f) (hts _ m_4e47f51a) (xt_sigOf (hts _ m_4f1bdc54)) nm_Row_add (by rw [hT]; exact ra9) rb9 rc9 (g := F0 m 73 ls [.long (Int32.toInt64 v5), .ref b30]) rfl (argsL := [.long (Int32.toInt64 v5)]) (rest := []) rfl rfl (by rw [hb]; exact (xb_d D_Reader_readExport 39 rfl))) (ok_Row_add l hfl D A σ b30 (Int32.toInt64 v5) h26 bc27 bs27 _ hw) (hml.trans hl.1.symm) (by rw [hb]; exact (xb_d D_Reader_readExport 39 rfl)) (Nat.le_of_ble_eq_true rfl) (Nat.le_of_ble_eq_true rfl) (Nat.le_of_ble_eq_true rfl) (show ((((((k + kk4) + kk11) + kk16) + kk19) + kk24) + kk27) + bc27 ≤ MC by omega) (show ((((((n + nn4) + nn11) + nn16) + nn19) + nn24) + nn27) + bs27 ≤ MS by omega) (xt_w1 hB.1 m_4f1bdc54) (xt_cdOf hB.1 m_4f1bdc54) (hts _ m_c1bef504) hB hR hS hA (fun vv h32 bc33 bs33 kk33 nn33 H locs hk33 hn33 hq hEh32 hR hS => ?_) (fun XX ax h32 bc33 bs33 kk33 nn33 H locs hk33 hn33 hq hEh32 hex hR hS => ?_)
              · obtain ⟨rfl, hw⟩ := hq
                have hw := hw hEh32
                have hE := hE.tr hEh32
                refine W.eq (g2 := F0 m 76 ls []) rfl ?_
                refine lv_aload_n hx hb (xb_d D_Reader_readExport 40 rfl) rfl (lv_at hl 3 rfl) ?_
                have hk1 : xb_k h32 x0 = 4 := hEh32.k hk1
                refine xb_getP (C := R_Reader) (T := F_Reader) (N := 6) hx hb 3 0 hts fin_Reader hown hR hk1 (by decide) rfl (by decide) rfl (hts _ m_76d8349c) (fun _ h9 => h9) (xb_d D_Reader_readExport 41 rfl) ?_
                obtain ⟨b34, eb34, hw⟩ := hw
                refine xb_some eb34 ?_
                obtain ⟨hk35, hw⟩ := hw
                refine xb_getP (C := R_StackModule) (T := F_StackModule) (N := 19) hx hb 2 8 hts fin_StackModule hown hR hk35 (by decide) rfl (by decide) rfl (hts _ m_210c6cf2) (fun _ h9 => h9) (xb_d D_Reader_readExport 42 rfl) ?_
                obtain ⟨b36, eb36, hw⟩ := hw
                refine xb_some eb36 ?_
                refine lv_iload_n hx hb (xb_d D_Reader_readExport 43 rfl) rfl (lv_at hl 1 rfl) ?_
                refine lv_i2l hx hb (xb_d D_Reader_readExport 44 rfl) rfl ?_
                obtain ⟨hk37, hw⟩ := hw
                refine xb_call (D := D) (A := A) (σ := σ) (h := h32) (d := 4) (mc := bc33) (ms := bs33) (maxL := 3) (rest := []) (av := [.ref b36, .long (Int32.toInt64 r4)]) (fun T hT X => by obtain ⟨cb9, ra9, rb9, rc9⟩ := xb_recv (ci := 1) hR rfl hk37 (by decide); exact xt_invV X hx hown (hts _ m_da067afc) (hts _ m_7e8d081f) (hts _ m_4e47f51a) (xt_sigOf (hts _ m_4f1bdc54)) nm_Row_add (by rw [hT]; exact ra9) rb9 rc9 (g := F0 m 85 ls [.long (Int32.toInt64 r4), .ref b36]) rfl (argsL := [.long (Int32.toInt64 r4)]) (rest := []) rfl rfl (by rw [hb]; exact (xb_d D_Reader_readExport 45 rfl))) (ok_Row_add l hfl D A σ b36 (Int32.toInt64 r4) h32 bc33 bs33 _ hw) (hml.trans hl.1.symm) (by rw [hb]; exact (xb_d D_Reader_readExport 45 rfl)) (Nat.le_of_ble_eq_true rfl) (Nat.le_of_ble_eq_true rfl) (Nat.le_of_ble_eq_true rfl) (show (((((((k + kk4) + kk11) + kk16) + kk19) + kk24) + kk27) + kk33) + bc33 ≤ MC by omega) (show (((((((n + nn4) + nn11) + nn16) + nn19) + nn24) + nn27) + nn33) + bs33 ≤ MS by omega) (xt_w1 hB.1 m_4f1bdc54) (xt_cdOf hB.1 m_4f1bdc54) (hts _ m_c1bef504) hB hR hS hA (fun vv h38 bc39 bs39 kk39 nn39 H locs hk39 hn39 hq hEh38 hR hS => ?_) (fun XX ax h38 bc39 bs39 kk39 nn39 H locs hk39 hn39 hq hEh38 hex hR hS => ?_)
                · obtain ⟨rfl, hw⟩ := hq
                  have hw := hw hEh38
                  have hE := hE.tr hEh38
                  refine W.eq (g2 := F0 m 88 ls []) rfl ?_
                  exact xb_vret bc39 bs39 hx hb hr hlocks (show ((((((((k + kk4) + kk11) + kk16) + kk19) + kk24) + kk27) + kk33) + kk39) + bc39 ≤ MC by omega) (show ((((((((n + nn4) + nn11) + nn16) + nn19) + nn24) + nn27) + nn33) + nn39) + bs39 ≤ MS by omega) hE hR hS (xb_d D_Reader_readExport 46 rfl) hw
                · exact False.elim hq
              · exact False.elim hq
            · exact False.elim hq
          · exact xb_pass hlocks (fun x hx9 => by rw [htab] at hx9; first | (cases hx9; done) | (simp [tableOf] at hx9; subst hx9; decide) | (simp [tableOf] at hx9; rcases hx9 with rfl | rfl <;> decide) | (simp [tableOf] at hx9; rcases hx9 with rfl | rfl | rfl <;> decide)) (show (((((k + kk4) + kk11) + kk16) + kk19) + kk24) + bc24 ≤ MC by omega) (show (((((n + nn4) + nn11) + nn16) + nn19) + nn24) + bs24 ≤ MS by omega) (hE.tr hEh23) hR hS hex hq
        · exact False.elim hq
      · exact xb_pass hlocks (fun x hx9 => by rw [htab] at hx9; first | (cases hx9; done) | (simp [tableOf] at hx9; subst hx9; decide) | (simp [tableOf] at hx9; rcases hx9 with rfl | rfl <;> decide) | (simp [tableOf] at hx9; rcases hx9 with rfl | rfl | rfl <;> decide)) (show (((k + kk4) + kk11) + kk16) + bc16 ≤ MC by omega) (show (((n + nn4) + nn11) + nn16) + bs16 ≤ MS by omega) (hE.tr hEh15) hR hS hex hq
    · exact False.elim hq
  · exact xb_pass hlocks (fun x hx9 => by rw [htab] at hx9; first | (cases hx9; done) | (simp [tableOf] at hx9; subst hx9; decide) | (simp [tableOf] at hx9; rcases hx9 with rfl | rfl <;> decide) | (simp [tableOf] at hx9; rcases hx9 with rfl | rfl | rfl <;> decide)) (show (k + kk4) + bc4 ≤ MC by omega) (show (n + nn4) + bs4 ≤ MS by omega) (hE.tr hEh3) hR hS hex hq

theorem m_e06d2664 : (.methodLink "StackHost$Reader" 202 y_Reader_readOperands : Cond) ∈ xt_tbl := xt_in (xt_t4 (List.mem_of_getElem? (i := 46) (by decide +kernel))) (by decide +kernel)
theorem m_cfbd3d48 : (.instanceMethod y_Reader_readOperands : Cond) ∈ xt_tbl := xt_in (xt_t4 (List.mem_of_getElem? (i := 48) (by decide +kernel))) (by decide +kernel)
theorem m_19da9dc0 : (.selects "StackHost$Reader" y_Reader_readOperands y_Reader_readOperands : Cond) ∈ xt_tbl := xt_in (xt_v2 (q := (⟨"StackHost$Reader", "readOperands", "(II)V"⟩, 6)) (List.mem_of_getElem? (i := 7) (by decide +kernel))) (by decide +kernel)
theorem m_1e444f2f : (.code y_Reader_readOperands b_Reader_readOperands 3 none : Cond) ∈ xt_tbl := xt_in (xt_t4 (List.mem_of_getElem? (i := 49) (by decide +kernel))) (by decide +kernel)
theorem m_eafa26a3 : (.methodLink "StackHost$Reader" 195 y_Reader_noteEnd : Cond) ∈ xt_tbl := xt_in (xt_t4 (List.mem_of_getElem? (i := 38) (by decide +kernel))) (by decide +kernel)
theorem m_7e950427 : (.instanceMethod y_Reader_noteEnd : Cond) ∈ xt_tbl := xt_in (xt_t4 (List.mem_of_getElem? (i := 40) (by decide +kernel))) (by decide +kernel)
theorem m_26d65e0c : (.selects "StackHost$Reader" y_Reader_noteEnd y_Reader_noteEnd : Cond) ∈ xt_tbl := xt_in (xt_v2 (q := (⟨"StackHost$Reader", "noteEnd", "(ZII)V"⟩, 6)) (List.mem_of_getElem? (i := 5) (by decide +kernel))) (by decide +kernel)
theorem m_4a7636ea : (.code y_Reader_noteEnd b_Reader_noteEnd 4 none : Cond) ∈ xt_tbl := xt_in (xt_t4 (List.mem_of_getElem? (i := 41) (by decide +kernel))) (by decide +kernel)
theorem m_c3fc1204 : (.methodLink "StackHost$Reader" 192 y_Reader_readBlockType : Cond) ∈ xt_tbl := xt_in (xt_t4 (List.mem_of_getElem? (i := 34) (by decide +kernel))) (by decide +kernel)
theorem m_3c8075b3 : (.instanceMethod y_Reader_readBlockType : Cond) ∈ xt_tbl := xt_in (xt_t4 (List.mem_of_getElem? (i := 36) (by decide +kernel))) (by decide +kernel)
theorem m_5188d847 : (.selects "StackHost$Reader" y_Reader_readBlockType y_Reader_readBlockType : Cond) ∈ xt_tbl := xt_in (xt_v2 (q := (⟨"StackHost$Reader", "readBlockType", "()V"⟩, 6)) (List.mem_of_getElem? (i := 4) (by decide +kernel))) (by decide +kernel)
theorem m_228ea694 : (.code y_Reader_readBlockType b_Reader_readBlockType 2 none : Cond) ∈ xt_tbl := xt_in (xt_t4 (List.mem_of_getElem? (i := 37) (by decide +kernel))) (by decide +kernel)
theorem m_c4c6444a : (.methodLink "StackHost$Reader" 189 y_Reader_shapeOf : Cond) ∈ xt_tbl := xt_in (xt_t4 (List.mem_of_getElem? (i := 31) (by decide +kernel))) (by decide +kernel)
theorem m_95810fc2 : (.methodLink "StackHost$Reader" 199 y_Reader_readLabels : Cond) ∈ xt_tbl := xt_in (xt_t4 (List.mem_of_getElem? (i := 42) (by decide +kernel))) (by decide +kernel)
theorem m_49502e7a : (.instanceMethod y_Reader_readLabels : Cond) ∈ xt_tbl := xt_in (xt_t4 (List.mem_of_getElem? (i := 44) (by decide +kernel))) (by decide +kernel)
theorem m_121695c3 : (.selects "StackHost$Reader" y_Reader_readLabels y_Reader_readLabels : Cond) ∈ xt_tbl := xt_in (xt_v2 (q := (⟨"StackHost$Reader", "readLabels", "(I)V"⟩, 6)) (List.mem_of_getElem? (i := 6) (by decide +kernel))) (by decide +kernel)
theorem m_75b212be : (.code y_Reader_readLabels b_Reader_readLabels 6 none : Cond) ∈ xt_tbl := xt_in (xt_t4 (List.mem_of_getElem? (i := 45) (by decide +kernel))) (by decide +kernel)
theorem nm_Reader_readOperands : xt_nm y_Reader_readOperands 2 := ⟨by decide +kernel, by decide +kernel⟩
theorem nm_Reader_noteEnd : xt_nm y_Reader_noteEnd 3 := ⟨by decide +kernel, by decide +kernel⟩
theorem nm_Reader_readBlockType : xt_nm y_Reader_readBlockType 0 := ⟨by decide +kernel, by decide +kernel⟩
theorem nm_Reader_readLabels : xt_nm y_Reader_readLabels 1 := ⟨by decide +kernel, by decide +kernel⟩
set_option maxRecDepth 100000 in
def T_Reader_readExpression : List (Nat × Instr × Nat) := [(0, .iconst 0, 1), (1, .istore_n 1, 1), (2, .iconst 0, 1), (3, .istore_n 2, 1), (4, .iconst 0, 1), (5, .istore_n 3, 1), (6, .iload_n 3, 1), (7, .aload_n 0, 1), (8, .getfield 25, 3), (11, .arraylength, 1), (12, .if_icmp .ge 221, 3), (15, .iload_n 2, 1), (16, .ifCond .ne 217, 3), (19, .aload_n 0, 1), (20, .getfield 41, 3), (23, .istore 4, 2), (25, .aload_n 0, 1), (26, .invokevirtual 122, 3), (29, .invokestatic 189, 3), (32, .istore 5, 2), (34, .iload 5, 2), (36, .tableswitch 183 0 5 #[180, 40, 76, 137, 183, 171], 40), (76, .iload_n 1, 1), (77, .sipush 200, 3), (80, .if_icmp .ne 14, 3), (83, .aload_n 0, 1), (84, .getfield 15, 3), (87, .bipush 10, 2), (89, .iload 4, 2), (91, .invokevirtual 37, 3), (94, .aload_n 0, 1), (95, .invokevirtual 192, 3), (98, .aload_n 0, 1), (99, .getfield 9, 3), (102, .iload_n 1, 1), (103, .iload 4, 2), (105, .iastore, 1), (106, .iinc 1 1, 3), (109, .goto 118, 3), (112, .iload_n 1, 1), (113, .ifCond .eq 20, 3), (116, .aload_n 0, 1), (117, .getfield 25, 3), (120, .aload_n 0, 1), (121, .getfield 9, 3), (124, .iload_n 1, 1), (125, .iconst 1, 1), (126, .isub, 1), (127, .iaload, 1), (128, .baload, 1), (129, .iconst 4, 1), (130, .if_icmp .eq 13, 3), (133, .aload_n 0, 1), (134, .getfield 15, 3), (137, .iconst 5, 1), (138, .iload 4, 2), (140, .invokevirtual 37, 3), (143, .aload_n 0, 1), (144, .getfield 29, 3), (147, .aload_n 0, 1), (148, .getfield 9, 3), (151, .iload_n 1, 1), (152, .iconst 1, 1), (153, .isub, 1), (154, .iaload, 1), (155, .iconst 1, 1), (156, .iadd, 1), (157, .iload 4, 2), (159, .iastore, 1), (160, .aload_n 0, 1), (161, .getfield 9, 3), (164, .iload_n 1, 1), (165, .iconst 1, 1), (166, .isub, 1), (167, .iload 4, 2), (169, .iastore, 1), (170, .goto 57, 3), (173, .iload_n 1, 1), (174, .ifCond .ne 7, 3), (177, .iconst 1, 1), (178, .goto 4, 3), (181, .iconst 0, 1), (182, .istore_n 2, 1), (183, .iconst 0, 1), (184, .iload_n 1, 1), (185, .iconst 1, 1), (186, .isub, 1), (187, .invokestatic 44, 3), (190, .istore_n 1, 1), (191, .aload_n 0, 1), (192, .iload_n 2, 1), (193, .iload 4, 2), (195, .aload_n 0, 1), (196, .getfield 9, 3), (199, .iload_n 1, 1), (200, .iaload, 1), (201, .invokevirtual 195, 3), (204, .goto 23, 3), (207, .aload_n 0, 1), (208, .iload 4, 2), (210, .invokevirtual 199, 3), (213, .goto 14, 3), (216, .goto 11, 3), (219, .aload_n 0, 1), (220, .iload 5, 2), (222, .iload 4, 2), (224, .invokevirtual 202, 3), (227, .iinc 3 1, 3), (230, .goto (-224), 3), (233, .return_, 1)]
theorem D_Reader_readExpression : ∀ q ∈ T_Reader_readExpression, decode b_Reader_readExpression q.1 = .ok (q.2.1, q.2.2) := by decide +kernel

set_option maxHeartbeats 4000000 in
set_option maxRecDepth 100000 in
theorem am_Reader_readExpression_L233 (l : Launch) (hfl : l.flags = pinnedFlags ++ [noTraceFlag]) (D : va_G) (A : Nat → Prop) (σ MC MS : Nat) (h0 : xb_H) (Qr : xb_H → Nat → Nat → Prop) (Qt : String → xb_H → Nat → Nat → Prop) (h : xb_H) (bc : Nat) (bs : Nat) (hw : w_Reader_readExpression_L233 Qr Qt h bc bs) : xb_am l D A σ 5 MC MS h0 (fun v h bc bs => v = none ∧ Qr h bc bs) Qt y_Reader_readExpression.cls y_Reader_readExpression.name b_Reader_readExpression 6 ([] : List ExceptionTableEntry) none 233 [] [] h bc bs := by
  unfold w_Reader_readExpression_L233 at hw
  intro p e s m args below meth c hC H locs ls k n hE hl hR hS hk hn
  obtain ⟨hx, hb, hown, hlocks, htab, hml, hr, hB, hA, hnm⟩ := id hC
  have hts := hB.1.1.at args
  exact xb_vret bc bs hx hb hr hlocks (show k + bc ≤ MC by omega) (show n + bs ≤ MS by omega) hE hR hS (xb_d D_Reader_readExpression 109 rfl) hw

set_option maxHeartbeats 4000000 in
set_option maxRecDepth 100000 in
theorem am_Reader_readExpression_L227 (l : Launch) (hfl : l.flags = pinnedFlags ++ [noTraceFlag]) (D : va_G) (A : Nat → Prop) (σ MC MS : Nat) (h0 : xb_H) (Qr : xb_H → Nat → Nat → Prop) (Qt : String → xb_H → Nat → Nat → Prop) (K6 : Nat → Int32 → Int32 → Int32 → xb_H → Nat → Nat → Prop) (hK6 : ∀ (x0 : Nat) (x1 : Int32) (x2 : Int32) (x3 : Int32) (h : xb_H) (bc : Nat) (bs : Nat), K6 x0 x1 x2 x3 h bc bs → xb_am l D A σ 5 MC MS h0 (fun v h bc bs => v = none ∧ Qr h bc bs) Qt y_Reader_readExpression.cls y_Reader_readExpression.name b_Reader_readExpression 6 ([] : List ExceptionTableEntry) none 6 [(0, .ref x0), (1, .int x1), (2, .int x2), (3, .int x3)] [] h bc bs) (x0 : Nat) (x1 : Int32) (x2 : Int32) (x3 : Int32) (h : xb_H) (bc : Nat) (bs : Nat) (hw : w_Reader_readExpression_L227 K6 Qr Qt x0 x1 x2 x3 h bc bs) : xb_am l D A σ 5 MC MS h0 (fun v h bc bs => v = none ∧ Qr h bc bs) Qt y_Reader_readExpression.cls y_Reader_readExpression.name b_Reader_readExpression 6 ([] : List ExceptionTableEntry) none 227 [(0, .ref x0), (1, .int x1), (2, .int x2), (3, .int x3)] [] h bc bs := by
  unfold w_Reader_readExpression_L227 at hw
  intro p e s m args below meth c hC H locs ls k n hE hl hR hS hk hn
  obtain ⟨hx, hb, hown, hlocks, htab, hml, hr, hB, hA, hnm⟩ := id hC
  have hts := hB.1.1.at args
  refine lv_iinc (v := (x3 + 1)) (k := 3) hx hb (xb_d D_Reader_readExpression 107 rfl) hl rfl (by first | rfl | decide) (by decide) rfl (fun ls hl => ?_)
  have hl : lv_has ls 6 [(3, .int (x3 + 1)), (0, .ref x0), (1, .int x1), (2, .int x2)] := hl
  refine lv_goto (tgt := 6) hx hb (xb_d D_Reader_readExpression 108 rfl) rfl ?_
  exact hK6 x0 x1 x2 (x3 + 1) h bc bs hw p e s m args below meth c hC H locs ls k n hE (lv_sub hl [1, 2, 3, 0] rfl) hR hS (by omega) (by omega)

set_option maxHeartbeats 4000000 in
set_option maxRecDepth 100000 in
theorem am_Reader_readExpression_L219 (l : Launch) (hfl : l.flags = pinnedFlags ++ [noTraceFlag]) (D : va_G) (A : Nat → Prop) (σ MC MS : Nat) (h0 : xb_H) (Qr : xb_H → Nat → Nat → Prop) (Qt : String → xb_H → Nat → Nat → Prop) (K6 : Nat → Int32 → Int32 → Int32 → xb_H → Nat → Nat → Prop) (hK6 : ∀ (x0 : Nat) (x1 : Int32) (x2 : Int32) (x3 : Int32) (h : xb_H) (bc : Nat) (bs : Nat), K6 x0 x1 x2 x3 h bc bs → xb_am l D A σ 5 MC MS h0 (fun v h bc bs => v = none ∧ Qr h bc bs) Qt y_Reader_readExpression.cls y_Reader_readExpression.name b_Reader_readExpression 6 ([] : List ExceptionTableEntry) none 6 [(0, .ref x0), (1, .int x1), (2, .int x2), (3, .int x3)] [] h bc bs) (x0 : Nat) (x1 : Int32) (x2 : Int32) (x3 : Int32) (x4 : Int32) (x5 : Int32) (h : xb_H) (bc : Nat) (bs : Nat) (hw : w_Reader_readExpression_L219 K6 Qr Qt x0 x1 x2 x3 x4 x5 h bc bs) : xb_am l D A σ 5 MC MS h0 (fun v h bc bs => v = none ∧ Qr h bc bs) Qt y_Reader_readExpression.cls y_Reader_readExpression.name b_Reader_readExpression 6 ([] : List ExceptionTableEntry) none 219 [(0, .ref x0), (1, .int x1), (2, .int x2), (3, .int x3), (4, .int x4), (5, .int x5)] [] h bc bs := by
  unfold w_Reader_readExpression_L219 at hw
  intro p e s m args below meth c hC H locs ls k n hE hl hR hS hk hn
  obtain ⟨hx, hb, hown, hlocks, htab, hml, hr, hB, hA, hnm⟩ := id hC
  have hts := hB.1.1.at args
  refine lv_aload_n hx hb (xb_d D_Reader_readExpression 103 rfl) rfl (lv_at hl 0 rfl) ?_
  refine lv_iload hx hb (xb_d D_Reader_readExpression 104 rfl) (lv_at hl 5 rfl) ?_
  refine lv_iload hx hb (xb_d D_Reader_readExpression 105 rfl) (lv_at hl 4 rfl) ?_
  obtain ⟨hk1, hw⟩ := hw
  refine xb_call (D := D) (A := A) (σ := σ) (h := h) (d := 4) (mc := bc) (ms := bs) (maxL := 3) (rest := []) (av := [.ref x0, .int x5, .int x4]) (fun T hT X => by obtain ⟨cb9, ra9, rb9, rc9⟩ := xb_recv (ci := 3) hR rfl hk1 (by decide); exact xt_invV X hx hown (hts _ m_e06d2664) (hts _ m_cfbd3d48) (hts _ m_19da9dc0) (xt_sigOf (hts _ m_1e444f2f)) nm_Reader_readOperands (by rw [hT]; exact ra9) rb9 rc9 (g := F0 m 224 ls [.int x4, .int x5, .ref x0]) rfl (argsL := [.int x5, .int x4]) (rest := []) rfl rfl (by rw [hb]; exact (xb_d D_Reader_readExpression 106 rfl))) (ok_Reader_readOperands l hfl D A σ x0 x5 x4 h bc bs _ _ hw) (hml.trans hl.1.symm) (by rw [hb]; exact (xb_d D_Reader_readExpression 106 rfl)) (Nat.le_of_ble_eq_true rfl) (Nat.le_of_ble_eq_true rfl) (Nat.le_of_ble_eq_true rfl) (show k + bc ≤ MC by omega) (show n + bs ≤ MS by omega) (xt_w1 hB.1 m_1e444f2f) (xt_cdOf hB.1 m_1e444f2f) (hts _ m_938fcec4) hB hR hS hA (fun vv h2 bc3 bs3 kk3 nn3 H locs hk3 hn3 hq hEh2 hR hS => ?_) (fun XX ax h2 bc3 bs3 kk3 nn3 H locs hk3 hn3 hq hEh2 hex hR hS => ?_)
  · obtain ⟨rfl, hw⟩ := hq
    have hw := hw hEh2
    have hE := hE.tr hEh2
    refine W.eq (g2 := F0 m 227 ls []) rfl ?_
    exact am_Reader_readExpression_L227 l hfl D A σ MC MS h0 Qr Qt K6 hK6 x0 x1 x2 x3 h2 bc3 bs3 hw p e s m args below meth c hC H locs ls (k + kk3) (n + nn3) hE (lv_sub hl [0, 1, 2, 3] rfl) hR hS (by omega) (by omega)
  · exact xb_pass hlocks (fun x hx9 => by rw [htab] at hx9; first | (cases hx9; done) | (simp [tableOf] at hx9; subst hx9; decide) | (simp [tableOf] at hx9; rcases hx9 with rfl | rfl <;> decide) | (simp [tableOf] at hx9; rcases hx9 with rfl | rfl | rfl <;> decide)) (show (k + kk3) + bc3 ≤ MC by omega) (show (n + nn3) + bs3 ≤ MS by omega) (hE.tr hEh2) hR hS hex hq

set_option maxHeartbeats 4000000 in
set_option maxRecDepth 100000 in
theorem am_Reader_readExpression_L182 (l : Launch) (hfl : l.flags = pinnedFlags ++ [noTraceFlag]) (D : va_G) (A : Nat → Prop) (σ MC MS : Nat) (h0 : xb_H) (Qr : xb_H → Nat → Nat → Prop) (Qt : String → xb_H → Nat → Nat → Prop) (K6 : Nat → Int32 → Int32 → Int32 → xb_H → Nat → Nat → Prop) (hK6 : ∀ (x0 : Nat) (x1 : Int32) (x2 : Int32) (x3 : Int32) (h : xb_H) (bc : Nat) (bs : Nat), K6 x0 x1 x2 x3 h bc bs → xb_am l D A σ 5 MC MS h0 (fun v h bc bs => v = none ∧ Qr h bc bs) Qt y_Reader_readExpression.cls y_Reader_readExpression.name b_Reader_readExpression 6 ([] : List ExceptionTableEntry) none 6 [(0, .ref x0), (1, .int x1), (2, .int x2), (3, .int x3)] [] h bc bs) (x0 : Nat) (x1 : Int32) (x3 : Int32) (x4 : Int32) (y0 : Int32) (h : xb_H) (bc : Nat) (bs : Nat) (hw : w_Reader_readExpression_L182 K6 Qr Qt x0 x1 x3 x4 y0 h bc bs) : xb_am l D A σ 5 MC MS h0 (fun v h bc bs => v = none ∧ Qr h bc bs) Qt y_Reader_readExpression.cls y_Reader_readExpression.name b_Reader_readExpression 6 ([] : List ExceptionTableEntry) none 182 [(0, .ref x0), (1, .int x1), (3, .int x3), (4, .int x4)] [.int y0] h bc bs := by
  unfold w_Reader_readExpression_L182 at hw
  intro p e s m args below meth c hC H locs ls k n hE hl hR hS hk hn
  obtain ⟨hx, hb, hown, hlocks, htab, hml, hr, hB, hA, hnm⟩ := id hC
  have hts := hB.1.1.at args
  refine lv_istore_n hx hb (xb_d D_Reader_readExpression 82 rfl) rfl hl (by decide) rfl (fun ls hl => ?_)
  have hl : lv_has ls 6 [(2, .int y0), (0, .ref x0), (1, .int x1), (3, .int x3), (4, .int x4)] := hl
  refine lv_iconst (v := 0) hx hb (xb_d D_Reader_readExpression 83 rfl) (by decide) ?_
  refine lv_iload_n hx hb (xb_d D_Reader_readExpression 84 rfl) rfl (lv_at hl 2 rfl) ?_
  refine lv_iconst (v := 1) hx hb (xb_d D_Reader_readExpression 85 rfl) (by decide) ?_
  refine lv_isub hx hb (xb_d D_Reader_readExpression 86 rfl) ?_
  refine va_mmax hx hb (hml.trans hl.1.symm) hown (hts _ m_1b4cc923) (hts _ m_80a2ec50) (hts _ m_868a9286) (hts _ m_b6349a14) (by show 1 ≤ 8 + _; omega) (Nat.le_trans (Nat.le_of_ble_eq_true rfl : _ ≤ 60) (by show 60 ≤ 120 + _; omega)) (show k ≤ MC by omega) (show n ≤ MS by omega) (xb_d D_Reader_readExpression 87 rfl) ?_
  obtain ⟨v1, ev1⟩ : ∃ x : Int32, x = (if 0 < (x1 - 1) then (x1 - 1) else 0) := ⟨_, rfl⟩
  have hw := hw v1 ev1
  refine xt_numi (y := v1) ev1.symm ?_
  refine lv_istore_n hx hb (xb_d D_Reader_readExpression 88 rfl) rfl hl (by decide) rfl (fun ls hl => ?_)
  have hl : lv_has ls 6 [(1, .int v1), (2, .int y0), (0, .ref x0), (3, .int x3), (4, .int x4)] := hl
  refine lv_aload_n hx hb (xb_d D_Reader_readExpression 89 rfl) rfl (lv_at hl 2 rfl) ?_
  refine lv_iload_n hx hb (xb_d D_Reader_readExpression 90 rfl) rfl (lv_at hl 1 rfl) ?_
  refine lv_iload hx hb (xb_d D_Reader_readExpression 91 rfl) (lv_at hl 4 rfl) ?_
  refine lv_aload_n hx hb (xb_d D_Reader_readExpression 92 rfl) rfl (lv_at hl 2 rfl) ?_
  obtain ⟨hk2, hw⟩ := hw
  refine xb_getP (C := R_Reader) (T := F_Reader) (N := 6) hx hb 3 5 hts fin_Reader hown hR hk2 (by decide) rfl (by decide) rfl (hts _ m_59e07c6d) (fun _ h9 => h9) (xb_d D_Reader_readExpression 93 rfl) ?_
  obtain ⟨b3, eb3, hw⟩ := hw
  refine xb_some eb3 ?_
  refine lv_iload_n hx hb (xb_d D_Reader_readExpression 94 rfl) rfl (lv_at hl 0 rfl) ?_
  obtain ⟨hk5, hw⟩ := hw
  obtain ⟨hi4, hw⟩ := hw
  refine xb_iald hx hb hR hk5 hi4 (xb_d D_Reader_readExpression 95 rfl) ?_
  refine xb_call0 (D := D) (A := A) (σ := σ) (h := h) (d := 2) (maxL := 4) (rest := []) (av := [.ref x0, .int y0, .int x4, .int (xb_i h b3 (Int32.toNatClampNeg v1))]) (fun T hT X => by obtain ⟨cb9, ra9, rb9, rc9⟩ := xb_recv (ci := 3) hR rfl hk2 (by decide); exact xt_invV X hx hown (hts _ m_eafa26a3) (hts _ m_7e950427) (hts _ m_26d65e0c) (xt_sigOf (hts _ m_4a7636ea)) nm_Reader_noteEnd (by rw [hT]; exact ra9) rb9 rc9 (g := F0 m 201 ls [.int (xb_i h b3 (Int32.toNatClampNeg v1)), .int x4, .int y0, .ref x0]) rfl (argsL := [.int y0, .int x4, .int (xb_i h b3 (Int32.toNatClampNeg v1))]) (rest := []) rfl rfl (by rw [hb]; exact (xb_d D_Reader_readExpression 96 rfl))) (ok_Reader_noteEnd l hfl D A σ x0 y0 x4 (xb_i h b3 (Int32.toNatClampNeg v1)) h _ hw) (hml.trans hl.1.symm) (by rw [hb]; exact (xb_d D_Reader_readExpression 96 rfl)) (Nat.le_of_ble_eq_true rfl) (Nat.le_of_ble_eq_true rfl) (Nat.le_of_ble_eq_true rfl) (show k ≤ MC by omega) (show n ≤ MS by omega) (xt_w1 hB.1 m_4a7636ea) (xt_cdOf hB.1 m_4a7636ea) (hts _ m_938fcec4) hB hR hS hA (fun vv h6 H locs hq hEh6 hR hS => ?_)
  obtain ⟨rfl, hw⟩ := hq
  have hw := hw hEh6
  have hE := hE.tr hEh6
  refine W.eq (g2 := F0 m 204 ls []) rfl ?_
  refine lv_goto (tgt := 227) hx hb (xb_d D_Reader_readExpression 97 rfl) rfl ?_
  exact am_Reader_readExpression_L227 l hfl D A σ MC MS h0 Qr Qt K6 hK6 x0 v1 y0 x3 h6 bc bs hw p e s m args below meth c hC H locs ls k n hE (lv_sub hl [2, 0, 1, 3] rfl) hR hS (by omega) (by omega)

set_option maxHeartbeats 4000000 in
set_option maxRecDepth 100000 in
theorem am_Reader_readExpression_L143 (l : Launch) (hfl : l.flags = pinnedFlags ++ [noTraceFlag]) (D : va_G) (A : Nat → Prop) (σ MC MS : Nat) (h0 : xb_H) (Qr : xb_H → Nat → Nat → Prop) (Qt : String → xb_H → Nat → Nat → Prop) (K6 : Nat → Int32 → Int32 → Int32 → xb_H → Nat → Nat → Prop) (hK6 : ∀ (x0 : Nat) (x1 : Int32) (x2 : Int32) (x3 : Int32) (h : xb_H) (bc : Nat) (bs : Nat), K6 x0 x1 x2 x3 h bc bs → xb_am l D A σ 5 MC MS h0 (fun v h bc bs => v = none ∧ Qr h bc bs) Qt y_Reader_readExpression.cls y_Reader_readExpression.name b_Reader_readExpression 6 ([] : List ExceptionTableEntry) none 6 [(0, .ref x0), (1, .int x1), (2, .int x2), (3, .int x3)] [] h bc bs) (x0 : Nat) (x1 : Int32) (x2 : Int32) (x3 : Int32) (x4 : Int32) (h : xb_H) (bc : Nat) (bs : Nat) (hw : w_Reader_readExpression_L143 K6 Qr Qt x0 x1 x2 x3 x4 h bc bs) : xb_am l D A σ 5 MC MS h0 (fun v h bc bs => v = none ∧ Qr h bc bs) Qt y_Reader_readExpression.cls y_Reader_readExpression.name b_Reader_readExpression 6 ([] : List ExceptionTableEntry) none 143 [(0, .ref x0), (1, .int x1), (2, .int x2), (3, .int x3), (4, .int x4)] [] h bc bs := by
  unfold w_Reader_readExpression_L143 at hw
  intro p e s m args below meth c hC H locs ls k n hE hl hR hS hk hn
  obtain ⟨hx, hb, hown, hlocks, htab, hml, hr, hB, hA, hnm⟩ := id hC
  have hts := hB.1.1.at args
  refine lv_aload_n hx hb (xb_d D_Reader_readExpression 57 rfl) rfl (lv_at hl 0 rfl) ?_
  obtain ⟨hk1, hw⟩ := hw
  refine xb_getP (C := R_Reader) (T := F_Reader) (N := 6) hx hb 3 2 hts fin_Reader hown hR hk1 (by decide) rfl (by decide) rfl (hts _ m_5660bdee) (fun _ h9 => h9) (xb_d D_Reader_readExpression 58 rfl) ?_
  obtain ⟨b2, eb2, hw⟩ := hw
  refine xb_some eb2 ?_
  refine lv_aload_n hx hb (xb_d D_Reader_readExpression 59 rfl) rfl (lv_at hl 0 rfl) ?_
  refine xb_getP (C := R_Reader) (T := F_Reader) (N := 6) hx hb 3 5 hts fin_Reader hown hR hk1 (by decide) rfl (by decide) rfl (hts _ m_59e07c6d) (fun _ h9 => h9) (xb_d D_Reader_readExpression 60 rfl) ?_
  obtain ⟨b3, eb3, hw⟩ := hw
  refine xb_some eb3 ?_
  refine lv_iload_n hx hb (xb_d D_Reader_readExpression 61 rfl) rfl (lv_at hl 1 rfl) ?_
  refine lv_iconst (v := 1) hx hb (xb_d D_Reader_readExpression 62 rfl) (by decide) ?_
  refine lv_isub hx hb (xb_d D_Reader_readExpression 63 rfl) ?_
  obtain ⟨hk5, hw⟩ := hw
  obtain ⟨hi4, hw⟩ := hw
  refine xb_iald hx hb hR hk5 hi4 (xb_d D_Reader_readExpression 64 rfl) ?_
  refine lv_iconst (v := 1) hx hb (xb_d D_Reader_readExpression 65 rfl) (by decide) ?_
  refine lv_iadd hx hb (xb_d D_Reader_readExpression 66 rfl) ?_
  refine lv_iload hx hb (xb_d D_Reader_readExpression 67 rfl) (lv_at hl 4 rfl) ?_
  obtain ⟨hk6, hw⟩ := hw
  obtain ⟨hi7, hw⟩ := hw
  refine xb_iast hx hb hR hS hk6 hi7 (xb_d D_Reader_readExpression 68 rfl) (fun H locs hR hS => ?_)
  obtain ⟨h8, eh8⟩ : ∃ x : xb_H, x = xb_I h b2 (Int32.toNatClampNeg ((xb_i h b3 (Int32.toNatClampNeg (x1 - 1))) + 1)) x4 := ⟨_, rfl⟩
  rw [← eh8] at hR
  have hw := hw h8 eh8
  have hE : xb_ext h0 h8 := by rw [eh8]; exact hE
  refine lv_aload_n hx hb (xb_d D_Reader_readExpression 69 rfl) rfl (lv_at hl 0 rfl) ?_
  have hk1 : xb_k h8 x0 = 4 := by rw [eh8]; exact hk1
  refine xb_getP (C := R_Reader) (T := F_Reader) (N := 6) hx hb 3 5 hts fin_Reader hown hR hk1 (by decide) rfl (by decide) rfl (hts _ m_59e07c6d) (fun _ h9 => h9) (xb_d D_Reader_readExpression 70 rfl) ?_
  obtain ⟨b9, eb9, hw⟩ := hw
  refine xb_some eb9 ?_
  refine lv_iload_n hx hb (xb_d D_Reader_readExpression 71 rfl) rfl (lv_at hl 1 rfl) ?_
  refine lv_iconst (v := 1) hx hb (xb_d D_Reader_readExpression 72 rfl) (by decide) ?_
  refine lv_isub hx hb (xb_d D_Reader_readExpression 73 rfl) ?_
  refine lv_iload hx hb (xb_d D_Reader_readExpression 74 rfl) (lv_at hl 4 rfl) ?_
  obtain ⟨hk10, hw⟩ := hw
  obtain ⟨hi11, hw⟩ := hw
  refine xb_iast hx hb hR hS hk10 hi11 (xb_d D_Reader_readExpression 75 rfl) (fun H locs hR hS => ?_)
  obtain ⟨h12, eh12⟩ : ∃ x : xb_H, x = xb_I h8 b9 (Int32.toNatClampNeg (x1 - 1)) x4 := ⟨_, rfl⟩
  rw [← eh12] at hR
  have hw := hw h12 eh12
  have hE : xb_ext h0 h12 := by rw [eh12]; exact hE
  refine lv_goto (tgt := 227) hx hb (xb_d D_Reader_readExpression 76 rfl) rfl ?_
  exact am_Reader_readExpression_L227 l hfl D A σ MC MS h0 Qr Qt K6 hK6 x0 x1 x2 x3 h12 bc bs hw p e s m args below meth c hC H locs ls k n hE (lv_sub hl [0, 1, 2, 3] rfl) hR hS (by omega) (by omega)

set_option maxHeartbeats 4000000 in
set_option maxRecDepth 100000 in
theorem am_Reader_readExpression_L133 (l : Launch) (hfl : l.flags = pinnedFlags ++ [noTraceFlag]) (D : va_G) (A : Nat → Prop) (σ MC MS : Nat) (h0 : xb_H) (Qr : xb_H → Nat → Nat → Prop) (Qt : String → xb_H → Nat → Nat → Prop) (K6 : Nat → Int32 → Int32 → Int32 → xb_H → Nat → Nat → Prop) (hK6 : ∀ (x0 : Nat) (x1 : Int32) (x2 : Int32) (x3 : Int32) (h : xb_H) (bc : Nat) (bs : Nat), K6 x0 x1 x2 x3 h bc bs → xb_am l D A σ 5 MC MS h0 (fun v h bc bs => v = none ∧ Qr h bc bs) Qt y_Reader_readExpression.cls y_Reader_readExpression.name b_Reader_readExpression 6 ([] : List ExceptionTableEntry) none 6 [(0, .ref x0), (1, .int x1), (2, .int x2), (3, .int x3)] [] h bc bs) (x0 : Nat) (x1 : Int32) (x2 : Int32) (x3 : Int32) (x4 : Int32) (h : xb_H) (bc : Nat) (bs : Nat) (hw : w_Reader_readExpression_L133 K6 Qr Qt x0 x1 x2 x3 x4 h bc bs) : xb_am l D A σ 5 MC MS h0 (fun v h bc bs => v = none ∧ Qr h bc bs) Qt y_Reader_readExpression.cls y_Reader_readExpression.name b_Reader_readExpression 6 ([] : List ExceptionTableEntry) none 133 [(0, .ref x0), (1, .int x1), (2, .int x2), (3, .int x3), (4, .int x4)] [] h bc bs := by
  unfold w_Reader_readExpression_L133 at hw
  intro p e s m args below meth c hC H locs ls k n hE hl hR hS hk hn
  obtain ⟨hx, hb, hown, hlocks, htab, hml, hr, hB, hA, hnm⟩ := id hC
  have hts := hB.1.1.at args
  refine lv_aload_n hx hb (xb_d D_Reader_readExpression 52 rfl) rfl (lv_at hl 0 rfl) ?_
  obtain ⟨hk1, hw⟩ := hw
  refine xb_getP (C := R_Reader) (T := F_Reader) (N := 6) hx hb 3 0 hts fin_Reader hown hR hk1 (by decide) rfl (by decide) rfl (hts _ m_76d8349c) (fun _ h9 => h9) (xb_d D_Reader_readExpression 53 rfl) ?_
  obtain ⟨b2, eb2, hw⟩ := hw
  refine xb_some eb2 ?_
  refine lv_iconst (v := 5) hx hb (xb_d D_Reader_readExpression 54 rfl) (by decide) ?_
  refine lv_iload hx hb (xb_d D_Reader_readExpression 55 rfl) (lv_at hl 4 rfl) ?_
  obtain ⟨hk3, hw⟩ := hw
  refine xb_call (D := D) (A := A) (σ := σ) (h := h) (d := 2) (mc := bc) (ms := bs) (maxL := 3) (rest := []) (av := [.ref b2, .int 5, .int x4]) (fun T hT X => by obtain ⟨cb9, ra9, rb9, rc9⟩ := xb_recv (ci := 2) hR rfl hk3 (by decide); exact xt_invV X hx hown (hts _ m_6fcde429) (hts _ m_865d5b07) (hts _ m_113f8f75) (xt_sigOf (hts _ m_73e65e5f)) nm_StackModule_fail (by rw [hT]; exact ra9) rb9 rc9 (g := F0 m 140 ls [.int x4, .int 5, .ref b2]) rfl (argsL := [.int 5, .int x4]) (rest := []) rfl rfl (by rw [hb]; exact (xb_d D_Reader_readExpression 56 rfl))) (ok_StackModule_fail l hfl D A σ b2 5 x4 h bc bs _ _ hw) (hml.trans hl.1.symm) (by rw [hb]; exact (xb_d D_Reader_readExpression 56 rfl)) (Nat.le_of_ble_eq_true rfl) (Nat.le_of_ble_eq_true rfl) (Nat.le_of_ble_eq_true rfl) (show k + bc ≤ MC by omega) (show n + bs ≤ MS by omega) (xt_w1 hB.1 m_73e65e5f) (xt_cdOf hB.1 m_73e65e5f) (hts _ m_9c375545) hB hR hS hA (fun vv h4 bc5 bs5 kk5 nn5 H locs hk5 hn5 hq hEh4 hR hS => ?_) (fun XX ax h4 bc5 bs5 kk5 nn5 H locs hk5 hn5 hq hEh4 hex hR hS => ?_)
  · obtain ⟨rfl, hw⟩ := hq
    have hw := hw hEh4
    have hE := hE.tr hEh4
    refine W.eq (g2 := F0 m 143 ls []) rfl ?_
    exact am_Reader_readExpression_L143 l hfl D A σ MC MS h0 Qr Qt K6 hK6 x0 x1 x2 x3 x4 h4 bc5 bs5 hw p e s m args below meth c hC H locs ls (k + kk5) (n + nn5) hE (lv_sub hl [0, 1, 2, 3, 4] rfl) hR hS (by omega) (by omega)
  · exact xb_pass hlocks (fun x hx9 => by rw [htab] at hx9; first | (cases hx9; done) | (simp [tableOf] at hx9; subst hx9; decide) | (simp [tableOf] at hx9; rcases hx9 with rfl | rfl <;> decide) | (simp [tableOf] at hx9; rcases hx9 with rfl | rfl | rfl <;> decide)) (show (k + kk5) + bc5 ≤ MC by omega) (show (n + nn5) + bs5 ≤ MS by omega) (hE.tr hEh4) hR hS hex hq

set_option maxHeartbeats 4000000 in
set_option maxRecDepth 100000 in
theorem am_Reader_readExpression_L94 (l : Launch) (hfl : l.flags = pinnedFlags ++ [noTraceFlag]) (D : va_G) (A : Nat → Prop) (σ MC MS : Nat) (h0 : xb_H) (Qr : xb_H → Nat → Nat → Prop) (Qt : String → xb_H → Nat → Nat → Prop) (K6 : Nat → Int32 → Int32 → Int32 → xb_H → Nat → Nat → Prop) (hK6 : ∀ (x0 : Nat) (x1 : Int32) (x2 : Int32) (x3 : Int32) (h : xb_H) (bc : Nat) (bs : Nat), K6 x0 x1 x2 x3 h bc bs → xb_am l D A σ 5 MC MS h0 (fun v h bc bs => v = none ∧ Qr h bc bs) Qt y_Reader_readExpression.cls y_Reader_readExpression.name b_Reader_readExpression 6 ([] : List ExceptionTableEntry) none 6 [(0, .ref x0), (1, .int x1), (2, .int x2), (3, .int x3)] [] h bc bs) (x0 : Nat) (x1 : Int32) (x2 : Int32) (x3 : Int32) (x4 : Int32) (h : xb_H) (bc : Nat) (bs : Nat) (hw : w_Reader_readExpression_L94 K6 Qr Qt x0 x1 x2 x3 x4 h bc bs) : xb_am l D A σ 5 MC MS h0 (fun v h bc bs => v = none ∧ Qr h bc bs) Qt y_Reader_readExpression.cls y_Reader_readExpression.name b_Reader_readExpression 6 ([] : List ExceptionTableEntry) none 94 [(0, .ref x0), (1, .int x1), (2, .int x2), (3, .int x3), (4, .int x4)] [] h bc bs := by
  unfold w_Reader_readExpression_L94 at hw
  intro p e s m args below meth c hC H locs ls k n hE hl hR hS hk hn
  obtain ⟨hx, hb, hown, hlocks, htab, hml, hr, hB, hA, hnm⟩ := id hC
  have hts := hB.1.1.at args
  refine lv_aload_n hx hb (xb_d D_Reader_readExpression 30 rfl) rfl (lv_at hl 0 rfl) ?_
  obtain ⟨hk1, hw⟩ := hw
  refine xb_call (D := D) (A := A) (σ := σ) (h := h) (d := 4) (mc := bc) (ms := bs) (maxL := 2) (rest := []) (av := [.ref x0]) (fun T hT X => by obtain ⟨cb9, ra9, rb9, rc9⟩ := xb_recv (ci := 3) hR rfl hk1 (by decide); exact xt_invV X hx hown (hts _ m_c3fc1204) (hts _ m_3c8075b3) (hts _ m_5188d847) (xt_sigOf (hts _ m_228ea694)) nm_Reader_readBlockType (by rw [hT]; exact ra9) rb9 rc9 (g := F0 m 95 ls [.ref x0]) rfl (argsL := []) (rest := []) rfl rfl (by rw [hb]; exact (xb_d D_Reader_readExpression 31 rfl))) (ok_Reader_readBlockType l hfl D A σ x0 h bc bs _ _ hw) (hml.trans hl.1.symm) (by rw [hb]; exact (xb_d D_Reader_readExpression 31 rfl)) (Nat.le_of_ble_eq_true rfl) (Nat.le_of_ble_eq_true rfl) (Nat.le_of_ble_eq_true rfl) (show k + bc ≤ MC by omega) (show n + bs ≤ MS by omega) (xt_w1 hB.1 m_228ea694) (xt_cdOf hB.1 m_228ea694) (hts _ m_938fcec4) hB hR hS hA (fun vv h2 bc3 bs3 kk3 nn3 H locs hk3 hn3 hq hEh2 hR hS => ?_) (fun XX ax h2 bc3 bs3 kk3 nn3 H locs hk3 hn3 hq hEh2 hex hR hS => ?_)
  · obtain ⟨rfl, hw⟩ := hq
    have hw := hw hEh2
    have hE := hE.tr hEh2
    refine W.eq (g2 := F0 m 98 ls []) rfl ?_
    refine lv_aload_n hx hb (xb_d D_Reader_readExpression 32 rfl) rfl (lv_at hl 0 rfl) ?_
    have hk1 : xb_k h2 x0 = 4 := hEh2.k hk1
    refine xb_getP (C := R_Reader) (T := F_Reader) (N := 6) hx hb 3 5 hts fin_Reader hown hR hk1 (by decide) rfl (by decide) rfl (hts _ m_59e07c6d) (fun _ h9 => h9) (xb_d D_Reader_readExpression 33 rfl) ?_
    obtain ⟨b4, eb4, hw⟩ := hw
    refine xb_some eb4 ?_
    refine lv_iload_n hx hb (xb_d D_Reader_readExpression 34 rfl) rfl (lv_at hl 1 rfl) ?_
    refine lv_iload hx hb (xb_d D_Reader_readExpression 35 rfl) (lv_at hl 4 rfl) ?_
    obtain ⟨hk5, hw⟩ := hw
    obtain ⟨hi6, hw⟩ := hw
    refine xb_iast hx hb hR hS hk5 hi6 (xb_d D_Reader_readExpression 36 rfl) (fun H locs hR hS => ?_)
    obtain ⟨h7, eh7⟩ : ∃ x : xb_H, x = xb_I h2 b4 (Int32.toNatClampNeg x1) x4 := ⟨_, rfl⟩
    rw [← eh7] at hR
    have hw := hw h7 eh7
    have hE : xb_ext h0 h7 := by rw [eh7]; exact hE
    refine lv_iinc (v := (x1 + 1)) (k := 1) hx hb (xb_d D_Reader_readExpression 37 rfl) hl rfl (by first | rfl | decide) (by decide) rfl (fun ls hl => ?_)
    have hl : lv_has ls 6 [(1, .int (x1 + 1)), (0, .ref x0), (2, .int x2), (3, .int x3), (4, .int x4)] := hl
    refine lv_goto (tgt := 227) hx hb (xb_d D_Reader_readExpression 38 rfl) rfl ?_
    exact am_Reader_readExpression_L227 l hfl D A σ MC MS h0 Qr Qt K6 hK6 x0 (x1 + 1) x2 x3 h7 bc3 bs3 hw p e s m args below meth c hC H locs ls (k + kk3) (n + nn3) hE (lv_sub hl [1, 0, 2, 3] rfl) hR hS (by omega) (by omega)
  · exact xb_pass hlocks (fun x hx9 => by rw [htab] at hx9; first | (cases hx9; done) | (simp [tableOf] at hx9; subst hx9; decide) | (simp [tableOf] at hx9; rcases hx9 with rfl | rfl <;> decide) | (simp [tableOf] at hx9; rcases hx9 with rfl | rfl | rfl <;> decide)) (show (k + kk3) + bc3 ≤ MC by omega) (show (n + nn3) + bs3 ≤ MS by omega) (hE.tr hEh2) hR hS hex hq

set_option maxHeartbeats 4000000 in
set_option maxRecDepth 100000 in
theorem am_Reader_readExpression_L6 (l : Launch) (hfl : l.flags = pinnedFlags ++ [noTraceFlag]) (D : va_G) (A : Nat → Prop) (σ MC MS : Nat) (h0 : xb_H) (Qr : xb_H → Nat → Nat → Prop) (Qt : String → xb_H → Nat → Nat → Prop) (n9 : Nat) : ∀ (x0 : Nat) (x1 : Int32) (x2 : Int32) (x3 : Int32) (h : xb_H) (bc : Nat) (bs : Nat), w_Reader_readExpression_L6 Qr Qt n9 x0 x1 x2 x3 h bc bs → xb_am l D A σ 5 MC MS h0 (fun v h bc bs => v = none ∧ Qr h bc bs) Qt y_Reader_readExpression.cls y_Reader_readExpression.name b_Reader_readExpression 6 ([] : List ExceptionTableEntry) none 6 [(0, .ref x0), (1, .int x1), (2, .int x2), (3, .int x3)] [] h bc bs := by
  induction n9 with
  | zero => intro x0 x1 x2 x3 h bc bs hw; exact False.elim hw
  | succ n9 ih =>
    intro x0 x1 x2 x3 h bc bs hw
    unfold w_Reader_readExpression_L6 at hw
    intro p e s m args below meth c hC H locs ls k n hE hl hR hS hk hn
    obtain ⟨hx, hb, hown, hlocks, htab, hml, hr, hB, hA, hnm⟩ := id hC
    have hts := hB.1.1.at args
    refine lv_iload_n hx hb (xb_d D_Reader_readExpression 6 rfl) rfl (lv_at hl 3 rfl) ?_
    refine lv_aload_n hx hb (xb_d D_Reader_readExpression 7 rfl) rfl (lv_at hl 0 rfl) ?_
    obtain ⟨hk1, hw⟩ := hw
    refine xb_getP (C := R_Reader) (T := F_Reader) (N := 6) hx hb 3 1 hts fin_Reader hown hR hk1 (by decide) rfl (by decide) rfl (hts _ m_d1ba4be8) (fun _ h9 => h9) (xb_d D_Reader_readExpression 8 rfl) ?_
    obtain ⟨b2, eb2, hw⟩ := hw
    refine xb_some eb2 ?_
    obtain ⟨hk3, hw⟩ := hw
    refine xb_alen hx hb hR hk3 (by decide) (xb_d D_Reader_readExpression 9 rfl) ?_
    refine lv_icmp_ge (tgt := 233) hx hb (xb_d D_Reader_readExpression 10 rfl) rfl (fun hc4 => ?_) (fun hc4 => ?_)
    · have hw := hw.1 hc4
      exact am_Reader_readExpression_L233 l hfl D A σ MC MS h0 Qr Qt h bc bs hw p e s m args below meth c hC H locs ls k n hE (lv_sub hl [] rfl) hR hS (by omega) (by omega)
    · have hw := hw.2 hc4
      refine lv_iload_n hx hb (xb_d D_Reader_readExpression 11 rfl) rfl (lv_at hl 2 rfl) ?_
      refine lv_if_ne (tgt := 233) hx hb (xb_d D_Reader_readExpression 12 rfl) rfl (fun hc5 => ?_) (fun hc5 => ?_)
      · have hw := hw.1 hc5
        exact am_Reader_readExpression_L233 l hfl D A σ MC MS h0 Qr Qt h bc bs hw p e s m args below meth c hC H locs ls k n hE (lv_sub hl [] rfl) hR hS (by omega) (by omega)
      · have hw := hw.2 hc5
        refine lv_aload_n hx hb (xb_d D_Reader_readExpression 13 rfl) rfl (lv_at hl 0 rfl) ?_
        refine xb_getI (C := R_Reader) (T := F_Reader) (N := 6) hx hb 3 3 hts fin_Reader hown hR hk1 (by decide) rfl (by decide) rfl (hts _ m_a9b84ac2) (fun _ h9 => h9) (xb_d D_Reader_readExpression 14 rfl) ?_
        obtain ⟨v6, ev6⟩ : ∃ x : Int32, x = (xb_i h x0 3) := ⟨_, rfl⟩
        have hw := hw v6 ev6
        refine xt_numi (y := v6) ev6.symm ?_
        refine lv_istore hx hb (xb_d D_Reader_readExpression 15 rfl) hl (by decide) rfl (fun ls hl => ?_)
        have hl : lv_has ls 6 [(4, .int v6), (0, .ref x0), (1, .int x1), (2, .int x2), (3, .int x3)] := hl
        refine lv_aload_n hx hb (xb_d D_Reader_readExpression 16 rfl) rfl (lv_at hl 1 rfl) ?_
        refine xb_call (D := D) (A := A) (σ := σ) (h := h) (d := 3) (mc := bc) (ms := bs) (maxL := 1) (rest := []) (av := [.ref x0]) (fun T hT X => by obtain ⟨cb9, ra9, rb9, rc9⟩ := xb_recv (ci := 3) hR rfl hk1 (by decide); exact xt_invV X hx hown (hts _ m_16104bdc) (hts _ m_5816e59e) (hts _ m_447444c2) (xt_sigOf (hts _ m_a7435405)) nm_Reader_nextByte (by rw [hT]; exact ra9) rb9 rc9 (g := F0 m 26 ls [.ref x0]) rfl (argsL := []) (rest := []) rfl rfl (by rw [hb]; exact (xb_d D_Reader_readExpression 17 rfl))) (ok_Reader_nextByte l hfl D A σ x0 h bc bs _ _ hw) (hml.trans hl.1.symm) (by rw [hb]; exact (xb_d D_Reader_readExpression 17 rfl)) (Nat.le_of_ble_eq_true rfl) (Nat.le_of_ble_eq_true rfl) (Nat.le_of_ble_eq_true rfl) (show k + bc ≤ MC by omega) (show n + bs ≤ MS by omega) (xt_w1 hB.1 m_a7435405) (xt_cdOf hB.1 m_a7435405) (hts _ m_938fcec4) hB hR hS hA (fun vv h7 bc8 bs8 kk8 nn8 H locs hk8 hn8 hq hEh7 hR hS => ?_) (fun XX ax h7 bc8 bs8 kk8 nn8 H locs hk8 hn8 hq hEh7 hex hR hS => ?_)
        · obtain ⟨r8, rfl, hw⟩ := hq
          have hw := hw hEh7
          have hE := hE.tr hEh7
          refine W.eq (g2 := F0 m 29 ls [.int r8]) rfl ?_
          refine xb_call0 (D := D) (A := A) (σ := σ) (h := h7) (d := 2) (maxL := 1) (rest := []) (av := [.int r8]) (fun T hT X => xt_invS X hx hown (hts _ m_c4c6444a) (hts _ m_9eb17383) (hts _ m_938fcec4) (xt_sgS (hts _ m_1e1b68a2)).1 (xt_sgS (hts _ m_1e1b68a2)).2 nm_Reader_shapeOf (g := F0 m 29 ls [.int r8]) rfl (argsL := [.int r8]) (rest := []) rfl rfl (by rw [hb]; exact (xb_d D_Reader_readExpression 18 rfl))) (ok_Reader_shapeOf l hfl D A σ r8 h7 _ hw) (hml.trans hl.1.symm) (by rw [hb]; exact (xb_d D_Reader_readExpression 18 rfl)) (Nat.le_of_ble_eq_true rfl) (Nat.le_of_ble_eq_true rfl) (Nat.le_of_ble_eq_true rfl) (show (k + kk8) ≤ MC by omega) (show (n + nn8) ≤ MS by omega) (xt_w1 hB.1 m_1e1b68a2) (xt_cdOf hB.1 m_1e1b68a2) (hts _ m_938fcec4) hB hR hS hA (fun vv h9 H locs hq hEh9 hR hS => ?_)
          obtain ⟨r10, rfl, hw⟩ := hq
          have hw := hw hEh9
          have hE := hE.tr hEh9
          refine W.eq (g2 := F0 m 32 ls [.int r10]) rfl ?_
          refine lv_istore hx hb (xb_d D_Reader_readExpression 19 rfl) hl (by decide) rfl (fun ls hl => ?_)
          have hl : lv_has ls 6 [(5, .int r10), (4, .int v6), (0, .ref x0), (1, .int x1), (2, .int x2), (3, .int x3)] := hl
          refine lv_iload hx hb (xb_d D_Reader_readExpression 20 rfl) (lv_at hl 0 rfl) ?_
          by_cases hc11 : r10 = 0
          · have hw := hw.1 hc11
            refine xt_numi hc11 ?_
            refine lv_tableIn (off := 180) (tgt := 216) hx hb (xb_d D_Reader_readExpression 21 rfl) (by decide +kernel) (by decide +kernel) (by decide +kernel) (by decide) ?_
            refine lv_goto (tgt := 227) hx hb (xb_d D_Reader_readExpression 102 rfl) rfl ?_
            exact am_Reader_readExpression_L227 l hfl D A σ MC MS h0 Qr Qt (w_Reader_readExpression_L6 Qr Qt n9) ih x0 x1 x2 x3 h9 bc8 bs8 hw p e s m args below meth c hC H locs ls (k + kk8) (n + nn8) hE (lv_sub hl [2, 3, 4, 5] rfl) hR hS (by omega) (by omega)
          have hw := hw.2
          by_cases hc12 : r10 = 1
          · have hw := hw.1 hc12
            refine xt_numi hc12 ?_
            refine lv_tableIn (off := 40) (tgt := 76) hx hb (xb_d D_Reader_readExpression 21 rfl) (by decide +kernel) (by decide +kernel) (by decide +kernel) (by decide) ?_
            refine lv_iload_n hx hb (xb_d D_Reader_readExpression 22 rfl) rfl (lv_at hl 3 rfl) ?_
            refine lv_sipush (v := 200) hx hb (xb_d D_Reader_readExpression 23 rfl) (by decide) ?_
            refine lv_icmp_ne (tgt := 94) hx hb (xb_d D_Reader_readExpression 24 rfl) rfl (fun hc13 => ?_) (fun hc13 => ?_)
            · have hw := hw.1 hc13
              exact am_Reader_readExpression_L94 l hfl D A σ MC MS h0 Qr Qt (w_Reader_readExpression_L6 Qr Qt n9) ih x0 x1 x2 x3 v6 h9 bc8 bs8 hw p e s m args below meth c hC H locs ls (k + kk8) (n + nn8) hE (lv_sub hl [2, 3, 4, 5, 1] rfl) hR hS (by omega) (by omega)
            · have hw := hw.2 hc13
              refine lv_aload_n hx hb (xb_d D_Reader_readExpression 25 rfl) rfl (lv_at hl 2 rfl) ?_
              have hk1 : xb_k h7 x0 = 4 := hEh7.k hk1
              have hk1 : xb_k h9 x0 = 4 := hEh9.k hk1
              refine xb_getP (C := R_Reader) (T := F_Reader) (N := 6) hx hb 3 0 hts fin_Reader hown hR hk1 (by decide) rfl (by decide) rfl (hts _ m_76d8349c) (fun _ h9 => h9) (xb_d D_Reader_readExpression 26 rfl) ?_
              obtain ⟨b14, eb14, hw⟩ := hw
              refine xb_some eb14 ?_
              refine lv_bipush (v := 10) hx hb (xb_d D_Reader_readExpression 27 rfl) (by decide) ?_
              refine lv_iload hx hb (xb_d D_Reader_readExpression 28 rfl) (lv_at hl 1 rfl) ?_
              obtain ⟨hk15, hw⟩ := hw
              refine xb_call (D := D) (A := A) (σ := σ) (h := h9) (d := 2) (mc := bc8) (ms := bs8) (maxL := 3) (rest := []) (av := [.ref b14, .int 10, .int v6]) (fun T hT X => by obtain ⟨cb9, ra9, rb9, rc9⟩ := xb_recv (ci := 2) hR rfl hk15 (by decide); exact xt_invV X hx hown (hts _ m_6fcde429) (hts _ m_865d5b07) (hts _ m_113f8f75) (xt_sigOf (hts _ m_73e65e5f)) nm_StackModule_fail (by rw [hT]; exact ra9) rb9 rc9 (g := F0 m 91 ls [.int v6, .int 10, .ref b14]) rfl (argsL := [.int 10, .int v6]) (rest := []) rfl rfl (by rw [hb]; exact (xb_d D_Reader_readExpression 29 rfl))) (ok_StackModule_fail l hfl D A σ b14 10 v6 h9 bc8 bs8 _ _ hw) (hml.trans hl.1.symm) (by rw [hb]; exact (xb_d D_Reader_readExpression 29 rfl)) (Nat.le_of_ble_eq_true rfl) (Nat.le_of_ble_eq_true rfl) (Nat.le_of_ble_eq_true rfl) (show (k + kk8) + bc8 ≤ MC by omega) (show (n + nn8) + bs8 ≤ MS by omega) (xt_w1 hB.1 m_73e65e5f) (xt_cdOf hB.1 m_73e65e5f) (hts _ m_9c375545) hB hR hS hA (fun vv h16 bc17 bs17 kk17 nn17 H locs hk17 hn17 hq hEh16 hR hS => ?_) (fun XX ax h16 bc17 bs17 kk17 nn17 H locs hk17 hn17 hq hEh16 hex hR hS => ?_)
              · obtain ⟨rfl, hw⟩ := hq
                have hw := hw hEh16
                have hE := hE.tr hEh16
                refine W.eq (g2 := F0 m 94 ls []) rfl ?_
                exact am_Reader_readExpression_L94 l hfl D A σ MC MS h0 Qr Qt (w_Reader_readExpression_L6 Qr Qt n9) ih x0 x1 x2 x3 v6 h16 bc17 bs17 hw p e s m args below meth c hC H locs ls ((k + kk8) + kk17) ((n + nn8) + nn17) hE (lv_sub hl [2, 3, 4, 5, 1] rfl) hR hS (by omega) (by omega)
              · exact xb_pass hlocks (fun x hx9 => by rw [htab] at hx9; first | (cases hx9; done) | (simp [tableOf] at hx9; subst hx9; decide) | (simp [tableOf] at hx9; rcases hx9 with rfl | rfl <;> decide) | (simp [tableOf] at hx9; rcases hx9 with rfl | rfl | rfl <;> decide)) (show ((k + kk8) + kk17) + bc17 ≤ MC by omega) (show ((n + nn8) + nn17) + bs17 ≤ MS by omega) (hE.tr hEh16) hR hS hex hq
          have hw := hw.2
          by_cases hc18 : r10 = 2
          · have hw := hw.1 hc18
            refine xt_numi hc18 ?_
            refine lv_tableIn (off := 76) (tgt := 112) hx hb (xb_d D_Reader_readExpression 21 rfl) (by decide +kernel) (by decide +kernel) (by decide +kernel) (by decide) ?_
            refine lv_iload_n hx hb (xb_d D_Reader_readExpression 39 rfl) rfl (lv_at hl 3 rfl) ?_
            refine lv_if_eq (tgt := 133) hx hb (xb_d D_Reader_readExpression 40 rfl) rfl (fun hc19 => ?_) (fun hc19 => ?_)
            · have hw := hw.1 hc19
              exact am_Reader_readExpression_L133 l hfl D A σ MC MS h0 Qr Qt (w_Reader_readExpression_L6 Qr Qt n9) ih x0 x1 x2 x3 v6 h9 bc8 bs8 hw p e s m args below meth c hC H locs ls (k + kk8) (n + nn8) hE (lv_sub hl [2, 3, 4, 5, 1] rfl) hR hS (by omega) (by omega)
            · have hw := hw.2 hc19
              refine lv_aload_n hx hb (xb_d D_Reader_readExpression 41 rfl) rfl (lv_at hl 2 rfl) ?_
              have hk1 : xb_k h7 x0 = 4 := hEh7.k hk1
              have hk1 : xb_k h9 x0 = 4 := hEh9.k hk1
              refine xb_getP (C := R_Reader) (T := F_Reader) (N := 6) hx hb 3 1 hts fin_Reader hown hR hk1 (by decide) rfl (by decide) rfl (hts _ m_d1ba4be8) (fun _ h9 => h9) (xb_d D_Reader_readExpression 42 rfl) ?_
              obtain ⟨b20, eb20, hw⟩ := hw
              refine xb_some eb20 ?_
              refine lv_aload_n hx hb (xb_d D_Reader_readExpression 43 rfl) rfl (lv_at hl 2 rfl) ?_
              refine xb_getP (C := R_Reader) (T := F_Reader) (N := 6) hx hb 3 5 hts fin_Reader hown hR hk1 (by decide) rfl (by decide) rfl (hts _ m_59e07c6d) (fun _ h9 => h9) (xb_d D_Reader_readExpression 44 rfl) ?_
              obtain ⟨b21, eb21, hw⟩ := hw
              refine xb_some eb21 ?_
              refine lv_iload_n hx hb (xb_d D_Reader_readExpression 45 rfl) rfl (lv_at hl 3 rfl) ?_
              refine lv_iconst (v := 1) hx hb (xb_d D_Reader_readExpression 46 rfl) (by decide) ?_
              refine lv_isub hx hb (xb_d D_Reader_readExpression 47 rfl) ?_
              obtain ⟨hk23, hw⟩ := hw
              obtain ⟨hi22, hw⟩ := hw
              refine xb_iald hx hb hR hk23 hi22 (xb_d D_Reader_readExpression 48 rfl) ?_
              obtain ⟨hk25, hw⟩ := hw
              obtain ⟨hi24, hw⟩ := hw
              refine xb_bald hx hb hR hk25 hi24 (xb_d D_Reader_readExpression 49 rfl) ?_
              refine lv_iconst (v := 4) hx hb (xb_d D_Reader_readExpression 50 rfl) (by decide) ?_
              refine lv_icmp_eq (tgt := 143) hx hb (xb_d D_Reader_readExpression 51 rfl) rfl (fun hc26 => ?_) (fun hc26 => ?_)
              · have hw := hw.1 hc26
                exact am_Reader_readExpression_L143 l hfl D A σ MC MS h0 Qr Qt (w_Reader_readExpression_L6 Qr Qt n9) ih x0 x1 x2 x3 v6 h9 bc8 bs8 hw p e s m args below meth c hC H locs ls (k + kk8) (n + nn8) hE (lv_sub hl [2, 3, 4, 5, 1] rfl) hR hS (by omega) (by omega)
              · have hw := hw.2 hc26
                exact am_Reader_readExpression_L133 l hfl D A σ MC MS h0 Qr Qt (w_Reader_readExpression_L6 Qr Qt n9) ih x0 x1 x2 x3 v6 h9 bc8 bs8 hw p e s m args below meth c hC H locs ls (k + kk8) (n + nn8) hE (lv_sub hl [2, 3, 4, 5, 1] rfl) hR hS (by omega) (by omega)
          have hw := hw.2
          by_cases hc27 : r10 = 3
          · have hw := hw.1 hc27
            refine xt_numi hc27 ?_
            refine lv_tableIn (off := 137) (tgt := 173) hx hb (xb_d D_Reader_readExpression 21 rfl) (by decide +kernel) (by decide +kernel) (by decide +kernel) (by decide) ?_
            refine lv_iload_n hx hb (xb_d D_Reader_readExpression 77 rfl) rfl (lv_at hl 3 rfl) ?_
            refine lv_if_ne (tgt := 181) hx hb (xb_d D_Reader_readExpression 78 rfl) rfl (fun hc28 => ?_) (fun hc28 => ?_)
            · have hw := hw.1 hc28
              refine lv_iconst (v := 0) hx hb (xb_d D_Reader_readExpression 81 rfl) (by decide) ?_
              exact am_Reader_readExpression_L182 l hfl D A σ MC MS h0 Qr Qt (w_Reader_readExpression_L6 Qr Qt n9) ih x0 x1 x3 v6 0 h9 bc8 bs8 hw p e s m args below meth c hC H locs ls (k + kk8) (n + nn8) hE (lv_sub hl [2, 3, 5, 1] rfl) hR hS (by omega) (by omega)
            · have hw := hw.2 hc28
              refine lv_iconst (v := 1) hx hb (xb_d D_Reader_readExpression 79 rfl) (by decide) ?_
              refine lv_goto (tgt := 182) hx hb (xb_d D_Reader_readExpression 80 rfl) rfl ?_
              exact am_Reader_readExpression_L182 l hfl D A σ MC MS h0 Qr Qt (w_Reader_readExpression_L6 Qr Qt n9) ih x0 x1 x3 v6 1 h9 bc8 bs8 hw p e s m args below meth c hC H locs ls (k + kk8) (n + nn8) hE (lv_sub hl [2, 3, 5, 1] rfl) hR hS (by omega) (by omega)
          have hw := hw.2
          by_cases hc29 : r10 = 4
          · have hw := hw.1 hc29
            refine xt_numi hc29 ?_
            refine lv_tableIn (off := 183) (tgt := 219) hx hb (xb_d D_Reader_readExpression 21 rfl) (by decide +kernel) (by decide +kernel) (by decide +kernel) (by decide) ?_
            exact am_Reader_readExpression_L219 l hfl D A σ MC MS h0 Qr Qt (w_Reader_readExpression_L6 Qr Qt n9) ih x0 x1 x2 x3 v6 r10 h9 bc8 bs8 hw p e s m args below meth c hC H locs ls (k + kk8) (n + nn8) hE (lv_sub hl [2, 3, 4, 5, 1, 0] rfl) hR hS (by omega) (by omega)
          have hw := hw.2
          by_cases hc30 : r10 = 5
          · have hw := hw.1 hc30
            refine xt_numi hc30 ?_
            refine lv_tableIn (off := 171) (tgt := 207) hx hb (xb_d D_Reader_readExpression 21 rfl) (by decide +kernel) (by decide +kernel) (by decide +kernel) (by decide) ?_
            refine lv_aload_n hx hb (xb_d D_Reader_readExpression 98 rfl) rfl (lv_at hl 2 rfl) ?_
            refine lv_iload hx hb (xb_d D_Reader_readExpression 99 rfl) (lv_at hl 1 rfl) ?_
            have hk1 : xb_k h7 x0 = 4 := hEh7.k hk1
            have hk1 : xb_k h9 x0 = 4 := hEh9.k hk1
            refine xb_call (D := D) (A := A) (σ := σ) (h := h9) (d := 4) (mc := bc8) (ms := bs8) (maxL := 6) (rest := []) (av := [.ref x0, .int v6]) (fun T hT X => by obtain ⟨cb9, ra9, rb9, rc9⟩ := xb_recv (ci := 3) hR rfl hk1 (by decide); exact xt_invV X hx hown (hts _ m_95810fc2) (hts _ m_49502e7a) (hts _ m_121695c3) (xt_sigOf (hts _ m_75b212be)) nm_Reader_readLabels (by rw [hT]; exact ra9) rb9 rc9 (g := F0 m 210 ls [.int v6, .ref x0]) rfl (argsL := [.int v6]) (rest := []) rfl rfl (by rw [hb]; exact (xb_d D_Reader_readExpression 100 rfl))) (ok_Reader_readLabels l hfl D A σ x0 v6 h9 bc8 bs8 _ _ hw) (hml.trans hl.1.symm) (by rw [hb]; exact (xb_d D_Reader_readExpression 100 rfl)) (Nat.le_of_ble_eq_true rfl) (Nat.le_of_ble_eq_true rfl) (Nat.le_of_ble_eq_true rfl) (show (k + kk8) + bc8 ≤ MC by omega) (show (n + nn8) + bs8 ≤ MS by omega) (xt_w1 hB.1 m_75b212be) (xt_cdOf hB.1 m_75b212be) (hts _ m_938fcec4) hB hR hS hA (fun vv h31 bc32 bs32 kk32 nn32 H locs hk32 hn32 hq hEh31 hR hS => ?_) (fun XX ax h31 bc32 bs32 kk32 nn32 H locs hk32 hn32 hq hEh31 hex hR hS => ?_)
            · obtain ⟨rfl, hw⟩ := hq
              have hw := hw hEh31
              have hE := hE.tr hEh31
              refine W.eq (g2 := F0 m 213 ls []) rfl ?_
              refine lv_goto (tgt := 227) hx hb (xb_d D_Reader_readExpression 101 rfl) rfl ?_
              exact am_Reader_readExpression_L227 l hfl D A σ MC MS h0 Qr Qt (w_Reader_readExpression_L6 Qr Qt n9) ih x0 x1 x2 x3 h31 bc32 bs32 hw p e s m args below meth c hC H locs ls ((k + kk8) + kk32) ((n + nn8) + nn32) hE (lv_sub hl [2, 3, 4, 5] rfl) hR hS (by omega) (by omega)
            · exact xb_pass hlocks (fun x hx9 => by rw [htab] at hx9; first | (cases hx9; done) | (simp [tableOf] at hx9; subst hx9; decide) | (simp [tableOf] at hx9; rcases hx9 with rfl | rfl <;> decide) | (simp [tableOf] at hx9; rcases hx9 with rfl | rfl | rfl <;> decide)) (show ((k + kk8) + kk32) + bc32 ≤ MC by omega) (show ((n + nn8) + nn32) + bs32 ≤ MS by omega) (hE.tr hEh31) hR hS hex hq
          have hw := hw.2
          have hw := hw hc11 hc12 hc18 hc27 hc29 hc30
          refine lv_tableOut (tgt := 219) hx hb (xb_d D_Reader_readExpression 21 rfl) (by have a0 := xb_nl (0) 0 (by decide) hc11; have a1 := xb_nl (1) 1 (by decide) hc12; have a2 := xb_nl (2) 2 (by decide) hc18; have a3 := xb_nl (3) 3 (by decide) hc27; have a4 := xb_nl (4) 4 (by decide) hc29; have a5 := xb_nl (5) 5 (by decide) hc30; omega) (by decide) ?_
          exact am_Reader_readExpression_L219 l hfl D A σ MC MS h0 Qr Qt (w_Reader_readExpression_L6 Qr Qt n9) ih x0 x1 x2 x3 v6 r10 h9 bc8 bs8 hw p e s m args below meth c hC H locs ls (k + kk8) (n + nn8) hE (lv_sub hl [2, 3, 4, 5, 1, 0] rfl) hR hS (by omega) (by omega)
        · exact xb_pass hlocks (fun x hx9 => by rw [htab] at hx9; first | (cases hx9; done) | (simp [tableOf] at hx9; subst hx9; decide) | (simp [tableOf] at hx9; rcases hx9 with rfl | rfl <;> decide) | (simp [tableOf] at hx9; rcases hx9 with rfl | rfl | rfl <;> decide)) (show (k + kk8) + bc8 ≤ MC by omega) (show (n + nn8) + bs8 ≤ MS by omega) (hE.tr hEh7) hR hS hex hq

set_option maxHeartbeats 4000000 in
set_option maxRecDepth 100000 in
theorem ok_Reader_readExpression (l : Launch) (hfl : l.flags = pinnedFlags ++ [noTraceFlag]) (D : va_G) (A : Nat → Prop) (σ : Nat) (x0 : Nat) (h : xb_H) (bc : Nat) (bs : Nat) (Qr : xb_H → Nat → Nat → Prop) (Qt : String → xb_H → Nat → Nat → Prop) (hw : w_Reader_readExpression x0 h bc bs Qr Qt) : xb_Met l y_Reader_readExpression [.code y_Reader_readExpression b_Reader_readExpression 6 none] (xb_rm 5 bc bs) (xb_Pc D A σ h [.ref x0]) (xb_Qc D A h bc bs (fun v h bc bs => v = none ∧ Qr h bc bs) Qt) A := by
  refine xb_ofAm (cc := b_Reader_readExpression) (by decide) (Nat.le_of_ble_eq_true rfl) ?_
  unfold w_Reader_readExpression at hw
  show xb_am l D A σ 5 bc bs h (fun v h bc bs => v = none ∧ Qr h bc bs) Qt y_Reader_readExpression.cls y_Reader_readExpression.name b_Reader_readExpression 6 ([] : List ExceptionTableEntry) none 0 [(0, .ref x0)] [] h bc bs
  obtain ⟨MC, hMC⟩ : ∃ x, x = bc := ⟨_, rfl⟩
  obtain ⟨MS, hMS⟩ : ∃ x, x = bs := ⟨_, rfl⟩
  rw [show xb_am l D A σ 5 bc bs = xb_am l D A σ 5 MC MS by rw [hMC, hMS]]
  obtain ⟨h0, hh0⟩ : ∃ x, x = h := ⟨_, rfl⟩
  rw [show xb_am l D A σ 5 MC MS h = xb_am l D A σ 5 MC MS h0 by rw [hh0]]
  intro p e s m args below meth c hC H locs ls k n hE hl hR hS hk hn
  obtain ⟨hx, hb, hown, hlocks, htab, hml, hr, hB, hA, hnm⟩ := id hC
  have hts := hB.1.1.at args
  refine lv_iconst (v := 0) hx hb (xb_d D_Reader_readExpression 0 rfl) (by decide) ?_
  refine lv_istore_n hx hb (xb_d D_Reader_readExpression 1 rfl) rfl hl (by decide) rfl (fun ls hl => ?_)
  have hl : lv_has ls 6 [(1, .int 0), (0, .ref x0)] := hl
  refine lv_iconst (v := 0) hx hb (xb_d D_Reader_readExpression 2 rfl) (by decide) ?_
  refine lv_istore_n hx hb (xb_d D_Reader_readExpression 3 rfl) rfl hl (by decide) rfl (fun ls hl => ?_)
  have hl : lv_has ls 6 [(2, .int 0), (1, .int 0), (0, .ref x0)] := hl
  refine lv_iconst (v := 0) hx hb (xb_d D_Reader_readExpression 4 rfl) (by decide) ?_
  refine lv_istore_n hx hb (xb_d D_Reader_readExpression 5 rfl) rfl hl (by decide) rfl (fun ls hl => ?_)
  have hl : lv_has ls 6 [(3, .int 0), (2, .int 0), (1, .int 0), (0, .ref x0)] := hl
  obtain ⟨n8, hw⟩ := hw
  exact am_Reader_readExpression_L6 l hfl D A σ MC MS h0 Qr Qt n8 x0 0 0 0 h bc bs hw p e s m args below meth c hC H locs ls k n hE (lv_sub hl [3, 2, 1, 0] rfl) hR hS (by omega) (by omega)

theorem m_85744c42 : (.constantLong "StackHost$Reader" 164 (-1) : Cond) ∈ xt_tbl := xt_in (xt_t4 (List.mem_of_getElem? (i := 14) (by decide +kernel))) (by decide +kernel)
set_option maxRecDepth 100000 in
def T_Reader_readLimits : List (Nat × Instr × Nat) := [(0, .aload_n 0, 1), (1, .iconst 1, 1), (2, .invokevirtual 148, 3), (5, .istore_n 3, 1), (6, .aload_n 1, 1), (7, .iload_n 2, 1), (8, .i2l, 1), (9, .invokevirtual 87, 3), (12, .aload_n 1, 1), (13, .aload_n 0, 1), (14, .invokevirtual 70, 3), (17, .i2l, 1), (18, .ldc2_w 76, 3), (21, .land, 1), (22, .invokevirtual 87, 3), (25, .aload_n 1, 1), (26, .iload_n 3, 1), (27, .iconst 1, 1), (28, .if_icmp .ne 15, 3), (31, .aload_n 0, 1), (32, .invokevirtual 70, 3), (35, .i2l, 1), (36, .ldc2_w 76, 3), (39, .land, 1), (40, .goto 6, 3), (43, .ldc2_w 164, 3), (46, .invokevirtual 87, 3), (49, .return_, 1)]
theorem D_Reader_readLimits : ∀ q ∈ T_Reader_readLimits, decode b_Reader_readLimits q.1 = .ok (q.2.1, q.2.2) := by decide +kernel

set_option maxHeartbeats 4000000 in
set_option maxRecDepth 100000 in
theorem am_Reader_readLimits_L46 (l : Launch) (hfl : l.flags = pinnedFlags ++ [noTraceFlag]) (D : va_G) (A : Nat → Prop) (σ MC MS : Nat) (h0 : xb_H) (Qr : xb_H → Nat → Nat → Prop) (Qt : String → xb_H → Nat → Nat → Prop) (y0 : Int64) (y1 : Nat) (h : xb_H) (bc : Nat) (bs : Nat) (hw : w_Reader_readLimits_L46 Qr Qt y0 y1 h bc bs) : xb_am l D A σ 5 MC MS h0 (fun v h bc bs => v = none ∧ Qr h bc bs) Qt y_Reader_readLimits.cls y_Reader_readLimits.name b_Reader_readLimits 4 ([] : List ExceptionTableEntry) none 46 [] [.long y0, .ref y1] h bc bs := by
  unfold w_Reader_readLimits_L46 at hw
  intro p e s m args below meth c hC H locs ls k n hE hl hR hS hk hn
  obtain ⟨hx, hb, hown, hlocks, htab, hml, hr, hB, hA, hnm⟩ := id hC
  have hts := hB.1.1.at args
  obtain ⟨hk1, hw⟩ := hw
  refine xb_call (D := D) (A := A) (σ := σ) (h := h) (d := 4) (mc := bc) (ms := bs) (maxL := 3) (rest := []) (av := [.ref y1, .long y0]) (fun T hT X => by obtain ⟨cb9, ra9, rb9, rc9⟩ := xb_recv (ci := 1) hR rfl hk1 (by decide); exact xt_invV X hx hown (hts _ m_da067afc) (hts _ m_7e8d081f) (hts _ m_4e47f51a) (xt_sigOf (hts _ m_4f1bdc54)) nm_Row_add (by rw [hT]; exact ra9) rb9 rc9 (g := F0 m 46 ls [.long y0, .ref y1]) rfl (argsL := [.long y0]) (rest := []) rfl rfl (by rw [hb]; exact (xb_d D_Reader_readLimits 26 rfl))) (ok_Row_add l hfl D A σ y1 y0 h bc bs _ hw) (hml.trans hl.1.symm) (by rw [hb]; exact (xb_d D_Reader_readLimits 26 rfl)) (Nat.le_of_ble_eq_true rfl) (Nat.le_of_ble_eq_true rfl) (Nat.le_of_ble_eq_true rfl) (show k + bc ≤ MC by omega) (show n + bs ≤ MS by omega) (xt_w1 hB.1 m_4f1bdc54) (xt_cdOf hB.1 m_4f1bdc54) (hts _ m_c1bef504) hB hR hS hA (fun vv h2 bc3 bs3 kk3 nn3 H locs hk3 hn3 hq hEh2 hR hS => ?_) (fun XX ax h2 bc3 bs3 kk3 nn3 H locs hk3 hn3 hq hEh2 hex hR hS => ?_)
  · obtain ⟨rfl, hw⟩ := hq
    have hw := hw hEh2
    have hE := hE.tr hEh2
    refine W.eq (g2 := F0 m 49 ls []) rfl ?_
    exact xb_vret bc3 bs3 hx hb hr hlocks (show (k + kk3) + bc3 ≤ MC by omega) (show (n + nn3) + bs3 ≤ MS by omega) hE hR hS (xb_d D_Reader_readLimits 27 rfl) hw
  · exact False.elim hq

set_option maxHeartbeats 4000000 in
set_option maxRecDepth 100000 in
theorem ok_Reader_readLimits (l : Launch) (hfl : l.flags = pinnedFlags ++ [noTraceFlag]) (D : va_G) (A : Nat → Prop) (σ : Nat) (x0 : Nat) (x1 : Nat) (x2 : Int32) (h : xb_H) (bc : Nat) (bs : Nat) (Qr : xb_H → Nat → Nat → Prop) (Qt : String → xb_H → Nat → Nat → Prop) (hw : w_Reader_readLimits x0 x1 x2 h bc bs Qr Qt) : xb_Met l y_Reader_readLimits [.code y_Reader_readLimits b_Reader_readLimits 4 none] (xb_rm 5 bc bs) (xb_Pc D A σ h [.ref x0, .ref x1, .int x2]) (xb_Qc D A h bc bs (fun v h bc bs => v = none ∧ Qr h bc bs) Qt) A := by
  refine xb_ofAm (cc := b_Reader_readLimits) (by decide) (Nat.le_of_ble_eq_true rfl) ?_
  unfold w_Reader_readLimits at hw
  show xb_am l D A σ 5 bc bs h (fun v h bc bs => v = none ∧ Qr h bc bs) Qt y_Reader_readLimits.cls y_Reader_readLimits.name b_Reader_readLimits 4 ([] : List ExceptionTableEntry) none 0 [(0, .ref x0), (1, .ref x1), (2, .int x2)] [] h bc bs
  obtain ⟨MC, hMC⟩ : ∃ x, x = bc := ⟨_, rfl⟩
  obtain ⟨MS, hMS⟩ : ∃ x, x = bs := ⟨_, rfl⟩
  rw [show xb_am l D A σ 5 bc bs = xb_am l D A σ 5 MC MS by rw [hMC, hMS]]
  obtain ⟨h0, hh0⟩ : ∃ x, x = h := ⟨_, rfl⟩
  rw [show xb_am l D A σ 5 MC MS h = xb_am l D A σ 5 MC MS h0 by rw [hh0]]
  intro p e s m args below meth c hC H locs ls k n hE hl hR hS hk hn
  obtain ⟨hx, hb, hown, hlocks, htab, hml, hr, hB, hA, hnm⟩ := id hC
  have hts := hB.1.1.at args
  refine lv_aload_n hx hb (xb_d D_Reader_readLimits 0 rfl) rfl (lv_at hl 0 rfl) ?_
  refine lv_iconst (v := 1) hx hb (xb_d D_Reader_readLimits 1 rfl) (by decide) ?_
  obtain ⟨hk1, hw⟩ := hw
  refine xb_call (D := D) (A := A) (σ := σ) (h := h) (d := 4) (mc := bc) (ms := bs) (maxL := 3) (rest := []) (av := [.ref x0, .int 1]) (fun T hT X => by obtain ⟨cb9, ra9, rb9, rc9⟩ := xb_recv (ci := 3) hR rfl hk1 (by decide); exact xt_invV X hx hown (hts _ m_13cda130) (hts _ m_a9ff337d) (hts _ m_af3157e6) (xt_sigOf (hts _ m_8a19f6ff)) nm_Reader_byteUpTo (by rw [hT]; exact ra9) rb9 rc9 (g := F0 m 2 ls [.int 1, .ref x0]) rfl (argsL := [.int 1]) (rest := []) rfl rfl (by rw [hb]; exact (xb_d D_Reader_readLimits 2 rfl))) (ok_Reader_byteUpTo l hfl D A σ x0 1 h bc bs _ _ hw) (hml.trans hl.1.symm) (by rw [hb]; exact (xb_d D_Reader_readLimits 2 rfl)) (Nat.le_of_ble_eq_true rfl) (Nat.le_of_ble_eq_true rfl) (Nat.le_of_ble_eq_true rfl) (show k + bc ≤ MC by omega) (show n + bs ≤ MS by omega) (xt_w1 hB.1 m_8a19f6ff) (xt_cdOf hB.1 m_8a19f6ff) (hts _ m_938fcec4) hB hR hS hA (fun vv h2 bc3 bs3 kk3 nn3 H locs hk3 hn3 hq hEh2 hR hS => ?_) (fun XX ax h2 bc3 bs3 kk3 nn3 H locs hk3 hn3 hq hEh2 hex hR hS => ?_)
  · obtain ⟨r3, rfl, hw⟩ := hq
    have hw := hw hEh2
    have hE := hE.tr hEh2
    refine W.eq (g2 := F0 m 5 ls [.int r3]) rfl ?_
    refine lv_istore_n hx hb (xb_d D_Reader_readLimits 3 rfl) rfl hl (by decide) rfl (fun ls hl => ?_)
    have hl : lv_has ls 4 [(3, .int r3), (0, .ref x0), (1, .ref x1), (2, .int x2)] := hl
    refine lv_aload_n hx hb (xb_d D_Reader_readLimits 4 rfl) rfl (lv_at hl 2 rfl) ?_
    refine lv_iload_n hx hb (xb_d D_Reader_readLimits 5 rfl) rfl (lv_at hl 3 rfl) ?_
    refine lv_i2l hx hb (xb_d D_Reader_readLimits 6 rfl) rfl ?_
    obtain ⟨hk4, hw⟩ := hw
    refine xb_call (D := D) (A := A) (σ := σ) (h := h2) (d := 4) (mc := bc3) (ms := bs3) (maxL := 3) (rest := []) (av := [.ref x1, .long (Int32.toInt64 x2)]) (fun T hT X => by obtain ⟨cb9, ra9, rb9, rc9⟩ := xb_recv (ci := 1) hR rfl hk4 (by decide); exact xt_invV X hx hown (hts _ m_da067afc) (hts _ m_7e8d081f) (hts _ m_4e47f51a) (xt_sigOf (hts _ m_4f1bdc54)) nm_Row_add (by rw [hT]; exact ra9) rb9 rc9 (g := F0 m 9 ls [.long (Int32.toInt64 x2), .ref x1]) rfl (argsL := [.long (Int32.toInt64 x2)]) (rest := []) rfl rfl (by rw [hb]; exact (xb_d D_Reader_readLimits 7 rfl))) (ok_Row_add l hfl D A σ x1 (Int32.toInt64 x2) h2 bc3 bs3 _ hw) (hml.trans hl.1.symm) (by rw [hb]; exact (xb_d D_Reader_readLimits 7 rfl)) (Nat.le_of_ble_eq_true rfl) (Nat.le_of_ble_eq_true rfl) (Nat.le_of_ble_eq_true rfl) (show (k + kk3) + bc3 ≤ MC by omega) (show (n + nn3) + bs3 ≤ MS by omega) (xt_w1 hB.1 m_4f1bdc54) (xt_cdOf hB.1 m_4f1bdc54) (hts _ m_c1bef504) hB hR hS hA (fun vv h5 bc6 bs6 kk6 nn6 H locs hk6 hn6 hq hEh5 hR hS => ?_) (fun XX ax h5 bc6 bs6 kk6 nn6 H locs hk6 hn6 hq hEh5 hex hR hS => ?_)
    · obtain ⟨rfl, hw⟩ := hq
      have hw := hw hEh5
      have hE := hE.tr hEh5
      refine W.eq (g2 := F0 m 12 ls []) rfl ?_
      refine lv_aload_n hx hb (xb_d D_Reader_readLimits 8 rfl) rfl (lv_at hl 2 rfl) ?_
      refine lv_aload_n hx hb (xb_d D_Reader_readLimits 9 rfl) rfl (lv_at hl 1 rfl) ?_
      have hk1 : xb_k h2 x0 = 4 := hEh2.k hk1
      have hk1 : xb_k h5 x0 = 4 := hEh5.k hk1
      refine xb_call (D := D) (A := A) (σ := σ) (h := h5) (d := 3) (mc := bc6) (ms := bs6) (maxL := 4) (rest := [.ref x1]) (av := [.ref x0]) (fun T hT X => by obtain ⟨cb9, ra9, rb9, rc9⟩ := xb_recv (ci := 3) hR rfl hk1 (by decide); exact xt_invV X hx hown (hts _ m_2c379b4d) (hts _ m_a120e786) (hts _ m_e903c73e) (xt_sigOf (hts _ m_99690a98)) nm_Reader_count (by rw [hT]; exact ra9) rb9 rc9 (g := F0 m 14 ls [.ref x0, .ref x1]) rfl (argsL := []) (rest := [.ref x1]) rfl rfl (by rw [hb]; exact (xb_d D_Reader_readLimits 10 rfl))) (ok_Reader_count l hfl D A σ x0 h5 bc6 bs6 _ _ hw) (hml.trans hl.1.symm) (by rw [hb]; exact (xb_d D_Reader_readLimits 10 rfl)) (Nat.le_of_ble_eq_true rfl) (Nat.le_of_ble_eq_true rfl) (Nat.le_of_ble_eq_true rfl) (show ((k + kk3) + kk6) + bc6 ≤ MC by omega) (show ((n + nn3) + nn6) + bs6 ≤ MS by omega) (xt_w1 hB.1 m_99690a98) (xt_cdOf hB.1 m_99690a98) (hts _ m_938fcec4) hB hR hS hA (fun vv h7 bc8 bs8 kk8 nn8 H locs hk8 hn8 hq hEh7 hR hS => ?_) (fun XX ax h7 bc8 bs8 kk8 nn8 H locs hk8 hn8 hq hEh7 hex hR hS => ?_)
      · obtain ⟨r8, rfl, hw⟩ := hq
        have hw := hw hEh7
        have hE := hE.tr hEh7
        refine W.eq (g2 := F0 m 17 ls [.int r8, .ref x1]) rfl ?_
        refine lv_i2l hx hb (xb_d D_Reader_readLimits 11 rfl) rfl ?_
        refine lv_ldc2 (v := 4294967295) hx hb hown (hts _ m_687f726b) (xb_d D_Reader_readLimits 12 rfl) ?_
        refine lv_land hx hb (xb_d D_Reader_readLimits 13 rfl) ?_
        have hk4 : xb_k h5 x1 = 2 := hEh5.k hk4
        have hk4 : xb_k h7 x1 = 2 := hEh7.k hk4
        refine xb_call (D := D) (A := A) (σ := σ) (h := h7) (d := 4) (mc := bc8) (ms := bs8) (maxL := 3) (rest := []) (av := [.ref x1, .long ((Int32.toInt64 r8) &&& 4294967295)]) (fun T hT X => by obtain ⟨cb9, ra9, rb9, rc9⟩ := xb_recv (ci := 1) hR rfl hk4 (by decide); exact xt_invV X hx hown (hts _ m_da067afc) (hts _ m_7e8d081f) (hts _ m_4e47f51a) (xt_sigOf (hts _ m_4f1bdc54)) nm_Row_add (by rw [hT]; exact ra9) rb9 rc9 (g := F0 m 22 ls [.long ((Int32.toInt64 r8) &&& 4294967295), .ref x1]) rfl (argsL := [.long ((Int32.toInt64 r8) &&& 4294967295)]) (rest := []) rfl rfl (by rw [hb]; exact (xb_d D_Reader_readLimits 14 rfl))) (ok_Row_add l hfl D A σ x1 ((Int32.toInt64 r8) &&& 4294967295) h7 bc8 bs8 _ hw) (hml.trans hl.1.symm) (by rw [hb]; exact (xb_d D_Reader_readLimits 14 rfl)) (Nat.le_of_ble_eq_true rfl) (Nat.le_of_ble_eq_true rfl) (Nat.le_of_ble_eq_true rfl) (show (((k + kk3) + kk6) + kk8) + bc8 ≤ MC by omega) (show (((n + nn3) + nn6) + nn8) + bs8 ≤ MS by omega) (xt_w1 hB.1 m_4f1bdc54) (xt_cdOf hB.1 m_4f1bdc54) (hts _ m_c1bef504) hB hR hS hA (fun vv h9 bc10 bs10 kk10 nn10 H locs hk10 hn10 hq hEh9 hR hS => ?_) (fun XX ax h9 bc10 bs10 kk10 nn10 H locs hk10 hn10 hq hEh9 hex hR hS => ?_)
        · obtain ⟨rfl, hw⟩ := hq
          have hw := hw hEh9
          have hE := hE.tr hEh9
          refine W.eq (g2 := F0 m 25 ls []) rfl ?_
          refine lv_aload_n hx hb (xb_d D_Reader_readLimits 15 rfl) rfl (lv_at hl 2 rfl) ?_
          refine lv_iload_n hx hb (xb_d D_Reader_readLimits 16 rfl) rfl (lv_at hl 0 rfl) ?_
          refine lv_iconst (v := 1) hx hb (xb_d D_Reader_readLimits 17 rfl) (by decide) ?_
          refine lv_icmp_ne (tgt := 43) hx hb (xb_d D_Reader_readLimits 18 rfl) rfl (fun hc11 => ?_) (fun hc11 => ?_)
          · have hw := hw.1 hc11
            refine lv_ldc2 (v := (-1)) hx hb hown (hts _ m_85744c42) (xb_d D_Reader_readLimits 25 rfl) ?_
            exact am_Reader_readLimits_L46 l hfl D A σ MC MS h0 Qr Qt (-1) x1 h9 bc10 bs10 hw p e s m args below meth c hC H locs ls ((((k + kk3) + kk6) + kk8) + kk10) ((((n + nn3) + nn6) + nn8) + nn10) hE (lv_sub hl [] rfl) hR hS (by omega) (by omega)
          · have hw := hw.2 hc11
            refine lv_aload_n hx hb (xb_d D_Reader_readLimits 19 rfl) rfl (lv_at hl 1 rfl) ?_
            have hk1 : xb_k h7 x0 = 4 := hEh7.k hk1
            have hk1 : xb_k h9 x0 = 4 := hEh9.k hk1
            refine xb_call (D := D) (A := A) (σ := σ) (h := h9) (d := 3) (mc := bc10) (ms := bs10) (maxL := 4) (rest := [.ref x1]) (av := [.ref x0]) (fun T hT X => by obtain ⟨cb9, ra9, rb9, rc9⟩ := xb_recv (ci := 3) hR rfl hk1 (by decide); exact xt_invV X hx hown (hts _ m_2c379b4d) (hts _ m_a120e786) (hts _ m_e903c73e) (xt_sigOf (hts _ m_99690a98)) nm_Reader_count (by rw [hT]; exact ra9) rb9 rc9 (g := F0 m 32 ls [.ref x0, .ref x1]) rfl (argsL := []) (rest := [.ref x1]) rfl rfl (by rw [hb]; exact (xb_d D_Reader_readLimits 20 rfl))) (ok_Reader_count l hfl D A σ x0 h9 bc10 bs10 _ _ hw) (hml.trans hl.1.symm) (by rw [hb]; exact (xb_d D_Reader_readLimits 20 rfl)) (Nat.le_of_ble_eq_true rfl) (Nat.le_of_ble_eq_true rfl) (Nat.le_of_ble_eq_true rfl) (show ((((k + kk3) + kk6) + kk8) + kk10) + bc10 ≤ MC by omega) (show ((((n + nn3) + nn6) + nn8) + nn10) + bs10 ≤ MS by omega) (xt_w1 hB.1 m_99690a98) (xt_cdOf hB.1 m_99690a98) (hts _ m_938fcec4) hB hR hS hA (fun vv h12 bc13 bs13 kk13 nn13 H locs hk13 hn13 hq hEh12 hR hS => ?_) (fun XX ax h12 bc13 bs13 kk13 nn13 H locs hk13 hn13 hq hEh12 hex hR hS => ?_)
            · obtain ⟨r13, rfl, hw⟩ := hq
              have hw := hw hEh12
              have hE := hE.tr hEh12
              refine W.eq (g2 := F0 m 35 ls [.int r13, .ref x1]) rfl ?_
              refine lv_i2l hx hb (xb_d D_Reader_readLimits 21 rfl) rfl ?_
              refine lv_ldc2 (v := 4294967295) hx hb hown (hts _ m_687f726b) (xb_d D_Reader_readLimits 22 rfl) ?_
              refine lv_land hx hb (xb_d D_Reader_readLimits 23 rfl) ?_
              refine lv_goto (tgt := 46) hx hb (xb_d D_Reader_readLimits 24 rfl) rfl ?_
              exact am_Reader_readLimits_L46 l hfl D A σ MC MS h0 Qr Qt ((Int32.toInt64 r13) &&& 4294967295) x1 h12 bc13 bs13 hw p e s m args below meth c hC H locs ls (((((k + kk3) + kk6) + kk8) + kk10) + kk13) (((((n + nn3) + nn6) + nn8) + nn10) + nn13) hE (lv_sub hl [] rfl) hR hS (by omega) (by omega)
            · exact xb_pass hlocks (fun x hx9 => by rw [htab] at hx9; first | (cases hx9; done) | (simp [tableOf] at hx9; subst hx9; decide) | (simp [tableOf] at hx9; rcases hx9 with rfl | rfl <;> decide) | (simp [tableOf] at hx9; rcases hx9 with rfl | rfl | rfl <;> decide)) (show (((((k + kk3) + kk6) + kk8) + kk10) + kk13) + bc13 ≤ MC by omega) (show (((((n + nn3) + nn6) + nn8) + nn10) + nn13) + bs13 ≤ MS by omega) (hE.tr hEh12) hR hS hex hq
        · exact False.elim hq
      · exact xb_pass hlocks (fun x hx9 => by rw [htab] at hx9; first | (cases hx9; done) | (simp [tableOf] at hx9; subst hx9; decide) | (simp [tableOf] at hx9; rcases hx9 with rfl | rfl <;> decide) | (simp [tableOf] at hx9; rcases hx9 with rfl | rfl | rfl <;> decide)) (show (((k + kk3) + kk6) + kk8) + bc8 ≤ MC by omega) (show (((n + nn3) + nn6) + nn8) + bs8 ≤ MS by omega) (hE.tr hEh7) hR hS hex hq
    · exact False.elim hq
  · exact xb_pass hlocks (fun x hx9 => by rw [htab] at hx9; first | (cases hx9; done) | (simp [tableOf] at hx9; subst hx9; decide) | (simp [tableOf] at hx9; rcases hx9 with rfl | rfl <;> decide) | (simp [tableOf] at hx9; rcases hx9 with rfl | rfl | rfl <;> decide)) (show (k + kk3) + bc3 ≤ MC by omega) (show (n + nn3) + bs3 ≤ MS by omega) (hE.tr hEh2) hR hS hex hq

