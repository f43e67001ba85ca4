theorem m_60b311dc : (.methodLink "StackHost$StackModule" 92 y_Row_lines : Cond) ∈ xt_tbl := xt_in (xt_t6 (List.mem_of_getElem? (i := 160) (by decide +kernel))) (by decide +kernel)
theorem m_a1ab8b3b : (.methodLink "StackHost$StackModule" 96 y_StackModule_exportNamedBelow : Cond) ∈ xt_tbl := xt_in (xt_t6 (List.mem_of_getElem? (i := 161) (by decide +kernel))) (by decide +kernel)
set_option maxRecDepth 100000 in
def T_StackModule_exportNamed : List (Nat × Instr × Nat) := [(0, .aload_n 0, 1), (1, .aload_n 0, 1), (2, .getfield 35, 3), (5, .invokevirtual 92, 3), (8, .aload_n 1, 1), (9, .iload_n 2, 1), (10, .iload_n 3, 1), (11, .invokevirtual 96, 3), (14, .ireturn, 1)]
theorem D_StackModule_exportNamed : ∀ q ∈ T_StackModule_exportNamed, decode b_StackModule_exportNamed q.1 = .ok (q.2.1, q.2.2) := by decide +kernel

set_option maxHeartbeats 4000000 in
set_option maxRecDepth 100000 in
theorem ok_StackModule_exportNamed (l : Launch) (hfl : l.flags = pinnedFlags ++ [noTraceFlag]) (D : va_G) (A : Nat → Prop) (σ : Nat) (x0 : Nat) (x1 : Nat) (x2 : Int32) (x3 : Int32) (h : xb_H) (Qr : Int32 → xb_H → Prop) (hw : w_StackModule_exportNamed x0 x1 x2 x3 h Qr) : xb_Met l y_StackModule_exportNamed [.code y_StackModule_exportNamed b_StackModule_exportNamed 4 (some .int)] (xb_rm 4 0 0) (xb_Pc D A σ h [.ref x0, .ref x1, .int x2, .int x3]) (xb_Qc D A h 0 0 (fun v h _ _ => ∃ r, v = some (.int r) ∧ Qr r h) (fun _ _ _ _ => False)) A := by
  refine xb_ofAm (cc := b_StackModule_exportNamed) (by decide) (Nat.le_of_ble_eq_true rfl) ?_
  unfold w_StackModule_exportNamed at hw
  show xb_am l D A σ 4 0 0 h (fun v h _ _ => ∃ r, v = some (.int r) ∧ Qr r h) (fun _ _ _ _ => False) y_StackModule_exportNamed.cls y_StackModule_exportNamed.name b_StackModule_exportNamed 4 ([] : List ExceptionTableEntry) (some .int) 0 [(0, .ref x0), (1, .ref x1), (2, .int x2), (3, .int x3)] [] h 0 0
  obtain ⟨MC, hMC⟩ : ∃ x, x = 0 := ⟨_, rfl⟩
  obtain ⟨MS, hMS⟩ : ∃ x, x = 0 := ⟨_, rfl⟩
  rw [show xb_am l D A σ 4 0 0 = xb_am l D A σ 4 MC MS by rw [hMC, hMS]]
  obtain ⟨h0, hh0⟩ : ∃ x, x = h := ⟨_, rfl⟩
  rw [show xb_am l D A σ 4 MC MS h = xb_am l D A σ 4 MC MS h0 by rw [hh0]]
  intro p e s m args below meth c hC H locs ls k n hE hl hR hS hk hn
  obtain ⟨hx, hb, hown, hlocks, htab, hml, hr, hB, hA, hnm⟩ := id hC
  have hts := hB.1.1.at args
  refine lv_aload_n hx hb (xb_d D_StackModule_exportNamed 0 rfl) rfl (lv_at hl 0 rfl) ?_
  refine lv_aload_n hx hb (xb_d D_StackModule_exportNamed 1 rfl) rfl (lv_at hl 0 rfl) ?_
  obtain ⟨hk1, hw⟩ := hw
  refine xb_getP (C := R_StackModule) (T := F_StackModule) (N := 19) hx hb 2 8 hts fin_StackModule hown hR hk1 (by decide) rfl (by decide) rfl (hts _ m_d9eb608a) (fun _ h9 => h9) (xb_d D_StackModule_exportNamed 2 rfl) ?_
  obtain ⟨b2, eb2, hw⟩ := hw
  refine xb_some eb2 ?_
  obtain ⟨hk3, hw⟩ := hw
  refine xb_call0 (D := D) (A := A) (σ := σ) (h := h) (d := 2) (maxL := 1) (rest := [.ref x0]) (av := [.ref b2]) (fun T hT X => by obtain ⟨cb9, ra9, rb9, rc9⟩ := xb_recv (ci := 1) hR rfl hk3 (by decide); exact xt_invV X hx hown (hts _ m_60b311dc) (hts _ m_ded65609) (hts _ m_a4161156) (xt_sigOf (hts _ m_83ba3721)) nm_Row_lines (by rw [hT]; exact ra9) rb9 rc9 (g := F0 m 5 ls [.ref b2, .ref x0]) rfl (argsL := []) (rest := [.ref x0]) rfl rfl (by rw [hb]; exact (xb_d D_StackModule_exportNamed 3 rfl))) (ok_Row_lines l hfl D A σ b2 h _ hw) (hml.trans hl.1.symm) (by rw [hb]; exact (xb_d D_StackModule_exportNamed 3 rfl)) (Nat.le_of_ble_eq_true rfl) (Nat.le_of_ble_eq_true rfl) (Nat.le_of_ble_eq_true rfl) (show k ≤ MC by omega) (show n ≤ MS by omega) (xt_w1 hB.1 m_83ba3721) (xt_cdOf hB.1 m_83ba3721) (hts _ m_c1bef504) hB hR hS hA (fun vv h4 H locs hq hEh4 hR hS => ?_)
  obtain ⟨r5, rfl, hw⟩ := hq
  have hw := hw hEh4
  have hE := hE.tr hEh4
  refine W.eq (g2 := F0 m 8 ls [.int r5, .ref x0]) rfl ?_
  refine lv_aload_n hx hb (xb_d D_StackModule_exportNamed 4 rfl) rfl (lv_at hl 1 rfl) ?_
  refine lv_iload_n hx hb (xb_d D_StackModule_exportNamed 5 rfl) rfl (lv_at hl 2 rfl) ?_
  refine lv_iload_n hx hb (xb_d D_StackModule_exportNamed 6 rfl) rfl (lv_at hl 3 rfl) ?_
  have hk1 : xb_k h4 x0 = 3 := hEh4.k hk1
  refine xb_call0 (D := D) (A := A) (σ := σ) (h := h4) (d := 3) (maxL := 6) (rest := []) (av := [.ref x0, .int r5, .ref x1, .int x2, .int x3]) (fun T hT X => by obtain ⟨cb9, ra9, rb9, rc9⟩ := xb_recv (ci := 2) hR rfl hk1 (by decide); exact xt_invV X hx hown (hts _ m_a1ab8b3b) (hts _ m_fc9f46d2) (hts _ m_c4e66bf2) (xt_sigOf (hts _ m_e88eaefc)) nm_StackModule_exportNamedBelow (by rw [hT]; exact ra9) rb9 rc9 (g := F0 m 11 ls [.int x3, .int x2, .ref x1, .int r5, .ref x0]) rfl (argsL := [.int r5, .ref x1, .int x2, .int x3]) (rest := []) rfl rfl (by rw [hb]; exact (xb_d D_StackModule_exportNamed 7 rfl))) (ok_StackModule_exportNamedBelow l hfl D A σ x0 r5 x1 x2 x3 h4 _ hw) (hml.trans hl.1.symm) (by rw [hb]; exact (xb_d D_StackModule_exportNamed 7 rfl)) (Nat.le_of_ble_eq_true rfl) (Nat.le_of_ble_eq_true rfl) (Nat.le_of_ble_eq_true rfl) (show k ≤ MC by omega) (show n ≤ MS by omega) (xt_w1 hB.1 m_e88eaefc) (xt_cdOf hB.1 m_e88eaefc) (hts _ m_9c375545) hB hR hS hA (fun vv h6 H locs hq hEh6 hR hS => ?_)
  obtain ⟨r7, rfl, hw⟩ := hq
  have hw := hw hEh6
  have hE := hE.tr hEh6
  refine W.eq (g2 := F0 m 14 ls [.int r7]) rfl ?_
  exact xb_iret 0 0 hx hb hr hlocks (show k + 0 ≤ MC by omega) (show n + 0 ≤ MS by omega) hE hR hS (xb_d D_StackModule_exportNamed 8 rfl) hw

theorem m_bd6e92b0 : (.methodLink "StackHost$Whole" 39 y_Whole_divideLong : Cond) ∈ xt_tbl := xt_in (xt_t8 (List.mem_of_getElem? (i := 206) (by decide +kernel))) (by decide +kernel)
theorem m_6938001e : (.static y_Whole_divideLong : Cond) ∈ xt_tbl := xt_in (xt_t8 (List.mem_of_getElem? (i := 207) (by decide +kernel))) (by decide +kernel)
theorem m_6bc45bcd : (.code y_Whole_divideLong b_Whole_divideLong 5 (some .long) : Cond) ∈ xt_tbl := xt_in (xt_t8 (List.mem_of_getElem? (i := 208) (by decide +kernel))) (by decide +kernel)
theorem nm_Whole_divideLong : xt_nm y_Whole_divideLong 3 := ⟨by decide +kernel, by decide +kernel⟩
set_option maxRecDepth 100000 in
def T_Whole_reckonLong : List (Nat × Instr × Nat) := [(0, .iload_n 0, 1), (1, .tableswitch 138 0 13 #[71, 75, 79, 83, 83, 83, 83, 100, 104, 108, 112, 117, 122, 127], 71), (72, .lload_n 1, 1), (73, .lload_n 3, 1), (74, .ladd, 1), (75, .lreturn, 1), (76, .lload_n 1, 1), (77, .lload_n 3, 1), (78, .lsub, 1), (79, .lreturn, 1), (80, .lload_n 1, 1), (81, .lload_n 3, 1), (82, .lmul, 1), (83, .lreturn, 1), (84, .lload_n 3, 1), (85, .lconst 0, 1), (86, .lcmp, 1), (87, .ifCond .ne 7, 3), (90, .lconst 0, 1), (91, .goto 9, 3), (94, .iload_n 0, 1), (95, .lload_n 1, 1), (96, .lload_n 3, 1), (97, .invokestatic 39, 3), (100, .lreturn, 1), (101, .lload_n 1, 1), (102, .lload_n 3, 1), (103, .land, 1), (104, .lreturn, 1), (105, .lload_n 1, 1), (106, .lload_n 3, 1), (107, .lor, 1), (108, .lreturn, 1), (109, .lload_n 1, 1), (110, .lload_n 3, 1), (111, .lxor, 1), (112, .lreturn, 1), (113, .lload_n 1, 1), (114, .lload_n 3, 1), (115, .l2i, 1), (116, .lshl, 1), (117, .lreturn, 1), (118, .lload_n 1, 1), (119, .lload_n 3, 1), (120, .l2i, 1), (121, .lshr, 1), (122, .lreturn, 1), (123, .lload_n 1, 1), (124, .lload_n 3, 1), (125, .l2i, 1), (126, .lushr, 1), (127, .lreturn, 1), (128, .lload_n 1, 1), (129, .lload_n 3, 1), (130, .l2i, 1), (131, .lshl, 1), (132, .lload_n 1, 1), (133, .lload_n 3, 1), (134, .lneg, 1), (135, .l2i, 1), (136, .lushr, 1), (137, .lor, 1), (138, .lreturn, 1), (139, .lload_n 1, 1), (140, .lload_n 3, 1), (141, .l2i, 1), (142, .lushr, 1), (143, .lload_n 1, 1), (144, .lload_n 3, 1), (145, .lneg, 1), (146, .l2i, 1), (147, .lshl, 1), (148, .lor, 1), (149, .lreturn, 1)]
theorem D_Whole_reckonLong : ∀ q ∈ T_Whole_reckonLong, decode b_Whole_reckonLong q.1 = .ok (q.2.1, q.2.2) := by decide +kernel

set_option maxHeartbeats 4000000 in
set_option maxRecDepth 100000 in
theorem am_Whole_reckonLong_L100 (l : Launch) (hfl : l.flags = pinnedFlags ++ [noTraceFlag]) (D : va_G) (A : Nat → Prop) (σ MC MS : Nat) (h0 : xb_H) (Qr : Int64 → xb_H → Prop) (y0 : Int64) (h : xb_H) (hw : w_Whole_reckonLong_L100 Qr y0 h) : xb_am l D A σ 4 MC MS h0 (fun v h _ _ => ∃ r, v = some (.long r) ∧ Qr r h) (fun _ _ _ _ => False) y_Whole_reckonLong.cls y_Whole_reckonLong.name b_Whole_reckonLong 5 ([] : List ExceptionTableEntry) (some .long) 100 [] [.long y0] h 0 0 := by
  unfold w_Whole_reckonLong_L100 at hw
  intro p e s m args below meth c hC H locs ls k n hE hl hR hS hk hn
  obtain ⟨hx, hb, hown, hlocks, htab, hml, hr, hB, hA, hnm⟩ := id hC
  have hts := hB.1.1.at args
  exact xb_lret 0 0 hx hb hr hlocks (show k + 0 ≤ MC by omega) (show n + 0 ≤ MS by omega) hE hR hS (xb_d D_Whole_reckonLong 24 rfl) hw

set_option maxHeartbeats 4000000 in
set_option maxRecDepth 100000 in
theorem am_Whole_reckonLong_L84 (l : Launch) (hfl : l.flags = pinnedFlags ++ [noTraceFlag]) (D : va_G) (A : Nat → Prop) (σ MC MS : Nat) (h0 : xb_H) (Qr : Int64 → xb_H → Prop) (x0 : Int32) (x1 : Int64) (x3 : Int64) (h : xb_H) (hw : w_Whole_reckonLong_L84 Qr x0 x1 x3 h) : xb_am l D A σ 4 MC MS h0 (fun v h _ _ => ∃ r, v = some (.long r) ∧ Qr r h) (fun _ _ _ _ => False) y_Whole_reckonLong.cls y_Whole_reckonLong.name b_Whole_reckonLong 5 ([] : List ExceptionTableEntry) (some .long) 84 [(0, .int x0), (1, .long x1), (3, .long x3)] [] h 0 0 := by
  unfold w_Whole_reckonLong_L84 at hw
  intro p e s m args below meth c hC H locs ls k n hE hl hR hS hk hn
  obtain ⟨hx, hb, hown, hlocks, htab, hml, hr, hB, hA, hnm⟩ := id hC
  have hts := hB.1.1.at args
  refine lv_lload_n hx hb (xb_d D_Whole_reckonLong 14 rfl) rfl (lv_at hl 2 rfl) ?_
  refine lv_lconst (v := 0) hx hb (xb_d D_Whole_reckonLong 15 rfl) (by decide) ?_
  refine xb_lc_ne (tgt := 94) hx hb (xb_d D_Whole_reckonLong 16 rfl) (xb_d D_Whole_reckonLong 17 rfl) rfl (fun hc1 => ?_) (fun hc1 => ?_)
  · have hw := hw.1 hc1
    refine lv_iload_n hx hb (xb_d D_Whole_reckonLong 20 rfl) rfl (lv_at hl 0 rfl) ?_
    refine lv_lload_n hx hb (xb_d D_Whole_reckonLong 21 rfl) rfl (lv_at hl 1 rfl) ?_
    refine lv_lload_n hx hb (xb_d D_Whole_reckonLong 22 rfl) rfl (lv_at hl 2 rfl) ?_
    refine xb_call0 (D := D) (A := A) (σ := σ) (h := h) (d := 3) (maxL := 5) (rest := []) (av := [.int x0, .long x1, .long x3]) (fun T hT X => xt_invS X hx hown (hts _ m_bd6e92b0) (hts _ m_6938001e) (hts _ m_912e4ef6) (xt_sgS (hts _ m_6bc45bcd)).1 (xt_sgS (hts _ m_6bc45bcd)).2 nm_Whole_divideLong (g := F0 m 97 ls [.long x3, .long x1, .int x0]) rfl (argsL := [.int x0, .long x1, .long x3]) (rest := []) rfl rfl (by rw [hb]; exact (xb_d D_Whole_reckonLong 23 rfl))) (ok_Whole_divideLong l hfl D A σ x0 x1 x3 h _ hw) (hml.trans hl.1.symm) (by rw [hb]; exact (xb_d D_Whole_reckonLong 23 rfl)) (Nat.le_of_ble_eq_true rfl) (Nat.le_of_ble_eq_true rfl) (Nat.le_of_ble_eq_true rfl) (show k ≤ MC by omega) (show n ≤ MS by omega) (xt_w1 hB.1 m_6bc45bcd) (xt_cdOf hB.1 m_6bc45bcd) (hts _ m_912e4ef6) hB hR hS hA (fun vv h2 H locs hq hEh2 hR hS => ?_)
    obtain ⟨r3, rfl, hw⟩ := hq
    have hw := hw hEh2
    have hE := hE.tr hEh2
    refine W.eq (g2 := F0 m 100 ls [.long r3]) rfl ?_
    exact am_Whole_reckonLong_L100 l hfl D A σ MC MS h0 Qr r3 h2 hw p e s m args below meth c hC H locs ls k n hE (lv_sub hl [] rfl) hR hS (by omega) (by omega)
  · have hw := hw.2 hc1
    refine lv_lconst (v := 0) hx hb (xb_d D_Whole_reckonLong 18 rfl) (by decide) ?_
    refine lv_goto (tgt := 100) hx hb (xb_d D_Whole_reckonLong 19 rfl) rfl ?_
    exact am_Whole_reckonLong_L100 l hfl D A σ MC MS h0 Qr 0 h hw p e s m args below meth c hC H locs ls k n hE (lv_sub hl [] rfl) hR hS (by omega) (by omega)

set_option maxHeartbeats 4000000 in
set_option maxRecDepth 100000 in
theorem ok_Whole_reckonLong (l : Launch) (hfl : l.flags = pinnedFlags ++ [noTraceFlag]) (D : va_G) (A : Nat → Prop) (σ : Nat) (x0 : Int32) (x1 : Int64) (x3 : Int64) (h : xb_H) (Qr : Int64 → xb_H → Prop) (hw : w_Whole_reckonLong x0 x1 x3 h Qr) : xb_Met l y_Whole_reckonLong [.code y_Whole_reckonLong b_Whole_reckonLong 5 (some .long)] (xb_rm 4 0 0) (xb_Pc D A σ h [.int x0, .long x1, .long x3]) (xb_Qc D A h 0 0 (fun v h _ _ => ∃ r, v = some (.long r) ∧ Qr r h) (fun _ _ _ _ => False)) A := by
  refine xb_ofAm (cc := b_Whole_reckonLong) (by decide) (Nat.le_of_ble_eq_true rfl) ?_
  unfold w_Whole_reckonLong at hw
  show xb_am l D A σ 4 0 0 h (fun v h _ _ => ∃ r, v = some (.long r) ∧ Qr r h) (fun _ _ _ _ => False) y_Whole_reckonLong.cls y_Whole_reckonLong.name b_Whole_reckonLong 5 ([] : List ExceptionTableEntry) (some .long) 0 [(0, .int x0), (1, .long x1), (3, .long x3)] [] h 0 0
  obtain ⟨MC, hMC⟩ : ∃ x, x = 0 := ⟨_, rfl⟩
  obtain ⟨MS, hMS⟩ : ∃ x, x = 0 := ⟨_, rfl⟩
  rw [show xb_am l D A σ 4 0 0 = xb_am l D A σ 4 MC MS by rw [hMC, hMS]]
  obtain ⟨h0, hh0⟩ : ∃ x, x = h := ⟨_, rfl⟩
  rw [show xb_am l D A σ 4 MC MS h = xb_am l D A σ 4 MC MS h0 by rw [hh0]]
  intro p e s m args below meth c hC H locs ls k n hE hl hR hS hk hn
  obtain ⟨hx, hb, hown, hlocks, htab, hml, hr, hB, hA, hnm⟩ := id hC
  have hts := hB.1.1.at args
  refine lv_iload_n hx hb (xb_d D_Whole_reckonLong 0 rfl) rfl (lv_at hl 0 rfl) ?_
  by_cases hc1 : x0 = 0
  · have hw := hw.1 hc1
    refine xt_numi hc1 ?_
    refine lv_tableIn (off := 71) (tgt := 72) hx hb (xb_d D_Whole_reckonLong 1 rfl) (by decide +kernel) (by decide +kernel) (by decide +kernel) (by decide) ?_
    refine lv_lload_n hx hb (xb_d D_Whole_reckonLong 2 rfl) rfl (lv_at hl 1 rfl) ?_
    refine lv_lload_n hx hb (xb_d D_Whole_reckonLong 3 rfl) rfl (lv_at hl 2 rfl) ?_
    refine lv_ladd hx hb (xb_d D_Whole_reckonLong 4 rfl) ?_
    exact xb_lret 0 0 hx hb hr hlocks (show k + 0 ≤ MC by omega) (show n + 0 ≤ MS by omega) hE hR hS (xb_d D_Whole_reckonLong 5 rfl) hw
  have hw := hw.2
  by_cases hc2 : x0 = 1
  · have hw := hw.1 hc2
    refine xt_numi hc2 ?_
    refine lv_tableIn (off := 75) (tgt := 76) hx hb (xb_d D_Whole_reckonLong 1 rfl) (by decide +kernel) (by decide +kernel) (by decide +kernel) (by decide) ?_
    refine lv_lload_n hx hb (xb_d D_Whole_reckonLong 6 rfl) rfl (lv_at hl 1 rfl) ?_
    refine lv_lload_n hx hb (xb_d D_Whole_reckonLong 7 rfl) rfl (lv_at hl 2 rfl) ?_
    refine lv_lsub hx hb (xb_d D_Whole_reckonLong 8 rfl) ?_
    exact xb_lret 0 0 hx hb hr hlocks (show k + 0 ≤ MC by omega) (show n + 0 ≤ MS by omega) hE hR hS (xb_d D_Whole_reckonLong 9 rfl) hw
  have hw := hw.2
  by_cases hc3 : x0 = 2
  · have hw := hw.1 hc3
    refine xt_numi hc3 ?_
    refine lv_tableIn (off := 79) (tgt := 80) hx hb (xb_d D_Whole_reckonLong 1 rfl) (by decide +kernel) (by decide +kernel) (by decide +kernel) (by decide) ?_
    refine lv_lload_n hx hb (xb_d D_Whole_reckonLong 10 rfl) rfl (lv_at hl 1 rfl) ?_
    refine lv_lload_n hx hb (xb_d D_Whole_reckonLong 11 rfl) rfl (lv_at hl 2 rfl) ?_
    refine lv_lmul hx hb (xb_d D_Whole_reckonLong 12 rfl) ?_
    exact xb_lret 0 0 hx hb hr hlocks (show k + 0 ≤ MC by omega) (show n + 0 ≤ MS by omega) hE hR hS (xb_d D_Whole_reckonLong 13 rfl) hw
  have hw := hw.2
  by_cases hc4 : x0 = 3
  · have hw := hw.1 hc4
    refine xt_numi hc4 ?_
    refine lv_tableIn (off := 83) (tgt := 84) hx hb (xb_d D_Whole_reckonLong 1 rfl) (by decide +kernel) (by decide +kernel) (by decide +kernel) (by decide) ?_
    exact am_Whole_reckonLong_L84 l hfl D A σ MC MS h0 Qr x0 x1 x3 h hw p e s m args below meth c hC H locs ls k n hE (lv_sub hl [0, 1, 2] rfl) hR hS (by omega) (by omega)
  have hw := hw.2
  by_cases hc5 : x0 = 4
  · have hw := hw.1 hc5
    refine xt_numi hc5 ?_
    refine lv_tableIn (off := 83) (tgt := 84) hx hb (xb_d D_Whole_reckonLong 1 rfl) (by decide +kernel) (by decide +kernel) (by decide +kernel) (by decide) ?_
    exact am_Whole_reckonLong_L84 l hfl D A σ MC MS h0 Qr x0 x1 x3 h hw p e s m args below meth c hC H locs ls k n hE (lv_sub hl [0, 1, 2] rfl) hR hS (by omega) (by omega)
  have hw := hw.2
  by_cases hc6 : x0 = 5
  · have hw := hw.1 hc6
    refine xt_numi hc6 ?_
    refine lv_tableIn (off := 83) (tgt := 84) hx hb (xb_d D_Whole_reckonLong 1 rfl) (by decide +kernel) (by decide +kernel) (by decide +kernel) (by decide) ?_
    exact am_Whole_reckonLong_L84 l hfl D A σ MC MS h0 Qr x0 x1 x3 h hw p e s m args below meth c hC H locs ls k n hE (lv_sub hl [0, 1, 2] rfl) hR hS (by omega) (by omega)
  have hw := hw.2
  by_cases hc7 : x0 = 6
  · have hw := hw.1 hc7
    refine xt_numi hc7 ?_
    refine lv_tableIn (off := 83) (tgt := 84) hx hb (xb_d D_Whole_reckonLong 1 rfl) (by decide +kernel) (by decide +kernel) (by decide +kernel) (by decide) ?_
    exact am_Whole_reckonLong_L84 l hfl D A σ MC MS h0 Qr x0 x1 x3 h hw p e s m args below meth c hC H locs ls k n hE (lv_sub hl [0, 1, 2] rfl) hR hS (by omega) (by omega)
  have hw := hw.2
  by_cases hc8 : x0 = 7
  · have hw := hw.1 hc8
    refine xt_numi hc8 ?_
    refine lv_tableIn (off := 100) (tgt := 101) hx hb (xb_d D_Whole_reckonLong 1 rfl) (by decide +kernel) (by decide +kernel) (by decide +kernel) (by decide) ?_
    refine lv_lload_n hx hb (xb_d D_Whole_reckonLong 25 rfl) rfl (lv_at hl 1 rfl) ?_
    refine lv_lload_n hx hb (xb_d D_Whole_reckonLong 26 rfl) rfl (lv_at hl 2 rfl) ?_
    refine lv_land hx hb (xb_d D_Whole_reckonLong 27 rfl) ?_
    exact xb_lret 0 0 hx hb hr hlocks (show k + 0 ≤ MC by omega) (show n + 0 ≤ MS by omega) hE hR hS (xb_d D_Whole_reckonLong 28 rfl) hw
  have hw := hw.2
  by_cases hc9 : x0 = 8
  · have hw := hw.1 hc9
    refine xt_numi hc9 ?_
    refine lv_tableIn (off := 104) (tgt := 105) hx hb (xb_d D_Whole_reckonLong 1 rfl) (by decide +kernel) (by decide +kernel) (by decide +kernel) (by decide) ?_
    refine lv_lload_n hx hb (xb_d D_Whole_reckonLong 29 rfl) rfl (lv_at hl 1 rfl) ?_
    refine lv_lload_n hx hb (xb_d D_Whole_reckonLong 30 rfl) rfl (lv_at hl 2 rfl) ?_
    refine lv_lor hx hb (xb_d D_Whole_reckonLong 31 rfl) ?_
    exact xb_lret 0 0 hx hb hr hlocks (show k + 0 ≤ MC by omega) (show n + 0 ≤ MS by omega) hE hR hS (xb_d D_Whole_reckonLong 32 rfl) hw
  have hw := hw.2
  by_cases hc10 : x0 = 9
  · have hw := hw.1 hc10
    refine xt_numi hc10 ?_
    refine lv_tableIn (off := 108) (tgt := 109) hx hb (xb_d D_Whole_reckonLong 1 rfl) (by decide +kernel) (by decide +kernel) (by decide +kernel) (by decide) ?_
    refine lv_lload_n hx hb (xb_d D_Whole_reckonLong 33 rfl) rfl (lv_at hl 1 rfl) ?_
    refine lv_lload_n hx hb (xb_d D_Whole_reckonLong 34 rfl) rfl (lv_at hl 2 rfl) ?_
    refine lv_lxor hx hb (xb_d D_Whole_reckonLong 35 rfl) ?_
    exact xb_lret 0 0 hx hb hr hlocks (show k + 0 ≤ MC by omega) (show n + 0 ≤ MS by omega) hE hR hS (xb_d D_Whole_reckonLong 36 rfl) hw
  have hw := hw.2
  by_cases hc11 : x0 = 10
  · have hw := hw.1 hc11
    refine xt_numi hc11 ?_
    refine lv_tableIn (off := 112) (tgt := 113) hx hb (xb_d D_Whole_reckonLong 1 rfl) (by decide +kernel) (by decide +kernel) (by decide +kernel) (by decide) ?_
    refine lv_lload_n hx hb (xb_d D_Whole_reckonLong 37 rfl) rfl (lv_at hl 1 rfl) ?_
    refine lv_lload_n hx hb (xb_d D_Whole_reckonLong 38 rfl) rfl (lv_at hl 2 rfl) ?_
    refine lv_l2i hx hb (xb_d D_Whole_reckonLong 39 rfl) rfl ?_
    refine lv_lshl (v := (xb_lshl x1 (Int64.toInt32 x3))) hx hb (xb_d D_Whole_reckonLong 40 rfl) rfl ?_
    exact xb_lret 0 0 hx hb hr hlocks (show k + 0 ≤ MC by omega) (show n + 0 ≤ MS by omega) hE hR hS (xb_d D_Whole_reckonLong 41 rfl) hw
  have hw := hw.2
  by_cases hc12 : x0 = 11
  · have hw := hw.1 hc12
    refine xt_numi hc12 ?_
    refine lv_tableIn (off := 117) (tgt := 118) hx hb (xb_d D_Whole_reckonLong 1 rfl) (by decide +kernel) (by decide +kernel) (by decide +kernel) (by decide) ?_
    refine lv_lload_n hx hb (xb_d D_Whole_reckonLong 42 rfl) rfl (lv_at hl 1 rfl) ?_
    refine lv_lload_n hx hb (xb_d D_Whole_reckonLong 43 rfl) rfl (lv_at hl 2 rfl) ?_
    refine lv_l2i hx hb (xb_d D_Whole_reckonLong 44 rfl) rfl ?_
    refine lv_lshr (v := (xb_lshr x1 (Int64.toInt32 x3))) hx hb (xb_d D_Whole_reckonLong 45 rfl) rfl ?_
    exact xb_lret 0 0 hx hb hr hlocks (show k + 0 ≤ MC by omega) (show n + 0 ≤ MS by omega) hE hR hS (xb_d D_Whole_reckonLong 46 rfl) hw
  have hw := hw.2
  by_cases hc13 : x0 = 12
  · have hw := hw.1 hc13
    refine xt_numi hc13 ?_
    refine lv_tableIn (off := 122) (tgt := 123) hx hb (xb_d D_Whole_reckonLong 1 rfl) (by decide +kernel) (by decide +kernel) (by decide +kernel) (by decide) ?_
    refine lv_lload_n hx hb (xb_d D_Whole_reckonLong 47 rfl) rfl (lv_at hl 1 rfl) ?_
    refine lv_lload_n hx hb (xb_d D_Whole_reckonLong 48 rfl) rfl (lv_at hl 2 rfl) ?_
    refine lv_l2i hx hb (xb_d D_Whole_reckonLong 49 rfl) rfl ?_
    refine lv_lushr (v := (xb_lushr x1 (Int64.toInt32 x3))) hx hb (xb_d D_Whole_reckonLong 50 rfl) rfl ?_
    exact xb_lret 0 0 hx hb hr hlocks (show k + 0 ≤ MC by omega) (show n + 0 ≤ MS by omega) hE hR hS (xb_d D_Whole_reckonLong 51 rfl) hw
  have hw := hw.2
  by_cases hc14 : x0 = 13
  · have hw := hw.1 hc14
    refine xt_numi hc14 ?_
    refine lv_tableIn (off := 127) (tgt := 128) hx hb (xb_d D_Whole_reckonLong 1 rfl) (by decide +kernel) (by decide +kernel) (by decide +kernel) (by decide) ?_
    refine lv_lload_n hx hb (xb_d D_Whole_reckonLong 52 rfl) rfl (lv_at hl 1 rfl) ?_
    refine lv_lload_n hx hb (xb_d D_Whole_reckonLong 53 rfl) rfl (lv_at hl 2 rfl) ?_
    refine lv_l2i hx hb (xb_d D_Whole_reckonLong 54 rfl) rfl ?_
    refine lv_lshl (v := (xb_lshl x1 (Int64.toInt32 x3))) hx hb (xb_d D_Whole_reckonLong 55 rfl) rfl ?_
    refine lv_lload_n hx hb (xb_d D_Whole_reckonLong 56 rfl) rfl (lv_at hl 1 rfl) ?_
    refine lv_lload_n hx hb (xb_d D_Whole_reckonLong 57 rfl) rfl (lv_at hl 2 rfl) ?_
    refine lv_lneg hx hb (xb_d D_Whole_reckonLong 58 rfl) ?_
    refine lv_l2i hx hb (xb_d D_Whole_reckonLong 59 rfl) rfl ?_
    refine lv_lushr (v := (xb_lushr x1 (Int64.toInt32 (-x3)))) hx hb (xb_d D_Whole_reckonLong 60 rfl) rfl ?_
    refine lv_lor hx hb (xb_d D_Whole_reckonLong 61 rfl) ?_
    exact xb_lret 0 0 hx hb hr hlocks (show k + 0 ≤ MC by omega) (show n + 0 ≤ MS by omega) hE hR hS (xb_d D_Whole_reckonLong 62 rfl) hw
  have hw := hw.2
  have hw := hw hc1 hc2 hc3 hc4 hc5 hc6 hc7 hc8 hc9 hc10 hc11 hc12 hc13 hc14
  refine lv_tableOut (tgt := 139) hx hb (xb_d D_Whole_reckonLong 1 rfl) (by have a0 := xb_nl (0) 0 (by decide) hc1; have a1 := xb_nl (1) 1 (by decide) hc2; have a2 := xb_nl (2) 2 (by decide) hc3; have a3 := xb_nl (3) 3 (by decide) hc4; have a4 := xb_nl (4) 4 (by decide) hc5; have a5 := xb_nl (5) 5 (by decide) hc6; have a6 := xb_nl (6) 6 (by decide) hc7; have a7 := xb_nl (7) 7 (by decide) hc8; have a8 := xb_nl (8) 8 (by decide) hc9; have a9 := xb_nl (9) 9 (by decide) hc10; have a10 := xb_nl (10) 10 (by decide) hc11; have a11 := xb_nl (11) 11 (by decide) hc12; have a12 := xb_nl (12) 12 (by decide) hc13; have a13 := xb_nl (13) 13 (by decide) hc14; omega) (by decide) ?_
  refine lv_lload_n hx hb (xb_d D_Whole_reckonLong 63 rfl) rfl (lv_at hl 1 rfl) ?_
  refine lv_lload_n hx hb (xb_d D_Whole_reckonLong 64 rfl) rfl (lv_at hl 2 rfl) ?_
  refine lv_l2i hx hb (xb_d D_Whole_reckonLong 65 rfl) rfl ?_
  refine lv_lushr (v := (xb_lushr x1 (Int64.toInt32 x3))) hx hb (xb_d D_Whole_reckonLong 66 rfl) rfl ?_
  refine lv_lload_n hx hb (xb_d D_Whole_reckonLong 67 rfl) rfl (lv_at hl 1 rfl) ?_
  refine lv_lload_n hx hb (xb_d D_Whole_reckonLong 68 rfl) rfl (lv_at hl 2 rfl) ?_
  refine lv_lneg hx hb (xb_d D_Whole_reckonLong 69 rfl) ?_
  refine lv_l2i hx hb (xb_d D_Whole_reckonLong 70 rfl) rfl ?_
  refine lv_lshl (v := (xb_lshl x1 (Int64.toInt32 (-x3)))) hx hb (xb_d D_Whole_reckonLong 71 rfl) rfl ?_
  refine lv_lor hx hb (xb_d D_Whole_reckonLong 72 rfl) ?_
  exact xb_lret 0 0 hx hb hr hlocks (show k + 0 ≤ MC by omega) (show n + 0 ≤ MS by omega) hE hR hS (xb_d D_Whole_reckonLong 73 rfl) hw

theorem m_0dd66e73 : (.fieldLink "StackHost$World" 98 "StackHost$World" "foundMemory" "LStackHost$Memory;" : Cond) ∈ xt_tbl := xt_in (xt_t1 (List.mem_of_getElem? (i := 196) (by decide +kernel))) (by decide +kernel)
theorem m_b7b853d9 : (.fieldLink "StackHost$World" 216 "StackHost$StackModule" "memories" "LStackHost$Row;" : Cond) ∈ xt_tbl := xt_in (xt_t3 (List.mem_of_getElem? (i := 79) (by decide +kernel))) (by decide +kernel)
theorem m_aaaefe3c : (.methodLink "StackHost$World" 249 y_World_ownLeast : Cond) ∈ xt_tbl := xt_in (xt_t6 (List.mem_of_getElem? (i := 190) (by decide +kernel))) (by decide +kernel)
theorem m_e4859522 : (.static y_World_ownLeast : Cond) ∈ xt_tbl := xt_in (xt_t6 (List.mem_of_getElem? (i := 191) (by decide +kernel))) (by decide +kernel)
theorem m_c12fcdc9 : (.code y_World_ownLeast b_World_ownLeast 3 (some .long) : Cond) ∈ xt_tbl := xt_in (xt_t6 (List.mem_of_getElem? (i := 192) (by decide +kernel))) (by decide +kernel)
theorem m_281426cf : (.constantLong "StackHost$World" 263 65536 : Cond) ∈ xt_tbl := xt_in (xt_t6 (List.mem_of_getElem? (i := 229) (by decide +kernel))) (by decide +kernel)
theorem m_365e6e69 : (.methodLink "StackHost$World" 260 y_Memory_bytes : Cond) ∈ xt_tbl := xt_in (xt_t6 (List.mem_of_getElem? (i := 224) (by decide +kernel))) (by decide +kernel)
theorem nm_World_ownLeast : xt_nm y_World_ownLeast 3 := ⟨by decide +kernel, by decide +kernel⟩
set_option maxRecDepth 100000 in
def T_World_bytesOf : List (Nat × Instr × Nat) := [(0, .aload_n 0, 1), (1, .getfield 98, 3), (4, .ifnull 14, 3), (7, .aload_n 0, 1), (8, .getfield 98, 3), (11, .invokevirtual 260, 3), (14, .i2l, 1), (15, .goto 16, 3), (18, .aload_n 1, 1), (19, .aload_n 1, 1), (20, .getfield 216, 3), (23, .iconst 2, 1), (24, .invokestatic 249, 3), (27, .ldc2_w 263, 3), (30, .lmul, 1), (31, .lreturn, 1)]
theorem D_World_bytesOf : ∀ q ∈ T_World_bytesOf, decode b_World_bytesOf q.1 = .ok (q.2.1, q.2.2) := by decide +kernel

set_option maxHeartbeats 4000000 in
set_option maxRecDepth 100000 in
theorem am_World_bytesOf_L31 (l : Launch) (hfl : l.flags = pinnedFlags ++ [noTraceFlag]) (D : va_G) (A : Nat → Prop) (σ MC MS : Nat) (h0 : xb_H) (Qr : Int64 → xb_H → Prop) (y0 : Int64) (h : xb_H) (hw : w_World_bytesOf_L31 Qr y0 h) : xb_am l D A σ 4 MC MS h0 (fun v h _ _ => ∃ r, v = some (.long r) ∧ Qr r h) (fun _ _ _ _ => False) y_World_bytesOf.cls y_World_bytesOf.name b_World_bytesOf 2 ([] : List ExceptionTableEntry) (some .long) 31 [] [.long y0] h 0 0 := by
  unfold w_World_bytesOf_L31 at hw
  intro p e s m args below meth c hC H locs ls k n hE hl hR hS hk hn
  obtain ⟨hx, hb, hown, hlocks, htab, hml, hr, hB, hA, hnm⟩ := id hC
  have hts := hB.1.1.at args
  exact xb_lret 0 0 hx hb hr hlocks (show k + 0 ≤ MC by omega) (show n + 0 ≤ MS by omega) hE hR hS (xb_d D_World_bytesOf 15 rfl) hw

set_option maxHeartbeats 4000000 in
set_option maxRecDepth 100000 in
theorem ok_World_bytesOf (l : Launch) (hfl : l.flags = pinnedFlags ++ [noTraceFlag]) (D : va_G) (A : Nat → Prop) (σ : Nat) (x0 : Nat) (x1 : Nat) (h : xb_H) (Qr : Int64 → xb_H → Prop) (hw : w_World_bytesOf x0 x1 h Qr) : xb_Met l y_World_bytesOf [.code y_World_bytesOf b_World_bytesOf 2 (some .long)] (xb_rm 4 0 0) (xb_Pc D A σ h [.ref x0, .ref x1]) (xb_Qc D A h 0 0 (fun v h _ _ => ∃ r, v = some (.long r) ∧ Qr r h) (fun _ _ _ _ => False)) A := by
  refine xb_ofAm (cc := b_World_bytesOf) (by decide) (Nat.le_of_ble_eq_true rfl) ?_
  unfold w_World_bytesOf at hw
  show xb_am l D A σ 4 0 0 h (fun v h _ _ => ∃ r, v = some (.long r) ∧ Qr r h) (fun _ _ _ _ => False) y_World_bytesOf.cls y_World_bytesOf.name b_World_bytesOf 2 ([] : List ExceptionTableEntry) (some .long) 0 [(0, .ref x0), (1, .ref x1)] [] h 0 0
  obtain ⟨MC, hMC⟩ : ∃ x, x = 0 := ⟨_, rfl⟩
  obtain ⟨MS, hMS⟩ : ∃ x, x = 0 := ⟨_, rfl⟩
  rw [show xb_am l D A σ 4 0 0 = xb_am l D A σ 4 MC MS by rw [hMC, hMS]]
  obtain ⟨h0, hh0⟩ : ∃ x, x = h := ⟨_, rfl⟩
  rw [show xb_am l D A σ 4 MC MS h = xb_am l D A σ 4 MC MS h0 by rw [hh0]]
  intro p e s m args below meth c hC H locs ls k n hE hl hR hS hk hn
  obtain ⟨hx, hb, hown, hlocks, htab, hml, hr, hB, hA, hnm⟩ := id hC
  have hts := hB.1.1.at args
  refine lv_aload_n hx hb (xb_d D_World_bytesOf 0 rfl) rfl (lv_at hl 0 rfl) ?_
  obtain ⟨hk1, hw⟩ := hw
  refine xb_getP (C := R_World) (T := F_World) (N := 16) hx hb 6 15 hts fin_World hown hR hk1 (by decide) rfl (by decide) rfl (hts _ m_0dd66e73) (fun _ h9 => h9) (xb_d D_World_bytesOf 1 rfl) ?_
  refine xb_split (fun ho => ?_) (fun b2 ho => ?_)
  · have hw := hw.1 ho
    refine lv_ifnullN (tgt := 18) hx hb (xb_d D_World_bytesOf 2 rfl) rfl ?_
    refine lv_aload_n hx hb (xb_d D_World_bytesOf 8 rfl) rfl (lv_at hl 1 rfl) ?_
    refine lv_aload_n hx hb (xb_d D_World_bytesOf 9 rfl) rfl (lv_at hl 1 rfl) ?_
    obtain ⟨hk3, hw⟩ := hw
    refine xb_getP (C := R_StackModule) (T := F_StackModule) (N := 19) hx hb 2 6 hts fin_StackModule hown hR hk3 (by decide) rfl (by decide) rfl (hts _ m_b7b853d9) (fun _ h9 => h9) (xb_d D_World_bytesOf 10 rfl) ?_
    obtain ⟨b4, eb4, hw⟩ := hw
    refine xb_some eb4 ?_
    refine lv_iconst (v := 2) hx hb (xb_d D_World_bytesOf 11 rfl) (by decide) ?_
    refine xb_call0 (D := D) (A := A) (σ := σ) (h := h) (d := 3) (maxL := 3) (rest := []) (av := [.ref x1, .ref b4, .int 2]) (fun T hT X => xt_invS X hx hown (hts _ m_aaaefe3c) (hts _ m_e4859522) (hts _ m_4534b440) (xt_sgS (hts _ m_c12fcdc9)).1 (xt_sgS (hts _ m_c12fcdc9)).2 nm_World_ownLeast (g := F0 m 24 ls [.int 2, .ref b4, .ref x1]) rfl (argsL := [.ref x1, .ref b4, .int 2]) (rest := []) rfl rfl (by rw [hb]; exact (xb_d D_World_bytesOf 12 rfl))) (ok_World_ownLeast l hfl D A σ x1 b4 2 h _ hw) (hml.trans hl.1.symm) (by rw [hb]; exact (xb_d D_World_bytesOf 12 rfl)) (Nat.le_of_ble_eq_true rfl) (Nat.le_of_ble_eq_true rfl) (Nat.le_of_ble_eq_true rfl) (show k ≤ MC by omega) (show n ≤ MS by omega) (xt_w1 hB.1 m_c12fcdc9) (xt_cdOf hB.1 m_c12fcdc9) (hts _ m_4534b440) hB hR hS hA (fun vv h5 H locs hq hEh5 hR hS => ?_)
    obtain ⟨r6, rfl, hw⟩ := hq
    have hw := hw hEh5
    have hE := hE.tr hEh5
    refine W.eq (g2 := F0 m 27 ls [.long r6]) rfl ?_
    refine lv_ldc2 (v := 65536) hx hb hown (hts _ m_281426cf) (xb_d D_World_bytesOf 13 rfl) ?_
    refine lv_lmul hx hb (xb_d D_World_bytesOf 14 rfl) ?_
    exact am_World_bytesOf_L31 l hfl D A σ MC MS h0 Qr (r6 * 65536) h5 hw p e s m args below meth c hC H locs ls k n hE (lv_sub hl [] rfl) hR hS (by omega) (by omega)
  · have hw := hw.2 b2 ho
    refine lv_ifnull hx hb (xb_d D_World_bytesOf 2 rfl) ?_
    refine lv_aload_n hx hb (xb_d D_World_bytesOf 3 rfl) rfl (lv_at hl 0 rfl) ?_
    refine xb_getP (C := R_World) (T := F_World) (N := 16) hx hb 6 15 hts fin_World hown hR hk1 (by decide) rfl (by decide) rfl (hts _ m_0dd66e73) (fun _ h9 => h9) (xb_d D_World_bytesOf 4 rfl) ?_
    obtain ⟨b7, eb7, hw⟩ := hw
    refine xb_some eb7 ?_
    obtain ⟨hk8, hw⟩ := hw
    refine xb_call0 (D := D) (A := A) (σ := σ) (h := h) (d := 2) (maxL := 1) (rest := []) (av := [.ref b7]) (fun T hT X => by obtain ⟨cb9, ra9, rb9, rc9⟩ := xb_recv (ci := 12) hR rfl hk8 (by decide); exact xt_invV X hx hown (hts _ m_365e6e69) (hts _ m_68bf618d) (hts _ m_e440a9a2) (xt_sigOf (hts _ m_f2e0b002)) nm_Memory_bytes (by rw [hT]; exact ra9) rb9 rc9 (g := F0 m 11 ls [.ref b7]) rfl (argsL := []) (rest := []) rfl rfl (by rw [hb]; exact (xb_d D_World_bytesOf 5 rfl))) (ok_Memory_bytes l hfl D A σ b7 h _ hw) (hml.trans hl.1.symm) (by rw [hb]; exact (xb_d D_World_bytesOf 5 rfl)) (Nat.le_of_ble_eq_true rfl) (Nat.le_of_ble_eq_true rfl) (Nat.le_of_ble_eq_true rfl) (show k ≤ MC by omega) (show n ≤ MS by omega) (xt_w1 hB.1 m_f2e0b002) (xt_cdOf hB.1 m_f2e0b002) (hts _ m_e7289b5f) hB hR hS hA (fun vv h9 H locs hq hEh9 hR hS => ?_)
    obtain ⟨r10, rfl, hw⟩ := hq
    have hw := hw hEh9
    have hE := hE.tr hEh9
    refine W.eq (g2 := F0 m 14 ls [.int r10]) rfl ?_
    refine lv_i2l hx hb (xb_d D_World_bytesOf 6 rfl) rfl ?_
    refine lv_goto (tgt := 31) hx hb (xb_d D_World_bytesOf 7 rfl) rfl ?_
    exact am_World_bytesOf_L31 l hfl D A σ MC MS h0 Qr (Int32.toInt64 r10) h9 hw p e s m args below meth c hC H locs ls k n hE (lv_sub hl [] rfl) hR hS (by omega) (by omega)

theorem m_ed0a73ed : (.fieldLink "StackHost$World" 94 "StackHost$World" "foundTable" "LStackHost$Table;" : Cond) ∈ xt_tbl := xt_in (xt_t1 (List.mem_of_getElem? (i := 194) (by decide +kernel))) (by decide +kernel)
theorem m_dbd9d8fa : (.fieldLink "StackHost$World" 199 "StackHost$StackModule" "tables" "LStackHost$Row;" : Cond) ∈ xt_tbl := xt_in (xt_t3 (List.mem_of_getElem? (i := 73) (by decide +kernel))) (by decide +kernel)
theorem m_d3fe0b65 : (.fieldLink "StackHost$World" 202 "StackHost$Table" "size" "I" : Cond) ∈ xt_tbl := xt_in (xt_t7 (List.mem_of_getElem? (i := 55) (by decide +kernel))) (by decide +kernel)
set_option maxRecDepth 100000 in
def T_World_elementsOf : List (Nat × Instr × Nat) := [(0, .aload_n 0, 1), (1, .getfield 94, 3), (4, .ifnull 14, 3), (7, .aload_n 0, 1), (8, .getfield 94, 3), (11, .getfield 202, 3), (14, .i2l, 1), (15, .goto 12, 3), (18, .aload_n 1, 1), (19, .aload_n 1, 1), (20, .getfield 199, 3), (23, .iconst 1, 1), (24, .invokestatic 249, 3), (27, .lreturn, 1)]
theorem D_World_elementsOf : ∀ q ∈ T_World_elementsOf, decode b_World_elementsOf q.1 = .ok (q.2.1, q.2.2) := by decide +kernel

set_option maxHeartbeats 4000000 in
set_option maxRecDepth 100000 in
theorem am_World_elementsOf_L27 (l : Launch) (hfl : l.flags = pinnedFlags ++ [noTraceFlag]) (D : va_G) (A : Nat → Prop) (σ MC MS : Nat) (h0 : xb_H) (Qr : Int64 → xb_H → Prop) (y0 : Int64) (h : xb_H) (hw : w_World_elementsOf_L27 Qr y0 h) : xb_am l D A σ 4 MC MS h0 (fun v h _ _ => ∃ r, v = some (.long r) ∧ Qr r h) (fun _ _ _ _ => False) y_World_elementsOf.cls y_World_elementsOf.name b_World_elementsOf 2 ([] : List ExceptionTableEntry) (some .long) 27 [] [.long y0] h 0 0 := by
  unfold w_World_elementsOf_L27 at hw
  intro p e s m args below meth c hC H locs ls k n hE hl hR hS hk hn
  obtain ⟨hx, hb, hown, hlocks, htab, hml, hr, hB, hA, hnm⟩ := id hC
  have hts := hB.1.1.at args
  exact xb_lret 0 0 hx hb hr hlocks (show k + 0 ≤ MC by omega) (show n + 0 ≤ MS by omega) hE hR hS (xb_d D_World_elementsOf 13 rfl) hw

set_option maxHeartbeats 4000000 in
set_option maxRecDepth 100000 in
theorem ok_World_elementsOf (l : Launch) (hfl : l.flags = pinnedFlags ++ [noTraceFlag]) (D : va_G) (A : Nat → Prop) (σ : Nat) (x0 : Nat) (x1 : Nat) (h : xb_H) (Qr : Int64 → xb_H → Prop) (hw : w_World_elementsOf x0 x1 h Qr) : xb_Met l y_World_elementsOf [.code y_World_elementsOf b_World_elementsOf 2 (some .long)] (xb_rm 4 0 0) (xb_Pc D A σ h [.ref x0, .ref x1]) (xb_Qc D A h 0 0 (fun v h _ _ => ∃ r, v = some (.long r) ∧ Qr r h) (fun _ _ _ _ => False)) A := by
  refine xb_ofAm (cc := b_World_elementsOf) (by decide) (Nat.le_of_ble_eq_true rfl) ?_
  unfold w_World_elementsOf at hw
  show xb_am l D A σ 4 0 0 h (fun v h _ _ => ∃ r, v = some (.long r) ∧ Qr r h) (fun _ _ _ _ => False) y_World_elementsOf.cls y_World_elementsOf.name b_World_elementsOf 2 ([] : List ExceptionTableEntry) (some .long) 0 [(0, .ref x0), (1, .ref x1)] [] h 0 0
  obtain ⟨MC, hMC⟩ : ∃ x, x = 0 := ⟨_, rfl⟩
  obtain ⟨MS, hMS⟩ : ∃ x, x = 0 := ⟨_, rfl⟩
  rw [show xb_am l D A σ 4 0 0 = xb_am l D A σ 4 MC MS by rw [hMC, hMS]]
  obtain ⟨h0, hh0⟩ : ∃ x, x = h := ⟨_, rfl⟩
  rw [show xb_am l D A σ 4 MC MS h = xb_am l D A σ 4 MC MS h0 by rw [hh0]]
  intro p e s m args below meth c hC H locs ls k n hE hl hR hS hk hn
  obtain ⟨hx, hb, hown, hlocks, htab, hml, hr, hB, hA, hnm⟩ := id hC
  have hts := hB.1.1.at args
  refine lv_aload_n hx hb (xb_d D_World_elementsOf 0 rfl) rfl (lv_at hl 0 rfl) ?_
  obtain ⟨hk1, hw⟩ := hw
  refine xb_getP (C := R_World) (T := F_World) (N := 16) hx hb 6 14 hts fin_World hown hR hk1 (by decide) rfl (by decide) rfl (hts _ m_ed0a73ed) (fun _ h9 => h9) (xb_d D_World_elementsOf 1 rfl) ?_
  refine xb_split (fun ho => ?_) (fun b2 ho => ?_)
  · have hw := hw.1 ho
    refine lv_ifnullN (tgt := 18) hx hb (xb_d D_World_elementsOf 2 rfl) rfl ?_
    refine lv_aload_n hx hb (xb_d D_World_elementsOf 8 rfl) rfl (lv_at hl 1 rfl) ?_
    refine lv_aload_n hx hb (xb_d D_World_elementsOf 9 rfl) rfl (lv_at hl 1 rfl) ?_
    obtain ⟨hk3, hw⟩ := hw
    refine xb_getP (C := R_StackModule) (T := F_StackModule) (N := 19) hx hb 2 5 hts fin_StackModule hown hR hk3 (by decide) rfl (by decide) rfl (hts _ m_dbd9d8fa) (fun _ h9 => h9) (xb_d D_World_elementsOf 10 rfl) ?_
    obtain ⟨b4, eb4, hw⟩ := hw
    refine xb_some eb4 ?_
    refine lv_iconst (v := 1) hx hb (xb_d D_World_elementsOf 11 rfl) (by decide) ?_
    refine xb_call0 (D := D) (A := A) (σ := σ) (h := h) (d := 3) (maxL := 3) (rest := []) (av := [.ref x1, .ref b4, .int 1]) (fun T hT X => xt_invS X hx hown (hts _ m_aaaefe3c) (hts _ m_e4859522) (hts _ m_4534b440) (xt_sgS (hts _ m_c12fcdc9)).1 (xt_sgS (hts _ m_c12fcdc9)).2 nm_World_ownLeast (g := F0 m 24 ls [.int 1, .ref b4, .ref x1]) rfl (argsL := [.ref x1, .ref b4, .int 1]) (rest := []) rfl rfl (by rw [hb]; exact (xb_d D_World_elementsOf 12 rfl))) (ok_World_ownLeast l hfl D A σ x1 b4 1 h _ hw) (hml.trans hl.1.symm) (by rw [hb]; exact (xb_d D_World_elementsOf 12 rfl)) (Nat.le_of_ble_eq_true rfl) (Nat.le_of_ble_eq_true rfl) (Nat.le_of_ble_eq_true rfl) (show k ≤ MC by omega) (show n ≤ MS by omega) (xt_w1 hB.1 m_c12fcdc9) (xt_cdOf hB.1 m_c12fcdc9) (hts _ m_4534b440) hB hR hS hA (fun vv h5 H locs hq hEh5 hR hS => ?_)
    obtain ⟨r6, rfl, hw⟩ := hq
    have hw := hw hEh5
    have hE := hE.tr hEh5
    refine W.eq (g2 := F0 m 27 ls [.long r6]) rfl ?_
    exact am_World_elementsOf_L27 l hfl D A σ MC MS h0 Qr r6 h5 hw p e s m args below meth c hC H locs ls k n hE (lv_sub hl [] rfl) hR hS (by omega) (by omega)
  · have hw := hw.2 b2 ho
    refine lv_ifnull hx hb (xb_d D_World_elementsOf 2 rfl) ?_
    refine lv_aload_n hx hb (xb_d D_World_elementsOf 3 rfl) rfl (lv_at hl 0 rfl) ?_
    refine xb_getP (C := R_World) (T := F_World) (N := 16) hx hb 6 14 hts fin_World hown hR hk1 (by decide) rfl (by decide) rfl (hts _ m_ed0a73ed) (fun _ h9 => h9) (xb_d D_World_elementsOf 4 rfl) ?_
    obtain ⟨b7, eb7, hw⟩ := hw
    refine xb_some eb7 ?_
    obtain ⟨hk8, hw⟩ := hw
    refine xb_getI (C := R_Table) (T := F_Table) (N := 3) hx hb 11 1 hts fin_Table hown hR hk8 (by decide) rfl (by decide) rfl (hts _ m_d3fe0b65) (fun _ h9 => h9) (xb_d D_World_elementsOf 5 rfl) ?_
    refine lv_i2l hx hb (xb_d D_World_elementsOf 6 rfl) rfl ?_
    refine lv_goto (tgt := 27) hx hb (xb_d D_World_elementsOf 7 rfl) rfl ?_
    exact am_World_elementsOf_L27 l hfl D A σ MC MS h0 Qr (Int32.toInt64 (xb_i h b7 1)) h hw p e s m args below meth c hC H locs ls k n hE (lv_sub hl [] rfl) hR hS (by omega) (by omega)

theorem m_84358e4b : (.methodLink "StackHost$World" 183 y_World_ownerOf : Cond) ∈ xt_tbl := xt_in (xt_t6 (List.mem_of_getElem? (i := 139) (by decide +kernel))) (by decide +kernel)
theorem m_22811004 : (.fieldLink "StackHost$World" 148 "StackHost$Instance" "module" "LStackHost$StackModule;" : Cond) ∈ xt_tbl := xt_in (xt_t7 (List.mem_of_getElem? (i := 5) (by decide +kernel))) (by decide +kernel)
theorem m_e099c950 : (.methodLink "StackHost$World" 187 y_Instance_numberOf : Cond) ∈ xt_tbl := xt_in (xt_t6 (List.mem_of_getElem? (i := 143) (by decide +kernel))) (by decide +kernel)
theorem m_a6959a1f : (.methodLink "StackHost$World" 165 y_StackModule_typeOf : Cond) ∈ xt_tbl := xt_in (xt_t6 (List.mem_of_getElem? (i := 131) (by decide +kernel))) (by decide +kernel)
theorem m_a05a316c : (.methodLink "StackHost$World" 190 y_StackModule_sameType : Cond) ∈ xt_tbl := xt_in (xt_t6 (List.mem_of_getElem? (i := 147) (by decide +kernel))) (by decide +kernel)
theorem m_6fc80bc6 : (.instanceMethod y_StackModule_sameType : Cond) ∈ xt_tbl := xt_in (xt_t6 (List.mem_of_getElem? (i := 148) (by decide +kernel))) (by decide +kernel)
theorem m_86df440b : (.selects "StackHost$StackModule" y_StackModule_sameType y_StackModule_sameType : Cond) ∈ xt_tbl := xt_in (xt_t6 (List.mem_of_getElem? (i := 149) (by decide +kernel))) (by decide +kernel)
theorem m_a750e73b : (.code y_StackModule_sameType b_StackModule_sameType 6 (some .boolean) : Cond) ∈ xt_tbl := xt_in (xt_t6 (List.mem_of_getElem? (i := 150) (by decide +kernel))) (by decide +kernel)
theorem m_ad940516 : (.methodLink "StackHost$World" 173 y_StackModule_parameters : Cond) ∈ xt_tbl := xt_in (xt_t6 (List.mem_of_getElem? (i := 136) (by decide +kernel))) (by decide +kernel)
theorem m_bedf49fe : (.methodLink "StackHost$World" 176 y_StackModule_hasResult : Cond) ∈ xt_tbl := xt_in (xt_t6 (List.mem_of_getElem? (i := 137) (by decide +kernel))) (by decide +kernel)
theorem m_2580e83c : (.methodLink "StackHost$World" 180 y_StackModule_parameterType : Cond) ∈ xt_tbl := xt_in (xt_t6 (List.mem_of_getElem? (i := 138) (by decide +kernel))) (by decide +kernel)
theorem nm_StackModule_sameType : xt_nm y_StackModule_sameType 3 := ⟨by decide +kernel, by decide +kernel⟩
set_option maxRecDepth 100000 in
def T_World_fits : List (Nat × Instr × Nat) := [(0, .iload_n 1, 1), (1, .sipush 8192, 3), (4, .if_icmp .lt 43, 3), (7, .aload_n 2, 1), (8, .iload_n 3, 1), (9, .invokevirtual 173, 3), (12, .iconst 1, 1), (13, .if_icmp .ne 32, 3), (16, .aload_n 2, 1), (17, .iload_n 3, 1), (18, .invokevirtual 176, 3), (21, .ifCond .ne 24, 3), (24, .aload_n 2, 1), (25, .iload_n 3, 1), (26, .iconst 0, 1), (27, .invokevirtual 180, 3), (30, .bipush 127, 2), (32, .iload_n 1, 1), (33, .sipush 8192, 3), (36, .isub, 1), (37, .isub, 1), (38, .if_icmp .ne 7, 3), (41, .iconst 1, 1), (42, .goto 4, 3), (45, .iconst 0, 1), (46, .ireturn, 1), (47, .aload_n 0, 1), (48, .iload_n 1, 1), (49, .invokevirtual 183, 3), (52, .astore 4, 2), (54, .aload 4, 2), (56, .getfield 148, 3), (59, .aload 4, 2), (61, .getfield 148, 3), (64, .aload 4, 2), (66, .iload_n 1, 1), (67, .invokevirtual 187, 3), (70, .invokevirtual 165, 3), (73, .aload_n 2, 1), (74, .iload_n 3, 1), (75, .invokevirtual 190, 3), (78, .ireturn, 1)]
theorem D_World_fits : ∀ q ∈ T_World_fits, decode b_World_fits q.1 = .ok (q.2.1, q.2.2) := by decide +kernel

set_option maxHeartbeats 4000000 in
set_option maxRecDepth 100000 in
theorem am_World_fits_L46 (l : Launch) (hfl : l.flags = pinnedFlags ++ [noTraceFlag]) (D : va_G) (A : Nat → Prop) (σ MC MS : Nat) (h0 : xb_H) (Qr : Int32 → xb_H → Prop) (y0 : Int32) (h : xb_H) (hw : w_World_fits_L46 Qr y0 h) : xb_am l D A σ 4 MC MS h0 (fun v h _ _ => ∃ r, v = some (.int r) ∧ Qr r h) (fun _ _ _ _ => False) y_World_fits.cls y_World_fits.name b_World_fits 5 ([] : List ExceptionTableEntry) (some .boolean) 46 [] [.int y0] h 0 0 := by
  unfold w_World_fits_L46 at hw
  intro p e s m args below meth c hC H locs ls k n hE hl hR hS hk hn
  obtain ⟨hx, hb, hown, hlocks, htab, hml, hr, hB, hA, hnm⟩ := id hC
  have hts := hB.1.1.at args
  exact xb_zret 0 0 hx hb hr hlocks (show k + 0 ≤ MC by omega) (show n + 0 ≤ MS by omega) hw.1 hE hR hS (xb_d D_World_fits 25 rfl) hw.2

set_option maxHeartbeats 4000000 in
set_option maxRecDepth 100000 in
theorem am_World_fits_L45 (l : Launch) (hfl : l.flags = pinnedFlags ++ [noTraceFlag]) (D : va_G) (A : Nat → Prop) (σ MC MS : Nat) (h0 : xb_H) (Qr : Int32 → xb_H → Prop) (h : xb_H) (hw : w_World_fits_L45 Qr h) : xb_am l D A σ 4 MC MS h0 (fun v h _ _ => ∃ r, v = some (.int r) ∧ Qr r h) (fun _ _ _ _ => False) y_World_fits.cls y_World_fits.name b_World_fits 5 ([] : List ExceptionTableEntry) (some .boolean) 45 [] [] h 0 0 := by
  unfold w_World_fits_L45 at hw
  intro p e s m args below meth c hC H locs ls k n hE hl hR hS hk hn
  obtain ⟨hx, hb, hown, hlocks, htab, hml, hr, hB, hA, hnm⟩ := id hC
  have hts := hB.1.1.at args
  refine lv_iconst (v := 0) hx hb (xb_d D_World_fits 24 rfl) (by decide) ?_
  exact am_World_fits_L46 l hfl D A σ MC MS h0 Qr 0 h hw p e s m args below meth c hC H locs ls k n hE (lv_sub hl [] rfl) hR hS (by omega) (by omega)

set_option maxHeartbeats 4000000 in
set_option maxRecDepth 100000 in
theorem ok_World_fits (l : Launch) (hfl : l.flags = pinnedFlags ++ [noTraceFlag]) (D : va_G) (A : Nat → Prop) (σ : Nat) (x0 : Nat) (x1 : Int32) (x2 : Nat) (x3 : Int32) (h : xb_H) (Qr : Int32 → xb_H → Prop) (hw : w_World_fits x0 x1 x2 x3 h Qr) : xb_Met l y_World_fits [.code y_World_fits b_World_fits 5 (some .boolean)] (xb_rm 4 0 0) (xb_Pc D A σ h [.ref x0, .int x1, .ref x2, .int x3]) (xb_Qc D A h 0 0 (fun v h _ _ => ∃ r, v = some (.int r) ∧ Qr r h) (fun _ _ _ _ => False)) A := by
  refine xb_ofAm (cc := b_World_fits) (by decide) (Nat.le_of_ble_eq_true rfl) ?_
  unfold w_World_fits at hw
  show xb_am l D A σ 4 0 0 h (fun v h _ _ => ∃ r, v = some (.int r) ∧ Qr r h) (fun _ _ _ _ => False) y_World_fits.cls y_World_fits.name b_World_fits 5 ([] : List ExceptionTableEntry) (some .boolean) 0 [(0, .ref x0), (1, .int x1), (2, .ref x2), (3, .int x3)] [] h 0 0
  obtain ⟨MC, hMC⟩ : ∃ x, x = 0 := ⟨_, rfl⟩
  obtain ⟨MS, hMS⟩ : ∃ x, x = 0 := ⟨_, rfl⟩
  rw [show xb_am l D A σ 4 0 0 = xb_am l D A σ 4 MC MS by rw [hMC, hMS]]
  obtain ⟨h0, hh0⟩ : ∃ x, x = h := ⟨_, rfl⟩
  rw [show xb_am l D A σ 4 MC MS h = xb_am l D A σ 4 MC MS h0 by rw [hh0]]
  intro p e s m args below meth c hC H locs ls k n hE hl hR hS hk hn
  obtain ⟨hx, hb, hown, hlocks, htab, hml, hr, hB, hA, hnm⟩ := id hC
  have hts := hB.1.1.at args
  refine lv_iload_n hx hb (xb_d D_World_fits 0 rfl) rfl (lv_at hl 1 rfl) ?_
  refine lv_sipush (v := 8192) hx hb (xb_d D_World_fits 1 rfl) (by decide) ?_
  refine lv_icmp_lt (tgt := 47) hx hb (xb_d D_World_fits 2 rfl) rfl (fun hc1 => ?_) (fun hc1 => ?_)
  · have hw := hw.1 hc1
    refine lv_aload_n hx hb (xb_d D_World_fits 26 rfl) rfl (lv_at hl 0 rfl) ?_
    refine lv_iload_n hx hb (xb_d D_World_fits 27 rfl) rfl (lv_at hl 1 rfl) ?_
    obtain ⟨hk2, hw⟩ := hw
    refine xb_call0 (D := D) (A := A) (σ := σ) (h := h) (d := 3) (maxL := 2) (rest := []) (av := [.ref x0, .int x1]) (fun T hT X => by obtain ⟨cb9, ra9, rb9, rc9⟩ := xb_recv (ci := 6) hR rfl hk2 (by decide); exact xt_invV X hx hown (hts _ m_84358e4b) (hts _ m_905f65dc) (hts _ m_94d0d6f7) (xt_sigOf (hts _ m_267eaad3)) nm_World_ownerOf (by rw [hT]; exact ra9) rb9 rc9 (g := F0 m 49 ls [.int x1, .ref x0]) rfl (argsL := [.int x1]) (rest := []) rfl rfl (by rw [hb]; exact (xb_d D_World_fits 28 rfl))) (ok_World_ownerOf l hfl D A σ x0 x1 h _ hw) (hml.trans hl.1.symm) (by rw [hb]; exact (xb_d D_World_fits 28 rfl)) (Nat.le_of_ble_eq_true rfl) (Nat.le_of_ble_eq_true rfl) (Nat.le_of_ble_eq_true rfl) (show k ≤ MC by omega) (show n ≤ MS by omega) (xt_w1 hB.1 m_267eaad3) (xt_cdOf hB.1 m_267eaad3) (hts _ m_4534b440) hB hR hS hA (fun vv h3 H locs hq hEh3 hR hS => ?_)
    obtain ⟨r4, rfl, hw⟩ := hq
    have hw := hw hEh3
    have hE := hE.tr hEh3
    refine W.eq (g2 := F0 m 52 ls [.ref r4]) rfl ?_
    refine lv_astore hx hb (xb_d D_World_fits 29 rfl) hl (by decide) rfl (fun ls hl => ?_)
    have hl : lv_has ls 5 [(4, .ref r4), (0, .ref x0), (1, .int x1), (2, .ref x2), (3, .int x3)] := hl
    refine lv_aload hx hb (xb_d D_World_fits 30 rfl) (lv_at hl 0 rfl) ?_
    obtain ⟨hk5, hw⟩ := hw
    refine xb_getP (C := R_Instance) (T := F_Instance) (N := 8) hx hb 10 1 hts fin_Instance hown hR hk5 (by decide) rfl (by decide) rfl (hts _ m_22811004) (fun _ h9 => h9) (xb_d D_World_fits 31 rfl) ?_
    obtain ⟨b6, eb6, hw⟩ := hw
    refine xb_some eb6 ?_
    refine lv_aload hx hb (xb_d D_World_fits 32 rfl) (lv_at hl 0 rfl) ?_
    refine xb_getP (C := R_Instance) (T := F_Instance) (N := 8) hx hb 10 1 hts fin_Instance hown hR hk5 (by decide) rfl (by decide) rfl (hts _ m_22811004) (fun _ h9 => h9) (xb_d D_World_fits 33 rfl) ?_
    obtain ⟨b7, eb7, hw⟩ := hw
    refine xb_some eb7 ?_
    refine lv_aload hx hb (xb_d D_World_fits 34 rfl) (lv_at hl 0 rfl) ?_
    refine lv_iload_n hx hb (xb_d D_World_fits 35 rfl) rfl (lv_at hl 2 rfl) ?_
    refine xb_call0 (D := D) (A := A) (σ := σ) (h := h3) (d := 2) (maxL := 2) (rest := [.ref b7, .ref b6]) (av := [.ref r4, .int x1]) (fun T hT X => by obtain ⟨cb9, ra9, rb9, rc9⟩ := xb_recv (ci := 10) hR rfl hk5 (by decide); exact xt_invV X hx hown (hts _ m_e099c950) (hts _ m_5272c608) (hts _ m_455039e8) (xt_sigOf (hts _ m_bf66480a)) nm_Instance_numberOf (by rw [hT]; exact ra9) rb9 rc9 (g := F0 m 67 ls [.int x1, .ref r4, .ref b7, .ref b6]) rfl (argsL := [.int x1]) (rest := [.ref b7, .ref b6]) rfl rfl (by rw [hb]; exact (xb_d D_World_fits 36 rfl))) (ok_Instance_numberOf l hfl D A σ r4 x1 h3 _ hw) (hml.trans hl.1.symm) (by rw [hb]; exact (xb_d D_World_fits 36 rfl)) (Nat.le_of_ble_eq_true rfl) (Nat.le_of_ble_eq_true rfl) (Nat.le_of_ble_eq_true rfl) (show k ≤ MC by omega) (show n ≤ MS by omega) (xt_w1 hB.1 m_bf66480a) (xt_cdOf hB.1 m_bf66480a) (hts _ m_7a4e907b) hB hR hS hA (fun vv h8 H locs hq hEh8 hR hS => ?_)
    obtain ⟨r9, rfl, hw⟩ := hq
    have hw := hw hEh8
    have hE := hE.tr hEh8
    refine W.eq (g2 := F0 m 70 ls [.int r9, .ref b7, .ref b6]) rfl ?_
    obtain ⟨hk10, hw⟩ := hw
    refine xb_call0 (D := D) (A := A) (σ := σ) (h := h8) (d := 3) (maxL := 2) (rest := [.ref b6]) (av := [.ref b7, .int r9]) (fun T hT X => by obtain ⟨cb9, ra9, rb9, rc9⟩ := xb_recv (ci := 2) hR rfl hk10 (by decide); exact xt_invV X hx hown (hts _ m_a6959a1f) (hts _ m_eb5729e5) (hts _ m_9cf0d8be) (xt_sigOf (hts _ m_42e2443a)) nm_StackModule_typeOf (by rw [hT]; exact ra9) rb9 rc9 (g := F0 m 70 ls [.int r9, .ref b7, .ref b6]) rfl (argsL := [.int r9]) (rest := [.ref b6]) rfl rfl (by rw [hb]; exact (xb_d D_World_fits 37 rfl))) (ok_StackModule_typeOf l hfl D A σ b7 r9 h8 _ hw) (hml.trans hl.1.symm) (by rw [hb]; exact (xb_d D_World_fits 37 rfl)) (Nat.le_of_ble_eq_true rfl) (Nat.le_of_ble_eq_true rfl) (Nat.le_of_ble_eq_true rfl) (show k ≤ MC by omega) (show n ≤ MS by omega) (xt_w1 hB.1 m_42e2443a) (xt_cdOf hB.1 m_42e2443a) (hts _ m_9c375545) hB hR hS hA (fun vv h11 H locs hq hEh11 hR hS => ?_)
    obtain ⟨r12, rfl, hw⟩ := hq
    have hw := hw hEh11
    have hE := hE.tr hEh11
    refine W.eq (g2 := F0 m 73 ls [.int r12, .ref b6]) rfl ?_
    refine lv_aload_n hx hb (xb_d D_World_fits 38 rfl) rfl (lv_at hl 3 rfl) ?_
    refine lv_iload_n hx hb (xb_d D_World_fits 39 rfl) rfl (lv_at hl 4 rfl) ?_
    obtain ⟨hk13, hw⟩ := hw
    refine xb_call0 (D := D) (A := A) (σ := σ) (h := h11) (d := 3) (maxL := 6) (rest := []) (av := [.ref b6, .int r12, .ref x2, .int x3]) (fun T hT X => by obtain ⟨cb9, ra9, rb9, rc9⟩ := xb_recv (ci := 2) hR rfl hk13 (by decide); exact xt_invV X hx hown (hts _ m_a05a316c) (hts _ m_6fc80bc6) (hts _ m_86df440b) (xt_sigOf (hts _ m_a750e73b)) nm_StackModule_sameType (by rw [hT]; exact ra9) rb9 rc9 (g := F0 m 75 ls [.int x3, .ref x2, .int r12, .ref b6]) rfl (argsL := [.int r12, .ref x2, .int x3]) (rest := []) rfl rfl (by rw [hb]; exact (xb_d D_World_fits 40 rfl))) (ok_StackModule_sameType l hfl D A σ b6 r12 x2 x3 h11 _ hw) (hml.trans hl.1.symm) (by rw [hb]; exact (xb_d D_World_fits 40 rfl)) (Nat.le_of_ble_eq_true rfl) (Nat.le_of_ble_eq_true rfl) (Nat.le_of_ble_eq_true rfl) (show k ≤ MC by omega) (show n ≤ MS by omega) (xt_w1 hB.1 m_a750e73b) (xt_cdOf hB.1 m_a750e73b) (hts _ m_9c375545) hB hR hS hA (fun vv h14 H locs hq hEh14 hR hS => ?_)
    obtain ⟨r15, rfl, hw⟩ := hq
    have hw := hw hEh14
    have hE := hE.tr hEh14
    refine W.eq (g2 := F0 m 78 ls [.int r15]) rfl ?_
    exact xb_zret 0 0 hx hb hr hlocks (show k + 0 ≤ MC by omega) (show n + 0 ≤ MS by omega) hw.1 hE hR hS (xb_d D_World_fits 41 rfl) hw.2
  · have hw := hw.2 hc1
    refine lv_aload_n hx hb (xb_d D_World_fits 3 rfl) rfl (lv_at hl 2 rfl) ?_
    refine lv_iload_n hx hb (xb_d D_World_fits 4 rfl) rfl (lv_at hl 3 rfl) ?_
    obtain ⟨hk16, hw⟩ := hw
    refine xb_call0 (D := D) (A := A) (σ := σ) (h := h) (d := 3) (maxL := 2) (rest := []) (av := [.ref x2, .int x3]) (fun T hT X => by obtain ⟨cb9, ra9, rb9, rc9⟩ := xb_recv (ci := 2) hR rfl hk16 (by decide); exact xt_invV X hx hown (hts _ m_ad940516) (hts _ m_aa97372f) (hts _ m_8160d9b3) (xt_sigOf (hts _ m_8621e59b)) nm_StackModule_parameters (by rw [hT]; exact ra9) rb9 rc9 (g := F0 m 9 ls [.int x3, .ref x2]) rfl (argsL := [.int x3]) (rest := []) rfl rfl (by rw [hb]; exact (xb_d D_World_fits 5 rfl))) (ok_StackModule_parameters l hfl D A σ x2 x3 h _ hw) (hml.trans hl.1.symm) (by rw [hb]; exact (xb_d D_World_fits 5 rfl)) (Nat.le_of_ble_eq_true rfl) (Nat.le_of_ble_eq_true rfl) (Nat.le_of_ble_eq_true rfl) (show k ≤ MC by omega) (show n ≤ MS by omega) (xt_w1 hB.1 m_8621e59b) (xt_cdOf hB.1 m_8621e59b) (hts _ m_9c375545) hB hR hS hA (fun vv h17 H locs hq hEh17 hR hS => ?_)
    obtain ⟨r18, rfl, hw⟩ := hq
    have hw := hw hEh17
    have hE := hE.tr hEh17
    refine W.eq (g2 := F0 m 12 ls [.int r18]) rfl ?_
    refine lv_iconst (v := 1) hx hb (xb_d D_World_fits 6 rfl) (by decide) ?_
    refine lv_icmp_ne (tgt := 45) hx hb (xb_d D_World_fits 7 rfl) rfl (fun hc19 => ?_) (fun hc19 => ?_)
    · have hw := hw.1 hc19
      exact am_World_fits_L45 l hfl D A σ MC MS h0 Qr h17 hw p e s m args below meth c hC H locs ls k n hE (lv_sub hl [] rfl) hR hS (by omega) (by omega)
    · have hw := hw.2 hc19
      refine lv_aload_n hx hb (xb_d D_World_fits 8 rfl) rfl (lv_at hl 2 rfl) ?_
      refine lv_iload_n hx hb (xb_d D_World_fits 9 rfl) rfl (lv_at hl 3 rfl) ?_
      have hk16 : xb_k h17 x2 = 3 := hEh17.k hk16
      refine xb_call0 (D := D) (A := A) (σ := σ) (h := h17) (d := 3) (maxL := 2) (rest := []) (av := [.ref x2, .int x3]) (fun T hT X => by obtain ⟨cb9, ra9, rb9, rc9⟩ := xb_recv (ci := 2) hR rfl hk16 (by decide); exact xt_invV X hx hown (hts _ m_bedf49fe) (hts _ m_00587e6f) (hts _ m_d605b1a5) (xt_sigOf (hts _ m_ac93cd0b)) nm_StackModule_hasResult (by rw [hT]; exact ra9) rb9 rc9 (g := F0 m 18 ls [.int x3, .ref x2]) rfl (argsL := [.int x3]) (rest := []) rfl rfl (by rw [hb]; exact (xb_d D_World_fits 10 rfl))) (ok_StackModule_hasResult l hfl D A σ x2 x3 h17 _ hw) (hml.trans hl.1.symm) (by rw [hb]; exact (xb_d D_World_fits 10 rfl)) (Nat.le_of_ble_eq_true rfl) (Nat.le_of_ble_eq_true rfl) (Nat.le_of_ble_eq_true rfl) (show k ≤ MC by omega) (show n ≤ MS by omega) (xt_w1 hB.1 m_ac93cd0b) (xt_cdOf hB.1 m_ac93cd0b) (hts _ m_9c375545) hB hR hS hA (fun vv h20 H locs hq hEh20 hR hS => ?_)
      obtain ⟨r21, rfl, hw⟩ := hq
      have hw := hw hEh20
      have hE := hE.tr hEh20
      refine W.eq (g2 := F0 m 21 ls [.int r21]) rfl ?_
      refine lv_if_ne (tgt := 45) hx hb (xb_d D_World_fits 11 rfl) rfl (fun hc22 => ?_) (fun hc22 => ?_)
      · have hw := hw.1 hc22
        exact am_World_fits_L45 l hfl D A σ MC MS h0 Qr h20 hw p e s m args below meth c hC H locs ls k n hE (lv_sub hl [] rfl) hR hS (by omega) (by omega)
      · have hw := hw.2 hc22
        refine lv_aload_n hx hb (xb_d D_World_fits 12 rfl) rfl (lv_at hl 2 rfl) ?_
        refine lv_iload_n hx hb (xb_d D_World_fits 13 rfl) rfl (lv_at hl 3 rfl) ?_
        refine lv_iconst (v := 0) hx hb (xb_d D_World_fits 14 rfl) (by decide) ?_
        have hk16 : xb_k h20 x2 = 3 := hEh20.k hk16
        refine xb_call0 (D := D) (A := A) (σ := σ) (h := h20) (d := 3) (maxL := 3) (rest := []) (av := [.ref x2, .int x3, .int 0]) (fun T hT X => by obtain ⟨cb9, ra9, rb9, rc9⟩ := xb_recv (ci := 2) hR rfl hk16 (by decide); exact xt_invV X hx hown (hts _ m_2580e83c) (hts _ m_8ffa2b15) (hts _ m_4526d57b) (xt_sigOf (hts _ m_4049389a)) nm_StackModule_parameterType (by rw [hT]; exact ra9) rb9 rc9 (g := F0 m 27 ls [.int 0, .int x3, .ref x2]) rfl (argsL := [.int x3, .int 0]) (rest := []) rfl rfl (by rw [hb]; exact (xb_d D_World_fits 15 rfl))) (ok_StackModule_parameterType l hfl D A σ x2 x3 0 h20 _ hw) (hml.trans hl.1.symm) (by rw [hb]; exact (xb_d D_World_fits 15 rfl)) (Nat.le_of_ble_eq_true rfl) (Nat.le_of_ble_eq_true rfl) (Nat.le_of_ble_eq_true rfl) (show k ≤ MC by omega) (show n ≤ MS by omega) (xt_w1 hB.1 m_4049389a) (xt_cdOf hB.1 m_4049389a) (hts _ m_9c375545) hB hR hS hA (fun vv h23 H locs hq hEh23 hR hS => ?_)
        obtain ⟨r24, rfl, hw⟩ := hq
        have hw := hw hEh23
        have hE := hE.tr hEh23
        refine W.eq (g2 := F0 m 30 ls [.int r24]) rfl ?_
        refine lv_bipush (v := 127) hx hb (xb_d D_World_fits 16 rfl) (by decide) ?_
        refine lv_iload_n hx hb (xb_d D_World_fits 17 rfl) rfl (lv_at hl 1 rfl) ?_
        refine lv_sipush (v := 8192) hx hb (xb_d D_World_fits 18 rfl) (by decide) ?_
        refine lv_isub hx hb (xb_d D_World_fits 19 rfl) ?_
        refine lv_isub hx hb (xb_d D_World_fits 20 rfl) ?_
        refine lv_icmp_ne (tgt := 45) hx hb (xb_d D_World_fits 21 rfl) rfl (fun hc25 => ?_) (fun hc25 => ?_)
        · have hw := hw.1 hc25
          exact am_World_fits_L45 l hfl D A σ MC MS h0 Qr h23 hw p e s m args below meth c hC H locs ls k n hE (lv_sub hl [] rfl) hR hS (by omega) (by omega)
        · have hw := hw.2 hc25
          refine lv_iconst (v := 1) hx hb (xb_d D_World_fits 22 rfl) (by decide) ?_
          refine lv_goto (tgt := 46) hx hb (xb_d D_World_fits 23 rfl) rfl ?_
          exact am_World_fits_L46 l hfl D A σ MC MS h0 Qr 1 h23 hw p e s m args below meth c hC H locs ls k n hE (lv_sub hl [] rfl) hR hS (by omega) (by omega)

theorem m_a27121bd : (.fieldLink "StackHost$World" 243 "StackHost$World" "instanceCount" "I" : Cond) ∈ xt_tbl := xt_in (xt_t1 (List.mem_of_getElem? (i := 168) (by decide +kernel))) (by decide +kernel)
theorem m_a2ee8d3c : (.fieldLink "StackHost$World" 246 "StackHost$StackModule" "functions" "LStackHost$Row;" : Cond) ∈ xt_tbl := xt_in (xt_t3 (List.mem_of_getElem? (i := 69) (by decide +kernel))) (by decide +kernel)
theorem m_121fd332 : (.constantLong "StackHost$World" 253 16384 : Cond) ∈ xt_tbl := xt_in (xt_t6 (List.mem_of_getElem? (i := 193) (by decide +kernel))) (by decide +kernel)
theorem m_c49dc661 : (.methodLink "StackHost$World" 255 y_World_usedPages : Cond) ∈ xt_tbl := xt_in (xt_t6 (List.mem_of_getElem? (i := 194) (by decide +kernel))) (by decide +kernel)
theorem m_18ec7f73 : (.instanceMethod y_World_usedPages : Cond) ∈ xt_tbl := xt_in (xt_t6 (List.mem_of_getElem? (i := 196) (by decide +kernel))) (by decide +kernel)
theorem m_0533db1f : (.selects "StackHost$World" y_World_usedPages y_World_usedPages : Cond) ∈ xt_tbl := xt_in (xt_v5 (q := (⟨"StackHost$World", "usedPages", "()I"⟩, 16)) (List.mem_of_getElem? (i := 8) (by decide +kernel))) (by decide +kernel)
theorem m_a760c7b9 : (.code y_World_usedPages b_World_usedPages 1 (some .int) : Cond) ∈ xt_tbl := xt_in (xt_t6 (List.mem_of_getElem? (i := 197) (by decide +kernel))) (by decide +kernel)
theorem m_c3cad591 : (.constantLong "StackHost$World" 258 16 : Cond) ∈ xt_tbl := xt_in (xt_t6 (List.mem_of_getElem? (i := 198) (by decide +kernel))) (by decide +kernel)
theorem nm_World_usedPages : xt_nm y_World_usedPages 0 := ⟨by decide +kernel, by decide +kernel⟩
set_option maxRecDepth 100000 in
def T_World_isTooMuch : List (Nat × Instr × Nat) := [(0, .aload_n 0, 1), (1, .getfield 243, 3), (4, .bipush 24, 2), (6, .if_icmp .ge 106, 3), (9, .aload_n 0, 1), (10, .getfield 22, 3), (13, .getfield 91, 3), (16, .aload_n 1, 1), (17, .getfield 246, 3), (20, .invokevirtual 75, 3), (23, .iadd, 1), (24, .aload_n 1, 1), (25, .getfield 239, 3), (28, .iconst 0, 1), (29, .iaload, 1), (30, .isub, 1), (31, .sipush 8192, 3), (34, .if_icmp .gt 78, 3), (37, .aload_n 0, 1), (38, .getfield 26, 3), (41, .getfield 91, 3), (44, .aload_n 1, 1), (45, .getfield 238, 3), (48, .invokevirtual 75, 3), (51, .iadd, 1), (52, .aload_n 1, 1), (53, .getfield 239, 3), (56, .iconst 3, 1), (57, .iaload, 1), (58, .isub, 1), (59, .sipush 4096, 3), (62, .if_icmp .gt 50, 3), (65, .aload_n 0, 1), (66, .getfield 29, 3), (69, .getfield 91, 3), (72, .i2l, 1), (73, .aload_n 1, 1), (74, .aload_n 1, 1), (75, .getfield 199, 3), (78, .iconst 1, 1), (79, .invokestatic 249, 3), (82, .ladd, 1), (83, .ldc2_w 253, 3), (86, .lcmp, 1), (87, .ifCond .gt 25, 3), (90, .aload_n 0, 1), (91, .invokevirtual 255, 3), (94, .i2l, 1), (95, .aload_n 1, 1), (96, .aload_n 1, 1), (97, .getfield 216, 3), (100, .iconst 2, 1), (101, .invokestatic 249, 3), (104, .ladd, 1), (105, .ldc2_w 258, 3), (108, .lcmp, 1), (109, .ifCond .le 7, 3), (112, .iconst 1, 1), (113, .goto 4, 3), (116, .iconst 0, 1), (117, .ireturn, 1)]
theorem D_World_isTooMuch : ∀ q ∈ T_World_isTooMuch, decode b_World_isTooMuch q.1 = .ok (q.2.1, q.2.2) := by decide +kernel

set_option maxHeartbeats 4000000 in
set_option maxRecDepth 100000 in
theorem am_World_isTooMuch_L117 (l : Launch) (hfl : l.flags = pinnedFlags ++ [noTraceFlag]) (D : va_G) (A : Nat → Prop) (σ MC MS : Nat) (h0 : xb_H) (Qr : Int32 → xb_H → Prop) (y0 : Int32) (h : xb_H) (hw : w_World_isTooMuch_L117 Qr y0 h) : xb_am l D A σ 4 MC MS h0 (fun v h _ _ => ∃ r, v = some (.int r) ∧ Qr r h) (fun _ _ _ _ => False) y_World_isTooMuch.cls y_World_isTooMuch.name b_World_isTooMuch 2 ([] : List ExceptionTableEntry) (some .boolean) 117 [] [.int y0] h 0 0 := by
  unfold w_World_isTooMuch_L117 at hw
  intro p e s m args below meth c hC H locs ls k n hE hl hR hS hk hn
  obtain ⟨hx, hb, hown, hlocks, htab, hml, hr, hB, hA, hnm⟩ := id hC
  have hts := hB.1.1.at args
  exact xb_zret 0 0 hx hb hr hlocks (show k + 0 ≤ MC by omega) (show n + 0 ≤ MS by omega) hw.1 hE hR hS (xb_d D_World_isTooMuch 60 rfl) hw.2

set_option maxHeartbeats 4000000 in
set_option maxRecDepth 100000 in
theorem am_World_isTooMuch_L112 (l : Launch) (hfl : l.flags = pinnedFlags ++ [noTraceFlag]) (D : va_G) (A : Nat → Prop) (σ MC MS : Nat) (h0 : xb_H) (Qr : Int32 → xb_H → Prop) (h : xb_H) (hw : w_World_isTooMuch_L112 Qr h) : xb_am l D A σ 4 MC MS h0 (fun v h _ _ => ∃ r, v = some (.int r) ∧ Qr r h) (fun _ _ _ _ => False) y_World_isTooMuch.cls y_World_isTooMuch.name b_World_isTooMuch 2 ([] : List ExceptionTableEntry) (some .boolean) 112 [] [] h 0 0 := by
  unfold w_World_isTooMuch_L112 at hw
  intro p e s m args below meth c hC H locs ls k n hE hl hR hS hk hn
  obtain ⟨hx, hb, hown, hlocks, htab, hml, hr, hB, hA, hnm⟩ := id hC
  have hts := hB.1.1.at args
  refine lv_iconst (v := 1) hx hb (xb_d D_World_isTooMuch 57 rfl) (by decide) ?_
  refine lv_goto (tgt := 117) hx hb (xb_d D_World_isTooMuch 58 rfl) rfl ?_
  exact am_World_isTooMuch_L117 l hfl D A σ MC MS h0 Qr 1 h hw p e s m args below meth c hC H locs ls k n hE (lv_sub hl [] rfl) hR hS (by omega) (by omega)

set_option maxHeartbeats 4000000 in
set_option maxRecDepth 100000 in
theorem ok_World_isTooMuch (l : Launch) (hfl : l.flags = pinnedFlags ++ [noTraceFlag]) (D : va_G) (A : Nat → Prop) (σ : Nat) (x0 : Nat) (x1 : Nat) (h : xb_H) (Qr : Int32 → xb_H → Prop) (hw : w_World_isTooMuch x0 x1 h Qr) : xb_Met l y_World_isTooMuch [.code y_World_isTooMuch b_World_isTooMuch 2 (some .boolean)] (xb_rm 4 0 0) (xb_Pc D A σ h [.ref x0, .ref x1]) (xb_Qc D A h 0 0 (fun v h _ _ => ∃ r, v = some (.int r) ∧ Qr r h) (fun _ _ _ _ => False)) A := by
  refine xb_ofAm (cc := b_World_isTooMuch) (by decide) (Nat.le_of_ble_eq_true rfl) ?_
  unfold w_World_isTooMuch at hw
  show xb_am l D A σ 4 0 0 h (fun v h _ _ => ∃ r, v = some (.int r) ∧ Qr r h) (fun _ _ _ _ => False) y_World_isTooMuch.cls y_World_isTooMuch.name b_World_isTooMuch 2 ([] : List ExceptionTableEntry) (some .boolean) 0 [(0, .ref x0), (1, .ref x1)] [] h 0 0
  obtain ⟨MC, hMC⟩ : ∃ x, x = 0 := ⟨_, rfl⟩
  obtain ⟨MS, hMS⟩ : ∃ x, x = 0 := ⟨_, rfl⟩
  rw [show xb_am l D A σ 4 0 0 = xb_am l D A σ 4 MC MS by rw [hMC, hMS]]
  obtain ⟨h0, hh0⟩ : ∃ x, x = h := ⟨_, rfl⟩
  rw [show xb_am l D A σ 4 MC MS h = xb_am l D A σ 4 MC MS h0 by rw [hh0]]
  intro p e s m args below meth c hC H locs ls k n hE hl hR hS hk hn
  obtain ⟨hx, hb, hown, hlocks, htab, hml, hr, hB, hA, hnm⟩ := id hC
  have hts := hB.1.1.at args
  refine lv_aload_n hx hb (xb_d D_World_isTooMuch 0 rfl) rfl (lv_at hl 0 rfl) ?_
  obtain ⟨hk1, hw⟩ := hw
  refine xb_getI (C := R_World) (T := F_World) (N := 16) hx hb 6 1 hts fin_World hown hR hk1 (by decide) rfl (by decide) rfl (hts _ m_a27121bd) (fun _ h9 => h9) (xb_d D_World_isTooMuch 1 rfl) ?_
  refine lv_bipush (v := 24) hx hb (xb_d D_World_isTooMuch 2 rfl) (by decide) ?_
  refine lv_icmp_ge (tgt := 112) hx hb (xb_d D_World_isTooMuch 3 rfl) rfl (fun hc2 => ?_) (fun hc2 => ?_)
  · have hw := hw.1 hc2
    exact am_World_isTooMuch_L112 l hfl D A σ MC MS h0 Qr h hw p e s m args below meth c hC H locs ls k n hE (lv_sub hl [] rfl) hR hS (by omega) (by omega)
  · have hw := hw.2 hc2
    refine lv_aload_n hx hb (xb_d D_World_isTooMuch 4 rfl) rfl (lv_at hl 0 rfl) ?_
    refine xb_getP (C := R_World) (T := F_World) (N := 16) hx hb 6 2 hts fin_World hown hR hk1 (by decide) rfl (by decide) rfl (hts _ m_2d976539) (fun _ h9 => h9) (xb_d D_World_isTooMuch 5 rfl) ?_
    obtain ⟨b3, eb3, hw⟩ := hw
    refine xb_some eb3 ?_
    obtain ⟨hk4, hw⟩ := hw
    refine xb_getI (C := R_Row) (T := F_Row) (N := 3) hx hb 1 1 hts fin_Row hown hR hk4 (by decide) rfl (by decide) rfl (hts _ m_98336b3d) (fun _ h9 => h9) (xb_d D_World_isTooMuch 6 rfl) ?_
    refine lv_aload_n hx hb (xb_d D_World_isTooMuch 7 rfl) rfl (lv_at hl 1 rfl) ?_
    obtain ⟨hk5, hw⟩ := hw
    refine xb_getP (C := R_StackModule) (T := F_StackModule) (N := 19) hx hb 2 4 hts fin_StackModule hown hR hk5 (by decide) rfl (by decide) rfl (hts _ m_a2ee8d3c) (fun _ h9 => h9) (xb_d D_World_isTooMuch 8 rfl) ?_
    obtain ⟨b6, eb6, hw⟩ := hw
    refine xb_some eb6 ?_
    obtain ⟨hk7, hw⟩ := hw
    refine xb_call0 (D := D) (A := A) (σ := σ) (h := h) (d := 2) (maxL := 1) (rest := [.int (xb_i h b3 1)]) (av := [.ref b6]) (fun T hT X => by obtain ⟨cb9, ra9, rb9, rc9⟩ := xb_recv (ci := 1) hR rfl hk7 (by decide); exact xt_invV X hx hown (hts _ m_5b8308b9) (hts _ m_ded65609) (hts _ m_a4161156) (xt_sigOf (hts _ m_83ba3721)) nm_Row_lines (by rw [hT]; exact ra9) rb9 rc9 (g := F0 m 20 ls [.ref b6, .int (xb_i h b3 1)]) rfl (argsL := []) (rest := [.int (xb_i h b3 1)]) rfl rfl (by rw [hb]; exact (xb_d D_World_isTooMuch 9 rfl))) (ok_Row_lines l hfl D A σ b6 h _ hw) (hml.trans hl.1.symm) (by rw [hb]; exact (xb_d D_World_isTooMuch 9 rfl)) (Nat.le_of_ble_eq_true rfl) (Nat.le_of_ble_eq_true rfl) (Nat.le_of_ble_eq_true rfl) (show k ≤ MC by omega) (show n ≤ MS by omega) (xt_w1 hB.1 m_83ba3721) (xt_cdOf hB.1 m_83ba3721) (hts _ m_c1bef504) hB hR hS hA (fun vv h8 H locs hq hEh8 hR hS => ?_)
    obtain ⟨r9, rfl, hw⟩ := hq
    have hw := hw hEh8
    have hE := hE.tr hEh8
    refine W.eq (g2 := F0 m 23 ls [.int r9, .int (xb_i h b3 1)]) rfl ?_
    refine lv_iadd hx hb (xb_d D_World_isTooMuch 10 rfl) ?_
    refine lv_aload_n hx hb (xb_d D_World_isTooMuch 11 rfl) rfl (lv_at hl 1 rfl) ?_
    have hk5 : xb_k h8 x1 = 3 := hEh8.k hk5
    refine xb_getP (C := R_StackModule) (T := F_StackModule) (N := 19) hx hb 2 14 hts fin_StackModule hown hR hk5 (by decide) rfl (by decide) rfl (hts _ m_64a182b7) (fun _ h9 => h9) (xb_d D_World_isTooMuch 12 rfl) ?_
    obtain ⟨b10, eb10, hw⟩ := hw
    refine xb_some eb10 ?_
    refine lv_iconst (v := 0) hx hb (xb_d D_World_isTooMuch 13 rfl) (by decide) ?_
    obtain ⟨hk12, hw⟩ := hw
    obtain ⟨hi11, hw⟩ := hw
    refine xb_iald hx hb hR hk12 hi11 (xb_d D_World_isTooMuch 14 rfl) ?_
    refine xt_numi (y := (xb_i h8 b10 0)) (congrArg (xb_i h8 b10) (by decide : (0 : Int32).toNatClampNeg = 0)) ?_
    refine lv_isub hx hb (xb_d D_World_isTooMuch 15 rfl) ?_
    refine lv_sipush (v := 8192) hx hb (xb_d D_World_isTooMuch 16 rfl) (by decide) ?_
    refine lv_icmp_gt (tgt := 112) hx hb (xb_d D_World_isTooMuch 17 rfl) rfl (fun hc13 => ?_) (fun hc13 => ?_)
    · have hw := hw.1 hc13
      exact am_World_isTooMuch_L112 l hfl D A σ MC MS h0 Qr h8 hw p e s m args below meth c hC H locs ls k n hE (lv_sub hl [] rfl) hR hS (by omega) (by omega)
    · have hw := hw.2 hc13
      refine lv_aload_n hx hb (xb_d D_World_isTooMuch 18 rfl) rfl (lv_at hl 0 rfl) ?_
      have hk1 : xb_k h8 x0 = 7 := hEh8.k hk1
      refine xb_getP (C := R_World) (T := F_World) (N := 16) hx hb 6 3 hts fin_World hown hR hk1 (by decide) rfl (by decide) rfl (hts _ m_61bedde9) (fun _ h9 => h9) (xb_d D_World_isTooMuch 19 rfl) ?_
      obtain ⟨b14, eb14, hw⟩ := hw
      refine xb_some eb14 ?_
      obtain ⟨hk15, hw⟩ := hw
      refine xb_getI (C := R_Row) (T := F_Row) (N := 3) hx hb 1 1 hts fin_Row hown hR hk15 (by decide) rfl (by decide) rfl (hts _ m_98336b3d) (fun _ h9 => h9) (xb_d D_World_isTooMuch 20 rfl) ?_
      refine lv_aload_n hx hb (xb_d D_World_isTooMuch 21 rfl) rfl (lv_at hl 1 rfl) ?_
      refine xb_getP (C := R_StackModule) (T := F_StackModule) (N := 19) hx hb 2 7 hts fin_StackModule hown hR hk5 (by decide) rfl (by decide) rfl (hts _ m_86aae10b) (fun _ h9 => h9) (xb_d D_World_isTooMuch 22 rfl) ?_
      obtain ⟨b16, eb16, hw⟩ := hw
      refine xb_some eb16 ?_
      obtain ⟨hk17, hw⟩ := hw
      refine xb_call0 (D := D) (A := A) (σ := σ) (h := h8) (d := 2) (maxL := 1) (rest := [.int (xb_i h8 b14 1)]) (av := [.ref b16]) (fun T hT X => by obtain ⟨cb9, ra9, rb9, rc9⟩ := xb_recv (ci := 1) hR rfl hk17 (by decide); exact xt_invV X hx hown (hts _ m_5b8308b9) (hts _ m_ded65609) (hts _ m_a4161156) (xt_sigOf (hts _ m_83ba3721)) nm_Row_lines (by rw [hT]; exact ra9) rb9 rc9 (g := F0 m 48 ls [.ref b16, .int (xb_i h8 b14 1)]) rfl (argsL := []) (rest := [.int (xb_i h8 b14 1)]) rfl rfl (by rw [hb]; exact (xb_d D_World_isTooMuch 23 rfl))) (ok_Row_lines l hfl D A σ b16 h8 _ hw) (hml.trans hl.1.symm) (by rw [hb]; exact (xb_d D_World_isTooMuch 23 rfl)) (Nat.le_of_ble_eq_true rfl) (Nat.le_of_ble_eq_true rfl) (Nat.le_of_ble_eq_true rfl) (show k ≤ MC by omega) (show n ≤ MS by omega) (xt_w1 hB.1 m_83ba3721) (xt_cdOf hB.1 m_83ba3721) (hts _ m_c1bef504) hB hR hS hA (fun vv h18 H locs hq hEh18 hR hS => ?_)
      obtain ⟨r19, rfl, hw⟩ := hq
      have hw := hw hEh18
      have hE := hE.tr hEh18
      refine W.eq (g2 := F0 m 51 ls [.int r19, .int (xb_i h8 b14 1)]) rfl ?_
      refine lv_iadd hx hb (xb_d D_World_isTooMuch 24 rfl) ?_
      refine lv_aload_n hx hb (xb_d D_World_isTooMuch 25 rfl) rfl (lv_at hl 1 rfl) ?_
      have hk5 : xb_k h18 x1 = 3 := hEh18.k hk5
      refine xb_getP (C := R_StackModule) (T := F_StackModule) (N := 19) hx hb 2 14 hts fin_StackModule hown hR hk5 (by decide) rfl (by decide) rfl (hts _ m_64a182b7) (fun _ h9 => h9) (xb_d D_World_isTooMuch 26 rfl) ?_
      obtain ⟨b20, eb20, hw⟩ := hw
      refine xb_some eb20 ?_
      refine lv_iconst (v := 3) hx hb (xb_d D_World_isTooMuch 27 rfl) (by decide) ?_
      obtain ⟨hk22, hw⟩ := hw
      obtain ⟨hi21, hw⟩ := hw
      refine xb_iald hx hb hR hk22 hi21 (xb_d D_World_isTooMuch 28 rfl) ?_
      refine xt_numi (y := (xb_i h18 b20 3)) (congrArg (xb_i h18 b20) (by decide : (3 : Int32).toNatClampNeg = 3)) ?_
      refine lv_isub hx hb (xb_d D_World_isTooMuch 29 rfl) ?_
      refine lv_sipush (v := 4096) hx hb (xb_d D_World_isTooMuch 30 rfl) (by decide) ?_
      refine lv_icmp_gt (tgt := 112) hx hb (xb_d D_World_isTooMuch 31 rfl) rfl (fun hc23 => ?_) (fun hc23 => ?_)
      · have hw := hw.1 hc23
        exact am_World_isTooMuch_L112 l hfl D A σ MC MS h0 Qr h18 hw p e s m args below meth c hC H locs ls k n hE (lv_sub hl [] rfl) hR hS (by omega) (by omega)
      · have hw := hw.2 hc23
        refine lv_aload_n hx hb (xb_d D_World_isTooMuch 32 rfl) rfl (lv_at hl 0 rfl) ?_
        have hk1 : xb_k h18 x0 = 7 := hEh18.k hk1
        refine xb_getP (C := R_World) (T := F_World) (N := 16) hx hb 6 4 hts fin_World hown hR hk1 (by decide) rfl (by decide) rfl (hts _ m_1ef9f414) (fun _ h9 => h9) (xb_d D_World_isTooMuch 33 rfl) ?_
        obtain ⟨b24, eb24, hw⟩ := hw
        refine xb_some eb24 ?_
        obtain ⟨hk25, hw⟩ := hw
        refine xb_getI (C := R_Row) (T := F_Row) (N := 3) hx hb 1 1 hts fin_Row hown hR hk25 (by decide) rfl (by decide) rfl (hts _ m_98336b3d) (fun _ h9 => h9) (xb_d D_World_isTooMuch 34 rfl) ?_
        refine lv_i2l hx hb (xb_d D_World_isTooMuch 35 rfl) rfl ?_
        refine lv_aload_n hx hb (xb_d D_World_isTooMuch 36 rfl) rfl (lv_at hl 1 rfl) ?_
        refine lv_aload_n hx hb (xb_d D_World_isTooMuch 37 rfl) rfl (lv_at hl 1 rfl) ?_
        refine xb_getP (C := R_StackModule) (T := F_StackModule) (N := 19) hx hb 2 5 hts fin_StackModule hown hR hk5 (by decide) rfl (by decide) rfl (hts _ m_dbd9d8fa) (fun _ h9 => h9) (xb_d D_World_isTooMuch 38 rfl) ?_
        obtain ⟨b26, eb26, hw⟩ := hw
        refine xb_some eb26 ?_
        refine lv_iconst (v := 1) hx hb (xb_d D_World_isTooMuch 39 rfl) (by decide) ?_
        refine xb_call0 (D := D) (A := A) (σ := σ) (h := h18) (d := 3) (maxL := 3) (rest := [.long (Int32.toInt64 (xb_i h18 b24 1))]) (av := [.ref x1, .ref b26, .int 1]) (fun T hT X => xt_invS X hx hown (hts _ m_aaaefe3c) (hts _ m_e4859522) (hts _ m_4534b440) (xt_sgS (hts _ m_c12fcdc9)).1 (xt_sgS (hts _ m_c12fcdc9)).2 nm_World_ownLeast (g := F0 m 79 ls [.int 1, .ref b26, .ref x1, .long (Int32.toInt64 (xb_i h18 b24 1))]) rfl (argsL := [.ref x1, .ref b26, .int 1]) (rest := [.long (Int32.toInt64 (xb_i h18 b24 1))]) rfl rfl (by rw [hb]; exact (xb_d D_World_isTooMuch 40 rfl))) (ok_World_ownLeast l hfl D A σ x1 b26 1 h18 _ hw) (hml.trans hl.1.symm) (by rw [hb]; exact (xb_d D_World_isTooMuch 40 rfl)) (Nat.le_of_ble_eq_true rfl) (Nat.le_of_ble_eq_true rfl) (Nat.le_of_ble_eq_true rfl) (show k ≤ MC by omega) (show n ≤ MS by omega) (xt_w1 hB.1 m_c12fcdc9) (xt_cdOf hB.1 m_c12fcdc9) (hts _ m_4534b440) hB hR hS hA (fun vv h27 H locs hq hEh27 hR hS => ?_)
        obtain ⟨r28, rfl, hw⟩ := hq
        have hw := hw hEh27
        have hE := hE.tr hEh27
        refine W.eq (g2 := F0 m 82 ls [.long r28, .long (Int32.toInt64 (xb_i h18 b24 1))]) rfl ?_
        refine lv_ladd hx hb (xb_d D_World_isTooMuch 41 rfl) ?_
        refine lv_ldc2 (v := 16384) hx hb hown (hts _ m_121fd332) (xb_d D_World_isTooMuch 42 rfl) ?_
        refine xb_lc_gt (tgt := 112) hx hb (xb_d D_World_isTooMuch 43 rfl) (xb_d D_World_isTooMuch 44 rfl) rfl (fun hc29 => ?_) (fun hc29 => ?_)
        · have hw := hw.1 hc29
          exact am_World_isTooMuch_L112 l hfl D A σ MC MS h0 Qr h27 hw p e s m args below meth c hC H locs ls k n hE (lv_sub hl [] rfl) hR hS (by omega) (by omega)
        · have hw := hw.2 hc29
          refine lv_aload_n hx hb (xb_d D_World_isTooMuch 45 rfl) rfl (lv_at hl 0 rfl) ?_
          have hk1 : xb_k h27 x0 = 7 := hEh27.k hk1
          refine xb_call0 (D := D) (A := A) (σ := σ) (h := h27) (d := 2) (maxL := 1) (rest := []) (av := [.ref x0]) (fun T hT X => by obtain ⟨cb9, ra9, rb9, rc9⟩ := xb_recv (ci := 6) hR rfl hk1 (by decide); exact xt_invV X hx hown (hts _ m_c49dc661) (hts _ m_18ec7f73) (hts _ m_0533db1f) (xt_sigOf (hts _ m_a760c7b9)) nm_World_usedPages (by rw [hT]; exact ra9) rb9 rc9 (g := F0 m 91 ls [.ref x0]) rfl (argsL := []) (rest := []) rfl rfl (by rw [hb]; exact (xb_d D_World_isTooMuch 46 rfl))) (ok_World_usedPages l hfl D A σ x0 h27 _ hw) (hml.trans hl.1.symm) (by rw [hb]; exact (xb_d D_World_isTooMuch 46 rfl)) (Nat.le_of_ble_eq_true rfl) (Nat.le_of_ble_eq_true rfl) (Nat.le_of_ble_eq_true rfl) (show k ≤ MC by omega) (show n ≤ MS by omega) (xt_w1 hB.1 m_a760c7b9) (xt_cdOf hB.1 m_a760c7b9) (hts _ m_4534b440) hB hR hS hA (fun vv h30 H locs hq hEh30 hR hS => ?_)
          obtain ⟨r31, rfl, hw⟩ := hq
          have hw := hw hEh30
          have hE := hE.tr hEh30
          refine W.eq (g2 := F0 m 94 ls [.int r31]) rfl ?_
          refine lv_i2l hx hb (xb_d D_World_isTooMuch 47 rfl) rfl ?_
          refine lv_aload_n hx hb (xb_d D_World_isTooMuch 48 rfl) rfl (lv_at hl 1 rfl) ?_
          refine lv_aload_n hx hb (xb_d D_World_isTooMuch 49 rfl) rfl (lv_at hl 1 rfl) ?_
          have hk5 : xb_k h27 x1 = 3 := hEh27.k hk5
          have hk5 : xb_k h30 x1 = 3 := hEh30.k hk5
          refine xb_getP (C := R_StackModule) (T := F_StackModule) (N := 19) hx hb 2 6 hts fin_StackModule hown hR hk5 (by decide) rfl (by decide) rfl (hts _ m_b7b853d9) (fun _ h9 => h9) (xb_d D_World_isTooMuch 50 rfl) ?_
          obtain ⟨b32, eb32, hw⟩ := hw
          refine xb_some eb32 ?_
          refine lv_iconst (v := 2) hx hb (xb_d D_World_isTooMuch 51 rfl) (by decide) ?_
          refine xb_call0 (D := D) (A := A) (σ := σ) (h := h30) (d := 3) (maxL := 3) (rest := [.long (Int32.toInt64 r31)]) (av := [.ref x1, .ref b32, .int 2]) (fun T hT X => xt_invS X hx hown (hts _ m_aaaefe3c) (hts _ m_e4859522) (hts _ m_4534b440) (xt_sgS (hts _ m_c12fcdc9)).1 (xt_sgS (hts _ m_c12fcdc9)).2 nm_World_ownLeast (g := F0 m 101 ls [.int 2, .ref b32, .ref x1, .long (Int32.toInt64 r31)]) rfl (argsL := [.ref x1, .ref b32, .int 2]) (rest := [.long (Int32.toInt64 r31)]) rfl rfl (by rw [hb]; exact (xb_d D_World_isTooMuch 52 rfl))) (ok_World_ownLeast l hfl D A σ x1 b32 2 h30 _ hw) (hml.trans hl.1.symm) (by rw [hb]; exact (xb_d D_World_isTooMuch 52 rfl)) (Nat.le_of_ble_eq_true rfl) (Nat.le_of_ble_eq_true rfl) (Nat.le_of_ble_eq_true rfl) (show k ≤ MC by omega) (show n ≤ MS by omega) (xt_w1 hB.1 m_c12fcdc9) (xt_cdOf hB.1 m_c12fcdc9) (hts _ m_4534b440) hB hR hS hA (fun vv h33 H locs hq hEh33 hR hS => ?_)
          obtain ⟨r34, rfl, hw⟩ := hq
          have hw := hw hEh33
          have hE := hE.tr hEh33
          refine W.eq (g2 := F0 m 104 ls [.long r34, .long (Int32.toInt64 r31)]) rfl ?_
          refine lv_ladd hx hb (xb_d D_World_isTooMuch 53 rfl) ?_
          refine lv_ldc2 (v := 16) hx hb hown (hts _ m_c3cad591) (xb_d D_World_isTooMuch 54 rfl) ?_
          refine xb_lc_le (tgt := 116) hx hb (xb_d D_World_isTooMuch 55 rfl) (xb_d D_World_isTooMuch 56 rfl) rfl (fun hc35 => ?_) (fun hc35 => ?_)
          · have hw := hw.1 hc35
            refine lv_iconst (v := 0) hx hb (xb_d D_World_isTooMuch 59 rfl) (by decide) ?_
            exact am_World_isTooMuch_L117 l hfl D A σ MC MS h0 Qr 0 h33 hw p e s m args below meth c hC H locs ls k n hE (lv_sub hl [] rfl) hR hS (by omega) (by omega)
          · have hw := hw.2 hc35
            exact am_World_isTooMuch_L112 l hfl D A σ MC MS h0 Qr h33 hw p e s m args below meth c hC H locs ls k n hE (lv_sub hl [] rfl) hR hS (by omega) (by omega)

theorem m_c1adce89 : (.methodLink "StackHost$World" 268 y_World_valueOf : Cond) ∈ xt_tbl := xt_in (xt_t6 (List.mem_of_getElem? (i := 211) (by decide +kernel))) (by decide +kernel)
theorem m_ea5253ea : (.instanceMethod y_World_valueOf : Cond) ∈ xt_tbl := xt_in (xt_t6 (List.mem_of_getElem? (i := 213) (by decide +kernel))) (by decide +kernel)
theorem m_5eef57a1 : (.selects "StackHost$World" y_World_valueOf y_World_valueOf : Cond) ∈ xt_tbl := xt_in (xt_v5 (q := (⟨"StackHost$World", "valueOf", "(LStackHost$StackModule;I)J"⟩, 16)) (List.mem_of_getElem? (i := 12) (by decide +kernel))) (by decide +kernel)
theorem m_e9cf7221 : (.code y_World_valueOf b_World_valueOf 3 (some .long) : Cond) ∈ xt_tbl := xt_in (xt_t6 (List.mem_of_getElem? (i := 214) (by decide +kernel))) (by decide +kernel)
theorem nm_World_valueOf : xt_nm y_World_valueOf 2 := ⟨by decide +kernel, by decide +kernel⟩
set_option maxRecDepth 100000 in
def T_World_offsetOf : List (Nat × Instr × Nat) := [(0, .aload_n 0, 1), (1, .aload_n 1, 1), (2, .aload_n 2, 1), (3, .iload_n 3, 1), (4, .iconst 2, 1), (5, .invokevirtual 51, 3), (8, .invokevirtual 268, 3), (11, .lreturn, 1)]
theorem D_World_offsetOf : ∀ q ∈ T_World_offsetOf, decode b_World_offsetOf q.1 = .ok (q.2.1, q.2.2) := by decide +kernel

set_option maxHeartbeats 4000000 in
set_option maxRecDepth 100000 in
theorem ok_World_offsetOf (l : Launch) (hfl : l.flags = pinnedFlags ++ [noTraceFlag]) (D : va_G) (A : Nat → Prop) (σ : Nat) (x0 : Nat) (x1 : Nat) (x2 : Nat) (x3 : Int32) (h : xb_H) (Qr : Int64 → xb_H → Prop) (hw : w_World_offsetOf x0 x1 x2 x3 h Qr) : xb_Met l y_World_offsetOf [.code y_World_offsetOf b_World_offsetOf 4 (some .long)] (xb_rm 4 0 0) (xb_Pc D A σ h [.ref x0, .ref x1, .ref x2, .int x3]) (xb_Qc D A h 0 0 (fun v h _ _ => ∃ r, v = some (.long r) ∧ Qr r h) (fun _ _ _ _ => False)) A := by
  refine xb_ofAm (cc := b_World_offsetOf) (by decide) (Nat.le_of_ble_eq_true rfl) ?_
  unfold w_World_offsetOf at hw
  show xb_am l D A σ 4 0 0 h (fun v h _ _ => ∃ r, v = some (.long r) ∧ Qr r h) (fun _ _ _ _ => False) y_World_offsetOf.cls y_World_offsetOf.name b_World_offsetOf 4 ([] : List ExceptionTableEntry) (some .long) 0 [(0, .ref x0), (1, .ref x1), (2, .ref x2), (3, .int x3)] [] h 0 0
  obtain ⟨MC, hMC⟩ : ∃ x, x = 0 := ⟨_, rfl⟩
  obtain ⟨MS, hMS⟩ : ∃ x, x = 0 := ⟨_, rfl⟩
  rw [show xb_am l D A σ 4 0 0 = xb_am l D A σ 4 MC MS by rw [hMC, hMS]]
  obtain ⟨h0, hh0⟩ : ∃ x, x = h := ⟨_, rfl⟩
  rw [show xb_am l D A σ 4 MC MS h = xb_am l D A σ 4 MC MS h0 by rw [hh0]]
  intro p e s m args below meth c hC H locs ls k n hE hl hR hS hk hn
  obtain ⟨hx, hb, hown, hlocks, htab, hml, hr, hB, hA, hnm⟩ := id hC
  have hts := hB.1.1.at args
  refine lv_aload_n hx hb (xb_d D_World_offsetOf 0 rfl) rfl (lv_at hl 0 rfl) ?_
  refine lv_aload_n hx hb (xb_d D_World_offsetOf 1 rfl) rfl (lv_at hl 1 rfl) ?_
  refine lv_aload_n hx hb (xb_d D_World_offsetOf 2 rfl) rfl (lv_at hl 2 rfl) ?_
  refine lv_iload_n hx hb (xb_d D_World_offsetOf 3 rfl) rfl (lv_at hl 3 rfl) ?_
  refine lv_iconst (v := 2) hx hb (xb_d D_World_offsetOf 4 rfl) (by decide) ?_
  obtain ⟨hk1, hw⟩ := hw
  refine xb_call0 (D := D) (A := A) (σ := σ) (h := h) (d := 2) (maxL := 3) (rest := [.ref x1, .ref x0]) (av := [.ref x2, .int x3, .int 2]) (fun T hT X => by obtain ⟨cb9, ra9, rb9, rc9⟩ := xb_recv (ci := 1) hR rfl hk1 (by decide); exact xt_invV X hx hown (hts _ m_ad29ee25) (hts _ m_8e233096) (hts _ m_27eed10c) (xt_sigOf (hts _ m_ff1c70ae)) nm_Row_at (by rw [hT]; exact ra9) rb9 rc9 (g := F0 m 5 ls [.int 2, .int x3, .ref x2, .ref x1, .ref x0]) rfl (argsL := [.int x3, .int 2]) (rest := [.ref x1, .ref x0]) rfl rfl (by rw [hb]; exact (xb_d D_World_offsetOf 5 rfl))) (ok_Row_at l hfl D A σ x2 x3 2 h _ hw) (hml.trans hl.1.symm) (by rw [hb]; exact (xb_d D_World_offsetOf 5 rfl)) (Nat.le_of_ble_eq_true rfl) (Nat.le_of_ble_eq_true rfl) (Nat.le_of_ble_eq_true rfl) (show k ≤ MC by omega) (show n ≤ MS by omega) (xt_w1 hB.1 m_ff1c70ae) (xt_cdOf hB.1 m_ff1c70ae) (hts _ m_c1bef504) hB hR hS hA (fun vv h2 H locs hq hEh2 hR hS => ?_)
  obtain ⟨r3, rfl, hw⟩ := hq
  have hw := hw hEh2
  have hE := hE.tr hEh2
  refine W.eq (g2 := F0 m 8 ls [.int r3, .ref x1, .ref x0]) rfl ?_
  obtain ⟨hk4, hw⟩ := hw
  refine xb_call0 (D := D) (A := A) (σ := σ) (h := h2) (d := 3) (maxL := 3) (rest := []) (av := [.ref x0, .ref x1, .int r3]) (fun T hT X => by obtain ⟨cb9, ra9, rb9, rc9⟩ := xb_recv (ci := 6) hR rfl hk4 (by decide); exact xt_invV X hx hown (hts _ m_c1adce89) (hts _ m_ea5253ea) (hts _ m_5eef57a1) (xt_sigOf (hts _ m_e9cf7221)) nm_World_valueOf (by rw [hT]; exact ra9) rb9 rc9 (g := F0 m 8 ls [.int r3, .ref x1, .ref x0]) rfl (argsL := [.ref x1, .int r3]) (rest := []) rfl rfl (by rw [hb]; exact (xb_d D_World_offsetOf 6 rfl))) (ok_World_valueOf l hfl D A σ x0 x1 r3 h2 _ hw) (hml.trans hl.1.symm) (by rw [hb]; exact (xb_d D_World_offsetOf 6 rfl)) (Nat.le_of_ble_eq_true rfl) (Nat.le_of_ble_eq_true rfl) (Nat.le_of_ble_eq_true rfl) (show k ≤ MC by omega) (show n ≤ MS by omega) (xt_w1 hB.1 m_e9cf7221) (xt_cdOf hB.1 m_e9cf7221) (hts _ m_4534b440) hB hR hS hA (fun vv h5 H locs hq hEh5 hR hS => ?_)
  obtain ⟨r6, rfl, hw⟩ := hq
  have hw := hw hEh5
  have hE := hE.tr hEh5
  refine W.eq (g2 := F0 m 11 ls [.long r6]) rfl ?_
  exact xb_lret 0 0 hx hb hr hlocks (show k + 0 ≤ MC by omega) (show n + 0 ≤ MS by omega) hE hR hS (xb_d D_World_offsetOf 7 rfl) hw

theorem m_b5c4b44c : (.methodLink "StackHostLaw" 7 y_H_feed : Cond) ∈ xt_tbl := xt_in (xt_t2 (List.mem_of_getElem? (i := 148) (by decide +kernel))) (by decide +kernel)
theorem m_86133e3f : (.instanceMethod y_H_feed : Cond) ∈ xt_tbl := xt_in (xt_t2 (List.mem_of_getElem? (i := 149) (by decide +kernel))) (by decide +kernel)
theorem m_5863c221 : (.selects "StackHost" y_H_feed y_H_feed : Cond) ∈ xt_tbl := xt_in (xt_t2 (List.mem_of_getElem? (i := 150) (by decide +kernel))) (by decide +kernel)
theorem m_382b818b : (.code y_H_feed b_H_feed 6 (some .int) : Cond) ∈ xt_tbl := xt_in (xt_t2 (List.mem_of_getElem? (i := 151) (by decide +kernel))) (by decide +kernel)
theorem m_cd065aea : (.classLink "StackHostLaw" 13 "java/lang/IllegalStateException" : Cond) ∈ xt_tbl := xt_in (xt_t2 (List.mem_of_getElem? (i := 147) (by decide +kernel))) (by decide +kernel)
theorem m_a4ef0ec8 : (.castable "java/lang/IllegalStateException" "java/lang/IllegalStateException" : Cond) ∈ xt_tbl := xt_in (xt_t2 (List.mem_of_getElem? (i := 155) (by decide +kernel))) (by decide +kernel)
theorem nm_H_feed : xt_nm y_H_feed 5 := ⟨by decide +kernel, by decide +kernel⟩
set_option maxRecDepth 100000 in
def T_Law_feed : List (Nat × Instr × Nat) := [(0, .aload 6, 2), (2, .iconst 0, 1), (3, .aload_n 0, 1), (4, .iload_n 1, 1), (5, .iload_n 2, 1), (6, .iload_n 3, 1), (7, .iload 4, 2), (9, .iload 5, 2), (11, .invokevirtual 7, 3), (14, .i2l, 1), (15, .lastore, 1), (16, .goto 7, 3), (19, .astore 7, 2), (21, .iconst 1, 1), (22, .ireturn, 1), (23, .iconst 0, 1), (24, .ireturn, 1)]
theorem D_Law_feed : ∀ q ∈ T_Law_feed, decode b_Law_feed q.1 = .ok (q.2.1, q.2.2) := by decide +kernel

set_option maxHeartbeats 4000000 in
set_option maxRecDepth 100000 in
theorem ok_Law_feed (l : Launch) (hfl : l.flags = pinnedFlags ++ [noTraceFlag]) (D : va_G) (A : Nat → Prop) (σ : Nat) (x0 : Nat) (x1 : Int32) (x2 : Int32) (x3 : Int32) (x4 : Int32) (x5 : Int32) (x6 : Nat) (h : xb_H) (bc : Nat) (bs : Nat) (Qr : Int32 → xb_H → Nat → Nat → Prop) (hw : w_Law_feed x0 x1 x2 x3 x4 x5 x6 h bc bs Qr) : xb_Met l y_Law_feed [.codeWith y_Law_feed b_Law_feed 8 (some .int) [(0, 16, 19, 13)]] (xb_rm 4 bc bs) (xb_Pc D A σ h [.ref x0, .int x1, .int x2, .int x3, .int x4, .int x5, .ref x6]) (xb_Qc D A h bc bs (fun v h bc bs => ∃ r, v = some (.int r) ∧ Qr r h bc bs) (fun _ _ _ _ => False)) A := by
  refine xb_ofAmH (cc := b_Law_feed) (by decide) (Nat.le_of_ble_eq_true rfl) ?_
  unfold w_Law_feed at hw
  show xb_am l D A σ 4 bc bs h (fun v h bc bs => ∃ r, v = some (.int r) ∧ Qr r h bc bs) (fun _ _ _ _ => False) y_Law_feed.cls y_Law_feed.name b_Law_feed 8 (tableOf [(0, 16, 19, 13)]) (some .int) 0 [(0, .ref x0), (1, .int x1), (2, .int x2), (3, .int x3), (4, .int x4), (5, .int x5), (6, .ref x6)] [] h bc bs
  obtain ⟨MC, hMC⟩ : ∃ x, x = bc := ⟨_, rfl⟩
  obtain ⟨MS, hMS⟩ : ∃ x, x = bs := ⟨_, rfl⟩
  rw [show xb_am l D A σ 4 bc bs = xb_am l D A σ 4 MC MS by rw [hMC, hMS]]
  obtain ⟨h0, hh0⟩ : ∃ x, x = h := ⟨_, rfl⟩
  rw [show xb_am l D A σ 4 MC MS h = xb_am l D A σ 4 MC MS h0 by rw [hh0]]
  intro p e s m args below meth c hC H locs ls k n hE hl hR hS hk hn
  obtain ⟨hx, hb, hown, hlocks, htab, hml, hr, hB, hA, hnm⟩ := id hC
  have hts := hB.1.1.at args
  refine lv_aload hx hb (xb_d D_Law_feed 0 rfl) (lv_at hl 6 rfl) ?_
  refine lv_iconst (v := 0) hx hb (xb_d D_Law_feed 1 rfl) (by decide) ?_
  refine lv_aload_n hx hb (xb_d D_Law_feed 2 rfl) rfl (lv_at hl 0 rfl) ?_
  refine lv_iload_n hx hb (xb_d D_Law_feed 3 rfl) rfl (lv_at hl 1 rfl) ?_
  refine lv_iload_n hx hb (xb_d D_Law_feed 4 rfl) rfl (lv_at hl 2 rfl) ?_
  refine lv_iload_n hx hb (xb_d D_Law_feed 5 rfl) rfl (lv_at hl 3 rfl) ?_
  refine lv_iload hx hb (xb_d D_Law_feed 6 rfl) (lv_at hl 4 rfl) ?_
  refine lv_iload hx hb (xb_d D_Law_feed 7 rfl) (lv_at hl 5 rfl) ?_
  obtain ⟨hk1, hw⟩ := hw
  refine xb_call (D := D) (A := A) (σ := σ) (h := h) (d := 3) (mc := bc) (ms := bs) (maxL := 6) (rest := [.int 0, .ref x6]) (av := [.ref x0, .int x1, .int x2, .int x3, .int x4, .int x5]) (fun T hT X => by obtain ⟨cb9, ra9, rb9, rc9⟩ := xb_recv (ci := 0) hR rfl hk1 (by decide); exact xt_invV X hx hown (hts _ m_b5c4b44c) (hts _ m_86133e3f) (hts _ m_5863c221) (xt_sigOf (hts _ m_382b818b)) nm_H_feed (by rw [hT]; exact ra9) rb9 rc9 (g := F0 m 11 ls [.int x5, .int x4, .int x3, .int x2, .int x1, .ref x0, .int 0, .ref x6]) rfl (argsL := [.int x1, .int x2, .int x3, .int x4, .int x5]) (rest := [.int 0, .ref x6]) rfl rfl (by rw [hb]; exact (xb_d D_Law_feed 8 rfl))) (ok_H_feed l hfl D A σ x0 x1 x2 x3 x4 x5 h bc bs _ _ hw) (hml.trans hl.1.symm) (by rw [hb]; exact (xb_d D_Law_feed 8 rfl)) (Nat.le_of_ble_eq_true rfl) (Nat.le_of_ble_eq_true rfl) (Nat.le_of_ble_eq_true rfl) (show k + bc ≤ MC by omega) (show n + bs ≤ MS by omega) (xt_w1 hB.1 m_382b818b) (xt_cdOf hB.1 m_382b818b) (hts _ m_ba0734f5) hB hR hS hA (fun vv h2 bc3 bs3 kk3 nn3 H locs hk3 hn3 hq hEh2 hR hS => ?_) (fun XX ax h2 bc3 bs3 kk3 nn3 H locs hk3 hn3 hq hEh2 hex hR hS => ?_)
  · obtain ⟨r3, rfl, hw⟩ := hq
    have hw := hw hEh2
    have hE := hE.tr hEh2
    refine W.eq (g2 := F0 m 14 ls [.int r3, .int 0, .ref x6]) rfl ?_
    refine lv_i2l hx hb (xb_d D_Law_feed 9 rfl) rfl ?_
    obtain ⟨hk4, hw⟩ := hw
    obtain ⟨hi5, hw⟩ := hw
    refine xb_last hx hb hR hS hk4 hi5 (xb_d D_Law_feed 10 rfl) (fun H locs hR hS => ?_)
    obtain ⟨h6, eh6⟩ : ∃ x : xb_H, x = xb_L h2 x6 (Int32.toNatClampNeg 0) (Int32.toInt64 r3) := ⟨_, rfl⟩
    rw [← eh6] at hR
    have hw := hw h6 eh6
    have hE : xb_ext h0 h6 := by rw [eh6]; exact hE
    refine lv_goto (tgt := 23) hx hb (xb_d D_Law_feed 11 rfl) rfl ?_
    refine lv_iconst (v := 0) hx hb (xb_d D_Law_feed 15 rfl) (by decide) ?_
    exact xb_iret bc3 bs3 hx hb hr hlocks (show (k + kk3) + bc3 ≤ MC by omega) (show (n + nn3) + bs3 ≤ MS by omega) hE hR hS (xb_d D_Law_feed 16 rfl) hw
  · have hw := hq hEh2 ax
    have hE := hE.tr hEh2
    obtain ⟨rfl, hw⟩ := hw
    refine xt_catch (own := "StackHostLaw") (name := "java/lang/IllegalStateException") (Xn := "java/lang/IllegalStateException") hown ⟨0, 16, 19, 13⟩ [] htab (by decide) (by decide) (hts _ m_cd065aea) (hts _ m_a4ef0ec8) hex ?_
    refine W.eq (g2 := F0 m 19 ls [.ref ax]) rfl ?_
    refine lv_astore hx hb (xb_d D_Law_feed 12 rfl) hl (by decide) rfl (fun ls hl => ?_)
    have hl : lv_has ls 8 [(7, .ref ax), (0, .ref x0), (1, .int x1), (2, .int x2), (3, .int x3), (4, .int x4), (5, .int x5), (6, .ref x6)] := hl
    refine lv_iconst (v := 1) hx hb (xb_d D_Law_feed 13 rfl) (by decide) ?_
    exact xb_iret bc3 bs3 hx hb hr hlocks (show (k + kk3) + bc3 ≤ MC by omega) (show (n + nn3) + bs3 ≤ MS by omega) hE hR hS (xb_d D_Law_feed 14 rfl) hw

theorem m_266e88b0 : (.methodLink "StackHostLaw" 31 y_H_module : Cond) ∈ xt_tbl := xt_in (xt_t6 (List.mem_of_getElem? (i := 80) (by decide +kernel))) (by decide +kernel)
theorem m_53d7cc28 : (.instanceMethod y_H_module : Cond) ∈ xt_tbl := xt_in (xt_t6 (List.mem_of_getElem? (i := 81) (by decide +kernel))) (by decide +kernel)
theorem m_f3f143cf : (.selects "StackHost" y_H_module y_H_module : Cond) ∈ xt_tbl := xt_in (xt_t6 (List.mem_of_getElem? (i := 82) (by decide +kernel))) (by decide +kernel)
theorem m_bd825a56 : (.code y_H_module b_H_module 4 (some .int) : Cond) ∈ xt_tbl := xt_in (xt_t6 (List.mem_of_getElem? (i := 83) (by decide +kernel))) (by decide +kernel)
theorem nm_H_module : xt_nm y_H_module 2 := ⟨by decide +kernel, by decide +kernel⟩
set_option maxRecDepth 100000 in
def T_Law_module : List (Nat × Instr × Nat) := [(0, .aload_n 3, 1), (1, .iconst 0, 1), (2, .aload_n 0, 1), (3, .iload_n 1, 1), (4, .iload_n 2, 1), (5, .invokevirtual 31, 3), (8, .i2l, 1), (9, .lastore, 1), (10, .goto 7, 3), (13, .astore 4, 2), (15, .iconst 1, 1), (16, .ireturn, 1), (17, .iconst 0, 1), (18, .ireturn, 1)]
theorem D_Law_module : ∀ q ∈ T_Law_module, decode b_Law_module q.1 = .ok (q.2.1, q.2.2) := by decide +kernel

set_option maxHeartbeats 4000000 in
set_option maxRecDepth 100000 in
theorem ok_Law_module (l : Launch) (hfl : l.flags = pinnedFlags ++ [noTraceFlag]) (D : va_G) (A : Nat → Prop) (σ : Nat) (x0 : Nat) (x1 : Int32) (x2 : Int32) (x3 : Nat) (h : xb_H) (bc : Nat) (bs : Nat) (Qr : Int32 → xb_H → Nat → Nat → Prop) (hw : w_Law_module x0 x1 x2 x3 h bc bs Qr) : xb_Met l y_Law_module [.codeWith y_Law_module b_Law_module 5 (some .int) [(0, 10, 13, 29)]] (xb_rm 4 bc bs) (xb_Pc D A σ h [.ref x0, .int x1, .int x2, .ref x3]) (xb_Qc D A h bc bs (fun v h bc bs => ∃ r, v = some (.int r) ∧ Qr r h bc bs) (fun _ _ _ _ => False)) A := by
  refine xb_ofAmH (cc := b_Law_module) (by decide) (Nat.le_of_ble_eq_true rfl) ?_
  unfold w_Law_module at hw
  show xb_am l D A σ 4 bc bs h (fun v h bc bs => ∃ r, v = some (.int r) ∧ Qr r h bc bs) (fun _ _ _ _ => False) y_Law_module.cls y_Law_module.name b_Law_module 5 (tableOf [(0, 10, 13, 29)]) (some .int) 0 [(0, .ref x0), (1, .int x1), (2, .int x2), (3, .ref x3)] [] h bc bs
  obtain ⟨MC, hMC⟩ : ∃ x, x = bc := ⟨_, rfl⟩
  obtain ⟨MS, hMS⟩ : ∃ x, x = bs := ⟨_, rfl⟩
  rw [show xb_am l D A σ 4 bc bs = xb_am l D A σ 4 MC MS by rw [hMC, hMS]]
  obtain ⟨h0, hh0⟩ : ∃ x, x = h := ⟨_, rfl⟩
  rw [show xb_am l D A σ 4 MC MS h = xb_am l D A σ 4 MC MS h0 by rw [hh0]]
  intro p e s m args below meth c hC H locs ls k n hE hl hR hS hk hn
  obtain ⟨hx, hb, hown, hlocks, htab, hml, hr, hB, hA, hnm⟩ := id hC
  have hts := hB.1.1.at args
  refine lv_aload_n hx hb (xb_d D_Law_module 0 rfl) rfl (lv_at hl 3 rfl) ?_
  refine lv_iconst (v := 0) hx hb (xb_d D_Law_module 1 rfl) (by decide) ?_
  refine lv_aload_n hx hb (xb_d D_Law_module 2 rfl) rfl (lv_at hl 0 rfl) ?_
  refine lv_iload_n hx hb (xb_d D_Law_module 3 rfl) rfl (lv_at hl 1 rfl) ?_
  refine lv_iload_n hx hb (xb_d D_Law_module 4 rfl) rfl (lv_at hl 2 rfl) ?_
  obtain ⟨hk1, hw⟩ := hw
  refine xb_call (D := D) (A := A) (σ := σ) (h := h) (d := 3) (mc := bc) (ms := bs) (maxL := 4) (rest := [.int 0, .ref x3]) (av := [.ref x0, .int x1, .int x2]) (fun T hT X => by obtain ⟨cb9, ra9, rb9, rc9⟩ := xb_recv (ci := 0) hR rfl hk1 (by decide); exact xt_invV X hx hown (hts _ m_266e88b0) (hts _ m_53d7cc28) (hts _ m_f3f143cf) (xt_sigOf (hts _ m_bd825a56)) nm_H_module (by rw [hT]; exact ra9) rb9 rc9 (g := F0 m 5 ls [.int x2, .int x1, .ref x0, .int 0, .ref x3]) rfl (argsL := [.int x1, .int x2]) (rest := [.int 0, .ref x3]) rfl rfl (by rw [hb]; exact (xb_d D_Law_module 5 rfl))) (ok_H_module l hfl D A σ x0 x1 x2 h bc bs _ _ hw) (hml.trans hl.1.symm) (by rw [hb]; exact (xb_d D_Law_module 5 rfl)) (Nat.le_of_ble_eq_true rfl) (Nat.le_of_ble_eq_true rfl) (Nat.le_of_ble_eq_true rfl) (show k + bc ≤ MC by omega) (show n + bs ≤ MS by omega) (xt_w1 hB.1 m_bd825a56) (xt_cdOf hB.1 m_bd825a56) (hts _ m_ba0734f5) hB hR hS hA (fun vv h2 bc3 bs3 kk3 nn3 H locs hk3 hn3 hq hEh2 hR hS => ?_) (fun XX ax h2 bc3 bs3 kk3 nn3 H locs hk3 hn3 hq hEh2 hex hR hS => ?_)
  · obtain ⟨r3, rfl, hw⟩ := hq
    have hw := hw hEh2
    have hE := hE.tr hEh2
    refine W.eq (g2 := F0 m 8 ls [.int r3, .int 0, .ref x3]) rfl ?_
    refine lv_i2l hx hb (xb_d D_Law_module 6 rfl) rfl ?_
    obtain ⟨hk4, hw⟩ := hw
    obtain ⟨hi5, hw⟩ := hw
    refine xb_last hx hb hR hS hk4 hi5 (xb_d D_Law_module 7 rfl) (fun H locs hR hS => ?_)
    obtain ⟨h6, eh6⟩ : ∃ x : xb_H, x = xb_L h2 x3 (Int32.toNatClampNeg 0) (Int32.toInt64 r3) := ⟨_, rfl⟩
    rw [← eh6] at hR
    have hw := hw h6 eh6
    have hE : xb_ext h0 h6 := by rw [eh6]; exact hE
    refine lv_goto (tgt := 17) hx hb (xb_d D_Law_module 8 rfl) rfl ?_
    refine lv_iconst (v := 0) hx hb (xb_d D_Law_module 12 rfl) (by decide) ?_
    exact xb_iret bc3 bs3 hx hb hr hlocks (show (k + kk3) + bc3 ≤ MC by omega) (show (n + nn3) + bs3 ≤ MS by omega) hE hR hS (xb_d D_Law_module 13 rfl) hw
  · have hw := hq hEh2 ax
    have hE := hE.tr hEh2
    obtain ⟨rfl, hw⟩ := hw
    refine xt_catch (own := "StackHostLaw") (name := "java/lang/IndexOutOfBoundsException") (Xn := "java/lang/IndexOutOfBoundsException") hown ⟨0, 10, 13, 29⟩ [] htab (by decide) (by decide) (hts _ m_17a0b3c6) (hts _ m_b0d3d118) hex ?_
    refine W.eq (g2 := F0 m 13 ls [.ref ax]) rfl ?_
    refine lv_astore hx hb (xb_d D_Law_module 9 rfl) hl (by decide) rfl (fun ls hl => ?_)
    have hl : lv_has ls 5 [(4, .ref ax), (0, .ref x0), (1, .int x1), (2, .int x2), (3, .ref x3)] := hl
    refine lv_iconst (v := 1) hx hb (xb_d D_Law_module 10 rfl) (by decide) ?_
    exact xb_iret bc3 bs3 hx hb hr hlocks (show (k + kk3) + bc3 ≤ MC by omega) (show (n + nn3) + bs3 ≤ MS by omega) hE hR hS (xb_d D_Law_module 11 rfl) hw

theorem m_e5bf94e4 : (.methodLink "StackHostLaw" 65 y_H_pages : Cond) ∈ xt_tbl := xt_in (xt_t9 (List.mem_of_getElem? (i := 34) (by decide +kernel))) (by decide +kernel)
theorem m_e0b9d044 : (.instanceMethod y_H_pages : Cond) ∈ xt_tbl := xt_in (xt_t9 (List.mem_of_getElem? (i := 35) (by decide +kernel))) (by decide +kernel)
theorem m_31b5e7fd : (.selects "StackHost" y_H_pages y_H_pages : Cond) ∈ xt_tbl := xt_in (xt_t9 (List.mem_of_getElem? (i := 36) (by decide +kernel))) (by decide +kernel)
theorem m_2758ffe3 : (.code y_H_pages b_H_pages 3 (some .int) : Cond) ∈ xt_tbl := xt_in (xt_t9 (List.mem_of_getElem? (i := 37) (by decide +kernel))) (by decide +kernel)
theorem nm_H_pages : xt_nm y_H_pages 1 := ⟨by decide +kernel, by decide +kernel⟩
set_option maxRecDepth 100000 in
def T_Law_pages : List (Nat × Instr × Nat) := [(0, .aload_n 2, 1), (1, .iconst 0, 1), (2, .aload_n 0, 1), (3, .iload_n 1, 1), (4, .invokevirtual 65, 3), (7, .i2l, 1), (8, .lastore, 1), (9, .goto 6, 3), (12, .astore_n 3, 1), (13, .iconst 1, 1), (14, .ireturn, 1), (15, .iconst 0, 1), (16, .ireturn, 1)]
theorem D_Law_pages : ∀ q ∈ T_Law_pages, decode b_Law_pages q.1 = .ok (q.2.1, q.2.2) := by decide +kernel

set_option maxHeartbeats 4000000 in
set_option maxRecDepth 100000 in
theorem ok_Law_pages (l : Launch) (hfl : l.flags = pinnedFlags ++ [noTraceFlag]) (D : va_G) (A : Nat → Prop) (σ : Nat) (x0 : Nat) (x1 : Int32) (x2 : Nat) (h : xb_H) (bc : Nat) (bs : Nat) (Qr : Int32 → xb_H → Nat → Nat → Prop) (hw : w_Law_pages x0 x1 x2 h bc bs Qr) : xb_Met l y_Law_pages [.codeWith y_Law_pages b_Law_pages 4 (some .int) [(0, 9, 12, 29)]] (xb_rm 4 bc bs) (xb_Pc D A σ h [.ref x0, .int x1, .ref x2]) (xb_Qc D A h bc bs (fun v h bc bs => ∃ r, v = some (.int r) ∧ Qr r h bc bs) (fun _ _ _ _ => False)) A := by
  refine xb_ofAmH (cc := b_Law_pages) (by decide) (Nat.le_of_ble_eq_true rfl) ?_
  unfold w_Law_pages at hw
  show xb_am l D A σ 4 bc bs h (fun v h bc bs => ∃ r, v = some (.int r) ∧ Qr r h bc bs) (fun _ _ _ _ => False) y_Law_pages.cls y_Law_pages.name b_Law_pages 4 (tableOf [(0, 9, 12, 29)]) (some .int) 0 [(0, .ref x0), (1, .int x1), (2, .ref x2)] [] h bc bs
  obtain ⟨MC, hMC⟩ : ∃ x, x = bc := ⟨_, rfl⟩
  obtain ⟨MS, hMS⟩ : ∃ x, x = bs := ⟨_, rfl⟩
  rw [show xb_am l D A σ 4 bc bs = xb_am l D A σ 4 MC MS by rw [hMC, hMS]]
  obtain ⟨h0, hh0⟩ : ∃ x, x = h := ⟨_, rfl⟩
  rw [show xb_am l D A σ 4 MC MS h = xb_am l D A σ 4 MC MS h0 by rw [hh0]]
  intro p e s m args below meth c hC H locs ls k n hE hl hR hS hk hn
  obtain ⟨hx, hb, hown, hlocks, htab, hml, hr, hB, hA, hnm⟩ := id hC
  have hts := hB.1.1.at args
  refine lv_aload_n hx hb (xb_d D_Law_pages 0 rfl) rfl (lv_at hl 2 rfl) ?_
  refine lv_iconst (v := 0) hx hb (xb_d D_Law_pages 1 rfl) (by decide) ?_
  refine lv_aload_n hx hb (xb_d D_Law_pages 2 rfl) rfl (lv_at hl 0 rfl) ?_
  refine lv_iload_n hx hb (xb_d D_Law_pages 3 rfl) rfl (lv_at hl 1 rfl) ?_
  obtain ⟨hk1, hw⟩ := hw
  refine xb_call (D := D) (A := A) (σ := σ) (h := h) (d := 3) (mc := bc) (ms := bs) (maxL := 3) (rest := [.int 0, .ref x2]) (av := [.ref x0, .int x1]) (fun T hT X => by obtain ⟨cb9, ra9, rb9, rc9⟩ := xb_recv (ci := 0) hR rfl hk1 (by decide); exact xt_invV X hx hown (hts _ m_e5bf94e4) (hts _ m_e0b9d044) (hts _ m_31b5e7fd) (xt_sigOf (hts _ m_2758ffe3)) nm_H_pages (by rw [hT]; exact ra9) rb9 rc9 (g := F0 m 4 ls [.int x1, .ref x0, .int 0, .ref x2]) rfl (argsL := [.int x1]) (rest := [.int 0, .ref x2]) rfl rfl (by rw [hb]; exact (xb_d D_Law_pages 4 rfl))) (ok_H_pages l hfl D A σ x0 x1 h bc bs _ _ hw) (hml.trans hl.1.symm) (by rw [hb]; exact (xb_d D_Law_pages 4 rfl)) (Nat.le_of_ble_eq_true rfl) (Nat.le_of_ble_eq_true rfl) (Nat.le_of_ble_eq_true rfl) (show k + bc ≤ MC by omega) (show n + bs ≤ MS by omega) (xt_w1 hB.1 m_2758ffe3) (xt_cdOf hB.1 m_2758ffe3) (hts _ m_ba0734f5) hB hR hS hA (fun vv h2 bc3 bs3 kk3 nn3 H locs hk3 hn3 hq hEh2 hR hS => ?_) (fun XX ax h2 bc3 bs3 kk3 nn3 H locs hk3 hn3 hq hEh2 hex hR hS => ?_)
  · obtain ⟨r3, rfl, hw⟩ := hq
    have hw := hw hEh2
    have hE := hE.tr hEh2
    refine W.eq (g2 := F0 m 7 ls [.int r3, .int 0, .ref x2]) rfl ?_
    refine lv_i2l hx hb (xb_d D_Law_pages 5 rfl) rfl ?_
    obtain ⟨hk4, hw⟩ := hw
    obtain ⟨hi5, hw⟩ := hw
    refine xb_last hx hb hR hS hk4 hi5 (xb_d D_Law_pages 6 rfl) (fun H locs hR hS => ?_)
    obtain ⟨h6, eh6⟩ : ∃ x : xb_H, x = xb_L h2 x2 (Int32.toNatClampNeg 0) (Int32.toInt64 r3) := ⟨_, rfl⟩
    rw [← eh6] at hR
    have hw := hw h6 eh6
    have hE : xb_ext h0 h6 := by rw [eh6]; exact hE
    refine lv_goto (tgt := 15) hx hb (xb_d D_Law_pages 7 rfl) rfl ?_
    refine lv_iconst (v := 0) hx hb (xb_d D_Law_pages 11 rfl) (by decide) ?_
    exact xb_iret bc3 bs3 hx hb hr hlocks (show (k + kk3) + bc3 ≤ MC by omega) (show (n + nn3) + bs3 ≤ MS by omega) hE hR hS (xb_d D_Law_pages 12 rfl) hw
  · have hw := hq hEh2 ax
    have hE := hE.tr hEh2
    obtain ⟨rfl, hw⟩ := hw
    refine xt_catch (own := "StackHostLaw") (name := "java/lang/IndexOutOfBoundsException") (Xn := "java/lang/IndexOutOfBoundsException") hown ⟨0, 9, 12, 29⟩ [] htab (by decide) (by decide) (hts _ m_17a0b3c6) (hts _ m_b0d3d118) hex ?_
    refine W.eq (g2 := F0 m 12 ls [.ref ax]) rfl ?_
    refine lv_astore_n hx hb (xb_d D_Law_pages 8 rfl) rfl hl (by decide) rfl (fun ls hl => ?_)
    have hl : lv_has ls 4 [(3, .ref ax), (0, .ref x0), (1, .int x1), (2, .ref x2)] := hl
    refine lv_iconst (v := 1) hx hb (xb_d D_Law_pages 9 rfl) (by decide) ?_
    exact xb_iret bc3 bs3 hx hb hr hlocks (show (k + kk3) + bc3 ≤ MC by omega) (show (n + nn3) + bs3 ≤ MS by omega) hE hR hS (xb_d D_Law_pages 10 rfl) hw

theorem m_07cc9faa : (.methodLink "StackHostLaw" 35 y_H_room : Cond) ∈ xt_tbl := xt_in (xt_t6 (List.mem_of_getElem? (i := 94) (by decide +kernel))) (by decide +kernel)
theorem m_3df9cf65 : (.instanceMethod y_H_room : Cond) ∈ xt_tbl := xt_in (xt_t6 (List.mem_of_getElem? (i := 95) (by decide +kernel))) (by decide +kernel)
theorem m_43295ca2 : (.selects "StackHost" y_H_room y_H_room : Cond) ∈ xt_tbl := xt_in (xt_t6 (List.mem_of_getElem? (i := 96) (by decide +kernel))) (by decide +kernel)
theorem m_39335ecb : (.code y_H_room b_H_room 4 (some .int) : Cond) ∈ xt_tbl := xt_in (xt_t6 (List.mem_of_getElem? (i := 97) (by decide +kernel))) (by decide +kernel)
theorem nm_H_room : xt_nm y_H_room 2 := ⟨by decide +kernel, by decide +kernel⟩
set_option maxRecDepth 100000 in
def T_Law_room : List (Nat × Instr × Nat) := [(0, .aload_n 3, 1), (1, .iconst 0, 1), (2, .aload_n 0, 1), (3, .iload_n 1, 1), (4, .iload_n 2, 1), (5, .invokevirtual 35, 3), (8, .i2l, 1), (9, .lastore, 1), (10, .goto 7, 3), (13, .astore 4, 2), (15, .iconst 1, 1), (16, .ireturn, 1), (17, .iconst 0, 1), (18, .ireturn, 1)]
theorem D_Law_room : ∀ q ∈ T_Law_room, decode b_Law_room q.1 = .ok (q.2.1, q.2.2) := by decide +kernel

set_option maxHeartbeats 4000000 in
set_option maxRecDepth 100000 in
theorem ok_Law_room (l : Launch) (hfl : l.flags = pinnedFlags ++ [noTraceFlag]) (D : va_G) (A : Nat → Prop) (σ : Nat) (x0 : Nat) (x1 : Int32) (x2 : Int32) (x3 : Nat) (h : xb_H) (bc : Nat) (bs : Nat) (Qr : Int32 → xb_H → Nat → Nat → Prop) (hw : w_Law_room x0 x1 x2 x3 h bc bs Qr) : xb_Met l y_Law_room [.codeWith y_Law_room b_Law_room 5 (some .int) [(0, 10, 13, 29)]] (xb_rm 4 bc bs) (xb_Pc D A σ h [.ref x0, .int x1, .int x2, .ref x3]) (xb_Qc D A h bc bs (fun v h bc bs => ∃ r, v = some (.int r) ∧ Qr r h bc bs) (fun _ _ _ _ => False)) A := by
  refine xb_ofAmH (cc := b_Law_room) (by decide) (Nat.le_of_ble_eq_true rfl) ?_
  unfold w_Law_room at hw
  show xb_am l D A σ 4 bc bs h (fun v h bc bs => ∃ r, v = some (.int r) ∧ Qr r h bc bs) (fun _ _ _ _ => False) y_Law_room.cls y_Law_room.name b_Law_room 5 (tableOf [(0, 10, 13, 29)]) (some .int) 0 [(0, .ref x0), (1, .int x1), (2, .int x2), (3, .ref x3)] [] h bc bs
  obtain ⟨MC, hMC⟩ : ∃ x, x = bc := ⟨_, rfl⟩
  obtain ⟨MS, hMS⟩ : ∃ x, x = bs := ⟨_, rfl⟩
  rw [show xb_am l D A σ 4 bc bs = xb_am l D A σ 4 MC MS by rw [hMC, hMS]]
  obtain ⟨h0, hh0⟩ : ∃ x, x = h := ⟨_, rfl⟩
  rw [show xb_am l D A σ 4 MC MS h = xb_am l D A σ 4 MC MS h0 by rw [hh0]]
  intro p e s m args below meth c hC H locs ls k n hE hl hR hS hk hn
  obtain ⟨hx, hb, hown, hlocks, htab, hml, hr, hB, hA, hnm⟩ := id hC
  have hts := hB.1.1.at args
  refine lv_aload_n hx hb (xb_d D_Law_room 0 rfl) rfl (lv_at hl 3 rfl) ?_
  refine lv_iconst (v := 0) hx hb (xb_d D_Law_room 1 rfl) (by decide) ?_
  refine lv_aload_n hx hb (xb_d D_Law_room 2 rfl) rfl (lv_at hl 0 rfl) ?_
  refine lv_iload_n hx hb (xb_d D_Law_room 3 rfl) rfl (lv_at hl 1 rfl) ?_
  refine lv_iload_n hx hb (xb_d D_Law_room 4 rfl) rfl (lv_at hl 2 rfl) ?_
  obtain ⟨hk1, hw⟩ := hw
  refine xb_call (D := D) (A := A) (σ := σ) (h := h) (d := 3) (mc := bc) (ms := bs) (maxL := 4) (rest := [.int 0, .ref x3]) (av := [.ref x0, .int x1, .int x2]) (fun T hT X => by obtain ⟨cb9, ra9, rb9, rc9⟩ := xb_recv (ci := 0) hR rfl hk1 (by decide); exact xt_invV X hx hown (hts _ m_07cc9faa) (hts _ m_3df9cf65) (hts _ m_43295ca2) (xt_sigOf (hts _ m_39335ecb)) nm_H_room (by rw [hT]; exact ra9) rb9 rc9 (g := F0 m 5 ls [.int x2, .int x1, .ref x0, .int 0, .ref x3]) rfl (argsL := [.int x1, .int x2]) (rest := [.int 0, .ref x3]) rfl rfl (by rw [hb]; exact (xb_d D_Law_room 5 rfl))) (ok_H_room l hfl D A σ x0 x1 x2 h bc bs _ _ hw) (hml.trans hl.1.symm) (by rw [hb]; exact (xb_d D_Law_room 5 rfl)) (Nat.le_of_ble_eq_true rfl) (Nat.le_of_ble_eq_true rfl) (Nat.le_of_ble_eq_true rfl) (show k + bc ≤ MC by omega) (show n + bs ≤ MS by omega) (xt_w1 hB.1 m_39335ecb) (xt_cdOf hB.1 m_39335ecb) (hts _ m_ba0734f5) hB hR hS hA (fun vv h2 bc3 bs3 kk3 nn3 H locs hk3 hn3 hq hEh2 hR hS => ?_) (fun XX ax h2 bc3 bs3 kk3 nn3 H locs hk3 hn3 hq hEh2 hex hR hS => ?_)
  · obtain ⟨r3, rfl, hw⟩ := hq
    have hw := hw hEh2
    have hE := hE.tr hEh2
    refine W.eq (g2 := F0 m 8 ls [.int r3, .int 0, .ref x3]) rfl ?_
    refine lv_i2l hx hb (xb_d D_Law_room 6 rfl) rfl ?_
    obtain ⟨hk4, hw⟩ := hw
    obtain ⟨hi5, hw⟩ := hw
    refine xb_last hx hb hR hS hk4 hi5 (xb_d D_Law_room 7 rfl) (fun H locs hR hS => ?_)
    obtain ⟨h6, eh6⟩ : ∃ x : xb_H, x = xb_L h2 x3 (Int32.toNatClampNeg 0) (Int32.toInt64 r3) := ⟨_, rfl⟩
    rw [← eh6] at hR
    have hw := hw h6 eh6
    have hE : xb_ext h0 h6 := by rw [eh6]; exact hE
    refine lv_goto (tgt := 17) hx hb (xb_d D_Law_room 8 rfl) rfl ?_
    refine lv_iconst (v := 0) hx hb (xb_d D_Law_room 12 rfl) (by decide) ?_
    exact xb_iret bc3 bs3 hx hb hr hlocks (show (k + kk3) + bc3 ≤ MC by omega) (show (n + nn3) + bs3 ≤ MS by omega) hE hR hS (xb_d D_Law_room 13 rfl) hw
  · have hw := hq hEh2 ax
    have hE := hE.tr hEh2
    obtain ⟨rfl, hw⟩ := hw
    refine xt_catch (own := "StackHostLaw") (name := "java/lang/IndexOutOfBoundsException") (Xn := "java/lang/IndexOutOfBoundsException") hown ⟨0, 10, 13, 29⟩ [] htab (by decide) (by decide) (hts _ m_17a0b3c6) (hts _ m_b0d3d118) hex ?_
    refine W.eq (g2 := F0 m 13 ls [.ref ax]) rfl ?_
    refine lv_astore hx hb (xb_d D_Law_room 9 rfl) hl (by decide) rfl (fun ls hl => ?_)
    have hl : lv_has ls 5 [(4, .ref ax), (0, .ref x0), (1, .int x1), (2, .int x2), (3, .ref x3)] := hl
    refine lv_iconst (v := 1) hx hb (xb_d D_Law_room 10 rfl) (by decide) ?_
    exact xb_iret bc3 bs3 hx hb hr hlocks (show (k + kk3) + bc3 ≤ MC by omega) (show (n + nn3) + bs3 ≤ MS by omega) hE hR hS (xb_d D_Law_room 11 rfl) hw

theorem m_51df03df : (.methodLink "StackHostLaw" 75 y_H_variable : Cond) ∈ xt_tbl := xt_in (xt_t9 (List.mem_of_getElem? (i := 63) (by decide +kernel))) (by decide +kernel)
theorem m_34f01bf5 : (.instanceMethod y_H_variable : Cond) ∈ xt_tbl := xt_in (xt_t9 (List.mem_of_getElem? (i := 64) (by decide +kernel))) (by decide +kernel)
theorem m_acef4832 : (.selects "StackHost" y_H_variable y_H_variable : Cond) ∈ xt_tbl := xt_in (xt_t9 (List.mem_of_getElem? (i := 65) (by decide +kernel))) (by decide +kernel)
theorem m_8eb297bc : (.code y_H_variable b_H_variable 4 (some .long) : Cond) ∈ xt_tbl := xt_in (xt_t9 (List.mem_of_getElem? (i := 66) (by decide +kernel))) (by decide +kernel)
theorem nm_H_variable : xt_nm y_H_variable 2 := ⟨by decide +kernel, by decide +kernel⟩
set_option maxRecDepth 100000 in
def T_Law_variable : List (Nat × Instr × Nat) := [(0, .aload_n 3, 1), (1, .iconst 0, 1), (2, .aload_n 0, 1), (3, .iload_n 1, 1), (4, .iload_n 2, 1), (5, .invokevirtual 75, 3), (8, .lastore, 1), (9, .goto 7, 3), (12, .astore 4, 2), (14, .iconst 1, 1), (15, .ireturn, 1), (16, .iconst 0, 1), (17, .ireturn, 1)]
theorem D_Law_variable : ∀ q ∈ T_Law_variable, decode b_Law_variable q.1 = .ok (q.2.1, q.2.2) := by decide +kernel

set_option maxHeartbeats 4000000 in
set_option maxRecDepth 100000 in
theorem ok_Law_variable (l : Launch) (hfl : l.flags = pinnedFlags ++ [noTraceFlag]) (D : va_G) (A : Nat → Prop) (σ : Nat) (x0 : Nat) (x1 : Int32) (x2 : Int32) (x3 : Nat) (h : xb_H) (bc : Nat) (bs : Nat) (Qr : Int32 → xb_H → Nat → Nat → Prop) (hw : w_Law_variable x0 x1 x2 x3 h bc bs Qr) : xb_Met l y_Law_variable [.codeWith y_Law_variable b_Law_variable 5 (some .int) [(0, 9, 12, 29)]] (xb_rm 4 bc bs) (xb_Pc D A σ h [.ref x0, .int x1, .int x2, .ref x3]) (xb_Qc D A h bc bs (fun v h bc bs => ∃ r, v = some (.int r) ∧ Qr r h bc bs) (fun _ _ _ _ => False)) A := by
  refine xb_ofAmH (cc := b_Law_variable) (by decide) (Nat.le_of_ble_eq_true rfl) ?_
  unfold w_Law_variable at hw
  show xb_am l D A σ 4 bc bs h (fun v h bc bs => ∃ r, v = some (.int r) ∧ Qr r h bc bs) (fun _ _ _ _ => False) y_Law_variable.cls y_Law_variable.name b_Law_variable 5 (tableOf [(0, 9, 12, 29)]) (some .int) 0 [(0, .ref x0), (1, .int x1), (2, .int x2), (3, .ref x3)] [] h bc bs
  obtain ⟨MC, hMC⟩ : ∃ x, x = bc := ⟨_, rfl⟩
  obtain ⟨MS, hMS⟩ : ∃ x, x = bs := ⟨_, rfl⟩
  rw [show xb_am l D A σ 4 bc bs = xb_am l D A σ 4 MC MS by rw [hMC, hMS]]
  obtain ⟨h0, hh0⟩ : ∃ x, x = h := ⟨_, rfl⟩
  rw [show xb_am l D A σ 4 MC MS h = xb_am l D A σ 4 MC MS h0 by rw [hh0]]
  intro p e s m args below meth c hC H locs ls k n hE hl hR hS hk hn
  obtain ⟨hx, hb, hown, hlocks, htab, hml, hr, hB, hA, hnm⟩ := id hC
  have hts := hB.1.1.at args
  refine lv_aload_n hx hb (xb_d D_Law_variable 0 rfl) rfl (lv_at hl 3 rfl) ?_
  refine lv_iconst (v := 0) hx hb (xb_d D_Law_variable 1 rfl) (by decide) ?_
  refine lv_aload_n hx hb (xb_d D_Law_variable 2 rfl) rfl (lv_at hl 0 rfl) ?_
  refine lv_iload_n hx hb (xb_d D_Law_variable 3 rfl) rfl (lv_at hl 1 rfl) ?_
  refine lv_iload_n hx hb (xb_d D_Law_variable 4 rfl) rfl (lv_at hl 2 rfl) ?_
  obtain ⟨hk1, hw⟩ := hw
  refine xb_call (D := D) (A := A) (σ := σ) (h := h) (d := 3) (mc := bc) (ms := bs) (maxL := 4) (rest := [.int 0, .ref x3]) (av := [.ref x0, .int x1, .int x2]) (fun T hT X => by obtain ⟨cb9, ra9, rb9, rc9⟩ := xb_recv (ci := 0) hR rfl hk1 (by decide); exact xt_invV X hx hown (hts _ m_51df03df) (hts _ m_34f01bf5) (hts _ m_acef4832) (xt_sigOf (hts _ m_8eb297bc)) nm_H_variable (by rw [hT]; exact ra9) rb9 rc9 (g := F0 m 5 ls [.int x2, .int x1, .ref x0, .int 0, .ref x3]) rfl (argsL := [.int x1, .int x2]) (rest := [.int 0, .ref x3]) rfl rfl (by rw [hb]; exact (xb_d D_Law_variable 5 rfl))) (ok_H_variable l hfl D A σ x0 x1 x2 h bc bs _ _ hw) (hml.trans hl.1.symm) (by rw [hb]; exact (xb_d D_Law_variable 5 rfl)) (Nat.le_of_ble_eq_true rfl) (Nat.le_of_ble_eq_true rfl) (Nat.le_of_ble_eq_true rfl) (show k + bc ≤ MC by omega) (show n + bs ≤ MS by omega) (xt_w1 hB.1 m_8eb297bc) (xt_cdOf hB.1 m_8eb297bc) (hts _ m_ba0734f5) hB hR hS hA (fun vv h2 bc3 bs3 kk3 nn3 H locs hk3 hn3 hq hEh2 hR hS => ?_) (fun XX ax h2 bc3 bs3 kk3 nn3 H locs hk3 hn3 hq hEh2 hex hR hS => ?_)
  · obtain ⟨r3, rfl, hw⟩ := hq
    have hw := hw hEh2
    have hE := hE.tr hEh2
    refine W.eq (g2 := F0 m 8 ls [.long r3, .int 0, .ref x3]) rfl ?_
    obtain ⟨hk4, hw⟩ := hw
    obtain ⟨hi5, hw⟩ := hw
    refine xb_last hx hb hR hS hk4 hi5 (xb_d D_Law_variable 6 rfl) (fun H locs hR hS => ?_)
    obtain ⟨h6, eh6⟩ : ∃ x : xb_H, x = xb_L h2 x3 (Int32.toNatClampNeg 0) r3 := ⟨_, rfl⟩
    rw [← eh6] at hR
    have hw := hw h6 eh6
    have hE : xb_ext h0 h6 := by rw [eh6]; exact hE
    refine lv_goto (tgt := 16) hx hb (xb_d D_Law_variable 7 rfl) rfl ?_
    refine lv_iconst (v := 0) hx hb (xb_d D_Law_variable 11 rfl) (by decide) ?_
    exact xb_iret bc3 bs3 hx hb hr hlocks (show (k + kk3) + bc3 ≤ MC by omega) (show (n + nn3) + bs3 ≤ MS by omega) hE hR hS (xb_d D_Law_variable 12 rfl) hw
  · have hw := hq hEh2 ax
    have hE := hE.tr hEh2
    obtain ⟨rfl, hw⟩ := hw
    refine xt_catch (own := "StackHostLaw") (name := "java/lang/IndexOutOfBoundsException") (Xn := "java/lang/IndexOutOfBoundsException") hown ⟨0, 9, 12, 29⟩ [] htab (by decide) (by decide) (hts _ m_17a0b3c6) (hts _ m_b0d3d118) hex ?_
    refine W.eq (g2 := F0 m 12 ls [.ref ax]) rfl ?_
    refine lv_astore hx hb (xb_d D_Law_variable 8 rfl) hl (by decide) rfl (fun ls hl => ?_)
    have hl : lv_has ls 5 [(4, .ref ax), (0, .ref x0), (1, .int x1), (2, .int x2), (3, .ref x3)] := hl
    refine lv_iconst (v := 1) hx hb (xb_d D_Law_variable 9 rfl) (by decide) ?_
    exact xb_iret bc3 bs3 hx hb hr hlocks (show (k + kk3) + bc3 ≤ MC by omega) (show (n + nn3) + bs3 ≤ MS by omega) hE hR hS (xb_d D_Law_variable 10 rfl) hw

theorem m_0e978570 : (.methodLink "StackHostModel" 212 y_M_next : Cond) ∈ xt_tbl := xt_in (xt_t10 (List.mem_of_getElem? (i := 214) (by decide +kernel))) (by decide +kernel)
theorem m_40099f98 : (.instanceMethod y_M_next : Cond) ∈ xt_tbl := xt_in (xt_t10 (List.mem_of_getElem? (i := 216) (by decide +kernel))) (by decide +kernel)
theorem m_a7dbfd07 : (.selects "StackHostModel" y_M_next y_M_next : Cond) ∈ xt_tbl := xt_in (xt_v9 (q := (⟨"StackHostModel", "next", "()I"⟩, 97)) (List.mem_of_getElem? (i := 4) (by decide +kernel))) (by decide +kernel)
theorem m_0af1ec6a : (.code y_M_next b_M_next 2 (some .int) : Cond) ∈ xt_tbl := xt_in (xt_t10 (List.mem_of_getElem? (i := 217) (by decide +kernel))) (by decide +kernel)
theorem nm_M_next : xt_nm y_M_next 0 := ⟨by decide +kernel, by decide +kernel⟩
set_option maxRecDepth 100000 in
def T_M_count : List (Nat × Instr × Nat) := [(0, .lconst 0, 1), (1, .lstore_n 1, 1), (2, .iconst 0, 1), (3, .istore_n 3, 1), (4, .iload_n 3, 1), (5, .iconst 5, 1), (6, .if_icmp .ge 78, 3), (9, .aload_n 0, 1), (10, .invokevirtual 212, 3), (13, .istore 4, 2), (15, .aload_n 0, 1), (16, .getfield 193, 3), (19, .ifCond .ne 26, 3), (22, .iload_n 3, 1), (23, .iconst 4, 1), (24, .if_icmp .ne 21, 3), (27, .iload 4, 2), (29, .bipush 15, 2), (31, .if_icmp .le 14, 3), (34, .aload_n 0, 1), (35, .iconst 3, 1), (36, .aload_n 0, 1), (37, .getfield 202, 3), (40, .iconst 1, 1), (41, .isub, 1), (42, .invokevirtual 208, 3), (45, .aload_n 0, 1), (46, .getfield 193, 3), (49, .ifCond .eq 5, 3), (52, .lconst 0, 1), (53, .lreturn, 1), (54, .lload_n 1, 1), (55, .iload 4, 2), (57, .bipush 127, 2), (59, .iand, 1), (60, .i2l, 1), (61, .bipush 7, 2), (63, .iload_n 3, 1), (64, .imul, 1), (65, .lshl, 1), (66, .lor, 1), (67, .lstore_n 1, 1), (68, .iload 4, 2), (70, .sipush 128, 3), (73, .if_icmp .ge 5, 3), (76, .lload_n 1, 1), (77, .lreturn, 1), (78, .iinc 3 1, 3), (81, .goto (-77), 3), (84, .lload_n 1, 1), (85, .lreturn, 1)]
theorem D_M_count : ∀ q ∈ T_M_count, decode b_M_count q.1 = .ok (q.2.1, q.2.2) := by decide +kernel

set_option maxHeartbeats 4000000 in
set_option maxRecDepth 100000 in
theorem am_M_count_L45 (l : Launch) (hfl : l.flags = pinnedFlags ++ [noTraceFlag]) (D : va_G) (A : Nat → Prop) (σ MC MS : Nat) (h0 : xb_H) (Qr : Int64 → xb_H → Prop) (K4 : Nat → Int64 → Int32 → xb_H → Prop) (hK4 : ∀ (x0 : Nat) (x1 : Int64) (x3 : Int32) (h : xb_H), K4 x0 x1 x3 h → xb_am l D A σ 4 MC MS h0 (fun v h _ _ => ∃ r, v = some (.long r) ∧ Qr r h) (fun _ _ _ _ => False) y_M_count.cls y_M_count.name b_M_count 5 ([] : List ExceptionTableEntry) (some .long) 4 [(0, .ref x0), (1, .long x1), (3, .int x3)] [] h 0 0) (x0 : Nat) (x1 : Int64) (x3 : Int32) (x4 : Int32) (h : xb_H) (hw : w_M_count_L45 K4 Qr x0 x1 x3 x4 h) : xb_am l D A σ 4 MC MS h0 (fun v h _ _ => ∃ r, v = some (.long r) ∧ Qr r h) (fun _ _ _ _ => False) y_M_count.cls y_M_count.name b_M_count 5 ([] : List ExceptionTableEntry) (some .long) 45 [(0, .ref x0), (1, .long x1), (3, .int x3), (4, .int x4)] [] h 0 0 := by
  unfold w_M_count_L45 at hw
  intro p e s m args below meth c hC H locs ls k n hE hl hR hS hk hn
  obtain ⟨hx, hb, hown, hlocks, htab, hml, hr, hB, hA, hnm⟩ := id hC
  have hts := hB.1.1.at args
  refine lv_aload_n hx hb (xb_d D_M_count 26 rfl) rfl (lv_at hl 0 rfl) ?_
  obtain ⟨hk1, hw⟩ := hw
  refine xb_getI (C := R_M) (T := F_M) (N := 97) hx hb 8 17 hts fin_M hown hR hk1 (by decide) rfl (by decide) rfl (hts _ m_ff69da61) (fun _ h9 => h9) (xb_d D_M_count 27 rfl) ?_
  refine lv_if_eq (tgt := 54) hx hb (xb_d D_M_count 28 rfl) rfl (fun hc2 => ?_) (fun hc2 => ?_)
  · have hw := hw.1 hc2
    refine lv_lload_n hx hb (xb_d D_M_count 31 rfl) rfl (lv_at hl 1 rfl) ?_
    refine lv_iload hx hb (xb_d D_M_count 32 rfl) (lv_at hl 3 rfl) ?_
    refine lv_bipush (v := 127) hx hb (xb_d D_M_count 33 rfl) (by decide) ?_
    refine lv_iand hx hb (xb_d D_M_count 34 rfl) ?_
    refine lv_i2l hx hb (xb_d D_M_count 35 rfl) rfl ?_
    refine lv_bipush (v := 7) hx hb (xb_d D_M_count 36 rfl) (by decide) ?_
    refine lv_iload_n hx hb (xb_d D_M_count 37 rfl) rfl (lv_at hl 2 rfl) ?_
    refine lv_imul hx hb (xb_d D_M_count 38 rfl) ?_
    refine lv_lshl (v := (xb_lshl (Int32.toInt64 (x4 &&& 127)) (7 * x3))) hx hb (xb_d D_M_count 39 rfl) rfl ?_
    refine lv_lor hx hb (xb_d D_M_count 40 rfl) ?_
    obtain ⟨v3, ev3⟩ : ∃ x : Int64, x = (x1 ||| (xb_lshl (Int32.toInt64 (x4 &&& 127)) (7 * x3))) := ⟨_, rfl⟩
    have hw := hw v3 ev3
    refine xt_numl (y := v3) ev3.symm ?_
    refine lv_lstore_n hx hb (xb_d D_M_count 41 rfl) rfl hl (by decide) rfl (fun ls hl => ?_)
    have hl : lv_has ls 5 [(1, .long v3), (0, .ref x0), (3, .int x3), (4, .int x4)] := hl
    refine lv_iload hx hb (xb_d D_M_count 42 rfl) (lv_at hl 3 rfl) ?_
    refine lv_sipush (v := 128) hx hb (xb_d D_M_count 43 rfl) (by decide) ?_
    refine lv_icmp_ge (tgt := 78) hx hb (xb_d D_M_count 44 rfl) rfl (fun hc4 => ?_) (fun hc4 => ?_)
    · have hw := hw.1 hc4
      refine lv_iinc (v := (x3 + 1)) (k := 2) hx hb (xb_d D_M_count 47 rfl) hl rfl (by first | rfl | decide) (by decide) rfl (fun ls hl => ?_)
      have hl : lv_has ls 5 [(3, .int (x3 + 1)), (1, .long v3), (0, .ref x0), (4, .int x4)] := hl
      refine lv_goto (tgt := 4) hx hb (xb_d D_M_count 48 rfl) rfl ?_
      exact hK4 x0 v3 (x3 + 1) h hw p e s m args below meth c hC H locs ls k n hE (lv_sub hl [2, 1, 0] rfl) hR hS (by omega) (by omega)
    · have hw := hw.2 hc4
      refine lv_lload_n hx hb (xb_d D_M_count 45 rfl) rfl (lv_at hl 0 rfl) ?_
      exact xb_lret 0 0 hx hb hr hlocks (show k + 0 ≤ MC by omega) (show n + 0 ≤ MS by omega) hE hR hS (xb_d D_M_count 46 rfl) hw
  · have hw := hw.2 hc2
    refine lv_lconst (v := 0) hx hb (xb_d D_M_count 29 rfl) (by decide) ?_
    exact xb_lret 0 0 hx hb hr hlocks (show k + 0 ≤ MC by omega) (show n + 0 ≤ MS by omega) hE hR hS (xb_d D_M_count 30 rfl) hw

set_option maxHeartbeats 4000000 in
set_option maxRecDepth 100000 in
theorem am_M_count_L4 (l : Launch) (hfl : l.flags = pinnedFlags ++ [noTraceFlag]) (D : va_G) (A : Nat → Prop) (σ MC MS : Nat) (h0 : xb_H) (Qr : Int64 → xb_H → Prop) (n9 : Nat) : ∀ (x0 : Nat) (x1 : Int64) (x3 : Int32) (h : xb_H), w_M_count_L4 Qr n9 x0 x1 x3 h → xb_am l D A σ 4 MC MS h0 (fun v h _ _ => ∃ r, v = some (.long r) ∧ Qr r h) (fun _ _ _ _ => False) y_M_count.cls y_M_count.name b_M_count 5 ([] : List ExceptionTableEntry) (some .long) 4 [(0, .ref x0), (1, .long x1), (3, .int x3)] [] h 0 0 := by
  induction n9 with
  | zero => intro x0 x1 x3 h hw; exact False.elim hw
  | succ n9 ih =>
    intro x0 x1 x3 h hw
    unfold w_M_count_L4 at hw
    intro p e s m args below meth c hC H locs ls k n hE hl hR hS hk hn
    obtain ⟨hx, hb, hown, hlocks, htab, hml, hr, hB, hA, hnm⟩ := id hC
    have hts := hB.1.1.at args
    refine lv_iload_n hx hb (xb_d D_M_count 4 rfl) rfl (lv_at hl 2 rfl) ?_
    refine lv_iconst (v := 5) hx hb (xb_d D_M_count 5 rfl) (by decide) ?_
    refine lv_icmp_ge (tgt := 84) hx hb (xb_d D_M_count 6 rfl) rfl (fun hc1 => ?_) (fun hc1 => ?_)
    · have hw := hw.1 hc1
      refine lv_lload_n hx hb (xb_d D_M_count 49 rfl) rfl (lv_at hl 1 rfl) ?_
      exact xb_lret 0 0 hx hb hr hlocks (show k + 0 ≤ MC by omega) (show n + 0 ≤ MS by omega) hE hR hS (xb_d D_M_count 50 rfl) hw
    · have hw := hw.2 hc1
      refine lv_aload_n hx hb (xb_d D_M_count 7 rfl) rfl (lv_at hl 0 rfl) ?_
      obtain ⟨hk2, hw⟩ := hw
      refine xb_call0 (D := D) (A := A) (σ := σ) (h := h) (d := 3) (maxL := 2) (rest := []) (av := [.ref x0]) (fun T hT X => by obtain ⟨cb9, ra9, rb9, rc9⟩ := xb_recv (ci := 8) hR rfl hk2 (by decide); exact xt_invV X hx hown (hts _ m_0e978570) (hts _ m_40099f98) (hts _ m_a7dbfd07) (xt_sigOf (hts _ m_0af1ec6a)) nm_M_next (by rw [hT]; exact ra9) rb9 rc9 (g := F0 m 10 ls [.ref x0]) rfl (argsL := []) (rest := []) rfl rfl (by rw [hb]; exact (xb_d D_M_count 8 rfl))) (ok_M_next l hfl D A σ x0 h _ hw) (hml.trans hl.1.symm) (by rw [hb]; exact (xb_d D_M_count 8 rfl)) (Nat.le_of_ble_eq_true rfl) (Nat.le_of_ble_eq_true rfl) (Nat.le_of_ble_eq_true rfl) (show k ≤ MC by omega) (show n ≤ MS by omega) (xt_w1 hB.1 m_0af1ec6a) (xt_cdOf hB.1 m_0af1ec6a) (hts _ m_d5ed7bed) hB hR hS hA (fun vv h3 H locs hq hEh3 hR hS => ?_)
      obtain ⟨r4, rfl, hw⟩ := hq
      have hw := hw hEh3
      have hE := hE.tr hEh3
      refine W.eq (g2 := F0 m 13 ls [.int r4]) rfl ?_
      refine lv_istore hx hb (xb_d D_M_count 9 rfl) hl (by decide) rfl (fun ls hl => ?_)
      have hl : lv_has ls 5 [(4, .int r4), (0, .ref x0), (1, .long x1), (3, .int x3)] := hl
      refine lv_aload_n hx hb (xb_d D_M_count 10 rfl) rfl (lv_at hl 1 rfl) ?_
      have hk2 : xb_k h3 x0 = 9 := hEh3.k hk2
      refine xb_getI (C := R_M) (T := F_M) (N := 97) hx hb 8 17 hts fin_M hown hR hk2 (by decide) rfl (by decide) rfl (hts _ m_ff69da61) (fun _ h9 => h9) (xb_d D_M_count 11 rfl) ?_
      refine lv_if_ne (tgt := 45) hx hb (xb_d D_M_count 12 rfl) rfl (fun hc5 => ?_) (fun hc5 => ?_)
      · have hw := hw.1 hc5
        exact am_M_count_L45 l hfl D A σ MC MS h0 Qr (w_M_count_L4 Qr n9) ih x0 x1 x3 r4 h3 hw p e s m args below meth c hC H locs ls k n hE (lv_sub hl [1, 2, 3, 0] rfl) hR hS (by omega) (by omega)
      · have hw := hw.2 hc5
        refine lv_iload_n hx hb (xb_d D_M_count 13 rfl) rfl (lv_at hl 3 rfl) ?_
        refine lv_iconst (v := 4) hx hb (xb_d D_M_count 14 rfl) (by decide) ?_
        refine lv_icmp_ne (tgt := 45) hx hb (xb_d D_M_count 15 rfl) rfl (fun hc6 => ?_) (fun hc6 => ?_)
        · have hw := hw.1 hc6
          exact am_M_count_L45 l hfl D A σ MC MS h0 Qr (w_M_count_L4 Qr n9) ih x0 x1 x3 r4 h3 hw p e s m args below meth c hC H locs ls k n hE (lv_sub hl [1, 2, 3, 0] rfl) hR hS (by omega) (by omega)
        · have hw := hw.2 hc6
          refine lv_iload hx hb (xb_d D_M_count 16 rfl) (lv_at hl 0 rfl) ?_
          refine lv_bipush (v := 15) hx hb (xb_d D_M_count 17 rfl) (by decide) ?_
          refine lv_icmp_le (tgt := 45) hx hb (xb_d D_M_count 18 rfl) rfl (fun hc7 => ?_) (fun hc7 => ?_)
          · have hw := hw.1 hc7
            exact am_M_count_L45 l hfl D A σ MC MS h0 Qr (w_M_count_L4 Qr n9) ih x0 x1 x3 r4 h3 hw p e s m args below meth c hC H locs ls k n hE (lv_sub hl [1, 2, 3, 0] rfl) hR hS (by omega) (by omega)
          · have hw := hw.2 hc7
            refine lv_aload_n hx hb (xb_d D_M_count 19 rfl) rfl (lv_at hl 1 rfl) ?_
            refine lv_iconst (v := 3) hx hb (xb_d D_M_count 20 rfl) (by decide) ?_
            refine lv_aload_n hx hb (xb_d D_M_count 21 rfl) rfl (lv_at hl 1 rfl) ?_
            refine xb_getI (C := R_M) (T := F_M) (N := 97) hx hb 8 15 hts fin_M hown hR hk2 (by decide) rfl (by decide) rfl (hts _ m_6c2d27ad) (fun _ h9 => h9) (xb_d D_M_count 22 rfl) ?_
            refine lv_iconst (v := 1) hx hb (xb_d D_M_count 23 rfl) (by decide) ?_
            refine lv_isub hx hb (xb_d D_M_count 24 rfl) ?_
            refine xb_call0 (D := D) (A := A) (σ := σ) (h := h3) (d := 2) (maxL := 3) (rest := []) (av := [.ref x0, .int 3, .int ((xb_i h3 x0 15) - 1)]) (fun T hT X => by obtain ⟨cb9, ra9, rb9, rc9⟩ := xb_recv (ci := 8) hR rfl hk2 (by decide); exact xt_invV X hx hown (hts _ m_939052ad) (hts _ m_29cc8c73) (hts _ m_3b1ac7ab) (xt_sigOf (hts _ m_8f062ecd)) nm_M_fail (by rw [hT]; exact ra9) rb9 rc9 (g := F0 m 42 ls [.int ((xb_i h3 x0 15) - 1), .int 3, .ref x0]) rfl (argsL := [.int 3, .int ((xb_i h3 x0 15) - 1)]) (rest := []) rfl rfl (by rw [hb]; exact (xb_d D_M_count 25 rfl))) (ok_M_fail l hfl D A σ x0 3 ((xb_i h3 x0 15) - 1) h3 _ hw) (hml.trans hl.1.symm) (by rw [hb]; exact (xb_d D_M_count 25 rfl)) (Nat.le_of_ble_eq_true rfl) (Nat.le_of_ble_eq_true rfl) (Nat.le_of_ble_eq_true rfl) (show k ≤ MC by omega) (show n ≤ MS by omega) (xt_w1 hB.1 m_8f062ecd) (xt_cdOf hB.1 m_8f062ecd) (hts _ m_d5ed7bed) hB hR hS hA (fun vv h8 H locs hq hEh8 hR hS => ?_)
            obtain ⟨rfl, hw⟩ := hq
            have hw := hw hEh8
            have hE := hE.tr hEh8
            refine W.eq (g2 := F0 m 45 ls []) rfl ?_
            exact am_M_count_L45 l hfl D A σ MC MS h0 Qr (w_M_count_L4 Qr n9) ih x0 x1 x3 r4 h8 hw p e s m args below meth c hC H locs ls k n hE (lv_sub hl [1, 2, 3, 0] rfl) hR hS (by omega) (by omega)

set_option maxHeartbeats 4000000 in
set_option maxRecDepth 100000 in
theorem ok_M_count (l : Launch) (hfl : l.flags = pinnedFlags ++ [noTraceFlag]) (D : va_G) (A : Nat → Prop) (σ : Nat) (x0 : Nat) (h : xb_H) (Qr : Int64 → xb_H → Prop) (hw : w_M_count x0 h Qr) : xb_Met l y_M_count [.code y_M_count b_M_count 5 (some .long)] (xb_rm 4 0 0) (xb_Pc D A σ h [.ref x0]) (xb_Qc D A h 0 0 (fun v h _ _ => ∃ r, v = some (.long r) ∧ Qr r h) (fun _ _ _ _ => False)) A := by
  refine xb_ofAm (cc := b_M_count) (by decide) (Nat.le_of_ble_eq_true rfl) ?_
  unfold w_M_count at hw
  show xb_am l D A σ 4 0 0 h (fun v h _ _ => ∃ r, v = some (.long r) ∧ Qr r h) (fun _ _ _ _ => False) y_M_count.cls y_M_count.name b_M_count 5 ([] : List ExceptionTableEntry) (some .long) 0 [(0, .ref x0)] [] h 0 0
  obtain ⟨MC, hMC⟩ : ∃ x, x = 0 := ⟨_, rfl⟩
  obtain ⟨MS, hMS⟩ : ∃ x, x = 0 := ⟨_, rfl⟩
  rw [show xb_am l D A σ 4 0 0 = xb_am l D A σ 4 MC MS by rw [hMC, hMS]]
  obtain ⟨h0, hh0⟩ : ∃ x, x = h := ⟨_, rfl⟩
  rw [show xb_am l D A σ 4 MC MS h = xb_am l D A σ 4 MC MS h0 by rw [hh0]]
  intro p e s m args below meth c hC H locs ls k n hE hl hR hS hk hn
  obtain ⟨hx, hb, hown, hlocks, htab, hml, hr, hB, hA, hnm⟩ := id hC
  have hts := hB.1.1.at args
  refine lv_lconst (v := 0) hx hb (xb_d D_M_count 0 rfl) (by decide) ?_
  refine lv_lstore_n hx hb (xb_d D_M_count 1 rfl) rfl hl (by decide) rfl (fun ls hl => ?_)
  have hl : lv_has ls 5 [(1, .long 0), (0, .ref x0)] := hl
  refine lv_iconst (v := 0) hx hb (xb_d D_M_count 2 rfl) (by decide) ?_
  refine lv_istore_n hx hb (xb_d D_M_count 3 rfl) rfl hl (by decide) rfl (fun ls hl => ?_)
  have hl : lv_has ls 5 [(3, .int 0), (1, .long 0), (0, .ref x0)] := hl
  obtain ⟨n8, hw⟩ := hw
  exact am_M_count_L4 l hfl D A σ MC MS h0 Qr n8 x0 0 0 h hw p e s m args below meth c hC H locs ls k n hE (lv_sub hl [2, 1, 0] rfl) hR hS (by omega) (by omega)

theorem m_3b351fe6 : (.methodLink "StackHostModel" 408 y_M_need : Cond) ∈ xt_tbl := xt_in (xt_t11 (List.mem_of_getElem? (i := 183) (by decide +kernel))) (by decide +kernel)
theorem m_c9ff1909 : (.instanceMethod y_M_need : Cond) ∈ xt_tbl := xt_in (xt_t11 (List.mem_of_getElem? (i := 185) (by decide +kernel))) (by decide +kernel)
theorem m_4d34701a : (.selects "StackHostModel" y_M_need y_M_need : Cond) ∈ xt_tbl := xt_in (xt_v12 (q := (⟨"StackHostModel", "need", "(ZI)V"⟩, 97)) (List.mem_of_getElem? (i := 2) (by decide +kernel))) (by decide +kernel)
theorem m_c5aab6b8 : (.code y_M_need b_M_need 3 none : Cond) ∈ xt_tbl := xt_in (xt_t11 (List.mem_of_getElem? (i := 186) (by decide +kernel))) (by decide +kernel)
theorem nm_M_need : xt_nm y_M_need 2 := ⟨by decide +kernel, by decide +kernel⟩
set_option maxRecDepth 100000 in
def T_M_label : List (Nat × Instr × Nat) := [(0, .aload_n 0, 1), (1, .lload_n 1, 1), (2, .aload_n 0, 1), (3, .getfield 396, 3), (6, .i2l, 1), (7, .lcmp, 1), (8, .ifCond .ge 7, 3), (11, .iconst 1, 1), (12, .goto 4, 3), (15, .iconst 0, 1), (16, .bipush 20, 2), (18, .invokevirtual 408, 3), (21, .aload_n 0, 1), (22, .getfield 193, 3), (25, .ifCond .ne 20, 3), (28, .aload_n 0, 1), (29, .getfield 49, 3), (32, .aload_n 0, 1), (33, .getfield 396, 3), (36, .iconst 1, 1), (37, .isub, 1), (38, .lload_n 1, 1), (39, .l2i, 1), (40, .isub, 1), (41, .iaload, 1), (42, .goto 5, 3), (45, .bipush 64, 2), (47, .ireturn, 1)]
theorem D_M_label : ∀ q ∈ T_M_label, decode b_M_label q.1 = .ok (q.2.1, q.2.2) := by decide +kernel

set_option maxHeartbeats 4000000 in
set_option maxRecDepth 100000 in
theorem am_M_label_L47 (l : Launch) (hfl : l.flags = pinnedFlags ++ [noTraceFlag]) (D : va_G) (A : Nat → Prop) (σ MC MS : Nat) (h0 : xb_H) (Qr : Int32 → xb_H → Prop) (y0 : Int32) (h : xb_H) (hw : w_M_label_L47 Qr y0 h) : xb_am l D A σ 4 MC MS h0 (fun v h _ _ => ∃ r, v = some (.int r) ∧ Qr r h) (fun _ _ _ _ => False) y_M_label.cls y_M_label.name b_M_label 3 ([] : List ExceptionTableEntry) (some .int) 47 [] [.int y0] h 0 0 := by
  unfold w_M_label_L47 at hw
  intro p e s m args below meth c hC H locs ls k n hE hl hR hS hk hn
  obtain ⟨hx, hb, hown, hlocks, htab, hml, hr, hB, hA, hnm⟩ := id hC
  have hts := hB.1.1.at args
  exact xb_iret 0 0 hx hb hr hlocks (show k + 0 ≤ MC by omega) (show n + 0 ≤ MS by omega) hE hR hS (xb_d D_M_label 27 rfl) hw

set_option maxHeartbeats 4000000 in
set_option maxRecDepth 100000 in
theorem am_M_label_L16 (l : Launch) (hfl : l.flags = pinnedFlags ++ [noTraceFlag]) (D : va_G) (A : Nat → Prop) (σ MC MS : Nat) (h0 : xb_H) (Qr : Int32 → xb_H → Prop) (x0 : Nat) (x1 : Int64) (y0 : Int32) (y1 : Nat) (h : xb_H) (hw : w_M_label_L16 Qr x0 x1 y0 y1 h) : xb_am l D A σ 4 MC MS h0 (fun v h _ _ => ∃ r, v = some (.int r) ∧ Qr r h) (fun _ _ _ _ => False) y_M_label.cls y_M_label.name b_M_label 3 ([] : List ExceptionTableEntry) (some .int) 16 [(0, .ref x0), (1, .long x1)] [.int y0, .ref y1] h 0 0 := by
  unfold w_M_label_L16 at hw
  intro p e s m args below meth c hC H locs ls k n hE hl hR hS hk hn
  obtain ⟨hx, hb, hown, hlocks, htab, hml, hr, hB, hA, hnm⟩ := id hC
  have hts := hB.1.1.at args
  refine lv_bipush (v := 20) hx hb (xb_d D_M_label 10 rfl) (by decide) ?_
  obtain ⟨hk1, hw⟩ := hw
  refine xb_call0 (D := D) (A := A) (σ := σ) (h := h) (d := 3) (maxL := 3) (rest := []) (av := [.ref y1, .int y0, .int 20]) (fun T hT X => by obtain ⟨cb9, ra9, rb9, rc9⟩ := xb_recv (ci := 8) hR rfl hk1 (by decide); exact xt_invV X hx hown (hts _ m_3b351fe6) (hts _ m_c9ff1909) (hts _ m_4d34701a) (xt_sigOf (hts _ m_c5aab6b8)) nm_M_need (by rw [hT]; exact ra9) rb9 rc9 (g := F0 m 18 ls [.int 20, .int y0, .ref y1]) rfl (argsL := [.int y0, .int 20]) (rest := []) rfl rfl (by rw [hb]; exact (xb_d D_M_label 11 rfl))) (ok_M_need l hfl D A σ y1 y0 20 h _ hw) (hml.trans hl.1.symm) (by rw [hb]; exact (xb_d D_M_label 11 rfl)) (Nat.le_of_ble_eq_true rfl) (Nat.le_of_ble_eq_true rfl) (Nat.le_of_ble_eq_true rfl) (show k ≤ MC by omega) (show n ≤ MS by omega) (xt_w1 hB.1 m_c5aab6b8) (xt_cdOf hB.1 m_c5aab6b8) (hts _ m_d5ed7bed) hB hR hS hA (fun vv h2 H locs hq hEh2 hR hS => ?_)
  obtain ⟨rfl, hw⟩ := hq
  have hw := hw hEh2
  have hE := hE.tr hEh2
  refine W.eq (g2 := F0 m 21 ls []) rfl ?_
  refine lv_aload_n hx hb (xb_d D_M_label 12 rfl) rfl (lv_at hl 0 rfl) ?_
  obtain ⟨hk4, hw⟩ := hw
  refine xb_getI (C := R_M) (T := F_M) (N := 97) hx hb 8 17 hts fin_M hown hR hk4 (by decide) rfl (by decide) rfl (hts _ m_ff69da61) (fun _ h9 => h9) (xb_d D_M_label 13 rfl) ?_
  refine lv_if_ne (tgt := 45) hx hb (xb_d D_M_label 14 rfl) rfl (fun hc5 => ?_) (fun hc5 => ?_)
  · have hw := hw.1 hc5
    refine lv_bipush (v := 64) hx hb (xb_d D_M_label 26 rfl) (by decide) ?_
    exact am_M_label_L47 l hfl D A σ MC MS h0 Qr 64 h2 hw p e s m args below meth c hC H locs ls k n hE (lv_sub hl [] rfl) hR hS (by omega) (by omega)
  · have hw := hw.2 hc5
    refine lv_aload_n hx hb (xb_d D_M_label 15 rfl) rfl (lv_at hl 0 rfl) ?_
    refine xb_getP (C := R_M) (T := F_M) (N := 97) hx hb 8 25 hts fin_M hown hR hk4 (by decide) rfl (by decide) rfl (hts _ m_9d087e33) (fun _ h9 => h9) (xb_d D_M_label 16 rfl) ?_
    obtain ⟨b6, eb6, hw⟩ := hw
    refine xb_some eb6 ?_
    refine lv_aload_n hx hb (xb_d D_M_label 17 rfl) rfl (lv_at hl 0 rfl) ?_
    refine xb_getI (C := R_M) (T := F_M) (N := 97) hx hb 8 29 hts fin_M hown hR hk4 (by decide) rfl (by decide) rfl (hts _ m_1024c20b) (fun _ h9 => h9) (xb_d D_M_label 18 rfl) ?_
    refine lv_iconst (v := 1) hx hb (xb_d D_M_label 19 rfl) (by decide) ?_
    refine lv_isub hx hb (xb_d D_M_label 20 rfl) ?_
    refine lv_lload_n hx hb (xb_d D_M_label 21 rfl) rfl (lv_at hl 1 rfl) ?_
    refine lv_l2i hx hb (xb_d D_M_label 22 rfl) rfl ?_
    refine lv_isub hx hb (xb_d D_M_label 23 rfl) ?_
    obtain ⟨hk8, hw⟩ := hw
    obtain ⟨hi7, hw⟩ := hw
    refine xb_iald hx hb hR hk8 hi7 (xb_d D_M_label 24 rfl) ?_
    refine lv_goto (tgt := 47) hx hb (xb_d D_M_label 25 rfl) rfl ?_
    exact am_M_label_L47 l hfl D A σ MC MS h0 Qr (xb_i h2 b6 (Int32.toNatClampNeg (((xb_i h2 x0 29) - 1) - (Int64.toInt32 x1)))) h2 hw p e s m args below meth c hC H locs ls k n hE (lv_sub hl [] rfl) hR hS (by omega) (by omega)

set_option maxHeartbeats 4000000 in
set_option maxRecDepth 100000 in
theorem ok_M_label (l : Launch) (hfl : l.flags = pinnedFlags ++ [noTraceFlag]) (D : va_G) (A : Nat → Prop) (σ : Nat) (x0 : Nat) (x1 : Int64) (h : xb_H) (Qr : Int32 → xb_H → Prop) (hw : w_M_label x0 x1 h Qr) : xb_Met l y_M_label [.code y_M_label b_M_label 3 (some .int)] (xb_rm 4 0 0) (xb_Pc D A σ h [.ref x0, .long x1]) (xb_Qc D A h 0 0 (fun v h _ _ => ∃ r, v = some (.int r) ∧ Qr r h) (fun _ _ _ _ => False)) A := by
  refine xb_ofAm (cc := b_M_label) (by decide) (Nat.le_of_ble_eq_true rfl) ?_
  unfold w_M_label at hw
  show xb_am l D A σ 4 0 0 h (fun v h _ _ => ∃ r, v = some (.int r) ∧ Qr r h) (fun _ _ _ _ => False) y_M_label.cls y_M_label.name b_M_label 3 ([] : List ExceptionTableEntry) (some .int) 0 [(0, .ref x0), (1, .long x1)] [] h 0 0
  obtain ⟨MC, hMC⟩ : ∃ x, x = 0 := ⟨_, rfl⟩
  obtain ⟨MS, hMS⟩ : ∃ x, x = 0 := ⟨_, rfl⟩
  rw [show xb_am l D A σ 4 0 0 = xb_am l D A σ 4 MC MS by rw [hMC, hMS]]
  obtain ⟨h0, hh0⟩ : ∃ x, x = h := ⟨_, rfl⟩
  rw [show xb_am l D A σ 4 MC MS h = xb_am l D A σ 4 MC MS h0 by rw [hh0]]
  intro p e s m args below meth c hC H locs ls k n hE hl hR hS hk hn
  obtain ⟨hx, hb, hown, hlocks, htab, hml, hr, hB, hA, hnm⟩ := id hC
  have hts := hB.1.1.at args
  refine lv_aload_n hx hb (xb_d D_M_label 0 rfl) rfl (lv_at hl 0 rfl) ?_
  refine lv_lload_n hx hb (xb_d D_M_label 1 rfl) rfl (lv_at hl 1 rfl) ?_
  refine lv_aload_n hx hb (xb_d D_M_label 2 rfl) rfl (lv_at hl 0 rfl) ?_
  obtain ⟨hk1, hw⟩ := hw
  refine xb_getI (C := R_M) (T := F_M) (N := 97) hx hb 8 29 hts fin_M hown hR hk1 (by decide) rfl (by decide) rfl (hts _ m_1024c20b) (fun _ h9 => h9) (xb_d D_M_label 3 rfl) ?_
  refine lv_i2l hx hb (xb_d D_M_label 4 rfl) rfl ?_
  refine xb_lc_ge (tgt := 15) hx hb (xb_d D_M_label 5 rfl) (xb_d D_M_label 6 rfl) rfl (fun hc2 => ?_) (fun hc2 => ?_)
  · have hw := hw.1 hc2
    refine lv_iconst (v := 0) hx hb (xb_d D_M_label 9 rfl) (by decide) ?_
    exact am_M_label_L16 l hfl D A σ MC MS h0 Qr x0 x1 0 x0 h hw p e s m args below meth c hC H locs ls k n hE (lv_sub hl [0, 1] rfl) hR hS (by omega) (by omega)
  · have hw := hw.2 hc2
    refine lv_iconst (v := 1) hx hb (xb_d D_M_label 7 rfl) (by decide) ?_
    refine lv_goto (tgt := 16) hx hb (xb_d D_M_label 8 rfl) rfl ?_
    exact am_M_label_L16 l hfl D A σ MC MS h0 Qr x0 x1 1 x0 h hw p e s m args below meth c hC H locs ls k n hE (lv_sub hl [0, 1] rfl) hR hS (by omega) (by omega)

theorem m_940fb65e : (.methodLink "StackHostModel" 362 y_M_total : Cond) ∈ xt_tbl := xt_in (xt_t11 (List.mem_of_getElem? (i := 117) (by decide +kernel))) (by decide +kernel)
theorem m_342c0f16 : (.instanceMethod y_M_total : Cond) ∈ xt_tbl := xt_in (xt_t11 (List.mem_of_getElem? (i := 119) (by decide +kernel))) (by decide +kernel)
theorem m_c0324d76 : (.selects "StackHostModel" y_M_total y_M_total : Cond) ∈ xt_tbl := xt_in (xt_v11 (q := (⟨"StackHostModel", "total", "(II)J"⟩, 97)) (List.mem_of_getElem? (i := 5) (by decide +kernel))) (by decide +kernel)
theorem m_feaaa075 : (.code y_M_total b_M_total 3 (some .long) : Cond) ∈ xt_tbl := xt_in (xt_t11 (List.mem_of_getElem? (i := 120) (by decide +kernel))) (by decide +kernel)
theorem nm_M_total : xt_nm y_M_total 2 := ⟨by decide +kernel, by decide +kernel⟩
set_option maxRecDepth 100000 in
def T_M_module : List (Nat × Instr × Nat) := [(0, .aload_n 0, 1), (1, .aload_n 0, 1), (2, .iload_n 1, 1), (3, .invokevirtual 473, 3), (6, .ifCond .eq 17, 3), (9, .iload_n 2, 1), (10, .ifCond .lt 13, 3), (13, .iload_n 2, 1), (14, .bipush 9, 2), (16, .if_icmp .ge 7, 3), (19, .iconst 0, 1), (20, .goto 4, 3), (23, .iconst 1, 1), (24, .putfield 189, 3), (27, .aload_n 0, 1), (28, .getfield 189, 3), (31, .ifCond .le 5, 3), (34, .iconst 0, 1), (35, .ireturn, 1), (36, .iload_n 2, 1), (37, .iconst 2, 1), (38, .if_icmp .lt 18, 3), (41, .iload_n 2, 1), (42, .iconst 5, 1), (43, .if_icmp .gt 13, 3), (46, .aload_n 0, 1), (47, .iload_n 1, 1), (48, .iload_n 2, 1), (49, .iconst 2, 1), (50, .isub, 1), (51, .invokevirtual 362, 3), (54, .l2i, 1), (55, .ireturn, 1), (56, .aload_n 0, 1), (57, .iload_n 1, 1), (58, .iload_n 2, 1), (59, .iconst 2, 1), (60, .if_icmp .ge 9, 3), (63, .iload_n 2, 1), (64, .iconst 1, 1), (65, .iadd, 1), (66, .goto 27, 3), (69, .iload_n 2, 1), (70, .bipush 6, 2), (72, .if_icmp .ne 8, 3), (75, .bipush 7, 2), (77, .goto 16, 3), (80, .iload_n 2, 1), (81, .bipush 7, 2), (83, .if_icmp .ne 8, 3), (86, .bipush 9, 2), (88, .goto 5, 3), (91, .bipush 11, 2), (93, .invokevirtual 316, 3), (96, .ireturn, 1)]
theorem D_M_module : ∀ q ∈ T_M_module, decode b_M_module q.1 = .ok (q.2.1, q.2.2) := by decide +kernel

set_option maxHeartbeats 4000000 in
set_option maxRecDepth 100000 in
theorem am_M_module_L93 (l : Launch) (hfl : l.flags = pinnedFlags ++ [noTraceFlag]) (D : va_G) (A : Nat → Prop) (σ MC MS : Nat) (h0 : xb_H) (Qr : Int32 → xb_H → Prop) (y0 : Int32) (y1 : Int32) (y2 : Nat) (h : xb_H) (hw : w_M_module_L93 Qr y0 y1 y2 h) : xb_am l D A σ 4 MC MS h0 (fun v h _ _ => ∃ r, v = some (.int r) ∧ Qr r h) (fun _ _ _ _ => False) y_M_module.cls y_M_module.name b_M_module 3 ([] : List ExceptionTableEntry) (some .int) 93 [] [.int y0, .int y1, .ref y2] h 0 0 := by
  unfold w_M_module_L93 at hw
  intro p e s m args below meth c hC H locs ls k n hE hl hR hS hk hn
  obtain ⟨hx, hb, hown, hlocks, htab, hml, hr, hB, hA, hnm⟩ := id hC
  have hts := hB.1.1.at args
  obtain ⟨hk1, hw⟩ := hw
  refine xb_call0 (D := D) (A := A) (σ := σ) (h := h) (d := 2) (maxL := 3) (rest := []) (av := [.ref y2, .int y1, .int y0]) (fun T hT X => by obtain ⟨cb9, ra9, rb9, rc9⟩ := xb_recv (ci := 8) hR rfl hk1 (by decide); exact xt_invV X hx hown (hts _ m_b47f62c2) (hts _ m_9f071faf) (hts _ m_e1bb5c84) (xt_sigOf (hts _ m_3a6212d6)) nm_M_manyOf (by rw [hT]; exact ra9) rb9 rc9 (g := F0 m 93 ls [.int y0, .int y1, .ref y2]) rfl (argsL := [.int y1, .int y0]) (rest := []) rfl rfl (by rw [hb]; exact (xb_d D_M_module 53 rfl))) (ok_M_manyOf l hfl D A σ y2 y1 y0 h _ hw) (hml.trans hl.1.symm) (by rw [hb]; exact (xb_d D_M_module 53 rfl)) (Nat.le_of_ble_eq_true rfl) (Nat.le_of_ble_eq_true rfl) (Nat.le_of_ble_eq_true rfl) (show k ≤ MC by omega) (show n ≤ MS by omega) (xt_w1 hB.1 m_3a6212d6) (xt_cdOf hB.1 m_3a6212d6) (hts _ m_d5ed7bed) hB hR hS hA (fun vv h2 H locs hq hEh2 hR hS => ?_)
  obtain ⟨r3, rfl, hw⟩ := hq
  have hw := hw hEh2
  have hE := hE.tr hEh2
  refine W.eq (g2 := F0 m 96 ls [.int r3]) rfl ?_
  exact xb_iret 0 0 hx hb hr hlocks (show k + 0 ≤ MC by omega) (show n + 0 ≤ MS by omega) hE hR hS (xb_d D_M_module 54 rfl) hw

set_option maxHeartbeats 4000000 in
set_option maxRecDepth 100000 in
theorem am_M_module_L56 (l : Launch) (hfl : l.flags = pinnedFlags ++ [noTraceFlag]) (D : va_G) (A : Nat → Prop) (σ MC MS : Nat) (h0 : xb_H) (Qr : Int32 → xb_H → Prop) (x0 : Nat) (x1 : Int32) (x2 : Int32) (h : xb_H) (hw : w_M_module_L56 Qr x0 x1 x2 h) : xb_am l D A σ 4 MC MS h0 (fun v h _ _ => ∃ r, v = some (.int r) ∧ Qr r h) (fun _ _ _ _ => False) y_M_module.cls y_M_module.name b_M_module 3 ([] : List ExceptionTableEntry) (some .int) 56 [(0, .ref x0), (1, .int x1), (2, .int x2)] [] h 0 0 := by
  unfold w_M_module_L56 at hw
  intro p e s m args below meth c hC H locs ls k n hE hl hR hS hk hn
  obtain ⟨hx, hb, hown, hlocks, htab, hml, hr, hB, hA, hnm⟩ := id hC
  have hts := hB.1.1.at args
  refine lv_aload_n hx hb (xb_d D_M_module 33 rfl) rfl (lv_at hl 0 rfl) ?_
  refine lv_iload_n hx hb (xb_d D_M_module 34 rfl) rfl (lv_at hl 1 rfl) ?_
  refine lv_iload_n hx hb (xb_d D_M_module 35 rfl) rfl (lv_at hl 2 rfl) ?_
  refine lv_iconst (v := 2) hx hb (xb_d D_M_module 36 rfl) (by decide) ?_
  refine lv_icmp_ge (tgt := 69) hx hb (xb_d D_M_module 37 rfl) rfl (fun hc1 => ?_) (fun hc1 => ?_)
  · have hw := hw.1 hc1
    refine lv_iload_n hx hb (xb_d D_M_module 42 rfl) rfl (lv_at hl 2 rfl) ?_
    refine lv_bipush (v := 6) hx hb (xb_d D_M_module 43 rfl) (by decide) ?_
    refine lv_icmp_ne (tgt := 80) hx hb (xb_d D_M_module 44 rfl) rfl (fun hc2 => ?_) (fun hc2 => ?_)
    · have hw := hw.1 hc2
      refine lv_iload_n hx hb (xb_d D_M_module 47 rfl) rfl (lv_at hl 2 rfl) ?_
      refine lv_bipush (v := 7) hx hb (xb_d D_M_module 48 rfl) (by decide) ?_
      refine lv_icmp_ne (tgt := 91) hx hb (xb_d D_M_module 49 rfl) rfl (fun hc3 => ?_) (fun hc3 => ?_)
      · have hw := hw.1 hc3
        refine lv_bipush (v := 11) hx hb (xb_d D_M_module 52 rfl) (by decide) ?_
        exact am_M_module_L93 l hfl D A σ MC MS h0 Qr 11 x1 x0 h hw p e s m args below meth c hC H locs ls k n hE (lv_sub hl [] rfl) hR hS (by omega) (by omega)
      · have hw := hw.2 hc3
        refine lv_bipush (v := 9) hx hb (xb_d D_M_module 50 rfl) (by decide) ?_
        refine lv_goto (tgt := 93) hx hb (xb_d D_M_module 51 rfl) rfl ?_
        exact am_M_module_L93 l hfl D A σ MC MS h0 Qr 9 x1 x0 h hw p e s m args below meth c hC H locs ls k n hE (lv_sub hl [] rfl) hR hS (by omega) (by omega)
    · have hw := hw.2 hc2
      refine lv_bipush (v := 7) hx hb (xb_d D_M_module 45 rfl) (by decide) ?_
      refine lv_goto (tgt := 93) hx hb (xb_d D_M_module 46 rfl) rfl ?_
      exact am_M_module_L93 l hfl D A σ MC MS h0 Qr 7 x1 x0 h hw p e s m args below meth c hC H locs ls k n hE (lv_sub hl [] rfl) hR hS (by omega) (by omega)
  · have hw := hw.2 hc1
    refine lv_iload_n hx hb (xb_d D_M_module 38 rfl) rfl (lv_at hl 2 rfl) ?_
    refine lv_iconst (v := 1) hx hb (xb_d D_M_module 39 rfl) (by decide) ?_
    refine lv_iadd hx hb (xb_d D_M_module 40 rfl) ?_
    refine lv_goto (tgt := 93) hx hb (xb_d D_M_module 41 rfl) rfl ?_
    exact am_M_module_L93 l hfl D A σ MC MS h0 Qr (x2 + 1) x1 x0 h hw p e s m args below meth c hC H locs ls k n hE (lv_sub hl [] rfl) hR hS (by omega) (by omega)

set_option maxHeartbeats 4000000 in
set_option maxRecDepth 100000 in
theorem am_M_module_L24 (l : Launch) (hfl : l.flags = pinnedFlags ++ [noTraceFlag]) (D : va_G) (A : Nat → Prop) (σ MC MS : Nat) (h0 : xb_H) (Qr : Int32 → xb_H → Prop) (x0 : Nat) (x1 : Int32) (x2 : Int32) (y0 : Int32) (y1 : Nat) (h : xb_H) (hw : w_M_module_L24 Qr x0 x1 x2 y0 y1 h) : xb_am l D A σ 4 MC MS h0 (fun v h _ _ => ∃ r, v = some (.int r) ∧ Qr r h) (fun _ _ _ _ => False) y_M_module.cls y_M_module.name b_M_module 3 ([] : List ExceptionTableEntry) (some .int) 24 [(0, .ref x0), (1, .int x1), (2, .int x2)] [.int y0, .ref y1] h 0 0 := by
  unfold w_M_module_L24 at hw
  intro p e s m args below meth c hC H locs ls k n hE hl hR hS hk hn
  obtain ⟨hx, hb, hown, hlocks, htab, hml, hr, hB, hA, hnm⟩ := id hC
  have hts := hB.1.1.at args
  obtain ⟨hk1, hw⟩ := hw
  refine xb_putI (C := R_M) (T := F_M) (N := 97) (ty := .int) (x := y0) hx hb 8 0 hts fin_M t_M t_M_ok n_M hown hR hS hk1 (by decide) rfl (by decide) rfl (hts _ m_afabd6a0) (fun _ h9 => h9) rfl (by decide +kernel) rfl rfl (xb_d D_M_module 13 rfl) (fun H locs hR hS => ?_)
  obtain ⟨h2, eh2⟩ : ∃ x : xb_H, x = xb_I h y1 0 y0 := ⟨_, rfl⟩
  rw [← eh2] at hR
  have hw := hw h2 eh2
  have hE : xb_ext h0 h2 := by rw [eh2]; exact hE
  refine lv_aload_n hx hb (xb_d D_M_module 14 rfl) rfl (lv_at hl 0 rfl) ?_
  obtain ⟨hk3, hw⟩ := hw
  refine xb_getI (C := R_M) (T := F_M) (N := 97) hx hb 8 0 hts fin_M hown hR hk3 (by decide) rfl (by decide) rfl (hts _ m_afabd6a0) (fun _ h9 => h9) (xb_d D_M_module 15 rfl) ?_
  refine lv_if_le (tgt := 36) hx hb (xb_d D_M_module 16 rfl) rfl (fun hc4 => ?_) (fun hc4 => ?_)
  · have hw := hw.1 hc4
    refine lv_iload_n hx hb (xb_d D_M_module 19 rfl) rfl (lv_at hl 2 rfl) ?_
    refine lv_iconst (v := 2) hx hb (xb_d D_M_module 20 rfl) (by decide) ?_
    refine lv_icmp_lt (tgt := 56) hx hb (xb_d D_M_module 21 rfl) rfl (fun hc5 => ?_) (fun hc5 => ?_)
    · have hw := hw.1 hc5
      exact am_M_module_L56 l hfl D A σ MC MS h0 Qr x0 x1 x2 h2 hw p e s m args below meth c hC H locs ls k n hE (lv_sub hl [0, 1, 2] rfl) hR hS (by omega) (by omega)
    · have hw := hw.2 hc5
      refine lv_iload_n hx hb (xb_d D_M_module 22 rfl) rfl (lv_at hl 2 rfl) ?_
      refine lv_iconst (v := 5) hx hb (xb_d D_M_module 23 rfl) (by decide) ?_
      refine lv_icmp_gt (tgt := 56) hx hb (xb_d D_M_module 24 rfl) rfl (fun hc6 => ?_) (fun hc6 => ?_)
      · have hw := hw.1 hc6
        exact am_M_module_L56 l hfl D A σ MC MS h0 Qr x0 x1 x2 h2 hw p e s m args below meth c hC H locs ls k n hE (lv_sub hl [0, 1, 2] rfl) hR hS (by omega) (by omega)
      · have hw := hw.2 hc6
        refine lv_aload_n hx hb (xb_d D_M_module 25 rfl) rfl (lv_at hl 0 rfl) ?_
        refine lv_iload_n hx hb (xb_d D_M_module 26 rfl) rfl (lv_at hl 1 rfl) ?_
        refine lv_iload_n hx hb (xb_d D_M_module 27 rfl) rfl (lv_at hl 2 rfl) ?_
        refine lv_iconst (v := 2) hx hb (xb_d D_M_module 28 rfl) (by decide) ?_
        refine lv_isub hx hb (xb_d D_M_module 29 rfl) ?_
        refine xb_call0 (D := D) (A := A) (σ := σ) (h := h2) (d := 3) (maxL := 3) (rest := []) (av := [.ref x0, .int x1, .int (x2 - 2)]) (fun T hT X => by obtain ⟨cb9, ra9, rb9, rc9⟩ := xb_recv (ci := 8) hR rfl hk3 (by decide); exact xt_invV X hx hown (hts _ m_940fb65e) (hts _ m_342c0f16) (hts _ m_c0324d76) (xt_sigOf (hts _ m_feaaa075)) nm_M_total (by rw [hT]; exact ra9) rb9 rc9 (g := F0 m 51 ls [.int (x2 - 2), .int x1, .ref x0]) rfl (argsL := [.int x1, .int (x2 - 2)]) (rest := []) rfl rfl (by rw [hb]; exact (xb_d D_M_module 30 rfl))) (ok_M_total l hfl D A σ x0 x1 (x2 - 2) h2 _ hw) (hml.trans hl.1.symm) (by rw [hb]; exact (xb_d D_M_module 30 rfl)) (Nat.le_of_ble_eq_true rfl) (Nat.le_of_ble_eq_true rfl) (Nat.le_of_ble_eq_true rfl) (show k ≤ MC by omega) (show n ≤ MS by omega) (xt_w1 hB.1 m_feaaa075) (xt_cdOf hB.1 m_feaaa075) (hts _ m_d5ed7bed) hB hR hS hA (fun vv h7 H locs hq hEh7 hR hS => ?_)
        obtain ⟨r8, rfl, hw⟩ := hq
        have hw := hw hEh7
        have hE := hE.tr hEh7
        refine W.eq (g2 := F0 m 54 ls [.long r8]) rfl ?_
        refine lv_l2i hx hb (xb_d D_M_module 31 rfl) rfl ?_
        exact xb_iret 0 0 hx hb hr hlocks (show k + 0 ≤ MC by omega) (show n + 0 ≤ MS by omega) hE hR hS (xb_d D_M_module 32 rfl) hw
  · have hw := hw.2 hc4
    refine lv_iconst (v := 0) hx hb (xb_d D_M_module 17 rfl) (by decide) ?_
    exact xb_iret 0 0 hx hb hr hlocks (show k + 0 ≤ MC by omega) (show n + 0 ≤ MS by omega) hE hR hS (xb_d D_M_module 18 rfl) hw

set_option maxHeartbeats 4000000 in
set_option maxRecDepth 100000 in
theorem am_M_module_L23 (l : Launch) (hfl : l.flags = pinnedFlags ++ [noTraceFlag]) (D : va_G) (A : Nat → Prop) (σ MC MS : Nat) (h0 : xb_H) (Qr : Int32 → xb_H → Prop) (x0 : Nat) (x1 : Int32) (x2 : Int32) (y0 : Nat) (h : xb_H) (hw : w_M_module_L23 Qr x0 x1 x2 y0 h) : xb_am l D A σ 4 MC MS h0 (fun v h _ _ => ∃ r, v = some (.int r) ∧ Qr r h) (fun _ _ _ _ => False) y_M_module.cls y_M_module.name b_M_module 3 ([] : List ExceptionTableEntry) (some .int) 23 [(0, .ref x0), (1, .int x1), (2, .int x2)] [.ref y0] h 0 0 := by
  unfold w_M_module_L23 at hw
  intro p e s m args below meth c hC H locs ls k n hE hl hR hS hk hn
  obtain ⟨hx, hb, hown, hlocks, htab, hml, hr, hB, hA, hnm⟩ := id hC
  have hts := hB.1.1.at args
  refine lv_iconst (v := 1) hx hb (xb_d D_M_module 12 rfl) (by decide) ?_
  exact am_M_module_L24 l hfl D A σ MC MS h0 Qr x0 x1 x2 1 y0 h hw p e s m args below meth c hC H locs ls k n hE (lv_sub hl [0, 1, 2] rfl) hR hS (by omega) (by omega)

set_option maxHeartbeats 4000000 in
set_option maxRecDepth 100000 in
theorem ok_M_module (l : Launch) (hfl : l.flags = pinnedFlags ++ [noTraceFlag]) (D : va_G) (A : Nat → Prop) (σ : Nat) (x0 : Nat) (x1 : Int32) (x2 : Int32) (h : xb_H) (Qr : Int32 → xb_H → Prop) (hw : w_M_module x0 x1 x2 h Qr) : xb_Met l y_M_module [.code y_M_module b_M_module 3 (some .int)] (xb_rm 4 0 0) (xb_Pc D A σ h [.ref x0, .int x1, .int x2]) (xb_Qc D A h 0 0 (fun v h _ _ => ∃ r, v = some (.int r) ∧ Qr r h) (fun _ _ _ _ => False)) A := by
  refine xb_ofAm (cc := b_M_module) (by decide) (Nat.le_of_ble_eq_true rfl) ?_
  unfold w_M_module at hw
  show xb_am l D A σ 4 0 0 h (fun v h _ _ => ∃ r, v = some (.int r) ∧ Qr r h) (fun _ _ _ _ => False) y_M_module.cls y_M_module.name b_M_module 3 ([] : List ExceptionTableEntry) (some .int) 0 [(0, .ref x0), (1, .int x1), (2, .int x2)] [] h 0 0
  obtain ⟨MC, hMC⟩ : ∃ x, x = 0 := ⟨_, rfl⟩
  obtain ⟨MS, hMS⟩ : ∃ x, x = 0 := ⟨_, rfl⟩
  rw [show xb_am l D A σ 4 0 0 = xb_am l D A σ 4 MC MS by rw [hMC, hMS]]
  obtain ⟨h0, hh0⟩ : ∃ x, x = h := ⟨_, rfl⟩
  rw [show xb_am l D A σ 4 MC MS h = xb_am l D A σ 4 MC MS h0 by rw [hh0]]
  intro p e s m args below meth c hC H locs ls k n hE hl hR hS hk hn
  obtain ⟨hx, hb, hown, hlocks, htab, hml, hr, hB, hA, hnm⟩ := id hC
  have hts := hB.1.1.at args
  refine lv_aload_n hx hb (xb_d D_M_module 0 rfl) rfl (lv_at hl 0 rfl) ?_
  refine lv_aload_n hx hb (xb_d D_M_module 1 rfl) rfl (lv_at hl 0 rfl) ?_
  refine lv_iload_n hx hb (xb_d D_M_module 2 rfl) rfl (lv_at hl 1 rfl) ?_
  obtain ⟨hk1, hw⟩ := hw
  refine xb_call0 (D := D) (A := A) (σ := σ) (h := h) (d := 2) (maxL := 2) (rest := [.ref x0]) (av := [.ref x0, .int x1]) (fun T hT X => by obtain ⟨cb9, ra9, rb9, rc9⟩ := xb_recv (ci := 8) hR rfl hk1 (by decide); exact xt_invV X hx hown (hts _ m_c611635e) (hts _ m_5d755988) (hts _ m_f51c38a1) (xt_sigOf (hts _ m_012cb97d)) nm_M_isModule (by rw [hT]; exact ra9) rb9 rc9 (g := F0 m 3 ls [.int x1, .ref x0, .ref x0]) rfl (argsL := [.int x1]) (rest := [.ref x0]) rfl rfl (by rw [hb]; exact (xb_d D_M_module 3 rfl))) (ok_M_isModule l hfl D A σ x0 x1 h _ hw) (hml.trans hl.1.symm) (by rw [hb]; exact (xb_d D_M_module 3 rfl)) (Nat.le_of_ble_eq_true rfl) (Nat.le_of_ble_eq_true rfl) (Nat.le_of_ble_eq_true rfl) (show k ≤ MC by omega) (show n ≤ MS by omega) (xt_w1 hB.1 m_012cb97d) (xt_cdOf hB.1 m_012cb97d) (hts _ m_d5ed7bed) hB hR hS hA (fun vv h2 H locs hq hEh2 hR hS => ?_)
  obtain ⟨r3, rfl, hw⟩ := hq
  have hw := hw hEh2
  have hE := hE.tr hEh2
  refine W.eq (g2 := F0 m 6 ls [.int r3, .ref x0]) rfl ?_
  refine lv_if_eq (tgt := 23) hx hb (xb_d D_M_module 4 rfl) rfl (fun hc4 => ?_) (fun hc4 => ?_)
  · have hw := hw.1 hc4
    exact am_M_module_L23 l hfl D A σ MC MS h0 Qr x0 x1 x2 x0 h2 hw p e s m args below meth c hC H locs ls k n hE (lv_sub hl [0, 1, 2] rfl) hR hS (by omega) (by omega)
  · have hw := hw.2 hc4
    refine lv_iload_n hx hb (xb_d D_M_module 5 rfl) rfl (lv_at hl 2 rfl) ?_
    refine lv_if_lt (tgt := 23) hx hb (xb_d D_M_module 6 rfl) rfl (fun hc5 => ?_) (fun hc5 => ?_)
    · have hw := hw.1 hc5
      exact am_M_module_L23 l hfl D A σ MC MS h0 Qr x0 x1 x2 x0 h2 hw p e s m args below meth c hC H locs ls k n hE (lv_sub hl [0, 1, 2] rfl) hR hS (by omega) (by omega)
    · have hw := hw.2 hc5
      refine lv_iload_n hx hb (xb_d D_M_module 7 rfl) rfl (lv_at hl 2 rfl) ?_
      refine lv_bipush (v := 9) hx hb (xb_d D_M_module 8 rfl) (by decide) ?_
      refine lv_icmp_ge (tgt := 23) hx hb (xb_d D_M_module 9 rfl) rfl (fun hc6 => ?_) (fun hc6 => ?_)
      · have hw := hw.1 hc6
        exact am_M_module_L23 l hfl D A σ MC MS h0 Qr x0 x1 x2 x0 h2 hw p e s m args below meth c hC H locs ls k n hE (lv_sub hl [0, 1, 2] rfl) hR hS (by omega) (by omega)
      · have hw := hw.2 hc6
        refine lv_iconst (v := 0) hx hb (xb_d D_M_module 10 rfl) (by decide) ?_
        refine lv_goto (tgt := 24) hx hb (xb_d D_M_module 11 rfl) rfl ?_
        exact am_M_module_L24 l hfl D A σ MC MS h0 Qr x0 x1 x2 0 x0 h2 hw p e s m args below meth c hC H locs ls k n hE (lv_sub hl [0, 1, 2] rfl) hR hS (by omega) (by omega)

