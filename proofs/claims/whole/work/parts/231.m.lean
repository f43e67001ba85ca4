theorem m_f99f42c3 : (.methodLink "StackHostModel$Exact" 178 y_Exact_moved : Cond) ∈ xt_tbl := xt_in (xt_t13 (List.mem_of_getElem? (i := 105) (by decide +kernel))) (by decide +kernel)
theorem m_9b7f094c : (.static y_Exact_moved : Cond) ∈ xt_tbl := xt_in (xt_t13 (List.mem_of_getElem? (i := 106) (by decide +kernel))) (by decide +kernel)
theorem m_d9bae11c : (.code y_Exact_moved b_Exact_moved 8 (some .long) : Cond) ∈ xt_tbl := xt_in (xt_t13 (List.mem_of_getElem? (i := 107) (by decide +kernel))) (by decide +kernel)
theorem m_69f5acf7 : (.methodLink "StackHostModel$Exact" 174 y_Exact_byDivision : Cond) ∈ xt_tbl := xt_in (xt_t13 (List.mem_of_getElem? (i := 98) (by decide +kernel))) (by decide +kernel)
theorem m_6678ec36 : (.instanceMethod y_Exact_byDivision : Cond) ∈ xt_tbl := xt_in (xt_t13 (List.mem_of_getElem? (i := 100) (by decide +kernel))) (by decide +kernel)
theorem m_0d822d4c : (.selects "StackHostModel$Exact" y_Exact_byDivision y_Exact_byDivision : Cond) ∈ xt_tbl := xt_in (xt_v17 (q := (⟨"StackHostModel$Exact", "byDivision", "(IIJJ)J"⟩, 11)) (List.mem_of_getElem? (i := 0) (by decide +kernel))) (by decide +kernel)
theorem m_0ac99b71 : (.code y_Exact_byDivision b_Exact_byDivision 16 (some .long) : Cond) ∈ xt_tbl := xt_in (xt_t13 (List.mem_of_getElem? (i := 101) (by decide +kernel))) (by decide +kernel)
theorem m_322616a0 : (.methodLink "StackHostModel$Exact" 170 y_Exact_count : Cond) ∈ xt_tbl := xt_in (xt_t13 (List.mem_of_getElem? (i := 95) (by decide +kernel))) (by decide +kernel)
theorem m_d70e050b : (.static y_Exact_count : Cond) ∈ xt_tbl := xt_in (xt_t13 (List.mem_of_getElem? (i := 96) (by decide +kernel))) (by decide +kernel)
theorem m_8a465d5f : (.code y_Exact_count b_Exact_count 10 (some .int) : Cond) ∈ xt_tbl := xt_in (xt_t13 (List.mem_of_getElem? (i := 97) (by decide +kernel))) (by decide +kernel)
theorem m_567c10da : (.methodLink "StackHostModel$Exact" 182 y_Exact_turned : Cond) ∈ xt_tbl := xt_in (xt_t13 (List.mem_of_getElem? (i := 108) (by decide +kernel))) (by decide +kernel)
theorem m_e9e381fc : (.static y_Exact_turned : Cond) ∈ xt_tbl := xt_in (xt_t13 (List.mem_of_getElem? (i := 109) (by decide +kernel))) (by decide +kernel)
theorem m_38c0bc5b : (.code y_Exact_turned b_Exact_turned 9 (some .long) : Cond) ∈ xt_tbl := xt_in (xt_t13 (List.mem_of_getElem? (i := 110) (by decide +kernel))) (by decide +kernel)
theorem nm_Exact_moved : xt_nm y_Exact_moved 4 := ⟨by decide +kernel, by decide +kernel⟩
theorem nm_Exact_byDivision : xt_nm y_Exact_byDivision 4 := ⟨by decide +kernel, by decide +kernel⟩
theorem nm_Exact_count : xt_nm y_Exact_count 3 := ⟨by decide +kernel, by decide +kernel⟩
theorem nm_Exact_turned : xt_nm y_Exact_turned 3 := ⟨by decide +kernel, by decide +kernel⟩
set_option maxRecDepth 100000 in
def T_Exact_reckoned : List (Nat × Instr × Nat) := [(0, .lload 5, 2), (2, .iload_n 2, 1), (3, .iconst 1, 1), (4, .isub, 1), (5, .i2l, 1), (6, .land, 1), (7, .l2i, 1), (8, .istore 7, 2), (10, .iload_n 1, 1), (11, .tableswitch 146 0 16 #[81, 81, 81, 89, 94, 99, 104, 104, 104, 104, 114, 119, 124, 129, 129, 129, 138], 81), (92, .lload_n 3, 1), (93, .iload_n 2, 1), (94, .iload_n 1, 1), (95, .invokestatic 170, 3), (98, .i2l, 1), (99, .lreturn, 1), (100, .lload_n 3, 1), (101, .lload 5, 2), (103, .ladd, 1), (104, .lreturn, 1), (105, .lload_n 3, 1), (106, .lload 5, 2), (108, .lsub, 1), (109, .lreturn, 1), (110, .lload_n 3, 1), (111, .lload 5, 2), (113, .lmul, 1), (114, .lreturn, 1), (115, .aload_n 0, 1), (116, .iload_n 1, 1), (117, .iload_n 2, 1), (118, .lload_n 3, 1), (119, .lload 5, 2), (121, .invokevirtual 174, 3), (124, .lreturn, 1), (125, .lload_n 3, 1), (126, .lload 5, 2), (128, .land, 1), (129, .lreturn, 1), (130, .lload_n 3, 1), (131, .lload 5, 2), (133, .lor, 1), (134, .lreturn, 1), (135, .lload_n 3, 1), (136, .lload 5, 2), (138, .lxor, 1), (139, .lreturn, 1), (140, .iload_n 1, 1), (141, .iload_n 2, 1), (142, .lload_n 3, 1), (143, .iload 7, 2), (145, .invokestatic 178, 3), (148, .lreturn, 1), (149, .lload_n 3, 1), (150, .iload_n 2, 1), (151, .iload 7, 2), (153, .invokestatic 182, 3), (156, .lreturn, 1), (157, .lload_n 3, 1), (158, .iload_n 2, 1), (159, .iload_n 2, 1), (160, .iload 7, 2), (162, .isub, 1), (163, .iload_n 2, 1), (164, .irem, 1), (165, .invokestatic 182, 3), (168, .lreturn, 1)]
theorem D_Exact_reckoned : ∀ q ∈ T_Exact_reckoned, decode b_Exact_reckoned q.1 = .ok (q.2.1, q.2.2) := by decide +kernel

set_option maxHeartbeats 4000000 in
set_option maxRecDepth 100000 in
theorem am_Exact_reckoned_L140 (l : Launch) (hfl : l.flags = pinnedFlags ++ [noTraceFlag]) (D : va_G) (A : Nat → Prop) (σ MC MS : Nat) (h0 : xb_H) (Qr : Int64 → xb_H → Prop) (x1 : Int32) (x2 : Int32) (x3 : Int64) (x7 : Int32) (h : xb_H) (hw : w_Exact_reckoned_L140 Qr x1 x2 x3 x7 h) : xb_am l D A σ 5 MC MS h0 (fun v h _ _ => ∃ r, v = some (.long r) ∧ Qr r h) (fun _ _ _ _ => False) y_Exact_reckoned.cls y_Exact_reckoned.name b_Exact_reckoned 8 ([] : List ExceptionTableEntry) (some .long) 140 [(1, .int x1), (2, .int x2), (3, .long x3), (7, .int x7)] [] h 0 0 := by
  unfold w_Exact_reckoned_L140 at hw
  intro p e s m args below meth c hC H locs ls k n hE hl hR hS hk hn
  obtain ⟨hx, hb, hown, hlocks, htab, hml, hr, hB, hA, hnm⟩ := id hC
  have hts := hB.1.1.at args
  refine lv_iload_n hx hb (xb_d D_Exact_reckoned 47 rfl) rfl (lv_at hl 0 rfl) ?_
  refine lv_iload_n hx hb (xb_d D_Exact_reckoned 48 rfl) rfl (lv_at hl 1 rfl) ?_
  refine lv_lload_n hx hb (xb_d D_Exact_reckoned 49 rfl) rfl (lv_at hl 2 rfl) ?_
  refine lv_iload hx hb (xb_d D_Exact_reckoned 50 rfl) (lv_at hl 3 rfl) ?_
  refine xb_call0 (D := D) (A := A) (σ := σ) (h := h) (d := 2) (maxL := 8) (rest := []) (av := [.int x1, .int x2, .long x3, .int x7]) (fun T hT X => xt_invS X hx hown (hts _ m_f99f42c3) (hts _ m_9b7f094c) (hts _ m_b807310b) (xt_sgS (hts _ m_d9bae11c)).1 (xt_sgS (hts _ m_d9bae11c)).2 nm_Exact_moved (g := F0 m 145 ls [.int x7, .long x3, .int x2, .int x1]) rfl (argsL := [.int x1, .int x2, .long x3, .int x7]) (rest := []) rfl rfl (by rw [hb]; exact (xb_d D_Exact_reckoned 51 rfl))) (ok_Exact_moved l hfl D A σ x1 x2 x3 x7 h _ hw) (hml.trans hl.1.symm) (by rw [hb]; exact (xb_d D_Exact_reckoned 51 rfl)) (Nat.le_of_ble_eq_true rfl) (Nat.le_of_ble_eq_true rfl) (Nat.le_of_ble_eq_true rfl) (show k ≤ MC by omega) (show n ≤ MS by omega) (xt_w1 hB.1 m_d9bae11c) (xt_cdOf hB.1 m_d9bae11c) (hts _ m_b807310b) hB hR hS hA (fun vv h1 H locs hq hEh1 hR hS => ?_)
  obtain ⟨r2, rfl, hw⟩ := hq
  have hw := hw hEh1
  have hE := hE.tr hEh1
  refine W.eq (g2 := F0 m 148 ls [.long r2]) rfl ?_
  exact xb_lret 0 0 hx hb hr hlocks (show k + 0 ≤ MC by omega) (show n + 0 ≤ MS by omega) hE hR hS (xb_d D_Exact_reckoned 52 rfl) hw

set_option maxHeartbeats 4000000 in
set_option maxRecDepth 100000 in
theorem am_Exact_reckoned_L115 (l : Launch) (hfl : l.flags = pinnedFlags ++ [noTraceFlag]) (D : va_G) (A : Nat → Prop) (σ MC MS : Nat) (h0 : xb_H) (Qr : Int64 → xb_H → Prop) (x0 : Nat) (x1 : Int32) (x2 : Int32) (x3 : Int64) (x5 : Int64) (h : xb_H) (hw : w_Exact_reckoned_L115 Qr x0 x1 x2 x3 x5 h) : xb_am l D A σ 5 MC MS h0 (fun v h _ _ => ∃ r, v = some (.long r) ∧ Qr r h) (fun _ _ _ _ => False) y_Exact_reckoned.cls y_Exact_reckoned.name b_Exact_reckoned 8 ([] : List ExceptionTableEntry) (some .long) 115 [(0, .ref x0), (1, .int x1), (2, .int x2), (3, .long x3), (5, .long x5)] [] h 0 0 := by
  unfold w_Exact_reckoned_L115 at hw
  intro p e s m args below meth c hC H locs ls k n hE hl hR hS hk hn
  obtain ⟨hx, hb, hown, hlocks, htab, hml, hr, hB, hA, hnm⟩ := id hC
  have hts := hB.1.1.at args
  refine lv_aload_n hx hb (xb_d D_Exact_reckoned 28 rfl) rfl (lv_at hl 0 rfl) ?_
  refine lv_iload_n hx hb (xb_d D_Exact_reckoned 29 rfl) rfl (lv_at hl 1 rfl) ?_
  refine lv_iload_n hx hb (xb_d D_Exact_reckoned 30 rfl) rfl (lv_at hl 2 rfl) ?_
  refine lv_lload_n hx hb (xb_d D_Exact_reckoned 31 rfl) rfl (lv_at hl 3 rfl) ?_
  refine lv_lload hx hb (xb_d D_Exact_reckoned 32 rfl) (lv_at hl 4 rfl) ?_
  obtain ⟨hk1, hw⟩ := hw
  refine xb_call0 (D := D) (A := A) (σ := σ) (h := h) (d := 4) (maxL := 16) (rest := []) (av := [.ref x0, .int x1, .int x2, .long x3, .long x5]) (fun T hT X => by obtain ⟨cb9, ra9, rb9, rc9⟩ := xb_recv (ci := 9) hR rfl hk1 (by decide); exact xt_invV X hx hown (hts _ m_69f5acf7) (hts _ m_6678ec36) (hts _ m_0d822d4c) (xt_sigOf (hts _ m_0ac99b71)) nm_Exact_byDivision (by rw [hT]; exact ra9) rb9 rc9 (g := F0 m 121 ls [.long x5, .long x3, .int x2, .int x1, .ref x0]) rfl (argsL := [.int x1, .int x2, .long x3, .long x5]) (rest := []) rfl rfl (by rw [hb]; exact (xb_d D_Exact_reckoned 33 rfl))) (ok_Exact_byDivision l hfl D A σ x0 x1 x2 x3 x5 h _ hw) (hml.trans hl.1.symm) (by rw [hb]; exact (xb_d D_Exact_reckoned 33 rfl)) (Nat.le_of_ble_eq_true rfl) (Nat.le_of_ble_eq_true rfl) (Nat.le_of_ble_eq_true rfl) (show k ≤ MC by omega) (show n ≤ MS by omega) (xt_w1 hB.1 m_0ac99b71) (xt_cdOf hB.1 m_0ac99b71) (hts _ m_b807310b) hB hR hS hA (fun vv h2 H locs hq hEh2 hR hS => ?_)
  obtain ⟨r3, rfl, hw⟩ := hq
  have hw := hw hEh2
  have hE := hE.tr hEh2
  refine W.eq (g2 := F0 m 124 ls [.long r3]) rfl ?_
  exact xb_lret 0 0 hx hb hr hlocks (show k + 0 ≤ MC by omega) (show n + 0 ≤ MS by omega) hE hR hS (xb_d D_Exact_reckoned 34 rfl) hw

set_option maxHeartbeats 4000000 in
set_option maxRecDepth 100000 in
theorem am_Exact_reckoned_L92 (l : Launch) (hfl : l.flags = pinnedFlags ++ [noTraceFlag]) (D : va_G) (A : Nat → Prop) (σ MC MS : Nat) (h0 : xb_H) (Qr : Int64 → xb_H → Prop) (x1 : Int32) (x2 : Int32) (x3 : Int64) (h : xb_H) (hw : w_Exact_reckoned_L92 Qr x1 x2 x3 h) : xb_am l D A σ 5 MC MS h0 (fun v h _ _ => ∃ r, v = some (.long r) ∧ Qr r h) (fun _ _ _ _ => False) y_Exact_reckoned.cls y_Exact_reckoned.name b_Exact_reckoned 8 ([] : List ExceptionTableEntry) (some .long) 92 [(1, .int x1), (2, .int x2), (3, .long x3)] [] h 0 0 := by
  unfold w_Exact_reckoned_L92 at hw
  intro p e s m args below meth c hC H locs ls k n hE hl hR hS hk hn
  obtain ⟨hx, hb, hown, hlocks, htab, hml, hr, hB, hA, hnm⟩ := id hC
  have hts := hB.1.1.at args
  refine lv_lload_n hx hb (xb_d D_Exact_reckoned 10 rfl) rfl (lv_at hl 2 rfl) ?_
  refine lv_iload_n hx hb (xb_d D_Exact_reckoned 11 rfl) rfl (lv_at hl 1 rfl) ?_
  refine lv_iload_n hx hb (xb_d D_Exact_reckoned 12 rfl) rfl (lv_at hl 0 rfl) ?_
  refine xb_call0 (D := D) (A := A) (σ := σ) (h := h) (d := 2) (maxL := 10) (rest := []) (av := [.long x3, .int x2, .int x1]) (fun T hT X => xt_invS X hx hown (hts _ m_322616a0) (hts _ m_d70e050b) (hts _ m_b807310b) (xt_sgS (hts _ m_8a465d5f)).1 (xt_sgS (hts _ m_8a465d5f)).2 nm_Exact_count (g := F0 m 95 ls [.int x1, .int x2, .long x3]) rfl (argsL := [.long x3, .int x2, .int x1]) (rest := []) rfl rfl (by rw [hb]; exact (xb_d D_Exact_reckoned 13 rfl))) (ok_Exact_count l hfl D A σ x3 x2 x1 h _ hw) (hml.trans hl.1.symm) (by rw [hb]; exact (xb_d D_Exact_reckoned 13 rfl)) (Nat.le_of_ble_eq_true rfl) (Nat.le_of_ble_eq_true rfl) (Nat.le_of_ble_eq_true rfl) (show k ≤ MC by omega) (show n ≤ MS by omega) (xt_w1 hB.1 m_8a465d5f) (xt_cdOf hB.1 m_8a465d5f) (hts _ m_b807310b) hB hR hS hA (fun vv h1 H locs hq hEh1 hR hS => ?_)
  obtain ⟨r2, rfl, hw⟩ := hq
  have hw := hw hEh1
  have hE := hE.tr hEh1
  refine W.eq (g2 := F0 m 98 ls [.int r2]) rfl ?_
  refine lv_i2l hx hb (xb_d D_Exact_reckoned 14 rfl) rfl ?_
  exact xb_lret 0 0 hx hb hr hlocks (show k + 0 ≤ MC by omega) (show n + 0 ≤ MS by omega) hE hR hS (xb_d D_Exact_reckoned 15 rfl) hw

set_option maxHeartbeats 4000000 in
set_option maxRecDepth 100000 in
theorem ok_Exact_reckoned (l : Launch) (hfl : l.flags = pinnedFlags ++ [noTraceFlag]) (D : va_G) (A : Nat → Prop) (σ : Nat) (x0 : Nat) (x1 : Int32) (x2 : Int32) (x3 : Int64) (x5 : Int64) (h : xb_H) (Qr : Int64 → xb_H → Prop) (hw : w_Exact_reckoned x0 x1 x2 x3 x5 h Qr) : xb_Met l y_Exact_reckoned [.code y_Exact_reckoned b_Exact_reckoned 8 (some .long)] (xb_rm 5 0 0) (xb_Pc D A σ h [.ref x0, .int x1, .int x2, .long x3, .long x5]) (xb_Qc D A h 0 0 (fun v h _ _ => ∃ r, v = some (.long r) ∧ Qr r h) (fun _ _ _ _ => False)) A := by
  refine xb_ofAm (cc := b_Exact_reckoned) (by decide) (Nat.le_of_ble_eq_true rfl) ?_
  unfold w_Exact_reckoned at hw
  show xb_am l D A σ 5 0 0 h (fun v h _ _ => ∃ r, v = some (.long r) ∧ Qr r h) (fun _ _ _ _ => False) y_Exact_reckoned.cls y_Exact_reckoned.name b_Exact_reckoned 8 ([] : List ExceptionTableEntry) (some .long) 0 [(0, .ref x0), (1, .int x1), (2, .int x2), (3, .long x3), (5, .long x5)] [] h 0 0
  obtain ⟨MC, hMC⟩ : ∃ x, x = 0 := ⟨_, rfl⟩
  obtain ⟨MS, hMS⟩ : ∃ x, x = 0 := ⟨_, rfl⟩
  rw [show xb_am l D A σ 5 0 0 = xb_am l D A σ 5 MC MS by rw [hMC, hMS]]
  obtain ⟨h0, hh0⟩ : ∃ x, x = h := ⟨_, rfl⟩
  rw [show xb_am l D A σ 5 MC MS h = xb_am l D A σ 5 MC MS h0 by rw [hh0]]
  intro p e s m args below meth c hC H locs ls k n hE hl hR hS hk hn
  obtain ⟨hx, hb, hown, hlocks, htab, hml, hr, hB, hA, hnm⟩ := id hC
  have hts := hB.1.1.at args
  refine lv_lload hx hb (xb_d D_Exact_reckoned 0 rfl) (lv_at hl 4 rfl) ?_
  refine lv_iload_n hx hb (xb_d D_Exact_reckoned 1 rfl) rfl (lv_at hl 2 rfl) ?_
  refine lv_iconst (v := 1) hx hb (xb_d D_Exact_reckoned 2 rfl) (by decide) ?_
  refine lv_isub hx hb (xb_d D_Exact_reckoned 3 rfl) ?_
  refine lv_i2l hx hb (xb_d D_Exact_reckoned 4 rfl) rfl ?_
  refine lv_land hx hb (xb_d D_Exact_reckoned 5 rfl) ?_
  refine lv_l2i hx hb (xb_d D_Exact_reckoned 6 rfl) rfl ?_
  obtain ⟨v1, ev1⟩ : ∃ x : Int32, x = (Int64.toInt32 (x5 &&& (Int32.toInt64 (x2 - 1)))) := ⟨_, rfl⟩
  have hw := hw v1 ev1
  refine xt_numi (y := v1) ev1.symm ?_
  refine lv_istore hx hb (xb_d D_Exact_reckoned 7 rfl) hl (by decide) rfl (fun ls hl => ?_)
  have hl : lv_has ls 8 [(7, .int v1), (0, .ref x0), (1, .int x1), (2, .int x2), (3, .long x3), (5, .long x5)] := hl
  refine lv_iload_n hx hb (xb_d D_Exact_reckoned 8 rfl) rfl (lv_at hl 2 rfl) ?_
  by_cases hc2 : x1 = 0
  · have hw := hw.1 hc2
    refine xt_numi hc2 ?_
    refine lv_tableIn (off := 81) (tgt := 92) hx hb (xb_d D_Exact_reckoned 9 rfl) (by decide +kernel) (by decide +kernel) (by decide +kernel) (by decide) ?_
    exact am_Exact_reckoned_L92 l hfl D A σ MC MS h0 Qr x1 x2 x3 h hw p e s m args below meth c hC H locs ls k n hE (lv_sub hl [2, 3, 4] rfl) hR hS (by omega) (by omega)
  have hw := hw.2
  by_cases hc3 : x1 = 1
  · have hw := hw.1 hc3
    refine xt_numi hc3 ?_
    refine lv_tableIn (off := 81) (tgt := 92) hx hb (xb_d D_Exact_reckoned 9 rfl) (by decide +kernel) (by decide +kernel) (by decide +kernel) (by decide) ?_
    exact am_Exact_reckoned_L92 l hfl D A σ MC MS h0 Qr x1 x2 x3 h hw p e s m args below meth c hC H locs ls k n hE (lv_sub hl [2, 3, 4] rfl) hR hS (by omega) (by omega)
  have hw := hw.2
  by_cases hc4 : x1 = 2
  · have hw := hw.1 hc4
    refine xt_numi hc4 ?_
    refine lv_tableIn (off := 81) (tgt := 92) hx hb (xb_d D_Exact_reckoned 9 rfl) (by decide +kernel) (by decide +kernel) (by decide +kernel) (by decide) ?_
    exact am_Exact_reckoned_L92 l hfl D A σ MC MS h0 Qr x1 x2 x3 h hw p e s m args below meth c hC H locs ls k n hE (lv_sub hl [2, 3, 4] rfl) hR hS (by omega) (by omega)
  have hw := hw.2
  by_cases hc5 : x1 = 3
  · have hw := hw.1 hc5
    refine xt_numi hc5 ?_
    refine lv_tableIn (off := 89) (tgt := 100) hx hb (xb_d D_Exact_reckoned 9 rfl) (by decide +kernel) (by decide +kernel) (by decide +kernel) (by decide) ?_
    refine lv_lload_n hx hb (xb_d D_Exact_reckoned 16 rfl) rfl (lv_at hl 4 rfl) ?_
    refine lv_lload hx hb (xb_d D_Exact_reckoned 17 rfl) (lv_at hl 5 rfl) ?_
    refine lv_ladd hx hb (xb_d D_Exact_reckoned 18 rfl) ?_
    exact xb_lret 0 0 hx hb hr hlocks (show k + 0 ≤ MC by omega) (show n + 0 ≤ MS by omega) hE hR hS (xb_d D_Exact_reckoned 19 rfl) hw
  have hw := hw.2
  by_cases hc6 : x1 = 4
  · have hw := hw.1 hc6
    refine xt_numi hc6 ?_
    refine lv_tableIn (off := 94) (tgt := 105) hx hb (xb_d D_Exact_reckoned 9 rfl) (by decide +kernel) (by decide +kernel) (by decide +kernel) (by decide) ?_
    refine lv_lload_n hx hb (xb_d D_Exact_reckoned 20 rfl) rfl (lv_at hl 4 rfl) ?_
    refine lv_lload hx hb (xb_d D_Exact_reckoned 21 rfl) (lv_at hl 5 rfl) ?_
    refine lv_lsub hx hb (xb_d D_Exact_reckoned 22 rfl) ?_
    exact xb_lret 0 0 hx hb hr hlocks (show k + 0 ≤ MC by omega) (show n + 0 ≤ MS by omega) hE hR hS (xb_d D_Exact_reckoned 23 rfl) hw
  have hw := hw.2
  by_cases hc7 : x1 = 5
  · have hw := hw.1 hc7
    refine xt_numi hc7 ?_
    refine lv_tableIn (off := 99) (tgt := 110) hx hb (xb_d D_Exact_reckoned 9 rfl) (by decide +kernel) (by decide +kernel) (by decide +kernel) (by decide) ?_
    refine lv_lload_n hx hb (xb_d D_Exact_reckoned 24 rfl) rfl (lv_at hl 4 rfl) ?_
    refine lv_lload hx hb (xb_d D_Exact_reckoned 25 rfl) (lv_at hl 5 rfl) ?_
    refine lv_lmul hx hb (xb_d D_Exact_reckoned 26 rfl) ?_
    exact xb_lret 0 0 hx hb hr hlocks (show k + 0 ≤ MC by omega) (show n + 0 ≤ MS by omega) hE hR hS (xb_d D_Exact_reckoned 27 rfl) hw
  have hw := hw.2
  by_cases hc8 : x1 = 6
  · have hw := hw.1 hc8
    refine xt_numi hc8 ?_
    refine lv_tableIn (off := 104) (tgt := 115) hx hb (xb_d D_Exact_reckoned 9 rfl) (by decide +kernel) (by decide +kernel) (by decide +kernel) (by decide) ?_
    exact am_Exact_reckoned_L115 l hfl D A σ MC MS h0 Qr x0 x1 x2 x3 x5 h hw p e s m args below meth c hC H locs ls k n hE (lv_sub hl [1, 2, 3, 4, 5] rfl) hR hS (by omega) (by omega)
  have hw := hw.2
  by_cases hc9 : x1 = 7
  · have hw := hw.1 hc9
    refine xt_numi hc9 ?_
    refine lv_tableIn (off := 104) (tgt := 115) hx hb (xb_d D_Exact_reckoned 9 rfl) (by decide +kernel) (by decide +kernel) (by decide +kernel) (by decide) ?_
    exact am_Exact_reckoned_L115 l hfl D A σ MC MS h0 Qr x0 x1 x2 x3 x5 h hw p e s m args below meth c hC H locs ls k n hE (lv_sub hl [1, 2, 3, 4, 5] rfl) hR hS (by omega) (by omega)
  have hw := hw.2
  by_cases hc10 : x1 = 8
  · have hw := hw.1 hc10
    refine xt_numi hc10 ?_
    refine lv_tableIn (off := 104) (tgt := 115) hx hb (xb_d D_Exact_reckoned 9 rfl) (by decide +kernel) (by decide +kernel) (by decide +kernel) (by decide) ?_
    exact am_Exact_reckoned_L115 l hfl D A σ MC MS h0 Qr x0 x1 x2 x3 x5 h hw p e s m args below meth c hC H locs ls k n hE (lv_sub hl [1, 2, 3, 4, 5] rfl) hR hS (by omega) (by omega)
  have hw := hw.2
  by_cases hc11 : x1 = 9
  · have hw := hw.1 hc11
    refine xt_numi hc11 ?_
    refine lv_tableIn (off := 104) (tgt := 115) hx hb (xb_d D_Exact_reckoned 9 rfl) (by decide +kernel) (by decide +kernel) (by decide +kernel) (by decide) ?_
    exact am_Exact_reckoned_L115 l hfl D A σ MC MS h0 Qr x0 x1 x2 x3 x5 h hw p e s m args below meth c hC H locs ls k n hE (lv_sub hl [1, 2, 3, 4, 5] rfl) hR hS (by omega) (by omega)
  have hw := hw.2
  by_cases hc12 : x1 = 10
  · have hw := hw.1 hc12
    refine xt_numi hc12 ?_
    refine lv_tableIn (off := 114) (tgt := 125) hx hb (xb_d D_Exact_reckoned 9 rfl) (by decide +kernel) (by decide +kernel) (by decide +kernel) (by decide) ?_
    refine lv_lload_n hx hb (xb_d D_Exact_reckoned 35 rfl) rfl (lv_at hl 4 rfl) ?_
    refine lv_lload hx hb (xb_d D_Exact_reckoned 36 rfl) (lv_at hl 5 rfl) ?_
    refine lv_land hx hb (xb_d D_Exact_reckoned 37 rfl) ?_
    exact xb_lret 0 0 hx hb hr hlocks (show k + 0 ≤ MC by omega) (show n + 0 ≤ MS by omega) hE hR hS (xb_d D_Exact_reckoned 38 rfl) hw
  have hw := hw.2
  by_cases hc13 : x1 = 11
  · have hw := hw.1 hc13
    refine xt_numi hc13 ?_
    refine lv_tableIn (off := 119) (tgt := 130) hx hb (xb_d D_Exact_reckoned 9 rfl) (by decide +kernel) (by decide +kernel) (by decide +kernel) (by decide) ?_
    refine lv_lload_n hx hb (xb_d D_Exact_reckoned 39 rfl) rfl (lv_at hl 4 rfl) ?_
    refine lv_lload hx hb (xb_d D_Exact_reckoned 40 rfl) (lv_at hl 5 rfl) ?_
    refine lv_lor hx hb (xb_d D_Exact_reckoned 41 rfl) ?_
    exact xb_lret 0 0 hx hb hr hlocks (show k + 0 ≤ MC by omega) (show n + 0 ≤ MS by omega) hE hR hS (xb_d D_Exact_reckoned 42 rfl) hw
  have hw := hw.2
  by_cases hc14 : x1 = 12
  · have hw := hw.1 hc14
    refine xt_numi hc14 ?_
    refine lv_tableIn (off := 124) (tgt := 135) hx hb (xb_d D_Exact_reckoned 9 rfl) (by decide +kernel) (by decide +kernel) (by decide +kernel) (by decide) ?_
    refine lv_lload_n hx hb (xb_d D_Exact_reckoned 43 rfl) rfl (lv_at hl 4 rfl) ?_
    refine lv_lload hx hb (xb_d D_Exact_reckoned 44 rfl) (lv_at hl 5 rfl) ?_
    refine lv_lxor hx hb (xb_d D_Exact_reckoned 45 rfl) ?_
    exact xb_lret 0 0 hx hb hr hlocks (show k + 0 ≤ MC by omega) (show n + 0 ≤ MS by omega) hE hR hS (xb_d D_Exact_reckoned 46 rfl) hw
  have hw := hw.2
  by_cases hc15 : x1 = 13
  · have hw := hw.1 hc15
    refine xt_numi hc15 ?_
    refine lv_tableIn (off := 129) (tgt := 140) hx hb (xb_d D_Exact_reckoned 9 rfl) (by decide +kernel) (by decide +kernel) (by decide +kernel) (by decide) ?_
    exact am_Exact_reckoned_L140 l hfl D A σ MC MS h0 Qr x1 x2 x3 v1 h hw p e s m args below meth c hC H locs ls k n hE (lv_sub hl [2, 3, 4, 0] rfl) hR hS (by omega) (by omega)
  have hw := hw.2
  by_cases hc16 : x1 = 14
  · have hw := hw.1 hc16
    refine xt_numi hc16 ?_
    refine lv_tableIn (off := 129) (tgt := 140) hx hb (xb_d D_Exact_reckoned 9 rfl) (by decide +kernel) (by decide +kernel) (by decide +kernel) (by decide) ?_
    exact am_Exact_reckoned_L140 l hfl D A σ MC MS h0 Qr x1 x2 x3 v1 h hw p e s m args below meth c hC H locs ls k n hE (lv_sub hl [2, 3, 4, 0] rfl) hR hS (by omega) (by omega)
  have hw := hw.2
  by_cases hc17 : x1 = 15
  · have hw := hw.1 hc17
    refine xt_numi hc17 ?_
    refine lv_tableIn (off := 129) (tgt := 140) hx hb (xb_d D_Exact_reckoned 9 rfl) (by decide +kernel) (by decide +kernel) (by decide +kernel) (by decide) ?_
    exact am_Exact_reckoned_L140 l hfl D A σ MC MS h0 Qr x1 x2 x3 v1 h hw p e s m args below meth c hC H locs ls k n hE (lv_sub hl [2, 3, 4, 0] rfl) hR hS (by omega) (by omega)
  have hw := hw.2
  by_cases hc18 : x1 = 16
  · have hw := hw.1 hc18
    refine xt_numi hc18 ?_
    refine lv_tableIn (off := 138) (tgt := 149) hx hb (xb_d D_Exact_reckoned 9 rfl) (by decide +kernel) (by decide +kernel) (by decide +kernel) (by decide) ?_
    refine lv_lload_n hx hb (xb_d D_Exact_reckoned 53 rfl) rfl (lv_at hl 4 rfl) ?_
    refine lv_iload_n hx hb (xb_d D_Exact_reckoned 54 rfl) rfl (lv_at hl 3 rfl) ?_
    refine lv_iload hx hb (xb_d D_Exact_reckoned 55 rfl) (lv_at hl 0 rfl) ?_
    refine xb_call0 (D := D) (A := A) (σ := σ) (h := h) (d := 2) (maxL := 9) (rest := []) (av := [.long x3, .int x2, .int v1]) (fun T hT X => xt_invS X hx hown (hts _ m_567c10da) (hts _ m_e9e381fc) (hts _ m_b807310b) (xt_sgS (hts _ m_38c0bc5b)).1 (xt_sgS (hts _ m_38c0bc5b)).2 nm_Exact_turned (g := F0 m 153 ls [.int v1, .int x2, .long x3]) rfl (argsL := [.long x3, .int x2, .int v1]) (rest := []) rfl rfl (by rw [hb]; exact (xb_d D_Exact_reckoned 56 rfl))) (ok_Exact_turned l hfl D A σ x3 x2 v1 h _ hw) (hml.trans hl.1.symm) (by rw [hb]; exact (xb_d D_Exact_reckoned 56 rfl)) (Nat.le_of_ble_eq_true rfl) (Nat.le_of_ble_eq_true rfl) (Nat.le_of_ble_eq_true rfl) (show k ≤ MC by omega) (show n ≤ MS by omega) (xt_w1 hB.1 m_38c0bc5b) (xt_cdOf hB.1 m_38c0bc5b) (hts _ m_b807310b) hB hR hS hA (fun vv h19 H locs hq hEh19 hR hS => ?_)
    obtain ⟨r20, rfl, hw⟩ := hq
    have hw := hw hEh19
    have hE := hE.tr hEh19
    refine W.eq (g2 := F0 m 156 ls [.long r20]) rfl ?_
    exact xb_lret 0 0 hx hb hr hlocks (show k + 0 ≤ MC by omega) (show n + 0 ≤ MS by omega) hE hR hS (xb_d D_Exact_reckoned 57 rfl) hw
  have hw := hw.2
  have hw := hw hc2 hc3 hc4 hc5 hc6 hc7 hc8 hc9 hc10 hc11 hc12 hc13 hc14 hc15 hc16 hc17 hc18
  refine lv_tableOut (tgt := 157) hx hb (xb_d D_Exact_reckoned 9 rfl) (by have a0 := xb_nl (0) 0 (by decide) hc2; have a1 := xb_nl (1) 1 (by decide) hc3; have a2 := xb_nl (2) 2 (by decide) hc4; have a3 := xb_nl (3) 3 (by decide) hc5; have a4 := xb_nl (4) 4 (by decide) hc6; have a5 := xb_nl (5) 5 (by decide) hc7; have a6 := xb_nl (6) 6 (by decide) hc8; have a7 := xb_nl (7) 7 (by decide) hc9; have a8 := xb_nl (8) 8 (by decide) hc10; have a9 := xb_nl (9) 9 (by decide) hc11; have a10 := xb_nl (10) 10 (by decide) hc12; have a11 := xb_nl (11) 11 (by decide) hc13; have a12 := xb_nl (12) 12 (by decide) hc14; have a13 := xb_nl (13) 13 (by decide) hc15; have a14 := xb_nl (14) 14 (by decide) hc16; have a15 := xb_nl (15) 15 (by decide) hc17; have a16 := xb_nl (16) 16 (by decide) hc18; omega) (by decide) ?_
  refine lv_lload_n hx hb (xb_d D_Exact_reckoned 58 rfl) rfl (lv_at hl 4 rfl) ?_
  refine lv_iload_n hx hb (xb_d D_Exact_reckoned 59 rfl) rfl (lv_at hl 3 rfl) ?_
  refine lv_iload_n hx hb (xb_d D_Exact_reckoned 60 rfl) rfl (lv_at hl 3 rfl) ?_
  refine lv_iload hx hb (xb_d D_Exact_reckoned 61 rfl) (lv_at hl 0 rfl) ?_
  refine lv_isub hx hb (xb_d D_Exact_reckoned 62 rfl) ?_
  refine lv_iload_n hx hb (xb_d D_Exact_reckoned 63 rfl) rfl (lv_at hl 3 rfl) ?_
  obtain ⟨hz21, hw⟩ := hw
  refine lv_irem hx hb (xb_d D_Exact_reckoned 64 rfl) hz21 ?_
  refine xb_call0 (D := D) (A := A) (σ := σ) (h := h) (d := 2) (maxL := 9) (rest := []) (av := [.long x3, .int x2, .int ((x2 - v1) - (x2 - v1) / x2 * x2)]) (fun T hT X => xt_invS X hx hown (hts _ m_567c10da) (hts _ m_e9e381fc) (hts _ m_b807310b) (xt_sgS (hts _ m_38c0bc5b)).1 (xt_sgS (hts _ m_38c0bc5b)).2 nm_Exact_turned (g := F0 m 165 ls [.int ((x2 - v1) - (x2 - v1) / x2 * x2), .int x2, .long x3]) rfl (argsL := [.long x3, .int x2, .int ((x2 - v1) - (x2 - v1) / x2 * x2)]) (rest := []) rfl rfl (by rw [hb]; exact (xb_d D_Exact_reckoned 65 rfl))) (ok_Exact_turned l hfl D A σ x3 x2 ((x2 - v1) - (x2 - v1) / x2 * x2) h _ hw) (hml.trans hl.1.symm) (by rw [hb]; exact (xb_d D_Exact_reckoned 65 rfl)) (Nat.le_of_ble_eq_true rfl) (Nat.le_of_ble_eq_true rfl) (Nat.le_of_ble_eq_true rfl) (show k ≤ MC by omega) (show n ≤ MS by omega) (xt_w1 hB.1 m_38c0bc5b) (xt_cdOf hB.1 m_38c0bc5b) (hts _ m_b807310b) hB hR hS hA (fun vv h22 H locs hq hEh22 hR hS => ?_)
  obtain ⟨r23, rfl, hw⟩ := hq
  have hw := hw hEh22
  have hE := hE.tr hEh22
  refine W.eq (g2 := F0 m 168 ls [.long r23]) rfl ?_
  exact xb_lret 0 0 hx hb hr hlocks (show k + 0 ≤ MC by omega) (show n + 0 ≤ MS by omega) hE hR hS (xb_d D_Exact_reckoned 66 rfl) hw

theorem m_c71b9470 : (.methodLink "StackHostModel$Exact" 186 y_Exact_format : Cond) ∈ xt_tbl := xt_in (xt_t12 (List.mem_of_getElem? (i := 206) (by decide +kernel))) (by decide +kernel)
theorem m_83158a9f : (.instanceMethod y_Exact_format : Cond) ∈ xt_tbl := xt_in (xt_t12 (List.mem_of_getElem? (i := 208) (by decide +kernel))) (by decide +kernel)
theorem m_b726eab7 : (.selects "StackHostModel$Exact" y_Exact_format y_Exact_format : Cond) ∈ xt_tbl := xt_in (xt_v15 (q := (⟨"StackHostModel$Exact", "format", "(I)V"⟩, 11)) (List.mem_of_getElem? (i := 3) (by decide +kernel))) (by decide +kernel)
theorem m_e24dd969 : (.code y_Exact_format b_Exact_format 2 none : Cond) ∈ xt_tbl := xt_in (xt_t12 (List.mem_of_getElem? (i := 209) (by decide +kernel))) (by decide +kernel)
theorem nm_Exact_format : xt_nm y_Exact_format 1 := ⟨by decide +kernel, by decide +kernel⟩
set_option maxRecDepth 100000 in
def T_Exact_reformed : List (Nat × Instr × Nat) := [(0, .aload_n 0, 1), (1, .lload_n 1, 1), (2, .invokevirtual 90, 3), (5, .istore 4, 2), (7, .aload_n 0, 1), (8, .lload_n 1, 1), (9, .invokevirtual 97, 3), (12, .istore 5, 2), (14, .aload_n 0, 1), (15, .lload_n 1, 1), (16, .invokevirtual 104, 3), (19, .istore 6, 2), (21, .aload_n 0, 1), (22, .lload_n 1, 1), (23, .invokevirtual 76, 3), (26, .istore 7, 2), (28, .iload 4, 2), (30, .ifCond .ne 18, 3), (33, .iload 5, 2), (35, .ifCond .ne 13, 3), (38, .iload 6, 2), (40, .ifCond .ne 8, 3), (43, .aload_n 0, 1), (44, .lload_n 1, 1), (45, .invokevirtual 110, 3), (48, .aload_n 0, 1), (49, .iload_n 3, 1), (50, .invokevirtual 186, 3), (53, .iload 4, 2), (55, .ifCond .eq 8, 3), (58, .aload_n 0, 1), (59, .invokevirtual 100, 3), (62, .lreturn, 1), (63, .iload 5, 2), (65, .ifCond .ne 8, 3), (68, .iload 6, 2), (70, .ifCond .eq 25, 3), (73, .iload 5, 2), (75, .ifCond .eq 12, 3), (78, .aload_n 0, 1), (79, .iload 7, 2), (81, .invokevirtual 64, 3), (84, .goto 10, 3), (87, .aload_n 0, 1), (88, .lconst 0, 1), (89, .iload 7, 2), (91, .invokevirtual 52, 3), (94, .lreturn, 1), (95, .aload_n 0, 1), (96, .invokevirtual 107, 3), (99, .aload_n 0, 1), (100, .aload_n 0, 1), (101, .getfield 83, 3), (104, .aload_n 0, 1), (105, .getfield 87, 3), (108, .invokevirtual 114, 3), (111, .aload_n 0, 1), (112, .iload 7, 2), (114, .invokevirtual 121, 3), (117, .lreturn, 1)]
theorem D_Exact_reformed : ∀ q ∈ T_Exact_reformed, decode b_Exact_reformed q.1 = .ok (q.2.1, q.2.2) := by decide +kernel

set_option maxHeartbeats 4000000 in
set_option maxRecDepth 100000 in
theorem am_Exact_reformed_L94 (l : Launch) (hfl : l.flags = pinnedFlags ++ [noTraceFlag]) (D : va_G) (A : Nat → Prop) (σ MC MS : Nat) (h0 : xb_H) (Qr : Int64 → xb_H → Prop) (y0 : Int64) (h : xb_H) (hw : w_Exact_reformed_L94 Qr y0 h) : xb_am l D A σ 5 MC MS h0 (fun v h _ _ => ∃ r, v = some (.long r) ∧ Qr r h) (fun _ _ _ _ => False) y_Exact_reformed.cls y_Exact_reformed.name b_Exact_reformed 8 ([] : List ExceptionTableEntry) (some .long) 94 [] [.long y0] h 0 0 := by
  unfold w_Exact_reformed_L94 at hw
  intro p e s m args below meth c hC H locs ls k n hE hl hR hS hk hn
  obtain ⟨hx, hb, hown, hlocks, htab, hml, hr, hB, hA, hnm⟩ := id hC
  have hts := hB.1.1.at args
  exact xb_lret 0 0 hx hb hr hlocks (show k + 0 ≤ MC by omega) (show n + 0 ≤ MS by omega) hE hR hS (xb_d D_Exact_reformed 47 rfl) hw

set_option maxHeartbeats 4000000 in
set_option maxRecDepth 100000 in
theorem am_Exact_reformed_L73 (l : Launch) (hfl : l.flags = pinnedFlags ++ [noTraceFlag]) (D : va_G) (A : Nat → Prop) (σ MC MS : Nat) (h0 : xb_H) (Qr : Int64 → xb_H → Prop) (x0 : Nat) (x5 : Int32) (x7 : Int32) (h : xb_H) (hw : w_Exact_reformed_L73 Qr x0 x5 x7 h) : xb_am l D A σ 5 MC MS h0 (fun v h _ _ => ∃ r, v = some (.long r) ∧ Qr r h) (fun _ _ _ _ => False) y_Exact_reformed.cls y_Exact_reformed.name b_Exact_reformed 8 ([] : List ExceptionTableEntry) (some .long) 73 [(0, .ref x0), (5, .int x5), (7, .int x7)] [] h 0 0 := by
  unfold w_Exact_reformed_L73 at hw
  intro p e s m args below meth c hC H locs ls k n hE hl hR hS hk hn
  obtain ⟨hx, hb, hown, hlocks, htab, hml, hr, hB, hA, hnm⟩ := id hC
  have hts := hB.1.1.at args
  refine lv_iload hx hb (xb_d D_Exact_reformed 37 rfl) (lv_at hl 1 rfl) ?_
  refine lv_if_eq (tgt := 87) hx hb (xb_d D_Exact_reformed 38 rfl) rfl (fun hc1 => ?_) (fun hc1 => ?_)
  · have hw := hw.1 hc1
    refine lv_aload_n hx hb (xb_d D_Exact_reformed 43 rfl) rfl (lv_at hl 0 rfl) ?_
    refine lv_lconst (v := 0) hx hb (xb_d D_Exact_reformed 44 rfl) (by decide) ?_
    refine lv_iload hx hb (xb_d D_Exact_reformed 45 rfl) (lv_at hl 2 rfl) ?_
    obtain ⟨hk2, hw⟩ := hw
    refine xb_call0 (D := D) (A := A) (σ := σ) (h := h) (d := 2) (maxL := 4) (rest := []) (av := [.ref x0, .long 0, .int x7]) (fun T hT X => by obtain ⟨cb9, ra9, rb9, rc9⟩ := xb_recv (ci := 9) hR rfl hk2 (by decide); exact xt_invV X hx hown (hts _ m_7b6c7353) (hts _ m_28babb18) (hts _ m_243e01d5) (xt_sigOf (hts _ m_88c0fc78)) nm_Exact_signed (by rw [hT]; exact ra9) rb9 rc9 (g := F0 m 91 ls [.int x7, .long 0, .ref x0]) rfl (argsL := [.long 0, .int x7]) (rest := []) rfl rfl (by rw [hb]; exact (xb_d D_Exact_reformed 46 rfl))) (ok_Exact_signed l hfl D A σ x0 0 x7 h _ hw) (hml.trans hl.1.symm) (by rw [hb]; exact (xb_d D_Exact_reformed 46 rfl)) (Nat.le_of_ble_eq_true rfl) (Nat.le_of_ble_eq_true rfl) (Nat.le_of_ble_eq_true rfl) (show k ≤ MC by omega) (show n ≤ MS by omega) (xt_w1 hB.1 m_88c0fc78) (xt_cdOf hB.1 m_88c0fc78) (hts _ m_b807310b) hB hR hS hA (fun vv h3 H locs hq hEh3 hR hS => ?_)
    obtain ⟨r4, rfl, hw⟩ := hq
    have hw := hw hEh3
    have hE := hE.tr hEh3
    refine W.eq (g2 := F0 m 94 ls [.long r4]) rfl ?_
    exact am_Exact_reformed_L94 l hfl D A σ MC MS h0 Qr r4 h3 hw p e s m args below meth c hC H locs ls k n hE (lv_sub hl [] rfl) hR hS (by omega) (by omega)
  · have hw := hw.2 hc1
    refine lv_aload_n hx hb (xb_d D_Exact_reformed 39 rfl) rfl (lv_at hl 0 rfl) ?_
    refine lv_iload hx hb (xb_d D_Exact_reformed 40 rfl) (lv_at hl 2 rfl) ?_
    obtain ⟨hk5, hw⟩ := hw
    refine xb_call0 (D := D) (A := A) (σ := σ) (h := h) (d := 3) (maxL := 2) (rest := []) (av := [.ref x0, .int x7]) (fun T hT X => by obtain ⟨cb9, ra9, rb9, rc9⟩ := xb_recv (ci := 9) hR rfl hk5 (by decide); exact xt_invV X hx hown (hts _ m_c1bdecd7) (hts _ m_3ecdf3c0) (hts _ m_93791b31) (xt_sigOf (hts _ m_99b71483)) nm_Exact_infinite (by rw [hT]; exact ra9) rb9 rc9 (g := F0 m 81 ls [.int x7, .ref x0]) rfl (argsL := [.int x7]) (rest := []) rfl rfl (by rw [hb]; exact (xb_d D_Exact_reformed 41 rfl))) (ok_Exact_infinite l hfl D A σ x0 x7 h _ hw) (hml.trans hl.1.symm) (by rw [hb]; exact (xb_d D_Exact_reformed 41 rfl)) (Nat.le_of_ble_eq_true rfl) (Nat.le_of_ble_eq_true rfl) (Nat.le_of_ble_eq_true rfl) (show k ≤ MC by omega) (show n ≤ MS by omega) (xt_w1 hB.1 m_99b71483) (xt_cdOf hB.1 m_99b71483) (hts _ m_b807310b) hB hR hS hA (fun vv h6 H locs hq hEh6 hR hS => ?_)
    obtain ⟨r7, rfl, hw⟩ := hq
    have hw := hw hEh6
    have hE := hE.tr hEh6
    refine W.eq (g2 := F0 m 84 ls [.long r7]) rfl ?_
    refine lv_goto (tgt := 94) hx hb (xb_d D_Exact_reformed 42 rfl) rfl ?_
    exact am_Exact_reformed_L94 l hfl D A σ MC MS h0 Qr r7 h6 hw p e s m args below meth c hC H locs ls k n hE (lv_sub hl [] rfl) hR hS (by omega) (by omega)

set_option maxHeartbeats 4000000 in
set_option maxRecDepth 100000 in
theorem am_Exact_reformed_L48 (l : Launch) (hfl : l.flags = pinnedFlags ++ [noTraceFlag]) (D : va_G) (A : Nat → Prop) (σ MC MS : Nat) (h0 : xb_H) (Qr : Int64 → xb_H → Prop) (x0 : Nat) (x3 : Int32) (x4 : Int32) (x5 : Int32) (x6 : Int32) (x7 : Int32) (h : xb_H) (hw : w_Exact_reformed_L48 Qr x0 x3 x4 x5 x6 x7 h) : xb_am l D A σ 5 MC MS h0 (fun v h _ _ => ∃ r, v = some (.long r) ∧ Qr r h) (fun _ _ _ _ => False) y_Exact_reformed.cls y_Exact_reformed.name b_Exact_reformed 8 ([] : List ExceptionTableEntry) (some .long) 48 [(0, .ref x0), (3, .int x3), (4, .int x4), (5, .int x5), (6, .int x6), (7, .int x7)] [] h 0 0 := by
  unfold w_Exact_reformed_L48 at hw
  intro p e s m args below meth c hC H locs ls k n hE hl hR hS hk hn
  obtain ⟨hx, hb, hown, hlocks, htab, hml, hr, hB, hA, hnm⟩ := id hC
  have hts := hB.1.1.at args
  refine lv_aload_n hx hb (xb_d D_Exact_reformed 25 rfl) rfl (lv_at hl 0 rfl) ?_
  refine lv_iload_n hx hb (xb_d D_Exact_reformed 26 rfl) rfl (lv_at hl 1 rfl) ?_
  obtain ⟨hk1, hw⟩ := hw
  refine xb_call0 (D := D) (A := A) (σ := σ) (h := h) (d := 2) (maxL := 2) (rest := []) (av := [.ref x0, .int x3]) (fun T hT X => by obtain ⟨cb9, ra9, rb9, rc9⟩ := xb_recv (ci := 9) hR rfl hk1 (by decide); exact xt_invV X hx hown (hts _ m_c71b9470) (hts _ m_83158a9f) (hts _ m_b726eab7) (xt_sigOf (hts _ m_e24dd969)) nm_Exact_format (by rw [hT]; exact ra9) rb9 rc9 (g := F0 m 50 ls [.int x3, .ref x0]) rfl (argsL := [.int x3]) (rest := []) rfl rfl (by rw [hb]; exact (xb_d D_Exact_reformed 27 rfl))) (ok_Exact_format l hfl D A σ x0 x3 h _ hw) (hml.trans hl.1.symm) (by rw [hb]; exact (xb_d D_Exact_reformed 27 rfl)) (Nat.le_of_ble_eq_true rfl) (Nat.le_of_ble_eq_true rfl) (Nat.le_of_ble_eq_true rfl) (show k ≤ MC by omega) (show n ≤ MS by omega) (xt_w1 hB.1 m_e24dd969) (xt_cdOf hB.1 m_e24dd969) (hts _ m_b807310b) hB hR hS hA (fun vv h2 H locs hq hEh2 hR hS => ?_)
  obtain ⟨rfl, hw⟩ := hq
  have hw := hw hEh2
  have hE := hE.tr hEh2
  refine W.eq (g2 := F0 m 53 ls []) rfl ?_
  refine lv_iload hx hb (xb_d D_Exact_reformed 28 rfl) (lv_at hl 2 rfl) ?_
  refine lv_if_eq (tgt := 63) hx hb (xb_d D_Exact_reformed 29 rfl) rfl (fun hc4 => ?_) (fun hc4 => ?_)
  · have hw := hw.1 hc4
    refine lv_iload hx hb (xb_d D_Exact_reformed 33 rfl) (lv_at hl 3 rfl) ?_
    refine lv_if_ne (tgt := 73) hx hb (xb_d D_Exact_reformed 34 rfl) rfl (fun hc5 => ?_) (fun hc5 => ?_)
    · have hw := hw.1 hc5
      exact am_Exact_reformed_L73 l hfl D A σ MC MS h0 Qr x0 x5 x7 h2 hw p e s m args below meth c hC H locs ls k n hE (lv_sub hl [0, 3, 5] rfl) hR hS (by omega) (by omega)
    · have hw := hw.2 hc5
      refine lv_iload hx hb (xb_d D_Exact_reformed 35 rfl) (lv_at hl 4 rfl) ?_
      refine lv_if_eq (tgt := 95) hx hb (xb_d D_Exact_reformed 36 rfl) rfl (fun hc6 => ?_) (fun hc6 => ?_)
      · have hw := hw.1 hc6
        refine lv_aload_n hx hb (xb_d D_Exact_reformed 48 rfl) rfl (lv_at hl 0 rfl) ?_
        have hk1 : xb_k h2 x0 = 10 := hEh2.k hk1
        refine xb_call0 (D := D) (A := A) (σ := σ) (h := h2) (d := 2) (maxL := 2) (rest := []) (av := [.ref x0]) (fun T hT X => by obtain ⟨cb9, ra9, rb9, rc9⟩ := xb_recv (ci := 9) hR rfl hk1 (by decide); exact xt_invV X hx hown (hts _ m_65d93325) (hts _ m_c4de73f8) (hts _ m_b3f48cc1) (xt_sigOf (hts _ m_b0daac26)) nm_Exact_clear (by rw [hT]; exact ra9) rb9 rc9 (g := F0 m 96 ls [.ref x0]) rfl (argsL := []) (rest := []) rfl rfl (by rw [hb]; exact (xb_d D_Exact_reformed 49 rfl))) (ok_Exact_clear l hfl D A σ x0 h2 _ hw) (hml.trans hl.1.symm) (by rw [hb]; exact (xb_d D_Exact_reformed 49 rfl)) (Nat.le_of_ble_eq_true rfl) (Nat.le_of_ble_eq_true rfl) (Nat.le_of_ble_eq_true rfl) (show k ≤ MC by omega) (show n ≤ MS by omega) (xt_w1 hB.1 m_b0daac26) (xt_cdOf hB.1 m_b0daac26) (hts _ m_b807310b) hB hR hS hA (fun vv h7 H locs hq hEh7 hR hS => ?_)
        obtain ⟨rfl, hw⟩ := hq
        have hw := hw hEh7
        have hE := hE.tr hEh7
        refine W.eq (g2 := F0 m 99 ls []) rfl ?_
        refine lv_aload_n hx hb (xb_d D_Exact_reformed 50 rfl) rfl (lv_at hl 0 rfl) ?_
        refine lv_aload_n hx hb (xb_d D_Exact_reformed 51 rfl) rfl (lv_at hl 0 rfl) ?_
        have hk1 : xb_k h7 x0 = 10 := hEh7.k hk1
        refine xb_getL (C := R_Exact) (T := F_Exact) (N := 11) hx hb 9 9 hts fin_Exact hown hR hk1 (by decide) rfl (by decide) rfl (hts _ m_183e6a18) (fun _ h9 => h9) (xb_d D_Exact_reformed 52 rfl) ?_
        refine lv_aload_n hx hb (xb_d D_Exact_reformed 53 rfl) rfl (lv_at hl 0 rfl) ?_
        refine xb_getI (C := R_Exact) (T := F_Exact) (N := 11) hx hb 9 10 hts fin_Exact hown hR hk1 (by decide) rfl (by decide) rfl (hts _ m_a62210ac) (fun _ h9 => h9) (xb_d D_Exact_reformed 54 rfl) ?_
        refine xb_call0 (D := D) (A := A) (σ := σ) (h := h7) (d := 3) (maxL := 9) (rest := []) (av := [.ref x0, .long (xb_l h7 x0 9), .int (xb_i h7 x0 10)]) (fun T hT X => by obtain ⟨cb9, ra9, rb9, rc9⟩ := xb_recv (ci := 9) hR rfl hk1 (by decide); exact xt_invV X hx hown (hts _ m_547afbfb) (hts _ m_d4b837ea) (hts _ m_b818cb8b) (xt_sigOf (hts _ m_59b46d39)) nm_Exact_add (by rw [hT]; exact ra9) rb9 rc9 (g := F0 m 108 ls [.int (xb_i h7 x0 10), .long (xb_l h7 x0 9), .ref x0]) rfl (argsL := [.long (xb_l h7 x0 9), .int (xb_i h7 x0 10)]) (rest := []) rfl rfl (by rw [hb]; exact (xb_d D_Exact_reformed 55 rfl))) (ok_Exact_add l hfl D A σ x0 (xb_l h7 x0 9) (xb_i h7 x0 10) h7 _ hw) (hml.trans hl.1.symm) (by rw [hb]; exact (xb_d D_Exact_reformed 55 rfl)) (Nat.le_of_ble_eq_true rfl) (Nat.le_of_ble_eq_true rfl) (Nat.le_of_ble_eq_true rfl) (show k ≤ MC by omega) (show n ≤ MS by omega) (xt_w1 hB.1 m_59b46d39) (xt_cdOf hB.1 m_59b46d39) (hts _ m_b807310b) hB hR hS hA (fun vv h9 H locs hq hEh9 hR hS => ?_)
        obtain ⟨rfl, hw⟩ := hq
        have hw := hw hEh9
        have hE := hE.tr hEh9
        refine W.eq (g2 := F0 m 111 ls []) rfl ?_
        refine lv_aload_n hx hb (xb_d D_Exact_reformed 56 rfl) rfl (lv_at hl 0 rfl) ?_
        refine lv_iload hx hb (xb_d D_Exact_reformed 57 rfl) (lv_at hl 5 rfl) ?_
        have hk1 : xb_k h9 x0 = 10 := hEh9.k hk1
        refine xb_call0 (D := D) (A := A) (σ := σ) (h := h9) (d := 4) (maxL := 10) (rest := []) (av := [.ref x0, .int x7]) (fun T hT X => by obtain ⟨cb9, ra9, rb9, rc9⟩ := xb_recv (ci := 9) hR rfl hk1 (by decide); exact xt_invV X hx hown (hts _ m_2aa5d168) (hts _ m_a9d2c1e2) (hts _ m_665f83d8) (xt_sigOf (hts _ m_bb0adfae)) nm_Exact_rounded (by rw [hT]; exact ra9) rb9 rc9 (g := F0 m 114 ls [.int x7, .ref x0]) rfl (argsL := [.int x7]) (rest := []) rfl rfl (by rw [hb]; exact (xb_d D_Exact_reformed 58 rfl))) (ok_Exact_rounded l hfl D A σ x0 x7 h9 _ hw) (hml.trans hl.1.symm) (by rw [hb]; exact (xb_d D_Exact_reformed 58 rfl)) (Nat.le_of_ble_eq_true rfl) (Nat.le_of_ble_eq_true rfl) (Nat.le_of_ble_eq_true rfl) (show k ≤ MC by omega) (show n ≤ MS by omega) (xt_w1 hB.1 m_bb0adfae) (xt_cdOf hB.1 m_bb0adfae) (hts _ m_b807310b) hB hR hS hA (fun vv h11 H locs hq hEh11 hR hS => ?_)
        obtain ⟨r12, rfl, hw⟩ := hq
        have hw := hw hEh11
        have hE := hE.tr hEh11
        refine W.eq (g2 := F0 m 117 ls [.long r12]) rfl ?_
        exact xb_lret 0 0 hx hb hr hlocks (show k + 0 ≤ MC by omega) (show n + 0 ≤ MS by omega) hE hR hS (xb_d D_Exact_reformed 59 rfl) hw
      · have hw := hw.2 hc6
        exact am_Exact_reformed_L73 l hfl D A σ MC MS h0 Qr x0 x5 x7 h2 hw p e s m args below meth c hC H locs ls k n hE (lv_sub hl [0, 3, 5] rfl) hR hS (by omega) (by omega)
  · have hw := hw.2 hc4
    refine lv_aload_n hx hb (xb_d D_Exact_reformed 30 rfl) rfl (lv_at hl 0 rfl) ?_
    have hk1 : xb_k h2 x0 = 10 := hEh2.k hk1
    refine xb_call0 (D := D) (A := A) (σ := σ) (h := h2) (d := 2) (maxL := 1) (rest := []) (av := [.ref x0]) (fun T hT X => by obtain ⟨cb9, ra9, rb9, rc9⟩ := xb_recv (ci := 9) hR rfl hk1 (by decide); exact xt_invV X hx hown (hts _ m_3b77e327) (hts _ m_488d5ec7) (hts _ m_8dd38d5e) (xt_sigOf (hts _ m_291300c8)) nm_Exact_noNumber (by rw [hT]; exact ra9) rb9 rc9 (g := F0 m 59 ls [.ref x0]) rfl (argsL := []) (rest := []) rfl rfl (by rw [hb]; exact (xb_d D_Exact_reformed 31 rfl))) (ok_Exact_noNumber l hfl D A σ x0 h2 _ hw) (hml.trans hl.1.symm) (by rw [hb]; exact (xb_d D_Exact_reformed 31 rfl)) (Nat.le_of_ble_eq_true rfl) (Nat.le_of_ble_eq_true rfl) (Nat.le_of_ble_eq_true rfl) (show k ≤ MC by omega) (show n ≤ MS by omega) (xt_w1 hB.1 m_291300c8) (xt_cdOf hB.1 m_291300c8) (hts _ m_b807310b) hB hR hS hA (fun vv h13 H locs hq hEh13 hR hS => ?_)
    obtain ⟨r14, rfl, hw⟩ := hq
    have hw := hw hEh13
    have hE := hE.tr hEh13
    refine W.eq (g2 := F0 m 62 ls [.long r14]) rfl ?_
    exact xb_lret 0 0 hx hb hr hlocks (show k + 0 ≤ MC by omega) (show n + 0 ≤ MS by omega) hE hR hS (xb_d D_Exact_reformed 32 rfl) hw

set_option maxHeartbeats 4000000 in
set_option maxRecDepth 100000 in
theorem ok_Exact_reformed (l : Launch) (hfl : l.flags = pinnedFlags ++ [noTraceFlag]) (D : va_G) (A : Nat → Prop) (σ : Nat) (x0 : Nat) (x1 : Int64) (x3 : Int32) (h : xb_H) (Qr : Int64 → xb_H → Prop) (hw : w_Exact_reformed x0 x1 x3 h Qr) : xb_Met l y_Exact_reformed [.code y_Exact_reformed b_Exact_reformed 8 (some .long)] (xb_rm 5 0 0) (xb_Pc D A σ h [.ref x0, .long x1, .int x3]) (xb_Qc D A h 0 0 (fun v h _ _ => ∃ r, v = some (.long r) ∧ Qr r h) (fun _ _ _ _ => False)) A := by
  refine xb_ofAm (cc := b_Exact_reformed) (by decide) (Nat.le_of_ble_eq_true rfl) ?_
  unfold w_Exact_reformed at hw
  show xb_am l D A σ 5 0 0 h (fun v h _ _ => ∃ r, v = some (.long r) ∧ Qr r h) (fun _ _ _ _ => False) y_Exact_reformed.cls y_Exact_reformed.name b_Exact_reformed 8 ([] : List ExceptionTableEntry) (some .long) 0 [(0, .ref x0), (1, .long x1), (3, .int x3)] [] h 0 0
  obtain ⟨MC, hMC⟩ : ∃ x, x = 0 := ⟨_, rfl⟩
  obtain ⟨MS, hMS⟩ : ∃ x, x = 0 := ⟨_, rfl⟩
  rw [show xb_am l D A σ 5 0 0 = xb_am l D A σ 5 MC MS by rw [hMC, hMS]]
  obtain ⟨h0, hh0⟩ : ∃ x, x = h := ⟨_, rfl⟩
  rw [show xb_am l D A σ 5 MC MS h = xb_am l D A σ 5 MC MS h0 by rw [hh0]]
  intro p e s m args below meth c hC H locs ls k n hE hl hR hS hk hn
  obtain ⟨hx, hb, hown, hlocks, htab, hml, hr, hB, hA, hnm⟩ := id hC
  have hts := hB.1.1.at args
  refine lv_aload_n hx hb (xb_d D_Exact_reformed 0 rfl) rfl (lv_at hl 0 rfl) ?_
  refine lv_lload_n hx hb (xb_d D_Exact_reformed 1 rfl) rfl (lv_at hl 1 rfl) ?_
  obtain ⟨hk1, hw⟩ := hw
  refine xb_call0 (D := D) (A := A) (σ := σ) (h := h) (d := 4) (maxL := 3) (rest := []) (av := [.ref x0, .long x1]) (fun T hT X => by obtain ⟨cb9, ra9, rb9, rc9⟩ := xb_recv (ci := 9) hR rfl hk1 (by decide); exact xt_invV X hx hown (hts _ m_e6998383) (hts _ m_c3a6d16d) (hts _ m_67f195fc) (xt_sigOf (hts _ m_e0ca15fb)) nm_Exact_isNone (by rw [hT]; exact ra9) rb9 rc9 (g := F0 m 2 ls [.long x1, .ref x0]) rfl (argsL := [.long x1]) (rest := []) rfl rfl (by rw [hb]; exact (xb_d D_Exact_reformed 2 rfl))) (ok_Exact_isNone l hfl D A σ x0 x1 h _ hw) (hml.trans hl.1.symm) (by rw [hb]; exact (xb_d D_Exact_reformed 2 rfl)) (Nat.le_of_ble_eq_true rfl) (Nat.le_of_ble_eq_true rfl) (Nat.le_of_ble_eq_true rfl) (show k ≤ MC by omega) (show n ≤ MS by omega) (xt_w1 hB.1 m_e0ca15fb) (xt_cdOf hB.1 m_e0ca15fb) (hts _ m_b807310b) hB hR hS hA (fun vv h2 H locs hq hEh2 hR hS => ?_)
  obtain ⟨r3, rfl, hw⟩ := hq
  have hw := hw hEh2
  have hE := hE.tr hEh2
  refine W.eq (g2 := F0 m 5 ls [.int r3]) rfl ?_
  refine lv_istore hx hb (xb_d D_Exact_reformed 3 rfl) hl (by decide) rfl (fun ls hl => ?_)
  have hl : lv_has ls 8 [(4, .int r3), (0, .ref x0), (1, .long x1), (3, .int x3)] := hl
  refine lv_aload_n hx hb (xb_d D_Exact_reformed 4 rfl) rfl (lv_at hl 1 rfl) ?_
  refine lv_lload_n hx hb (xb_d D_Exact_reformed 5 rfl) rfl (lv_at hl 2 rfl) ?_
  have hk1 : xb_k h2 x0 = 10 := hEh2.k hk1
  refine xb_call0 (D := D) (A := A) (σ := σ) (h := h2) (d := 4) (maxL := 3) (rest := []) (av := [.ref x0, .long x1]) (fun T hT X => by obtain ⟨cb9, ra9, rb9, rc9⟩ := xb_recv (ci := 9) hR rfl hk1 (by decide); exact xt_invV X hx hown (hts _ m_4d51455e) (hts _ m_6f0f72ed) (hts _ m_54335684) (xt_sigOf (hts _ m_c0f31264)) nm_Exact_isInfinite (by rw [hT]; exact ra9) rb9 rc9 (g := F0 m 9 ls [.long x1, .ref x0]) rfl (argsL := [.long x1]) (rest := []) rfl rfl (by rw [hb]; exact (xb_d D_Exact_reformed 6 rfl))) (ok_Exact_isInfinite l hfl D A σ x0 x1 h2 _ hw) (hml.trans hl.1.symm) (by rw [hb]; exact (xb_d D_Exact_reformed 6 rfl)) (Nat.le_of_ble_eq_true rfl) (Nat.le_of_ble_eq_true rfl) (Nat.le_of_ble_eq_true rfl) (show k ≤ MC by omega) (show n ≤ MS by omega) (xt_w1 hB.1 m_c0f31264) (xt_cdOf hB.1 m_c0f31264) (hts _ m_b807310b) hB hR hS hA (fun vv h4 H locs hq hEh4 hR hS => ?_)
  obtain ⟨r5, rfl, hw⟩ := hq
  have hw := hw hEh4
  have hE := hE.tr hEh4
  refine W.eq (g2 := F0 m 12 ls [.int r5]) rfl ?_
  refine lv_istore hx hb (xb_d D_Exact_reformed 7 rfl) hl (by decide) rfl (fun ls hl => ?_)
  have hl : lv_has ls 8 [(5, .int r5), (4, .int r3), (0, .ref x0), (1, .long x1), (3, .int x3)] := hl
  refine lv_aload_n hx hb (xb_d D_Exact_reformed 8 rfl) rfl (lv_at hl 2 rfl) ?_
  refine lv_lload_n hx hb (xb_d D_Exact_reformed 9 rfl) rfl (lv_at hl 3 rfl) ?_
  have hk1 : xb_k h4 x0 = 10 := hEh4.k hk1
  refine xb_call0 (D := D) (A := A) (σ := σ) (h := h4) (d := 3) (maxL := 3) (rest := []) (av := [.ref x0, .long x1]) (fun T hT X => by obtain ⟨cb9, ra9, rb9, rc9⟩ := xb_recv (ci := 9) hR rfl hk1 (by decide); exact xt_invV X hx hown (hts _ m_f9e5bce2) (hts _ m_d4ccf81e) (hts _ m_870ffa92) (xt_sigOf (hts _ m_b231eb2b)) nm_Exact_isZero (by rw [hT]; exact ra9) rb9 rc9 (g := F0 m 16 ls [.long x1, .ref x0]) rfl (argsL := [.long x1]) (rest := []) rfl rfl (by rw [hb]; exact (xb_d D_Exact_reformed 10 rfl))) (ok_Exact_isZero l hfl D A σ x0 x1 h4 _ hw) (hml.trans hl.1.symm) (by rw [hb]; exact (xb_d D_Exact_reformed 10 rfl)) (Nat.le_of_ble_eq_true rfl) (Nat.le_of_ble_eq_true rfl) (Nat.le_of_ble_eq_true rfl) (show k ≤ MC by omega) (show n ≤ MS by omega) (xt_w1 hB.1 m_b231eb2b) (xt_cdOf hB.1 m_b231eb2b) (hts _ m_b807310b) hB hR hS hA (fun vv h6 H locs hq hEh6 hR hS => ?_)
  obtain ⟨r7, rfl, hw⟩ := hq
  have hw := hw hEh6
  have hE := hE.tr hEh6
  refine W.eq (g2 := F0 m 19 ls [.int r7]) rfl ?_
  refine lv_istore hx hb (xb_d D_Exact_reformed 11 rfl) hl (by decide) rfl (fun ls hl => ?_)
  have hl : lv_has ls 8 [(6, .int r7), (5, .int r5), (4, .int r3), (0, .ref x0), (1, .long x1), (3, .int x3)] := hl
  refine lv_aload_n hx hb (xb_d D_Exact_reformed 12 rfl) rfl (lv_at hl 3 rfl) ?_
  refine lv_lload_n hx hb (xb_d D_Exact_reformed 13 rfl) rfl (lv_at hl 4 rfl) ?_
  have hk1 : xb_k h6 x0 = 10 := hEh6.k hk1
  refine xb_call0 (D := D) (A := A) (σ := σ) (h := h6) (d := 2) (maxL := 3) (rest := []) (av := [.ref x0, .long x1]) (fun T hT X => by obtain ⟨cb9, ra9, rb9, rc9⟩ := xb_recv (ci := 9) hR rfl hk1 (by decide); exact xt_invV X hx hown (hts _ m_de267fc4) (hts _ m_8cf2fba2) (hts _ m_e2188cdf) (xt_sigOf (hts _ m_25d2fde1)) nm_Exact_isMinus (by rw [hT]; exact ra9) rb9 rc9 (g := F0 m 23 ls [.long x1, .ref x0]) rfl (argsL := [.long x1]) (rest := []) rfl rfl (by rw [hb]; exact (xb_d D_Exact_reformed 14 rfl))) (ok_Exact_isMinus l hfl D A σ x0 x1 h6 _ hw) (hml.trans hl.1.symm) (by rw [hb]; exact (xb_d D_Exact_reformed 14 rfl)) (Nat.le_of_ble_eq_true rfl) (Nat.le_of_ble_eq_true rfl) (Nat.le_of_ble_eq_true rfl) (show k ≤ MC by omega) (show n ≤ MS by omega) (xt_w1 hB.1 m_25d2fde1) (xt_cdOf hB.1 m_25d2fde1) (hts _ m_b807310b) hB hR hS hA (fun vv h8 H locs hq hEh8 hR hS => ?_)
  obtain ⟨r9, rfl, hw⟩ := hq
  have hw := hw hEh8
  have hE := hE.tr hEh8
  refine W.eq (g2 := F0 m 26 ls [.int r9]) rfl ?_
  refine lv_istore hx hb (xb_d D_Exact_reformed 15 rfl) hl (by decide) rfl (fun ls hl => ?_)
  have hl : lv_has ls 8 [(7, .int r9), (6, .int r7), (5, .int r5), (4, .int r3), (0, .ref x0), (1, .long x1), (3, .int x3)] := hl
  refine lv_iload hx hb (xb_d D_Exact_reformed 16 rfl) (lv_at hl 3 rfl) ?_
  refine lv_if_ne (tgt := 48) hx hb (xb_d D_Exact_reformed 17 rfl) rfl (fun hc10 => ?_) (fun hc10 => ?_)
  · have hw := hw.1 hc10
    exact am_Exact_reformed_L48 l hfl D A σ MC MS h0 Qr x0 x3 r3 r5 r7 r9 h8 hw p e s m args below meth c hC H locs ls k n hE (lv_sub hl [4, 6, 3, 2, 1, 0] rfl) hR hS (by omega) (by omega)
  · have hw := hw.2 hc10
    refine lv_iload hx hb (xb_d D_Exact_reformed 18 rfl) (lv_at hl 2 rfl) ?_
    refine lv_if_ne (tgt := 48) hx hb (xb_d D_Exact_reformed 19 rfl) rfl (fun hc11 => ?_) (fun hc11 => ?_)
    · have hw := hw.1 hc11
      exact am_Exact_reformed_L48 l hfl D A σ MC MS h0 Qr x0 x3 r3 r5 r7 r9 h8 hw p e s m args below meth c hC H locs ls k n hE (lv_sub hl [4, 6, 3, 2, 1, 0] rfl) hR hS (by omega) (by omega)
    · have hw := hw.2 hc11
      refine lv_iload hx hb (xb_d D_Exact_reformed 20 rfl) (lv_at hl 1 rfl) ?_
      refine lv_if_ne (tgt := 48) hx hb (xb_d D_Exact_reformed 21 rfl) rfl (fun hc12 => ?_) (fun hc12 => ?_)
      · have hw := hw.1 hc12
        exact am_Exact_reformed_L48 l hfl D A σ MC MS h0 Qr x0 x3 r3 r5 r7 r9 h8 hw p e s m args below meth c hC H locs ls k n hE (lv_sub hl [4, 6, 3, 2, 1, 0] rfl) hR hS (by omega) (by omega)
      · have hw := hw.2 hc12
        refine lv_aload_n hx hb (xb_d D_Exact_reformed 22 rfl) rfl (lv_at hl 4 rfl) ?_
        refine lv_lload_n hx hb (xb_d D_Exact_reformed 23 rfl) rfl (lv_at hl 5 rfl) ?_
        have hk1 : xb_k h8 x0 = 10 := hEh8.k hk1
        refine xb_call0 (D := D) (A := A) (σ := σ) (h := h8) (d := 3) (maxL := 7) (rest := []) (av := [.ref x0, .long x1]) (fun T hT X => by obtain ⟨cb9, ra9, rb9, rc9⟩ := xb_recv (ci := 9) hR rfl hk1 (by decide); exact xt_invV X hx hown (hts _ m_26946ca5) (hts _ m_c8f41404) (hts _ m_e3ba6af7) (xt_sigOf (hts _ m_921646f3)) nm_Exact_split (by rw [hT]; exact ra9) rb9 rc9 (g := F0 m 45 ls [.long x1, .ref x0]) rfl (argsL := [.long x1]) (rest := []) rfl rfl (by rw [hb]; exact (xb_d D_Exact_reformed 24 rfl))) (ok_Exact_split l hfl D A σ x0 x1 h8 _ hw) (hml.trans hl.1.symm) (by rw [hb]; exact (xb_d D_Exact_reformed 24 rfl)) (Nat.le_of_ble_eq_true rfl) (Nat.le_of_ble_eq_true rfl) (Nat.le_of_ble_eq_true rfl) (show k ≤ MC by omega) (show n ≤ MS by omega) (xt_w1 hB.1 m_921646f3) (xt_cdOf hB.1 m_921646f3) (hts _ m_b807310b) hB hR hS hA (fun vv h13 H locs hq hEh13 hR hS => ?_)
        obtain ⟨rfl, hw⟩ := hq
        have hw := hw hEh13
        have hE := hE.tr hEh13
        refine W.eq (g2 := F0 m 48 ls []) rfl ?_
        exact am_Exact_reformed_L48 l hfl D A σ MC MS h0 Qr x0 x3 r3 r5 r7 r9 h13 hw p e s m args below meth c hC H locs ls k n hE (lv_sub hl [4, 6, 3, 2, 1, 0] rfl) hR hS (by omega) (by omega)

theorem m_6b7c35eb : (.constantLong "StackHostModel$Exact" 124 4 : Cond) ∈ xt_tbl := xt_in (xt_t13 (List.mem_of_getElem? (i := 65) (by decide +kernel))) (by decide +kernel)
theorem m_f55a1ef5 : (.constantLong "StackHostModel$Exact" 126 3 : Cond) ∈ xt_tbl := xt_in (xt_t13 (List.mem_of_getElem? (i := 66) (by decide +kernel))) (by decide +kernel)
set_option maxRecDepth 100000 in
def T_Exact_root : List (Nat × Instr × Nat) := [(0, .aload_n 0, 1), (1, .lload_n 1, 1), (2, .invokevirtual 104, 3), (5, .ifCond .eq 5, 3), (8, .lload_n 1, 1), (9, .lreturn, 1), (10, .aload_n 0, 1), (11, .lload_n 1, 1), (12, .invokevirtual 76, 3), (15, .ifCond .eq 8, 3), (18, .aload_n 0, 1), (19, .invokevirtual 100, 3), (22, .lreturn, 1), (23, .aload_n 0, 1), (24, .lload_n 1, 1), (25, .invokevirtual 97, 3), (28, .ifCond .eq 5, 3), (31, .lload_n 1, 1), (32, .lreturn, 1), (33, .aload_n 0, 1), (34, .lload_n 1, 1), (35, .invokevirtual 110, 3), (38, .aload_n 0, 1), (39, .getfield 87, 3), (42, .iconst 1, 1), (43, .iand, 1), (44, .ifCond .eq 23, 3), (47, .aload_n 0, 1), (48, .aload_n 0, 1), (49, .getfield 83, 3), (52, .iconst 1, 1), (53, .lshl, 1), (54, .putfield 83, 3), (57, .aload_n 0, 1), (58, .dup, 1), (59, .getfield 87, 3), (62, .iconst 1, 1), (63, .isub, 1), (64, .putfield 87, 3), (67, .aload_n 0, 1), (68, .getfield 83, 3), (71, .bipush 52, 2), (73, .lshr, 1), (74, .lconst 0, 1), (75, .lcmp, 1), (76, .ifCond .ne 26, 3), (79, .aload_n 0, 1), (80, .aload_n 0, 1), (81, .getfield 83, 3), (84, .iconst 2, 1), (85, .lshl, 1), (86, .putfield 83, 3), (89, .aload_n 0, 1), (90, .dup, 1), (91, .getfield 87, 3), (94, .iconst 2, 1), (95, .isub, 1), (96, .putfield 87, 3), (99, .goto (-32), 3), (102, .aload_n 0, 1), (103, .invokevirtual 107, 3), (106, .lconst 0, 1), (107, .lstore_n 3, 1), (108, .lconst 0, 1), (109, .lstore 5, 2), (111, .bipush 26, 2), (113, .istore 7, 2), (115, .iload 7, 2), (117, .bipush (-30), 2), (119, .if_icmp .lt 86, 3), (122, .ldc2_w 124, 3), (125, .lload_n 3, 1), (126, .lmul, 1), (127, .iload 7, 2), (129, .ifCond .ge 7, 3), (132, .lconst 0, 1), (133, .goto 16, 3), (136, .aload_n 0, 1), (137, .getfield 83, 3), (140, .iconst 2, 1), (141, .iload 7, 2), (143, .imul, 1), (144, .lshr, 1), (145, .ldc2_w 126, 3), (148, .land, 1), (149, .ladd, 1), (150, .lstore_n 3, 1), (151, .ldc2_w 124, 3), (154, .lload 5, 2), (156, .lmul, 1), (157, .lconst 1, 1), (158, .ladd, 1), (159, .lstore 8, 2), (161, .lload 5, 2), (163, .iconst 1, 1), (164, .lshl, 1), (165, .lstore 5, 2), (167, .lload_n 3, 1), (168, .lload 8, 2), (170, .lcmp, 1), (171, .ifCond .lt 28, 3), (174, .lload_n 3, 1), (175, .lload 8, 2), (177, .lsub, 1), (178, .lstore_n 3, 1), (179, .lload 5, 2), (181, .lconst 1, 1), (182, .ladd, 1), (183, .lstore 5, 2), (185, .aload_n 0, 1), (186, .lconst 1, 1), (187, .aload_n 0, 1), (188, .getfield 87, 3), (191, .iconst 2, 1), (192, .idiv, 1), (193, .iload 7, 2), (195, .iadd, 1), (196, .invokevirtual 114, 3), (199, .iinc 7 (-1), 3), (202, .goto (-87), 3), (205, .aload_n 0, 1), (206, .lload_n 3, 1), (207, .lconst 0, 1), (208, .lcmp, 1), (209, .ifCond .eq 7, 3), (212, .iconst 1, 1), (213, .goto 4, 3), (216, .iconst 0, 1), (217, .putfield 33, 3), (220, .aload_n 0, 1), (221, .iconst 0, 1), (222, .invokevirtual 121, 3), (225, .lreturn, 1)]
theorem D_Exact_root : ∀ q ∈ T_Exact_root, decode b_Exact_root q.1 = .ok (q.2.1, q.2.2) := by decide +kernel

set_option maxHeartbeats 4000000 in
set_option maxRecDepth 100000 in
theorem am_Exact_root_L217 (l : Launch) (hfl : l.flags = pinnedFlags ++ [noTraceFlag]) (D : va_G) (A : Nat → Prop) (σ MC MS : Nat) (h0 : xb_H) (Qr : Int64 → xb_H → Prop) (x0 : Nat) (y0 : Int32) (y1 : Nat) (h : xb_H) (hw : w_Exact_root_L217 Qr x0 y0 y1 h) : xb_am l D A σ 5 MC MS h0 (fun v h _ _ => ∃ r, v = some (.long r) ∧ Qr r h) (fun _ _ _ _ => False) y_Exact_root.cls y_Exact_root.name b_Exact_root 10 ([] : List ExceptionTableEntry) (some .long) 217 [(0, .ref x0)] [.int y0, .ref y1] h 0 0 := by
  unfold w_Exact_root_L217 at hw
  intro p e s m args below meth c hC H locs ls k n hE hl hR hS hk hn
  obtain ⟨hx, hb, hown, hlocks, htab, hml, hr, hB, hA, hnm⟩ := id hC
  have hts := hB.1.1.at args
  obtain ⟨hk1, hw⟩ := hw
  obtain ⟨hz2, hw⟩ := hw
  refine xb_putI (C := R_Exact) (T := F_Exact) (N := 11) (ty := .boolean) (x := y0) hx hb 9 4 hts fin_Exact t_Exact t_Exact_ok n_Exact hown hR hS hk1 (by decide) rfl (by decide) rfl (hts _ m_5c37ff4e) (fun _ h9 => h9) rfl (by decide +kernel) (xb_bn hz2).1 (xb_bn hz2).2 (xb_d D_Exact_root 128 rfl) (fun H locs hR hS => ?_)
  obtain ⟨h3, eh3⟩ : ∃ x : xb_H, x = xb_I h y1 4 y0 := ⟨_, rfl⟩
  rw [← eh3] at hR
  have hw := hw h3 eh3
  have hE : xb_ext h0 h3 := by rw [eh3]; exact hE
  refine lv_aload_n hx hb (xb_d D_Exact_root 129 rfl) rfl (lv_at hl 0 rfl) ?_
  refine lv_iconst (v := 0) hx hb (xb_d D_Exact_root 130 rfl) (by decide) ?_
  obtain ⟨hk4, hw⟩ := hw
  refine xb_call0 (D := D) (A := A) (σ := σ) (h := h3) (d := 4) (maxL := 10) (rest := []) (av := [.ref x0, .int 0]) (fun T hT X => by obtain ⟨cb9, ra9, rb9, rc9⟩ := xb_recv (ci := 9) hR rfl hk4 (by decide); exact xt_invV X hx hown (hts _ m_2aa5d168) (hts _ m_a9d2c1e2) (hts _ m_665f83d8) (xt_sigOf (hts _ m_bb0adfae)) nm_Exact_rounded (by rw [hT]; exact ra9) rb9 rc9 (g := F0 m 222 ls [.int 0, .ref x0]) rfl (argsL := [.int 0]) (rest := []) rfl rfl (by rw [hb]; exact (xb_d D_Exact_root 131 rfl))) (ok_Exact_rounded l hfl D A σ x0 0 h3 _ hw) (hml.trans hl.1.symm) (by rw [hb]; exact (xb_d D_Exact_root 131 rfl)) (Nat.le_of_ble_eq_true rfl) (Nat.le_of_ble_eq_true rfl) (Nat.le_of_ble_eq_true rfl) (show k ≤ MC by omega) (show n ≤ MS by omega) (xt_w1 hB.1 m_bb0adfae) (xt_cdOf hB.1 m_bb0adfae) (hts _ m_b807310b) hB hR hS hA (fun vv h5 H locs hq hEh5 hR hS => ?_)
  obtain ⟨r6, rfl, hw⟩ := hq
  have hw := hw hEh5
  have hE := hE.tr hEh5
  refine W.eq (g2 := F0 m 225 ls [.long r6]) rfl ?_
  exact xb_lret 0 0 hx hb hr hlocks (show k + 0 ≤ MC by omega) (show n + 0 ≤ MS by omega) hE hR hS (xb_d D_Exact_root 132 rfl) hw

set_option maxHeartbeats 4000000 in
set_option maxRecDepth 100000 in
theorem am_Exact_root_L199 (l : Launch) (hfl : l.flags = pinnedFlags ++ [noTraceFlag]) (D : va_G) (A : Nat → Prop) (σ MC MS : Nat) (h0 : xb_H) (Qr : Int64 → xb_H → Prop) (K115 : Nat → Int64 → Int64 → Int32 → xb_H → Prop) (hK115 : ∀ (x0 : Nat) (x3 : Int64) (x5 : Int64) (x7 : Int32) (h : xb_H), K115 x0 x3 x5 x7 h → xb_am l D A σ 5 MC MS h0 (fun v h _ _ => ∃ r, v = some (.long r) ∧ Qr r h) (fun _ _ _ _ => False) y_Exact_root.cls y_Exact_root.name b_Exact_root 10 ([] : List ExceptionTableEntry) (some .long) 115 [(0, .ref x0), (3, .long x3), (5, .long x5), (7, .int x7)] [] h 0 0) (x0 : Nat) (x3 : Int64) (x5 : Int64) (x7 : Int32) (h : xb_H) (hw : w_Exact_root_L199 K115 Qr x0 x3 x5 x7 h) : xb_am l D A σ 5 MC MS h0 (fun v h _ _ => ∃ r, v = some (.long r) ∧ Qr r h) (fun _ _ _ _ => False) y_Exact_root.cls y_Exact_root.name b_Exact_root 10 ([] : List ExceptionTableEntry) (some .long) 199 [(0, .ref x0), (3, .long x3), (5, .long x5), (7, .int x7)] [] h 0 0 := by
  unfold w_Exact_root_L199 at hw
  intro p e s m args below meth c hC H locs ls k n hE hl hR hS hk hn
  obtain ⟨hx, hb, hown, hlocks, htab, hml, hr, hB, hA, hnm⟩ := id hC
  have hts := hB.1.1.at args
  refine lv_iinc (v := (x7 + (-1))) (k := 3) hx hb (xb_d D_Exact_root 118 rfl) hl rfl (by first | rfl | decide) (by decide) rfl (fun ls hl => ?_)
  have hl : lv_has ls 10 [(7, .int (x7 + (-1))), (0, .ref x0), (3, .long x3), (5, .long x5)] := hl
  refine lv_goto (tgt := 115) hx hb (xb_d D_Exact_root 119 rfl) rfl ?_
  exact hK115 x0 x3 x5 (x7 + (-1)) h hw p e s m args below meth c hC H locs ls k n hE (lv_sub hl [1, 2, 3, 0] rfl) hR hS (by omega) (by omega)

set_option maxHeartbeats 4000000 in
set_option maxRecDepth 100000 in
theorem am_Exact_root_L149 (l : Launch) (hfl : l.flags = pinnedFlags ++ [noTraceFlag]) (D : va_G) (A : Nat → Prop) (σ MC MS : Nat) (h0 : xb_H) (Qr : Int64 → xb_H → Prop) (K115 : Nat → Int64 → Int64 → Int32 → xb_H → Prop) (hK115 : ∀ (x0 : Nat) (x3 : Int64) (x5 : Int64) (x7 : Int32) (h : xb_H), K115 x0 x3 x5 x7 h → xb_am l D A σ 5 MC MS h0 (fun v h _ _ => ∃ r, v = some (.long r) ∧ Qr r h) (fun _ _ _ _ => False) y_Exact_root.cls y_Exact_root.name b_Exact_root 10 ([] : List ExceptionTableEntry) (some .long) 115 [(0, .ref x0), (3, .long x3), (5, .long x5), (7, .int x7)] [] h 0 0) (x0 : Nat) (x5 : Int64) (x7 : Int32) (y0 : Int64) (y1 : Int64) (h : xb_H) (hw : w_Exact_root_L149 K115 Qr x0 x5 x7 y0 y1 h) : xb_am l D A σ 5 MC MS h0 (fun v h _ _ => ∃ r, v = some (.long r) ∧ Qr r h) (fun _ _ _ _ => False) y_Exact_root.cls y_Exact_root.name b_Exact_root 10 ([] : List ExceptionTableEntry) (some .long) 149 [(0, .ref x0), (5, .long x5), (7, .int x7)] [.long y0, .long y1] h 0 0 := by
  unfold w_Exact_root_L149 at hw
  intro p e s m args below meth c hC H locs ls k n hE hl hR hS hk hn
  obtain ⟨hx, hb, hown, hlocks, htab, hml, hr, hB, hA, hnm⟩ := id hC
  have hts := hB.1.1.at args
  refine lv_ladd hx hb (xb_d D_Exact_root 85 rfl) ?_
  obtain ⟨v1, ev1⟩ : ∃ x : Int64, x = (y1 + y0) := ⟨_, rfl⟩
  have hw := hw v1 ev1
  refine xt_numl (y := v1) ev1.symm ?_
  refine lv_lstore_n hx hb (xb_d D_Exact_root 86 rfl) rfl hl (by decide) rfl (fun ls hl => ?_)
  have hl : lv_has ls 10 [(3, .long v1), (0, .ref x0), (5, .long x5), (7, .int x7)] := hl
  refine lv_ldc2 (v := 4) hx hb hown (hts _ m_6b7c35eb) (xb_d D_Exact_root 87 rfl) ?_
  refine lv_lload hx hb (xb_d D_Exact_root 88 rfl) (lv_at hl 2 rfl) ?_
  refine lv_lmul hx hb (xb_d D_Exact_root 89 rfl) ?_
  refine lv_lconst (v := 1) hx hb (xb_d D_Exact_root 90 rfl) (by decide) ?_
  refine lv_ladd hx hb (xb_d D_Exact_root 91 rfl) ?_
  obtain ⟨v2, ev2⟩ : ∃ x : Int64, x = ((4 * x5) + 1) := ⟨_, rfl⟩
  have hw := hw v2 ev2
  refine xt_numl (y := v2) ev2.symm ?_
  refine lv_lstore hx hb (xb_d D_Exact_root 92 rfl) hl (by decide) rfl (fun ls hl => ?_)
  have hl : lv_has ls 10 [(8, .long v2), (3, .long v1), (0, .ref x0), (5, .long x5), (7, .int x7)] := hl
  refine lv_lload hx hb (xb_d D_Exact_root 93 rfl) (lv_at hl 3 rfl) ?_
  refine lv_iconst (v := 1) hx hb (xb_d D_Exact_root 94 rfl) (by decide) ?_
  refine lv_lshl (v := (xb_lshl x5 1)) hx hb (xb_d D_Exact_root 95 rfl) rfl ?_
  obtain ⟨v3, ev3⟩ : ∃ x : Int64, x = (xb_lshl x5 1) := ⟨_, rfl⟩
  have hw := hw v3 ev3
  refine xt_numl (y := v3) ev3.symm ?_
  refine lv_lstore hx hb (xb_d D_Exact_root 96 rfl) hl (by decide) rfl (fun ls hl => ?_)
  have hl : lv_has ls 10 [(5, .long v3), (8, .long v2), (3, .long v1), (0, .ref x0), (7, .int x7)] := hl
  refine lv_lload_n hx hb (xb_d D_Exact_root 97 rfl) rfl (lv_at hl 2 rfl) ?_
  refine lv_lload hx hb (xb_d D_Exact_root 98 rfl) (lv_at hl 1 rfl) ?_
  refine xb_lc_lt (tgt := 199) hx hb (xb_d D_Exact_root 99 rfl) (xb_d D_Exact_root 100 rfl) rfl (fun hc4 => ?_) (fun hc4 => ?_)
  · have hw := hw.1 hc4
    exact am_Exact_root_L199 l hfl D A σ MC MS h0 Qr K115 hK115 x0 v1 v3 x7 h hw p e s m args below meth c hC H locs ls k n hE (lv_sub hl [3, 2, 0, 4] rfl) hR hS (by omega) (by omega)
  · have hw := hw.2 hc4
    refine lv_lload_n hx hb (xb_d D_Exact_root 101 rfl) rfl (lv_at hl 2 rfl) ?_
    refine lv_lload hx hb (xb_d D_Exact_root 102 rfl) (lv_at hl 1 rfl) ?_
    refine lv_lsub hx hb (xb_d D_Exact_root 103 rfl) ?_
    obtain ⟨v5, ev5⟩ : ∃ x : Int64, x = (v1 - v2) := ⟨_, rfl⟩
    have hw := hw v5 ev5
    refine xt_numl (y := v5) ev5.symm ?_
    refine lv_lstore_n hx hb (xb_d D_Exact_root 104 rfl) rfl hl (by decide) rfl (fun ls hl => ?_)
    have hl : lv_has ls 10 [(3, .long v5), (5, .long v3), (8, .long v2), (0, .ref x0), (7, .int x7)] := hl
    refine lv_lload hx hb (xb_d D_Exact_root 105 rfl) (lv_at hl 1 rfl) ?_
    refine lv_lconst (v := 1) hx hb (xb_d D_Exact_root 106 rfl) (by decide) ?_
    refine lv_ladd hx hb (xb_d D_Exact_root 107 rfl) ?_
    obtain ⟨v6, ev6⟩ : ∃ x : Int64, x = (v3 + 1) := ⟨_, rfl⟩
    have hw := hw v6 ev6
    refine xt_numl (y := v6) ev6.symm ?_
    refine lv_lstore hx hb (xb_d D_Exact_root 108 rfl) hl (by decide) rfl (fun ls hl => ?_)
    have hl : lv_has ls 10 [(5, .long v6), (3, .long v5), (8, .long v2), (0, .ref x0), (7, .int x7)] := hl
    refine lv_aload_n hx hb (xb_d D_Exact_root 109 rfl) rfl (lv_at hl 3 rfl) ?_
    refine lv_lconst (v := 1) hx hb (xb_d D_Exact_root 110 rfl) (by decide) ?_
    refine lv_aload_n hx hb (xb_d D_Exact_root 111 rfl) rfl (lv_at hl 3 rfl) ?_
    obtain ⟨hk7, hw⟩ := hw
    refine xb_getI (C := R_Exact) (T := F_Exact) (N := 11) hx hb 9 10 hts fin_Exact hown hR hk7 (by decide) rfl (by decide) rfl (hts _ m_a62210ac) (fun _ h9 => h9) (xb_d D_Exact_root 112 rfl) ?_
    refine lv_iconst (v := 2) hx hb (xb_d D_Exact_root 113 rfl) (by decide) ?_
    refine lv_idiv hx hb (xb_d D_Exact_root 114 rfl) (by decide) ?_
    refine lv_iload hx hb (xb_d D_Exact_root 115 rfl) (lv_at hl 4 rfl) ?_
    refine lv_iadd hx hb (xb_d D_Exact_root 116 rfl) ?_
    refine xb_call0 (D := D) (A := A) (σ := σ) (h := h) (d := 3) (maxL := 9) (rest := []) (av := [.ref x0, .long 1, .int (((xb_i h x0 10) / 2) + x7)]) (fun T hT X => by obtain ⟨cb9, ra9, rb9, rc9⟩ := xb_recv (ci := 9) hR rfl hk7 (by decide); exact xt_invV X hx hown (hts _ m_547afbfb) (hts _ m_d4b837ea) (hts _ m_b818cb8b) (xt_sigOf (hts _ m_59b46d39)) nm_Exact_add (by rw [hT]; exact ra9) rb9 rc9 (g := F0 m 196 ls [.int (((xb_i h x0 10) / 2) + x7), .long 1, .ref x0]) rfl (argsL := [.long 1, .int (((xb_i h x0 10) / 2) + x7)]) (rest := []) rfl rfl (by rw [hb]; exact (xb_d D_Exact_root 117 rfl))) (ok_Exact_add l hfl D A σ x0 1 (((xb_i h x0 10) / 2) + x7) h _ hw) (hml.trans hl.1.symm) (by rw [hb]; exact (xb_d D_Exact_root 117 rfl)) (Nat.le_of_ble_eq_true rfl) (Nat.le_of_ble_eq_true rfl) (Nat.le_of_ble_eq_true rfl) (show k ≤ MC by omega) (show n ≤ MS by omega) (xt_w1 hB.1 m_59b46d39) (xt_cdOf hB.1 m_59b46d39) (hts _ m_b807310b) hB hR hS hA (fun vv h8 H locs hq hEh8 hR hS => ?_)
    obtain ⟨rfl, hw⟩ := hq
    have hw := hw hEh8
    have hE := hE.tr hEh8
    refine W.eq (g2 := F0 m 199 ls []) rfl ?_
    exact am_Exact_root_L199 l hfl D A σ MC MS h0 Qr K115 hK115 x0 v5 v6 x7 h8 hw p e s m args below meth c hC H locs ls k n hE (lv_sub hl [3, 1, 0, 4] rfl) hR hS (by omega) (by omega)

set_option maxHeartbeats 4000000 in
set_option maxRecDepth 100000 in
theorem am_Exact_root_L115 (l : Launch) (hfl : l.flags = pinnedFlags ++ [noTraceFlag]) (D : va_G) (A : Nat → Prop) (σ MC MS : Nat) (h0 : xb_H) (Qr : Int64 → xb_H → Prop) (n9 : Nat) : ∀ (x0 : Nat) (x3 : Int64) (x5 : Int64) (x7 : Int32) (h : xb_H), w_Exact_root_L115 Qr n9 x0 x3 x5 x7 h → xb_am l D A σ 5 MC MS h0 (fun v h _ _ => ∃ r, v = some (.long r) ∧ Qr r h) (fun _ _ _ _ => False) y_Exact_root.cls y_Exact_root.name b_Exact_root 10 ([] : List ExceptionTableEntry) (some .long) 115 [(0, .ref x0), (3, .long x3), (5, .long x5), (7, .int x7)] [] h 0 0 := by
  induction n9 with
  | zero => intro x0 x3 x5 x7 h hw; exact False.elim hw
  | succ n9 ih =>
    intro x0 x3 x5 x7 h hw
    unfold w_Exact_root_L115 at hw
    intro p e s m args below meth c hC H locs ls k n hE hl hR hS hk hn
    obtain ⟨hx, hb, hown, hlocks, htab, hml, hr, hB, hA, hnm⟩ := id hC
    have hts := hB.1.1.at args
    refine lv_iload hx hb (xb_d D_Exact_root 67 rfl) (lv_at hl 3 rfl) ?_
    refine lv_bipush (v := (-30)) hx hb (xb_d D_Exact_root 68 rfl) (by decide) ?_
    refine lv_icmp_lt (tgt := 205) hx hb (xb_d D_Exact_root 69 rfl) rfl (fun hc1 => ?_) (fun hc1 => ?_)
    · have hw := hw.1 hc1
      refine lv_aload_n hx hb (xb_d D_Exact_root 120 rfl) rfl (lv_at hl 0 rfl) ?_
      refine lv_lload_n hx hb (xb_d D_Exact_root 121 rfl) rfl (lv_at hl 1 rfl) ?_
      refine lv_lconst (v := 0) hx hb (xb_d D_Exact_root 122 rfl) (by decide) ?_
      refine xb_lc_eq (tgt := 216) hx hb (xb_d D_Exact_root 123 rfl) (xb_d D_Exact_root 124 rfl) rfl (fun hc2 => ?_) (fun hc2 => ?_)
      · have hw := hw.1 hc2
        refine lv_iconst (v := 0) hx hb (xb_d D_Exact_root 127 rfl) (by decide) ?_
        exact am_Exact_root_L217 l hfl D A σ MC MS h0 Qr x0 0 x0 h hw p e s m args below meth c hC H locs ls k n hE (lv_sub hl [0] rfl) hR hS (by omega) (by omega)
      · have hw := hw.2 hc2
        refine lv_iconst (v := 1) hx hb (xb_d D_Exact_root 125 rfl) (by decide) ?_
        refine lv_goto (tgt := 217) hx hb (xb_d D_Exact_root 126 rfl) rfl ?_
        exact am_Exact_root_L217 l hfl D A σ MC MS h0 Qr x0 1 x0 h hw p e s m args below meth c hC H locs ls k n hE (lv_sub hl [0] rfl) hR hS (by omega) (by omega)
    · have hw := hw.2 hc1
      refine lv_ldc2 (v := 4) hx hb hown (hts _ m_6b7c35eb) (xb_d D_Exact_root 70 rfl) ?_
      refine lv_lload_n hx hb (xb_d D_Exact_root 71 rfl) rfl (lv_at hl 1 rfl) ?_
      refine lv_lmul hx hb (xb_d D_Exact_root 72 rfl) ?_
      refine lv_iload hx hb (xb_d D_Exact_root 73 rfl) (lv_at hl 3 rfl) ?_
      refine lv_if_ge (tgt := 136) hx hb (xb_d D_Exact_root 74 rfl) rfl (fun hc3 => ?_) (fun hc3 => ?_)
      · have hw := hw.1 hc3
        refine lv_aload_n hx hb (xb_d D_Exact_root 77 rfl) rfl (lv_at hl 0 rfl) ?_
        obtain ⟨hk4, hw⟩ := hw
        refine xb_getL (C := R_Exact) (T := F_Exact) (N := 11) hx hb 9 9 hts fin_Exact hown hR hk4 (by decide) rfl (by decide) rfl (hts _ m_183e6a18) (fun _ h9 => h9) (xb_d D_Exact_root 78 rfl) ?_
        refine lv_iconst (v := 2) hx hb (xb_d D_Exact_root 79 rfl) (by decide) ?_
        refine lv_iload hx hb (xb_d D_Exact_root 80 rfl) (lv_at hl 3 rfl) ?_
        refine lv_imul hx hb (xb_d D_Exact_root 81 rfl) ?_
        refine lv_lshr (v := (xb_lshr (xb_l h x0 9) (2 * x7))) hx hb (xb_d D_Exact_root 82 rfl) rfl ?_
        refine lv_ldc2 (v := 3) hx hb hown (hts _ m_f55a1ef5) (xb_d D_Exact_root 83 rfl) ?_
        refine lv_land hx hb (xb_d D_Exact_root 84 rfl) ?_
        exact am_Exact_root_L149 l hfl D A σ MC MS h0 Qr (w_Exact_root_L115 Qr n9) ih x0 x5 x7 ((xb_lshr (xb_l h x0 9) (2 * x7)) &&& 3) (4 * x3) h hw p e s m args below meth c hC H locs ls k n hE (lv_sub hl [0, 2, 3] rfl) hR hS (by omega) (by omega)
      · have hw := hw.2 hc3
        refine lv_lconst (v := 0) hx hb (xb_d D_Exact_root 75 rfl) (by decide) ?_
        refine lv_goto (tgt := 149) hx hb (xb_d D_Exact_root 76 rfl) rfl ?_
        exact am_Exact_root_L149 l hfl D A σ MC MS h0 Qr (w_Exact_root_L115 Qr n9) ih x0 x5 x7 0 (4 * x3) h hw p e s m args below meth c hC H locs ls k n hE (lv_sub hl [0, 2, 3] rfl) hR hS (by omega) (by omega)

set_option maxHeartbeats 4000000 in
set_option maxRecDepth 100000 in
theorem am_Exact_root_L67 (l : Launch) (hfl : l.flags = pinnedFlags ++ [noTraceFlag]) (D : va_G) (A : Nat → Prop) (σ MC MS : Nat) (h0 : xb_H) (Qr : Int64 → xb_H → Prop) (n9 : Nat) : ∀ (x0 : Nat) (h : xb_H), w_Exact_root_L67 Qr n9 x0 h → xb_am l D A σ 5 MC MS h0 (fun v h _ _ => ∃ r, v = some (.long r) ∧ Qr r h) (fun _ _ _ _ => False) y_Exact_root.cls y_Exact_root.name b_Exact_root 10 ([] : List ExceptionTableEntry) (some .long) 67 [(0, .ref x0)] [] h 0 0 := by
  induction n9 with
  | zero => intro x0 h hw; exact False.elim hw
  | succ n9 ih =>
    intro x0 h hw
    unfold w_Exact_root_L67 at hw
    intro p e s m args below meth c hC H locs ls k n hE hl hR hS hk hn
    obtain ⟨hx, hb, hown, hlocks, htab, hml, hr, hB, hA, hnm⟩ := id hC
    have hts := hB.1.1.at args
    refine lv_aload_n hx hb (xb_d D_Exact_root 39 rfl) rfl (lv_at hl 0 rfl) ?_
    obtain ⟨hk1, hw⟩ := hw
    refine xb_getL (C := R_Exact) (T := F_Exact) (N := 11) hx hb 9 9 hts fin_Exact hown hR hk1 (by decide) rfl (by decide) rfl (hts _ m_183e6a18) (fun _ h9 => h9) (xb_d D_Exact_root 40 rfl) ?_
    refine lv_bipush (v := 52) hx hb (xb_d D_Exact_root 41 rfl) (by decide) ?_
    refine lv_lshr (v := (xb_lshr (xb_l h x0 9) 52)) hx hb (xb_d D_Exact_root 42 rfl) rfl ?_
    refine lv_lconst (v := 0) hx hb (xb_d D_Exact_root 43 rfl) (by decide) ?_
    refine xb_lc_ne (tgt := 102) hx hb (xb_d D_Exact_root 44 rfl) (xb_d D_Exact_root 45 rfl) rfl (fun hc2 => ?_) (fun hc2 => ?_)
    · have hw := hw.1 hc2
      refine lv_aload_n hx hb (xb_d D_Exact_root 59 rfl) rfl (lv_at hl 0 rfl) ?_
      refine xb_call0 (D := D) (A := A) (σ := σ) (h := h) (d := 2) (maxL := 2) (rest := []) (av := [.ref x0]) (fun T hT X => by obtain ⟨cb9, ra9, rb9, rc9⟩ := xb_recv (ci := 9) hR rfl hk1 (by decide); exact xt_invV X hx hown (hts _ m_65d93325) (hts _ m_c4de73f8) (hts _ m_b3f48cc1) (xt_sigOf (hts _ m_b0daac26)) nm_Exact_clear (by rw [hT]; exact ra9) rb9 rc9 (g := F0 m 103 ls [.ref x0]) rfl (argsL := []) (rest := []) rfl rfl (by rw [hb]; exact (xb_d D_Exact_root 60 rfl))) (ok_Exact_clear l hfl D A σ x0 h _ hw) (hml.trans hl.1.symm) (by rw [hb]; exact (xb_d D_Exact_root 60 rfl)) (Nat.le_of_ble_eq_true rfl) (Nat.le_of_ble_eq_true rfl) (Nat.le_of_ble_eq_true rfl) (show k ≤ MC by omega) (show n ≤ MS by omega) (xt_w1 hB.1 m_b0daac26) (xt_cdOf hB.1 m_b0daac26) (hts _ m_b807310b) hB hR hS hA (fun vv h3 H locs hq hEh3 hR hS => ?_)
      obtain ⟨rfl, hw⟩ := hq
      have hw := hw hEh3
      have hE := hE.tr hEh3
      refine W.eq (g2 := F0 m 106 ls []) rfl ?_
      refine lv_lconst (v := 0) hx hb (xb_d D_Exact_root 61 rfl) (by decide) ?_
      refine lv_lstore_n hx hb (xb_d D_Exact_root 62 rfl) rfl hl (by decide) rfl (fun ls hl => ?_)
      have hl : lv_has ls 10 [(3, .long 0), (0, .ref x0)] := hl
      refine lv_lconst (v := 0) hx hb (xb_d D_Exact_root 63 rfl) (by decide) ?_
      refine lv_lstore hx hb (xb_d D_Exact_root 64 rfl) hl (by decide) rfl (fun ls hl => ?_)
      have hl : lv_has ls 10 [(5, .long 0), (3, .long 0), (0, .ref x0)] := hl
      refine lv_bipush (v := 26) hx hb (xb_d D_Exact_root 65 rfl) (by decide) ?_
      refine lv_istore hx hb (xb_d D_Exact_root 66 rfl) hl (by decide) rfl (fun ls hl => ?_)
      have hl : lv_has ls 10 [(7, .int 26), (5, .long 0), (3, .long 0), (0, .ref x0)] := hl
      obtain ⟨n8, hw⟩ := hw
      exact am_Exact_root_L115 l hfl D A σ MC MS h0 Qr n8 x0 0 0 26 h3 hw p e s m args below meth c hC H locs ls k n hE (lv_sub hl [3, 2, 1, 0] rfl) hR hS (by omega) (by omega)
    · have hw := hw.2 hc2
      refine lv_aload_n hx hb (xb_d D_Exact_root 46 rfl) rfl (lv_at hl 0 rfl) ?_
      refine lv_aload_n hx hb (xb_d D_Exact_root 47 rfl) rfl (lv_at hl 0 rfl) ?_
      refine xb_getL (C := R_Exact) (T := F_Exact) (N := 11) hx hb 9 9 hts fin_Exact hown hR hk1 (by decide) rfl (by decide) rfl (hts _ m_183e6a18) (fun _ h9 => h9) (xb_d D_Exact_root 48 rfl) ?_
      refine lv_iconst (v := 2) hx hb (xb_d D_Exact_root 49 rfl) (by decide) ?_
      refine lv_lshl (v := (xb_lshl (xb_l h x0 9) 2)) hx hb (xb_d D_Exact_root 50 rfl) rfl ?_
      refine xb_putL (C := R_Exact) (T := F_Exact) (N := 11) (ty := .long) (x := (xb_lshl (xb_l h x0 9) 2)) hx hb 9 9 hts fin_Exact t_Exact t_Exact_ok n_Exact hown hR hS hk1 (by decide) rfl (by decide) rfl (hts _ m_183e6a18) (fun _ h9 => h9) rfl (by decide +kernel) rfl rfl (xb_d D_Exact_root 51 rfl) (fun H locs hR hS => ?_)
      obtain ⟨h5, eh5⟩ : ∃ x : xb_H, x = xb_L h x0 9 (xb_lshl (xb_l h x0 9) 2) := ⟨_, rfl⟩
      rw [← eh5] at hR
      have hw := hw h5 eh5
      have hE : xb_ext h0 h5 := by rw [eh5]; exact hE
      refine lv_aload_n hx hb (xb_d D_Exact_root 52 rfl) rfl (lv_at hl 0 rfl) ?_
      refine lv_dup hx hb (xb_d D_Exact_root 53 rfl) rfl ?_
      have hk1 : xb_k h5 x0 = 10 := by rw [eh5]; exact hk1
      refine xb_getI (C := R_Exact) (T := F_Exact) (N := 11) hx hb 9 10 hts fin_Exact hown hR hk1 (by decide) rfl (by decide) rfl (hts _ m_a62210ac) (fun _ h9 => h9) (xb_d D_Exact_root 54 rfl) ?_
      refine lv_iconst (v := 2) hx hb (xb_d D_Exact_root 55 rfl) (by decide) ?_
      refine lv_isub hx hb (xb_d D_Exact_root 56 rfl) ?_
      refine xb_putI (C := R_Exact) (T := F_Exact) (N := 11) (ty := .int) (x := ((xb_i h5 x0 10) - 2)) hx hb 9 10 hts fin_Exact t_Exact t_Exact_ok n_Exact hown hR hS hk1 (by decide) rfl (by decide) rfl (hts _ m_a62210ac) (fun _ h9 => h9) rfl (by decide +kernel) rfl rfl (xb_d D_Exact_root 57 rfl) (fun H locs hR hS => ?_)
      obtain ⟨h6, eh6⟩ : ∃ x : xb_H, x = xb_I h5 x0 10 ((xb_i h5 x0 10) - 2) := ⟨_, rfl⟩
      rw [← eh6] at hR
      have hw := hw h6 eh6
      have hE : xb_ext h0 h6 := by rw [eh6]; exact hE
      refine lv_goto (tgt := 67) hx hb (xb_d D_Exact_root 58 rfl) rfl ?_
      exact ih x0 h6 hw p e s m args below meth c hC H locs ls k n hE (lv_sub hl [0] rfl) hR hS (by omega) (by omega)

set_option maxHeartbeats 4000000 in
set_option maxRecDepth 100000 in
theorem ok_Exact_root (l : Launch) (hfl : l.flags = pinnedFlags ++ [noTraceFlag]) (D : va_G) (A : Nat → Prop) (σ : Nat) (x0 : Nat) (x1 : Int64) (h : xb_H) (Qr : Int64 → xb_H → Prop) (hw : w_Exact_root x0 x1 h Qr) : xb_Met l y_Exact_root [.code y_Exact_root b_Exact_root 10 (some .long)] (xb_rm 5 0 0) (xb_Pc D A σ h [.ref x0, .long x1]) (xb_Qc D A h 0 0 (fun v h _ _ => ∃ r, v = some (.long r) ∧ Qr r h) (fun _ _ _ _ => False)) A := by
  refine xb_ofAm (cc := b_Exact_root) (by decide) (Nat.le_of_ble_eq_true rfl) ?_
  unfold w_Exact_root at hw
  show xb_am l D A σ 5 0 0 h (fun v h _ _ => ∃ r, v = some (.long r) ∧ Qr r h) (fun _ _ _ _ => False) y_Exact_root.cls y_Exact_root.name b_Exact_root 10 ([] : List ExceptionTableEntry) (some .long) 0 [(0, .ref x0), (1, .long x1)] [] h 0 0
  obtain ⟨MC, hMC⟩ : ∃ x, x = 0 := ⟨_, rfl⟩
  obtain ⟨MS, hMS⟩ : ∃ x, x = 0 := ⟨_, rfl⟩
  rw [show xb_am l D A σ 5 0 0 = xb_am l D A σ 5 MC MS by rw [hMC, hMS]]
  obtain ⟨h0, hh0⟩ : ∃ x, x = h := ⟨_, rfl⟩
  rw [show xb_am l D A σ 5 MC MS h = xb_am l D A σ 5 MC MS h0 by rw [hh0]]
  intro p e s m args below meth c hC H locs ls k n hE hl hR hS hk hn
  obtain ⟨hx, hb, hown, hlocks, htab, hml, hr, hB, hA, hnm⟩ := id hC
  have hts := hB.1.1.at args
  refine lv_aload_n hx hb (xb_d D_Exact_root 0 rfl) rfl (lv_at hl 0 rfl) ?_
  refine lv_lload_n hx hb (xb_d D_Exact_root 1 rfl) rfl (lv_at hl 1 rfl) ?_
  obtain ⟨hk1, hw⟩ := hw
  refine xb_call0 (D := D) (A := A) (σ := σ) (h := h) (d := 3) (maxL := 3) (rest := []) (av := [.ref x0, .long x1]) (fun T hT X => by obtain ⟨cb9, ra9, rb9, rc9⟩ := xb_recv (ci := 9) hR rfl hk1 (by decide); exact xt_invV X hx hown (hts _ m_f9e5bce2) (hts _ m_d4ccf81e) (hts _ m_870ffa92) (xt_sigOf (hts _ m_b231eb2b)) nm_Exact_isZero (by rw [hT]; exact ra9) rb9 rc9 (g := F0 m 2 ls [.long x1, .ref x0]) rfl (argsL := [.long x1]) (rest := []) rfl rfl (by rw [hb]; exact (xb_d D_Exact_root 2 rfl))) (ok_Exact_isZero l hfl D A σ x0 x1 h _ hw) (hml.trans hl.1.symm) (by rw [hb]; exact (xb_d D_Exact_root 2 rfl)) (Nat.le_of_ble_eq_true rfl) (Nat.le_of_ble_eq_true rfl) (Nat.le_of_ble_eq_true rfl) (show k ≤ MC by omega) (show n ≤ MS by omega) (xt_w1 hB.1 m_b231eb2b) (xt_cdOf hB.1 m_b231eb2b) (hts _ m_b807310b) hB hR hS hA (fun vv h2 H locs hq hEh2 hR hS => ?_)
  obtain ⟨r3, rfl, hw⟩ := hq
  have hw := hw hEh2
  have hE := hE.tr hEh2
  refine W.eq (g2 := F0 m 5 ls [.int r3]) rfl ?_
  refine lv_if_eq (tgt := 10) hx hb (xb_d D_Exact_root 3 rfl) rfl (fun hc4 => ?_) (fun hc4 => ?_)
  · have hw := hw.1 hc4
    refine lv_aload_n hx hb (xb_d D_Exact_root 6 rfl) rfl (lv_at hl 0 rfl) ?_
    refine lv_lload_n hx hb (xb_d D_Exact_root 7 rfl) rfl (lv_at hl 1 rfl) ?_
    have hk1 : xb_k h2 x0 = 10 := hEh2.k hk1
    refine xb_call0 (D := D) (A := A) (σ := σ) (h := h2) (d := 2) (maxL := 3) (rest := []) (av := [.ref x0, .long x1]) (fun T hT X => by obtain ⟨cb9, ra9, rb9, rc9⟩ := xb_recv (ci := 9) hR rfl hk1 (by decide); exact xt_invV X hx hown (hts _ m_de267fc4) (hts _ m_8cf2fba2) (hts _ m_e2188cdf) (xt_sigOf (hts _ m_25d2fde1)) nm_Exact_isMinus (by rw [hT]; exact ra9) rb9 rc9 (g := F0 m 12 ls [.long x1, .ref x0]) rfl (argsL := [.long x1]) (rest := []) rfl rfl (by rw [hb]; exact (xb_d D_Exact_root 8 rfl))) (ok_Exact_isMinus l hfl D A σ x0 x1 h2 _ hw) (hml.trans hl.1.symm) (by rw [hb]; exact (xb_d D_Exact_root 8 rfl)) (Nat.le_of_ble_eq_true rfl) (Nat.le_of_ble_eq_true rfl) (Nat.le_of_ble_eq_true rfl) (show k ≤ MC by omega) (show n ≤ MS by omega) (xt_w1 hB.1 m_25d2fde1) (xt_cdOf hB.1 m_25d2fde1) (hts _ m_b807310b) hB hR hS hA (fun vv h5 H locs hq hEh5 hR hS => ?_)
    obtain ⟨r6, rfl, hw⟩ := hq
    have hw := hw hEh5
    have hE := hE.tr hEh5
    refine W.eq (g2 := F0 m 15 ls [.int r6]) rfl ?_
    refine lv_if_eq (tgt := 23) hx hb (xb_d D_Exact_root 9 rfl) rfl (fun hc7 => ?_) (fun hc7 => ?_)
    · have hw := hw.1 hc7
      refine lv_aload_n hx hb (xb_d D_Exact_root 13 rfl) rfl (lv_at hl 0 rfl) ?_
      refine lv_lload_n hx hb (xb_d D_Exact_root 14 rfl) rfl (lv_at hl 1 rfl) ?_
      have hk1 : xb_k h5 x0 = 10 := hEh5.k hk1
      refine xb_call0 (D := D) (A := A) (σ := σ) (h := h5) (d := 4) (maxL := 3) (rest := []) (av := [.ref x0, .long x1]) (fun T hT X => by obtain ⟨cb9, ra9, rb9, rc9⟩ := xb_recv (ci := 9) hR rfl hk1 (by decide); exact xt_invV X hx hown (hts _ m_4d51455e) (hts _ m_6f0f72ed) (hts _ m_54335684) (xt_sigOf (hts _ m_c0f31264)) nm_Exact_isInfinite (by rw [hT]; exact ra9) rb9 rc9 (g := F0 m 25 ls [.long x1, .ref x0]) rfl (argsL := [.long x1]) (rest := []) rfl rfl (by rw [hb]; exact (xb_d D_Exact_root 15 rfl))) (ok_Exact_isInfinite l hfl D A σ x0 x1 h5 _ hw) (hml.trans hl.1.symm) (by rw [hb]; exact (xb_d D_Exact_root 15 rfl)) (Nat.le_of_ble_eq_true rfl) (Nat.le_of_ble_eq_true rfl) (Nat.le_of_ble_eq_true rfl) (show k ≤ MC by omega) (show n ≤ MS by omega) (xt_w1 hB.1 m_c0f31264) (xt_cdOf hB.1 m_c0f31264) (hts _ m_b807310b) hB hR hS hA (fun vv h8 H locs hq hEh8 hR hS => ?_)
      obtain ⟨r9, rfl, hw⟩ := hq
      have hw := hw hEh8
      have hE := hE.tr hEh8
      refine W.eq (g2 := F0 m 28 ls [.int r9]) rfl ?_
      refine lv_if_eq (tgt := 33) hx hb (xb_d D_Exact_root 16 rfl) rfl (fun hc10 => ?_) (fun hc10 => ?_)
      · have hw := hw.1 hc10
        refine lv_aload_n hx hb (xb_d D_Exact_root 19 rfl) rfl (lv_at hl 0 rfl) ?_
        refine lv_lload_n hx hb (xb_d D_Exact_root 20 rfl) rfl (lv_at hl 1 rfl) ?_
        have hk1 : xb_k h8 x0 = 10 := hEh8.k hk1
        refine xb_call0 (D := D) (A := A) (σ := σ) (h := h8) (d := 3) (maxL := 7) (rest := []) (av := [.ref x0, .long x1]) (fun T hT X => by obtain ⟨cb9, ra9, rb9, rc9⟩ := xb_recv (ci := 9) hR rfl hk1 (by decide); exact xt_invV X hx hown (hts _ m_26946ca5) (hts _ m_c8f41404) (hts _ m_e3ba6af7) (xt_sigOf (hts _ m_921646f3)) nm_Exact_split (by rw [hT]; exact ra9) rb9 rc9 (g := F0 m 35 ls [.long x1, .ref x0]) rfl (argsL := [.long x1]) (rest := []) rfl rfl (by rw [hb]; exact (xb_d D_Exact_root 21 rfl))) (ok_Exact_split l hfl D A σ x0 x1 h8 _ hw) (hml.trans hl.1.symm) (by rw [hb]; exact (xb_d D_Exact_root 21 rfl)) (Nat.le_of_ble_eq_true rfl) (Nat.le_of_ble_eq_true rfl) (Nat.le_of_ble_eq_true rfl) (show k ≤ MC by omega) (show n ≤ MS by omega) (xt_w1 hB.1 m_921646f3) (xt_cdOf hB.1 m_921646f3) (hts _ m_b807310b) hB hR hS hA (fun vv h11 H locs hq hEh11 hR hS => ?_)
        obtain ⟨rfl, hw⟩ := hq
        have hw := hw hEh11
        have hE := hE.tr hEh11
        refine W.eq (g2 := F0 m 38 ls []) rfl ?_
        refine lv_aload_n hx hb (xb_d D_Exact_root 22 rfl) rfl (lv_at hl 0 rfl) ?_
        have hk1 : xb_k h11 x0 = 10 := hEh11.k hk1
        refine xb_getI (C := R_Exact) (T := F_Exact) (N := 11) hx hb 9 10 hts fin_Exact hown hR hk1 (by decide) rfl (by decide) rfl (hts _ m_a62210ac) (fun _ h9 => h9) (xb_d D_Exact_root 23 rfl) ?_
        refine lv_iconst (v := 1) hx hb (xb_d D_Exact_root 24 rfl) (by decide) ?_
        refine lv_iand hx hb (xb_d D_Exact_root 25 rfl) ?_
        refine lv_if_eq (tgt := 67) hx hb (xb_d D_Exact_root 26 rfl) rfl (fun hc13 => ?_) (fun hc13 => ?_)
        · have hw := hw.1 hc13
          obtain ⟨n8, hw⟩ := hw
          exact am_Exact_root_L67 l hfl D A σ MC MS h0 Qr n8 x0 h11 hw p e s m args below meth c hC H locs ls k n hE (lv_sub hl [0] rfl) hR hS (by omega) (by omega)
        · have hw := hw.2 hc13
          refine lv_aload_n hx hb (xb_d D_Exact_root 27 rfl) rfl (lv_at hl 0 rfl) ?_
          refine lv_aload_n hx hb (xb_d D_Exact_root 28 rfl) rfl (lv_at hl 0 rfl) ?_
          refine xb_getL (C := R_Exact) (T := F_Exact) (N := 11) hx hb 9 9 hts fin_Exact hown hR hk1 (by decide) rfl (by decide) rfl (hts _ m_183e6a18) (fun _ h9 => h9) (xb_d D_Exact_root 29 rfl) ?_
          refine lv_iconst (v := 1) hx hb (xb_d D_Exact_root 30 rfl) (by decide) ?_
          refine lv_lshl (v := (xb_lshl (xb_l h11 x0 9) 1)) hx hb (xb_d D_Exact_root 31 rfl) rfl ?_
          refine xb_putL (C := R_Exact) (T := F_Exact) (N := 11) (ty := .long) (x := (xb_lshl (xb_l h11 x0 9) 1)) hx hb 9 9 hts fin_Exact t_Exact t_Exact_ok n_Exact hown hR hS hk1 (by decide) rfl (by decide) rfl (hts _ m_183e6a18) (fun _ h9 => h9) rfl (by decide +kernel) rfl rfl (xb_d D_Exact_root 32 rfl) (fun H locs hR hS => ?_)
          obtain ⟨h14, eh14⟩ : ∃ x : xb_H, x = xb_L h11 x0 9 (xb_lshl (xb_l h11 x0 9) 1) := ⟨_, rfl⟩
          rw [← eh14] at hR
          have hw := hw h14 eh14
          have hE : xb_ext h0 h14 := by rw [eh14]; exact hE
          refine lv_aload_n hx hb (xb_d D_Exact_root 33 rfl) rfl (lv_at hl 0 rfl) ?_
          refine lv_dup hx hb (xb_d D_Exact_root 34 rfl) rfl ?_
          have hk1 : xb_k h14 x0 = 10 := by rw [eh14]; exact hk1
          refine xb_getI (C := R_Exact) (T := F_Exact) (N := 11) hx hb 9 10 hts fin_Exact hown hR hk1 (by decide) rfl (by decide) rfl (hts _ m_a62210ac) (fun _ h9 => h9) (xb_d D_Exact_root 35 rfl) ?_
          refine lv_iconst (v := 1) hx hb (xb_d D_Exact_root 36 rfl) (by decide) ?_
          refine lv_isub hx hb (xb_d D_Exact_root 37 rfl) ?_
          refine xb_putI (C := R_Exact) (T := F_Exact) (N := 11) (ty := .int) (x := ((xb_i h14 x0 10) - 1)) hx hb 9 10 hts fin_Exact t_Exact t_Exact_ok n_Exact hown hR hS hk1 (by decide) rfl (by decide) rfl (hts _ m_a62210ac) (fun _ h9 => h9) rfl (by decide +kernel) rfl rfl (xb_d D_Exact_root 38 rfl) (fun H locs hR hS => ?_)
          obtain ⟨h15, eh15⟩ : ∃ x : xb_H, x = xb_I h14 x0 10 ((xb_i h14 x0 10) - 1) := ⟨_, rfl⟩
          rw [← eh15] at hR
          have hw := hw h15 eh15
          have hE : xb_ext h0 h15 := by rw [eh15]; exact hE
          obtain ⟨n8, hw⟩ := hw
          exact am_Exact_root_L67 l hfl D A σ MC MS h0 Qr n8 x0 h15 hw p e s m args below meth c hC H locs ls k n hE (lv_sub hl [0] rfl) hR hS (by omega) (by omega)
      · have hw := hw.2 hc10
        refine lv_lload_n hx hb (xb_d D_Exact_root 17 rfl) rfl (lv_at hl 1 rfl) ?_
        exact xb_lret 0 0 hx hb hr hlocks (show k + 0 ≤ MC by omega) (show n + 0 ≤ MS by omega) hE hR hS (xb_d D_Exact_root 18 rfl) hw
    · have hw := hw.2 hc7
      refine lv_aload_n hx hb (xb_d D_Exact_root 10 rfl) rfl (lv_at hl 0 rfl) ?_
      have hk1 : xb_k h5 x0 = 10 := hEh5.k hk1
      refine xb_call0 (D := D) (A := A) (σ := σ) (h := h5) (d := 2) (maxL := 1) (rest := []) (av := [.ref x0]) (fun T hT X => by obtain ⟨cb9, ra9, rb9, rc9⟩ := xb_recv (ci := 9) hR rfl hk1 (by decide); exact xt_invV X hx hown (hts _ m_3b77e327) (hts _ m_488d5ec7) (hts _ m_8dd38d5e) (xt_sigOf (hts _ m_291300c8)) nm_Exact_noNumber (by rw [hT]; exact ra9) rb9 rc9 (g := F0 m 19 ls [.ref x0]) rfl (argsL := []) (rest := []) rfl rfl (by rw [hb]; exact (xb_d D_Exact_root 11 rfl))) (ok_Exact_noNumber l hfl D A σ x0 h5 _ hw) (hml.trans hl.1.symm) (by rw [hb]; exact (xb_d D_Exact_root 11 rfl)) (Nat.le_of_ble_eq_true rfl) (Nat.le_of_ble_eq_true rfl) (Nat.le_of_ble_eq_true rfl) (show k ≤ MC by omega) (show n ≤ MS by omega) (xt_w1 hB.1 m_291300c8) (xt_cdOf hB.1 m_291300c8) (hts _ m_b807310b) hB hR hS hA (fun vv h16 H locs hq hEh16 hR hS => ?_)
      obtain ⟨r17, rfl, hw⟩ := hq
      have hw := hw hEh16
      have hE := hE.tr hEh16
      refine W.eq (g2 := F0 m 22 ls [.long r17]) rfl ?_
      exact xb_lret 0 0 hx hb hr hlocks (show k + 0 ≤ MC by omega) (show n + 0 ≤ MS by omega) hE hR hS (xb_d D_Exact_root 12 rfl) hw
  · have hw := hw.2 hc4
    refine lv_lload_n hx hb (xb_d D_Exact_root 4 rfl) rfl (lv_at hl 1 rfl) ?_
    exact xb_lret 0 0 hx hb hr hlocks (show k + 0 ≤ MC by omega) (show n + 0 ≤ MS by omega) hE hR hS (xb_d D_Exact_root 5 rfl) hw

theorem m_68178929 : (.methodLink "StackHostModel$Exact" 118 y_Exact_take : Cond) ∈ xt_tbl := xt_in (xt_t13 (List.mem_of_getElem? (i := 71) (by decide +kernel))) (by decide +kernel)
theorem m_04538489 : (.instanceMethod y_Exact_take : Cond) ∈ xt_tbl := xt_in (xt_t13 (List.mem_of_getElem? (i := 73) (by decide +kernel))) (by decide +kernel)
theorem m_d01df5e4 : (.selects "StackHostModel$Exact" y_Exact_take y_Exact_take : Cond) ∈ xt_tbl := xt_in (xt_v16 (q := (⟨"StackHostModel$Exact", "take", "(JI)V"⟩, 11)) (List.mem_of_getElem? (i := 10) (by decide +kernel))) (by decide +kernel)
theorem m_ae7ee52c : (.code y_Exact_take b_Exact_take 9 none : Cond) ∈ xt_tbl := xt_in (xt_t13 (List.mem_of_getElem? (i := 74) (by decide +kernel))) (by decide +kernel)
theorem nm_Exact_take : xt_nm y_Exact_take 2 := ⟨by decide +kernel, by decide +kernel⟩
set_option maxRecDepth 100000 in
def T_Exact_sum : List (Nat × Instr × Nat) := [(0, .aload_n 0, 1), (1, .lload_n 1, 1), (2, .invokevirtual 97, 3), (5, .ifCond .ne 11, 3), (8, .aload_n 0, 1), (9, .lload_n 3, 1), (10, .invokevirtual 97, 3), (13, .ifCond .eq 46, 3), (16, .aload_n 0, 1), (17, .lload_n 1, 1), (18, .invokevirtual 97, 3), (21, .ifCond .eq 24, 3), (24, .aload_n 0, 1), (25, .lload_n 3, 1), (26, .invokevirtual 97, 3), (29, .ifCond .eq 16, 3), (32, .lload_n 1, 1), (33, .lload_n 3, 1), (34, .lcmp, 1), (35, .ifCond .eq 10, 3), (38, .aload_n 0, 1), (39, .invokevirtual 100, 3), (42, .goto 16, 3), (45, .aload_n 0, 1), (46, .lload_n 1, 1), (47, .invokevirtual 97, 3), (50, .ifCond .eq 7, 3), (53, .lload_n 1, 1), (54, .goto 4, 3), (57, .lload_n 3, 1), (58, .lreturn, 1), (59, .aload_n 0, 1), (60, .lload_n 3, 1), (61, .invokevirtual 72, 3), (64, .aload_n 0, 1), (65, .lload_n 1, 1), (66, .invokevirtual 72, 3), (69, .lcmp, 1), (70, .ifCond .le 7, 3), (73, .iconst 1, 1), (74, .goto 4, 3), (77, .iconst 0, 1), (78, .istore 5, 2), (80, .iload 5, 2), (82, .ifCond .eq 7, 3), (85, .lload_n 3, 1), (86, .goto 4, 3), (89, .lload_n 1, 1), (90, .lstore 6, 2), (92, .iload 5, 2), (94, .ifCond .eq 7, 3), (97, .lload_n 1, 1), (98, .goto 4, 3), (101, .lload_n 3, 1), (102, .lstore 8, 2), (104, .aload_n 0, 1), (105, .lload_n 1, 1), (106, .invokevirtual 76, 3), (109, .aload_n 0, 1), (110, .lload_n 3, 1), (111, .invokevirtual 76, 3), (114, .if_icmp .eq 7, 3), (117, .iconst 1, 1), (118, .goto 4, 3), (121, .iconst 0, 1), (122, .istore 10, 2), (124, .aload_n 0, 1), (125, .lload_n 1, 1), (126, .invokevirtual 72, 3), (129, .aload_n 0, 1), (130, .lload_n 3, 1), (131, .invokevirtual 72, 3), (134, .lcmp, 1), (135, .ifCond .ne 8, 3), (138, .iload 10, 2), (140, .ifCond .ne 12, 3), (143, .aload_n 0, 1), (144, .lload 6, 2), (146, .invokevirtual 104, 3), (149, .ifCond .eq 30, 3), (152, .aload_n 0, 1), (153, .lconst 0, 1), (154, .aload_n 0, 1), (155, .lload_n 1, 1), (156, .invokevirtual 76, 3), (159, .ifCond .eq 15, 3), (162, .aload_n 0, 1), (163, .lload_n 3, 1), (164, .invokevirtual 76, 3), (167, .ifCond .eq 7, 3), (170, .iconst 1, 1), (171, .goto 4, 3), (174, .iconst 0, 1), (175, .invokevirtual 52, 3), (178, .lreturn, 1), (179, .aload_n 0, 1), (180, .invokevirtual 107, 3), (183, .aload_n 0, 1), (184, .lload 6, 2), (186, .invokevirtual 110, 3), (189, .aload_n 0, 1), (190, .getfield 80, 3), (193, .istore 11, 2), (195, .aload_n 0, 1), (196, .aload_n 0, 1), (197, .getfield 83, 3), (200, .aload_n 0, 1), (201, .getfield 87, 3), (204, .invokevirtual 114, 3), (207, .aload_n 0, 1), (208, .lload 8, 2), (210, .invokevirtual 110, 3), (213, .iload 10, 2), (215, .ifCond .eq 18, 3), (218, .aload_n 0, 1), (219, .aload_n 0, 1), (220, .getfield 83, 3), (223, .aload_n 0, 1), (224, .getfield 87, 3), (227, .invokevirtual 118, 3), (230, .goto 15, 3), (233, .aload_n 0, 1), (234, .aload_n 0, 1), (235, .getfield 83, 3), (238, .aload_n 0, 1), (239, .getfield 87, 3), (242, .invokevirtual 114, 3), (245, .aload_n 0, 1), (246, .iload 11, 2), (248, .invokevirtual 121, 3), (251, .lreturn, 1)]
theorem D_Exact_sum : ∀ q ∈ T_Exact_sum, decode b_Exact_sum q.1 = .ok (q.2.1, q.2.2) := by decide +kernel

set_option maxHeartbeats 4000000 in
set_option maxRecDepth 100000 in
theorem am_Exact_sum_L245 (l : Launch) (hfl : l.flags = pinnedFlags ++ [noTraceFlag]) (D : va_G) (A : Nat → Prop) (σ MC MS : Nat) (h0 : xb_H) (Qr : Int64 → xb_H → Prop) (x0 : Nat) (x11 : Int32) (h : xb_H) (hw : w_Exact_sum_L245 Qr x0 x11 h) : xb_am l D A σ 5 MC MS h0 (fun v h _ _ => ∃ r, v = some (.long r) ∧ Qr r h) (fun _ _ _ _ => False) y_Exact_sum.cls y_Exact_sum.name b_Exact_sum 12 ([] : List ExceptionTableEntry) (some .long) 245 [(0, .ref x0), (11, .int x11)] [] h 0 0 := by
  unfold w_Exact_sum_L245 at hw
  intro p e s m args below meth c hC H locs ls k n hE hl hR hS hk hn
  obtain ⟨hx, hb, hown, hlocks, htab, hml, hr, hB, hA, hnm⟩ := id hC
  have hts := hB.1.1.at args
  refine lv_aload_n hx hb (xb_d D_Exact_sum 127 rfl) rfl (lv_at hl 0 rfl) ?_
  refine lv_iload hx hb (xb_d D_Exact_sum 128 rfl) (lv_at hl 1 rfl) ?_
  obtain ⟨hk1, hw⟩ := hw
  refine xb_call0 (D := D) (A := A) (σ := σ) (h := h) (d := 4) (maxL := 10) (rest := []) (av := [.ref x0, .int x11]) (fun T hT X => by obtain ⟨cb9, ra9, rb9, rc9⟩ := xb_recv (ci := 9) hR rfl hk1 (by decide); exact xt_invV X hx hown (hts _ m_2aa5d168) (hts _ m_a9d2c1e2) (hts _ m_665f83d8) (xt_sigOf (hts _ m_bb0adfae)) nm_Exact_rounded (by rw [hT]; exact ra9) rb9 rc9 (g := F0 m 248 ls [.int x11, .ref x0]) rfl (argsL := [.int x11]) (rest := []) rfl rfl (by rw [hb]; exact (xb_d D_Exact_sum 129 rfl))) (ok_Exact_rounded l hfl D A σ x0 x11 h _ hw) (hml.trans hl.1.symm) (by rw [hb]; exact (xb_d D_Exact_sum 129 rfl)) (Nat.le_of_ble_eq_true rfl) (Nat.le_of_ble_eq_true rfl) (Nat.le_of_ble_eq_true rfl) (show k ≤ MC by omega) (show n ≤ MS by omega) (xt_w1 hB.1 m_bb0adfae) (xt_cdOf hB.1 m_bb0adfae) (hts _ m_b807310b) hB hR hS hA (fun vv h2 H locs hq hEh2 hR hS => ?_)
  obtain ⟨r3, rfl, hw⟩ := hq
  have hw := hw hEh2
  have hE := hE.tr hEh2
  refine W.eq (g2 := F0 m 251 ls [.long r3]) rfl ?_
  exact xb_lret 0 0 hx hb hr hlocks (show k + 0 ≤ MC by omega) (show n + 0 ≤ MS by omega) hE hR hS (xb_d D_Exact_sum 130 rfl) hw

set_option maxHeartbeats 4000000 in
set_option maxRecDepth 100000 in
theorem am_Exact_sum_L175 (l : Launch) (hfl : l.flags = pinnedFlags ++ [noTraceFlag]) (D : va_G) (A : Nat → Prop) (σ MC MS : Nat) (h0 : xb_H) (Qr : Int64 → xb_H → Prop) (y0 : Int32) (y1 : Int64) (y2 : Nat) (h : xb_H) (hw : w_Exact_sum_L175 Qr y0 y1 y2 h) : xb_am l D A σ 5 MC MS h0 (fun v h _ _ => ∃ r, v = some (.long r) ∧ Qr r h) (fun _ _ _ _ => False) y_Exact_sum.cls y_Exact_sum.name b_Exact_sum 12 ([] : List ExceptionTableEntry) (some .long) 175 [] [.int y0, .long y1, .ref y2] h 0 0 := by
  unfold w_Exact_sum_L175 at hw
  intro p e s m args below meth c hC H locs ls k n hE hl hR hS hk hn
  obtain ⟨hx, hb, hown, hlocks, htab, hml, hr, hB, hA, hnm⟩ := id hC
  have hts := hB.1.1.at args
  obtain ⟨hk1, hw⟩ := hw
  refine xb_call0 (D := D) (A := A) (σ := σ) (h := h) (d := 2) (maxL := 4) (rest := []) (av := [.ref y2, .long y1, .int y0]) (fun T hT X => by obtain ⟨cb9, ra9, rb9, rc9⟩ := xb_recv (ci := 9) hR rfl hk1 (by decide); exact xt_invV X hx hown (hts _ m_7b6c7353) (hts _ m_28babb18) (hts _ m_243e01d5) (xt_sigOf (hts _ m_88c0fc78)) nm_Exact_signed (by rw [hT]; exact ra9) rb9 rc9 (g := F0 m 175 ls [.int y0, .long y1, .ref y2]) rfl (argsL := [.long y1, .int y0]) (rest := []) rfl rfl (by rw [hb]; exact (xb_d D_Exact_sum 93 rfl))) (ok_Exact_signed l hfl D A σ y2 y1 y0 h _ hw) (hml.trans hl.1.symm) (by rw [hb]; exact (xb_d D_Exact_sum 93 rfl)) (Nat.le_of_ble_eq_true rfl) (Nat.le_of_ble_eq_true rfl) (Nat.le_of_ble_eq_true rfl) (show k ≤ MC by omega) (show n ≤ MS by omega) (xt_w1 hB.1 m_88c0fc78) (xt_cdOf hB.1 m_88c0fc78) (hts _ m_b807310b) hB hR hS hA (fun vv h2 H locs hq hEh2 hR hS => ?_)
  obtain ⟨r3, rfl, hw⟩ := hq
  have hw := hw hEh2
  have hE := hE.tr hEh2
  refine W.eq (g2 := F0 m 178 ls [.long r3]) rfl ?_
  exact xb_lret 0 0 hx hb hr hlocks (show k + 0 ≤ MC by omega) (show n + 0 ≤ MS by omega) hE hR hS (xb_d D_Exact_sum 94 rfl) hw

set_option maxHeartbeats 4000000 in
set_option maxRecDepth 100000 in
theorem am_Exact_sum_L174 (l : Launch) (hfl : l.flags = pinnedFlags ++ [noTraceFlag]) (D : va_G) (A : Nat → Prop) (σ MC MS : Nat) (h0 : xb_H) (Qr : Int64 → xb_H → Prop) (y0 : Int64) (y1 : Nat) (h : xb_H) (hw : w_Exact_sum_L174 Qr y0 y1 h) : xb_am l D A σ 5 MC MS h0 (fun v h _ _ => ∃ r, v = some (.long r) ∧ Qr r h) (fun _ _ _ _ => False) y_Exact_sum.cls y_Exact_sum.name b_Exact_sum 12 ([] : List ExceptionTableEntry) (some .long) 174 [] [.long y0, .ref y1] h 0 0 := by
  unfold w_Exact_sum_L174 at hw
  intro p e s m args below meth c hC H locs ls k n hE hl hR hS hk hn
  obtain ⟨hx, hb, hown, hlocks, htab, hml, hr, hB, hA, hnm⟩ := id hC
  have hts := hB.1.1.at args
  refine lv_iconst (v := 0) hx hb (xb_d D_Exact_sum 92 rfl) (by decide) ?_
  exact am_Exact_sum_L175 l hfl D A σ MC MS h0 Qr 0 y0 y1 h hw p e s m args below meth c hC H locs ls k n hE (lv_sub hl [] rfl) hR hS (by omega) (by omega)

set_option maxHeartbeats 4000000 in
set_option maxRecDepth 100000 in
theorem am_Exact_sum_L152 (l : Launch) (hfl : l.flags = pinnedFlags ++ [noTraceFlag]) (D : va_G) (A : Nat → Prop) (σ MC MS : Nat) (h0 : xb_H) (Qr : Int64 → xb_H → Prop) (x0 : Nat) (x1 : Int64) (x3 : Int64) (h : xb_H) (hw : w_Exact_sum_L152 Qr x0 x1 x3 h) : xb_am l D A σ 5 MC MS h0 (fun v h _ _ => ∃ r, v = some (.long r) ∧ Qr r h) (fun _ _ _ _ => False) y_Exact_sum.cls y_Exact_sum.name b_Exact_sum 12 ([] : List ExceptionTableEntry) (some .long) 152 [(0, .ref x0), (1, .long x1), (3, .long x3)] [] h 0 0 := by
  unfold w_Exact_sum_L152 at hw
  intro p e s m args below meth c hC H locs ls k n hE hl hR hS hk hn
  obtain ⟨hx, hb, hown, hlocks, htab, hml, hr, hB, hA, hnm⟩ := id hC
  have hts := hB.1.1.at args
  refine lv_aload_n hx hb (xb_d D_Exact_sum 80 rfl) rfl (lv_at hl 0 rfl) ?_
  refine lv_lconst (v := 0) hx hb (xb_d D_Exact_sum 81 rfl) (by decide) ?_
  refine lv_aload_n hx hb (xb_d D_Exact_sum 82 rfl) rfl (lv_at hl 0 rfl) ?_
  refine lv_lload_n hx hb (xb_d D_Exact_sum 83 rfl) rfl (lv_at hl 1 rfl) ?_
  obtain ⟨hk1, hw⟩ := hw
  refine xb_call0 (D := D) (A := A) (σ := σ) (h := h) (d := 2) (maxL := 3) (rest := [.long 0, .ref x0]) (av := [.ref x0, .long x1]) (fun T hT X => by obtain ⟨cb9, ra9, rb9, rc9⟩ := xb_recv (ci := 9) hR rfl hk1 (by decide); exact xt_invV X hx hown (hts _ m_de267fc4) (hts _ m_8cf2fba2) (hts _ m_e2188cdf) (xt_sigOf (hts _ m_25d2fde1)) nm_Exact_isMinus (by rw [hT]; exact ra9) rb9 rc9 (g := F0 m 156 ls [.long x1, .ref x0, .long 0, .ref x0]) rfl (argsL := [.long x1]) (rest := [.long 0, .ref x0]) rfl rfl (by rw [hb]; exact (xb_d D_Exact_sum 84 rfl))) (ok_Exact_isMinus l hfl D A σ x0 x1 h _ hw) (hml.trans hl.1.symm) (by rw [hb]; exact (xb_d D_Exact_sum 84 rfl)) (Nat.le_of_ble_eq_true rfl) (Nat.le_of_ble_eq_true rfl) (Nat.le_of_ble_eq_true rfl) (show k ≤ MC by omega) (show n ≤ MS by omega) (xt_w1 hB.1 m_25d2fde1) (xt_cdOf hB.1 m_25d2fde1) (hts _ m_b807310b) hB hR hS hA (fun vv h2 H locs hq hEh2 hR hS => ?_)
  obtain ⟨r3, rfl, hw⟩ := hq
  have hw := hw hEh2
  have hE := hE.tr hEh2
  refine W.eq (g2 := F0 m 159 ls [.int r3, .long 0, .ref x0]) rfl ?_
  refine lv_if_eq (tgt := 174) hx hb (xb_d D_Exact_sum 85 rfl) rfl (fun hc4 => ?_) (fun hc4 => ?_)
  · have hw := hw.1 hc4
    exact am_Exact_sum_L174 l hfl D A σ MC MS h0 Qr 0 x0 h2 hw p e s m args below meth c hC H locs ls k n hE (lv_sub hl [] rfl) hR hS (by omega) (by omega)
  · have hw := hw.2 hc4
    refine lv_aload_n hx hb (xb_d D_Exact_sum 86 rfl) rfl (lv_at hl 0 rfl) ?_
    refine lv_lload_n hx hb (xb_d D_Exact_sum 87 rfl) rfl (lv_at hl 2 rfl) ?_
    have hk1 : xb_k h2 x0 = 10 := hEh2.k hk1
    refine xb_call0 (D := D) (A := A) (σ := σ) (h := h2) (d := 2) (maxL := 3) (rest := [.long 0, .ref x0]) (av := [.ref x0, .long x3]) (fun T hT X => by obtain ⟨cb9, ra9, rb9, rc9⟩ := xb_recv (ci := 9) hR rfl hk1 (by decide); exact xt_invV X hx hown (hts _ m_de267fc4) (hts _ m_8cf2fba2) (hts _ m_e2188cdf) (xt_sigOf (hts _ m_25d2fde1)) nm_Exact_isMinus (by rw [hT]; exact ra9) rb9 rc9 (g := F0 m 164 ls [.long x3, .ref x0, .long 0, .ref x0]) rfl (argsL := [.long x3]) (rest := [.long 0, .ref x0]) rfl rfl (by rw [hb]; exact (xb_d D_Exact_sum 88 rfl))) (ok_Exact_isMinus l hfl D A σ x0 x3 h2 _ hw) (hml.trans hl.1.symm) (by rw [hb]; exact (xb_d D_Exact_sum 88 rfl)) (Nat.le_of_ble_eq_true rfl) (Nat.le_of_ble_eq_true rfl) (Nat.le_of_ble_eq_true rfl) (show k ≤ MC by omega) (show n ≤ MS by omega) (xt_w1 hB.1 m_25d2fde1) (xt_cdOf hB.1 m_25d2fde1) (hts _ m_b807310b) hB hR hS hA (fun vv h5 H locs hq hEh5 hR hS => ?_)
    obtain ⟨r6, rfl, hw⟩ := hq
    have hw := hw hEh5
    have hE := hE.tr hEh5
    refine W.eq (g2 := F0 m 167 ls [.int r6, .long 0, .ref x0]) rfl ?_
    refine lv_if_eq (tgt := 174) hx hb (xb_d D_Exact_sum 89 rfl) rfl (fun hc7 => ?_) (fun hc7 => ?_)
    · have hw := hw.1 hc7
      exact am_Exact_sum_L174 l hfl D A σ MC MS h0 Qr 0 x0 h5 hw p e s m args below meth c hC H locs ls k n hE (lv_sub hl [] rfl) hR hS (by omega) (by omega)
    · have hw := hw.2 hc7
      refine lv_iconst (v := 1) hx hb (xb_d D_Exact_sum 90 rfl) (by decide) ?_
      refine lv_goto (tgt := 175) hx hb (xb_d D_Exact_sum 91 rfl) rfl ?_
      exact am_Exact_sum_L175 l hfl D A σ MC MS h0 Qr 1 0 x0 h5 hw p e s m args below meth c hC H locs ls k n hE (lv_sub hl [] rfl) hR hS (by omega) (by omega)

set_option maxHeartbeats 4000000 in
set_option maxRecDepth 100000 in
theorem am_Exact_sum_L143 (l : Launch) (hfl : l.flags = pinnedFlags ++ [noTraceFlag]) (D : va_G) (A : Nat → Prop) (σ MC MS : Nat) (h0 : xb_H) (Qr : Int64 → xb_H → Prop) (x0 : Nat) (x1 : Int64) (x3 : Int64) (x6 : Int64) (x8 : Int64) (x10 : Int32) (h : xb_H) (hw : w_Exact_sum_L143 Qr x0 x1 x3 x6 x8 x10 h) : xb_am l D A σ 5 MC MS h0 (fun v h _ _ => ∃ r, v = some (.long r) ∧ Qr r h) (fun _ _ _ _ => False) y_Exact_sum.cls y_Exact_sum.name b_Exact_sum 12 ([] : List ExceptionTableEntry) (some .long) 143 [(0, .ref x0), (1, .long x1), (3, .long x3), (6, .long x6), (8, .long x8), (10, .int x10)] [] h 0 0 := by
  unfold w_Exact_sum_L143 at hw
  intro p e s m args below meth c hC H locs ls k n hE hl hR hS hk hn
  obtain ⟨hx, hb, hown, hlocks, htab, hml, hr, hB, hA, hnm⟩ := id hC
  have hts := hB.1.1.at args
  refine lv_aload_n hx hb (xb_d D_Exact_sum 76 rfl) rfl (lv_at hl 0 rfl) ?_
  refine lv_lload hx hb (xb_d D_Exact_sum 77 rfl) (lv_at hl 3 rfl) ?_
  obtain ⟨hk1, hw⟩ := hw
  refine xb_call0 (D := D) (A := A) (σ := σ) (h := h) (d := 3) (maxL := 3) (rest := []) (av := [.ref x0, .long x6]) (fun T hT X => by obtain ⟨cb9, ra9, rb9, rc9⟩ := xb_recv (ci := 9) hR rfl hk1 (by decide); exact xt_invV X hx hown (hts _ m_f9e5bce2) (hts _ m_d4ccf81e) (hts _ m_870ffa92) (xt_sigOf (hts _ m_b231eb2b)) nm_Exact_isZero (by rw [hT]; exact ra9) rb9 rc9 (g := F0 m 146 ls [.long x6, .ref x0]) rfl (argsL := [.long x6]) (rest := []) rfl rfl (by rw [hb]; exact (xb_d D_Exact_sum 78 rfl))) (ok_Exact_isZero l hfl D A σ x0 x6 h _ hw) (hml.trans hl.1.symm) (by rw [hb]; exact (xb_d D_Exact_sum 78 rfl)) (Nat.le_of_ble_eq_true rfl) (Nat.le_of_ble_eq_true rfl) (Nat.le_of_ble_eq_true rfl) (show k ≤ MC by omega) (show n ≤ MS by omega) (xt_w1 hB.1 m_b231eb2b) (xt_cdOf hB.1 m_b231eb2b) (hts _ m_b807310b) hB hR hS hA (fun vv h2 H locs hq hEh2 hR hS => ?_)
  obtain ⟨r3, rfl, hw⟩ := hq
  have hw := hw hEh2
  have hE := hE.tr hEh2
  refine W.eq (g2 := F0 m 149 ls [.int r3]) rfl ?_
  refine lv_if_eq (tgt := 179) hx hb (xb_d D_Exact_sum 79 rfl) rfl (fun hc4 => ?_) (fun hc4 => ?_)
  · have hw := hw.1 hc4
    refine lv_aload_n hx hb (xb_d D_Exact_sum 95 rfl) rfl (lv_at hl 0 rfl) ?_
    have hk1 : xb_k h2 x0 = 10 := hEh2.k hk1
    refine xb_call0 (D := D) (A := A) (σ := σ) (h := h2) (d := 2) (maxL := 2) (rest := []) (av := [.ref x0]) (fun T hT X => by obtain ⟨cb9, ra9, rb9, rc9⟩ := xb_recv (ci := 9) hR rfl hk1 (by decide); exact xt_invV X hx hown (hts _ m_65d93325) (hts _ m_c4de73f8) (hts _ m_b3f48cc1) (xt_sigOf (hts _ m_b0daac26)) nm_Exact_clear (by rw [hT]; exact ra9) rb9 rc9 (g := F0 m 180 ls [.ref x0]) rfl (argsL := []) (rest := []) rfl rfl (by rw [hb]; exact (xb_d D_Exact_sum 96 rfl))) (ok_Exact_clear l hfl D A σ x0 h2 _ hw) (hml.trans hl.1.symm) (by rw [hb]; exact (xb_d D_Exact_sum 96 rfl)) (Nat.le_of_ble_eq_true rfl) (Nat.le_of_ble_eq_true rfl) (Nat.le_of_ble_eq_true rfl) (show k ≤ MC by omega) (show n ≤ MS by omega) (xt_w1 hB.1 m_b0daac26) (xt_cdOf hB.1 m_b0daac26) (hts _ m_b807310b) hB hR hS hA (fun vv h5 H locs hq hEh5 hR hS => ?_)
    obtain ⟨rfl, hw⟩ := hq
    have hw := hw hEh5
    have hE := hE.tr hEh5
    refine W.eq (g2 := F0 m 183 ls []) rfl ?_
    refine lv_aload_n hx hb (xb_d D_Exact_sum 97 rfl) rfl (lv_at hl 0 rfl) ?_
    refine lv_lload hx hb (xb_d D_Exact_sum 98 rfl) (lv_at hl 3 rfl) ?_
    have hk1 : xb_k h5 x0 = 10 := hEh5.k hk1
    refine xb_call0 (D := D) (A := A) (σ := σ) (h := h5) (d := 3) (maxL := 7) (rest := []) (av := [.ref x0, .long x6]) (fun T hT X => by obtain ⟨cb9, ra9, rb9, rc9⟩ := xb_recv (ci := 9) hR rfl hk1 (by decide); exact xt_invV X hx hown (hts _ m_26946ca5) (hts _ m_c8f41404) (hts _ m_e3ba6af7) (xt_sigOf (hts _ m_921646f3)) nm_Exact_split (by rw [hT]; exact ra9) rb9 rc9 (g := F0 m 186 ls [.long x6, .ref x0]) rfl (argsL := [.long x6]) (rest := []) rfl rfl (by rw [hb]; exact (xb_d D_Exact_sum 99 rfl))) (ok_Exact_split l hfl D A σ x0 x6 h5 _ hw) (hml.trans hl.1.symm) (by rw [hb]; exact (xb_d D_Exact_sum 99 rfl)) (Nat.le_of_ble_eq_true rfl) (Nat.le_of_ble_eq_true rfl) (Nat.le_of_ble_eq_true rfl) (show k ≤ MC by omega) (show n ≤ MS by omega) (xt_w1 hB.1 m_921646f3) (xt_cdOf hB.1 m_921646f3) (hts _ m_b807310b) hB hR hS hA (fun vv h7 H locs hq hEh7 hR hS => ?_)
    obtain ⟨rfl, hw⟩ := hq
    have hw := hw hEh7
    have hE := hE.tr hEh7
    refine W.eq (g2 := F0 m 189 ls []) rfl ?_
    refine lv_aload_n hx hb (xb_d D_Exact_sum 100 rfl) rfl (lv_at hl 0 rfl) ?_
    have hk1 : xb_k h7 x0 = 10 := hEh7.k hk1
    refine xb_getI (C := R_Exact) (T := F_Exact) (N := 11) hx hb 9 8 hts fin_Exact hown hR hk1 (by decide) rfl (by decide) rfl (hts _ m_124dafb0) (fun _ h9 => h9) (xb_d D_Exact_sum 101 rfl) ?_
    obtain ⟨v9, ev9⟩ : ∃ x : Int32, x = (xb_i h7 x0 8) := ⟨_, rfl⟩
    have hw := hw v9 ev9
    refine xt_numi (y := v9) ev9.symm ?_
    refine lv_istore hx hb (xb_d D_Exact_sum 102 rfl) hl (by decide) rfl (fun ls hl => ?_)
    have hl : lv_has ls 12 [(11, .int v9), (0, .ref x0), (1, .long x1), (3, .long x3), (6, .long x6), (8, .long x8), (10, .int x10)] := hl
    refine lv_aload_n hx hb (xb_d D_Exact_sum 103 rfl) rfl (lv_at hl 1 rfl) ?_
    refine lv_aload_n hx hb (xb_d D_Exact_sum 104 rfl) rfl (lv_at hl 1 rfl) ?_
    refine xb_getL (C := R_Exact) (T := F_Exact) (N := 11) hx hb 9 9 hts fin_Exact hown hR hk1 (by decide) rfl (by decide) rfl (hts _ m_183e6a18) (fun _ h9 => h9) (xb_d D_Exact_sum 105 rfl) ?_
    refine lv_aload_n hx hb (xb_d D_Exact_sum 106 rfl) rfl (lv_at hl 1 rfl) ?_
    refine xb_getI (C := R_Exact) (T := F_Exact) (N := 11) hx hb 9 10 hts fin_Exact hown hR hk1 (by decide) rfl (by decide) rfl (hts _ m_a62210ac) (fun _ h9 => h9) (xb_d D_Exact_sum 107 rfl) ?_
    refine xb_call0 (D := D) (A := A) (σ := σ) (h := h7) (d := 3) (maxL := 9) (rest := []) (av := [.ref x0, .long (xb_l h7 x0 9), .int (xb_i h7 x0 10)]) (fun T hT X => by obtain ⟨cb9, ra9, rb9, rc9⟩ := xb_recv (ci := 9) hR rfl hk1 (by decide); exact xt_invV X hx hown (hts _ m_547afbfb) (hts _ m_d4b837ea) (hts _ m_b818cb8b) (xt_sigOf (hts _ m_59b46d39)) nm_Exact_add (by rw [hT]; exact ra9) rb9 rc9 (g := F0 m 204 ls [.int (xb_i h7 x0 10), .long (xb_l h7 x0 9), .ref x0]) rfl (argsL := [.long (xb_l h7 x0 9), .int (xb_i h7 x0 10)]) (rest := []) rfl rfl (by rw [hb]; exact (xb_d D_Exact_sum 108 rfl))) (ok_Exact_add l hfl D A σ x0 (xb_l h7 x0 9) (xb_i h7 x0 10) h7 _ hw) (hml.trans hl.1.symm) (by rw [hb]; exact (xb_d D_Exact_sum 108 rfl)) (Nat.le_of_ble_eq_true rfl) (Nat.le_of_ble_eq_true rfl) (Nat.le_of_ble_eq_true rfl) (show k ≤ MC by omega) (show n ≤ MS by omega) (xt_w1 hB.1 m_59b46d39) (xt_cdOf hB.1 m_59b46d39) (hts _ m_b807310b) hB hR hS hA (fun vv h10 H locs hq hEh10 hR hS => ?_)
    obtain ⟨rfl, hw⟩ := hq
    have hw := hw hEh10
    have hE := hE.tr hEh10
    refine W.eq (g2 := F0 m 207 ls []) rfl ?_
    refine lv_aload_n hx hb (xb_d D_Exact_sum 109 rfl) rfl (lv_at hl 1 rfl) ?_
    refine lv_lload hx hb (xb_d D_Exact_sum 110 rfl) (lv_at hl 5 rfl) ?_
    have hk1 : xb_k h10 x0 = 10 := hEh10.k hk1
    refine xb_call0 (D := D) (A := A) (σ := σ) (h := h10) (d := 3) (maxL := 7) (rest := []) (av := [.ref x0, .long x8]) (fun T hT X => by obtain ⟨cb9, ra9, rb9, rc9⟩ := xb_recv (ci := 9) hR rfl hk1 (by decide); exact xt_invV X hx hown (hts _ m_26946ca5) (hts _ m_c8f41404) (hts _ m_e3ba6af7) (xt_sigOf (hts _ m_921646f3)) nm_Exact_split (by rw [hT]; exact ra9) rb9 rc9 (g := F0 m 210 ls [.long x8, .ref x0]) rfl (argsL := [.long x8]) (rest := []) rfl rfl (by rw [hb]; exact (xb_d D_Exact_sum 111 rfl))) (ok_Exact_split l hfl D A σ x0 x8 h10 _ hw) (hml.trans hl.1.symm) (by rw [hb]; exact (xb_d D_Exact_sum 111 rfl)) (Nat.le_of_ble_eq_true rfl) (Nat.le_of_ble_eq_true rfl) (Nat.le_of_ble_eq_true rfl) (show k ≤ MC by omega) (show n ≤ MS by omega) (xt_w1 hB.1 m_921646f3) (xt_cdOf hB.1 m_921646f3) (hts _ m_b807310b) hB hR hS hA (fun vv h12 H locs hq hEh12 hR hS => ?_)
    obtain ⟨rfl, hw⟩ := hq
    have hw := hw hEh12
    have hE := hE.tr hEh12
    refine W.eq (g2 := F0 m 213 ls []) rfl ?_
    refine lv_iload hx hb (xb_d D_Exact_sum 112 rfl) (lv_at hl 6 rfl) ?_
    refine lv_if_eq (tgt := 233) hx hb (xb_d D_Exact_sum 113 rfl) rfl (fun hc14 => ?_) (fun hc14 => ?_)
    · have hw := hw.1 hc14
      refine lv_aload_n hx hb (xb_d D_Exact_sum 121 rfl) rfl (lv_at hl 1 rfl) ?_
      refine lv_aload_n hx hb (xb_d D_Exact_sum 122 rfl) rfl (lv_at hl 1 rfl) ?_
      have hk1 : xb_k h12 x0 = 10 := hEh12.k hk1
      refine xb_getL (C := R_Exact) (T := F_Exact) (N := 11) hx hb 9 9 hts fin_Exact hown hR hk1 (by decide) rfl (by decide) rfl (hts _ m_183e6a18) (fun _ h9 => h9) (xb_d D_Exact_sum 123 rfl) ?_
      refine lv_aload_n hx hb (xb_d D_Exact_sum 124 rfl) rfl (lv_at hl 1 rfl) ?_
      refine xb_getI (C := R_Exact) (T := F_Exact) (N := 11) hx hb 9 10 hts fin_Exact hown hR hk1 (by decide) rfl (by decide) rfl (hts _ m_a62210ac) (fun _ h9 => h9) (xb_d D_Exact_sum 125 rfl) ?_
      refine xb_call0 (D := D) (A := A) (σ := σ) (h := h12) (d := 3) (maxL := 9) (rest := []) (av := [.ref x0, .long (xb_l h12 x0 9), .int (xb_i h12 x0 10)]) (fun T hT X => by obtain ⟨cb9, ra9, rb9, rc9⟩ := xb_recv (ci := 9) hR rfl hk1 (by decide); exact xt_invV X hx hown (hts _ m_547afbfb) (hts _ m_d4b837ea) (hts _ m_b818cb8b) (xt_sigOf (hts _ m_59b46d39)) nm_Exact_add (by rw [hT]; exact ra9) rb9 rc9 (g := F0 m 242 ls [.int (xb_i h12 x0 10), .long (xb_l h12 x0 9), .ref x0]) rfl (argsL := [.long (xb_l h12 x0 9), .int (xb_i h12 x0 10)]) (rest := []) rfl rfl (by rw [hb]; exact (xb_d D_Exact_sum 126 rfl))) (ok_Exact_add l hfl D A σ x0 (xb_l h12 x0 9) (xb_i h12 x0 10) h12 _ hw) (hml.trans hl.1.symm) (by rw [hb]; exact (xb_d D_Exact_sum 126 rfl)) (Nat.le_of_ble_eq_true rfl) (Nat.le_of_ble_eq_true rfl) (Nat.le_of_ble_eq_true rfl) (show k ≤ MC by omega) (show n ≤ MS by omega) (xt_w1 hB.1 m_59b46d39) (xt_cdOf hB.1 m_59b46d39) (hts _ m_b807310b) hB hR hS hA (fun vv h15 H locs hq hEh15 hR hS => ?_)
      obtain ⟨rfl, hw⟩ := hq
      have hw := hw hEh15
      have hE := hE.tr hEh15
      refine W.eq (g2 := F0 m 245 ls []) rfl ?_
      exact am_Exact_sum_L245 l hfl D A σ MC MS h0 Qr x0 v9 h15 hw p e s m args below meth c hC H locs ls k n hE (lv_sub hl [1, 0] rfl) hR hS (by omega) (by omega)
    · have hw := hw.2 hc14
      refine lv_aload_n hx hb (xb_d D_Exact_sum 114 rfl) rfl (lv_at hl 1 rfl) ?_
      refine lv_aload_n hx hb (xb_d D_Exact_sum 115 rfl) rfl (lv_at hl 1 rfl) ?_
      have hk1 : xb_k h12 x0 = 10 := hEh12.k hk1
      refine xb_getL (C := R_Exact) (T := F_Exact) (N := 11) hx hb 9 9 hts fin_Exact hown hR hk1 (by decide) rfl (by decide) rfl (hts _ m_183e6a18) (fun _ h9 => h9) (xb_d D_Exact_sum 116 rfl) ?_
      refine lv_aload_n hx hb (xb_d D_Exact_sum 117 rfl) rfl (lv_at hl 1 rfl) ?_
      refine xb_getI (C := R_Exact) (T := F_Exact) (N := 11) hx hb 9 10 hts fin_Exact hown hR hk1 (by decide) rfl (by decide) rfl (hts _ m_a62210ac) (fun _ h9 => h9) (xb_d D_Exact_sum 118 rfl) ?_
      refine xb_call0 (D := D) (A := A) (σ := σ) (h := h12) (d := 3) (maxL := 9) (rest := []) (av := [.ref x0, .long (xb_l h12 x0 9), .int (xb_i h12 x0 10)]) (fun T hT X => by obtain ⟨cb9, ra9, rb9, rc9⟩ := xb_recv (ci := 9) hR rfl hk1 (by decide); exact xt_invV X hx hown (hts _ m_68178929) (hts _ m_04538489) (hts _ m_d01df5e4) (xt_sigOf (hts _ m_ae7ee52c)) nm_Exact_take (by rw [hT]; exact ra9) rb9 rc9 (g := F0 m 227 ls [.int (xb_i h12 x0 10), .long (xb_l h12 x0 9), .ref x0]) rfl (argsL := [.long (xb_l h12 x0 9), .int (xb_i h12 x0 10)]) (rest := []) rfl rfl (by rw [hb]; exact (xb_d D_Exact_sum 119 rfl))) (ok_Exact_take l hfl D A σ x0 (xb_l h12 x0 9) (xb_i h12 x0 10) h12 _ hw) (hml.trans hl.1.symm) (by rw [hb]; exact (xb_d D_Exact_sum 119 rfl)) (Nat.le_of_ble_eq_true rfl) (Nat.le_of_ble_eq_true rfl) (Nat.le_of_ble_eq_true rfl) (show k ≤ MC by omega) (show n ≤ MS by omega) (xt_w1 hB.1 m_ae7ee52c) (xt_cdOf hB.1 m_ae7ee52c) (hts _ m_b807310b) hB hR hS hA (fun vv h17 H locs hq hEh17 hR hS => ?_)
      obtain ⟨rfl, hw⟩ := hq
      have hw := hw hEh17
      have hE := hE.tr hEh17
      refine W.eq (g2 := F0 m 230 ls []) rfl ?_
      refine lv_goto (tgt := 245) hx hb (xb_d D_Exact_sum 120 rfl) rfl ?_
      exact am_Exact_sum_L245 l hfl D A σ MC MS h0 Qr x0 v9 h17 hw p e s m args below meth c hC H locs ls k n hE (lv_sub hl [1, 0] rfl) hR hS (by omega) (by omega)
  · have hw := hw.2 hc4
    exact am_Exact_sum_L152 l hfl D A σ MC MS h0 Qr x0 x1 x3 h2 hw p e s m args below meth c hC H locs ls k n hE (lv_sub hl [0, 1, 2] rfl) hR hS (by omega) (by omega)

set_option maxHeartbeats 4000000 in
set_option maxRecDepth 100000 in
theorem am_Exact_sum_L122 (l : Launch) (hfl : l.flags = pinnedFlags ++ [noTraceFlag]) (D : va_G) (A : Nat → Prop) (σ MC MS : Nat) (h0 : xb_H) (Qr : Int64 → xb_H → Prop) (x0 : Nat) (x1 : Int64) (x3 : Int64) (x6 : Int64) (x8 : Int64) (y0 : Int32) (h : xb_H) (hw : w_Exact_sum_L122 Qr x0 x1 x3 x6 x8 y0 h) : xb_am l D A σ 5 MC MS h0 (fun v h _ _ => ∃ r, v = some (.long r) ∧ Qr r h) (fun _ _ _ _ => False) y_Exact_sum.cls y_Exact_sum.name b_Exact_sum 12 ([] : List ExceptionTableEntry) (some .long) 122 [(0, .ref x0), (1, .long x1), (3, .long x3), (6, .long x6), (8, .long x8)] [.int y0] h 0 0 := by
  unfold w_Exact_sum_L122 at hw
  intro p e s m args below meth c hC H locs ls k n hE hl hR hS hk hn
  obtain ⟨hx, hb, hown, hlocks, htab, hml, hr, hB, hA, hnm⟩ := id hC
  have hts := hB.1.1.at args
  refine lv_istore hx hb (xb_d D_Exact_sum 65 rfl) hl (by decide) rfl (fun ls hl => ?_)
  have hl : lv_has ls 12 [(10, .int y0), (0, .ref x0), (1, .long x1), (3, .long x3), (6, .long x6), (8, .long x8)] := hl
  refine lv_aload_n hx hb (xb_d D_Exact_sum 66 rfl) rfl (lv_at hl 1 rfl) ?_
  refine lv_lload_n hx hb (xb_d D_Exact_sum 67 rfl) rfl (lv_at hl 2 rfl) ?_
  obtain ⟨hk1, hw⟩ := hw
  refine xb_call0 (D := D) (A := A) (σ := σ) (h := h) (d := 2) (maxL := 3) (rest := []) (av := [.ref x0, .long x1]) (fun T hT X => by obtain ⟨cb9, ra9, rb9, rc9⟩ := xb_recv (ci := 9) hR rfl hk1 (by decide); exact xt_invV X hx hown (hts _ m_4c81fbb0) (hts _ m_fb12fd6e) (hts _ m_e5146b3f) (xt_sigOf (hts _ m_7f30805a)) nm_Exact_size (by rw [hT]; exact ra9) rb9 rc9 (g := F0 m 126 ls [.long x1, .ref x0]) rfl (argsL := [.long x1]) (rest := []) rfl rfl (by rw [hb]; exact (xb_d D_Exact_sum 68 rfl))) (ok_Exact_size l hfl D A σ x0 x1 h _ hw) (hml.trans hl.1.symm) (by rw [hb]; exact (xb_d D_Exact_sum 68 rfl)) (Nat.le_of_ble_eq_true rfl) (Nat.le_of_ble_eq_true rfl) (Nat.le_of_ble_eq_true rfl) (show k ≤ MC by omega) (show n ≤ MS by omega) (xt_w1 hB.1 m_7f30805a) (xt_cdOf hB.1 m_7f30805a) (hts _ m_b807310b) hB hR hS hA (fun vv h2 H locs hq hEh2 hR hS => ?_)
  obtain ⟨r3, rfl, hw⟩ := hq
  have hw := hw hEh2
  have hE := hE.tr hEh2
  refine W.eq (g2 := F0 m 129 ls [.long r3]) rfl ?_
  refine lv_aload_n hx hb (xb_d D_Exact_sum 69 rfl) rfl (lv_at hl 1 rfl) ?_
  refine lv_lload_n hx hb (xb_d D_Exact_sum 70 rfl) rfl (lv_at hl 3 rfl) ?_
  have hk1 : xb_k h2 x0 = 10 := hEh2.k hk1
  refine xb_call0 (D := D) (A := A) (σ := σ) (h := h2) (d := 2) (maxL := 3) (rest := [.long r3]) (av := [.ref x0, .long x3]) (fun T hT X => by obtain ⟨cb9, ra9, rb9, rc9⟩ := xb_recv (ci := 9) hR rfl hk1 (by decide); exact xt_invV X hx hown (hts _ m_4c81fbb0) (hts _ m_fb12fd6e) (hts _ m_e5146b3f) (xt_sigOf (hts _ m_7f30805a)) nm_Exact_size (by rw [hT]; exact ra9) rb9 rc9 (g := F0 m 131 ls [.long x3, .ref x0, .long r3]) rfl (argsL := [.long x3]) (rest := [.long r3]) rfl rfl (by rw [hb]; exact (xb_d D_Exact_sum 71 rfl))) (ok_Exact_size l hfl D A σ x0 x3 h2 _ hw) (hml.trans hl.1.symm) (by rw [hb]; exact (xb_d D_Exact_sum 71 rfl)) (Nat.le_of_ble_eq_true rfl) (Nat.le_of_ble_eq_true rfl) (Nat.le_of_ble_eq_true rfl) (show k ≤ MC by omega) (show n ≤ MS by omega) (xt_w1 hB.1 m_7f30805a) (xt_cdOf hB.1 m_7f30805a) (hts _ m_b807310b) hB hR hS hA (fun vv h4 H locs hq hEh4 hR hS => ?_)
  obtain ⟨r5, rfl, hw⟩ := hq
  have hw := hw hEh4
  have hE := hE.tr hEh4
  refine W.eq (g2 := F0 m 134 ls [.long r5, .long r3]) rfl ?_
  refine xb_lc_ne (tgt := 143) hx hb (xb_d D_Exact_sum 72 rfl) (xb_d D_Exact_sum 73 rfl) rfl (fun hc6 => ?_) (fun hc6 => ?_)
  · have hw := hw.1 hc6
    exact am_Exact_sum_L143 l hfl D A σ MC MS h0 Qr x0 x1 x3 x6 x8 y0 h4 hw p e s m args below meth c hC H locs ls k n hE (lv_sub hl [1, 2, 3, 4, 5, 0] rfl) hR hS (by omega) (by omega)
  · have hw := hw.2 hc6
    refine lv_iload hx hb (xb_d D_Exact_sum 74 rfl) (lv_at hl 0 rfl) ?_
    refine lv_if_ne (tgt := 152) hx hb (xb_d D_Exact_sum 75 rfl) rfl (fun hc7 => ?_) (fun hc7 => ?_)
    · have hw := hw.1 hc7
      exact am_Exact_sum_L152 l hfl D A σ MC MS h0 Qr x0 x1 x3 h4 hw p e s m args below meth c hC H locs ls k n hE (lv_sub hl [1, 2, 3] rfl) hR hS (by omega) (by omega)
    · have hw := hw.2 hc7
      exact am_Exact_sum_L143 l hfl D A σ MC MS h0 Qr x0 x1 x3 x6 x8 y0 h4 hw p e s m args below meth c hC H locs ls k n hE (lv_sub hl [1, 2, 3, 4, 5, 0] rfl) hR hS (by omega) (by omega)

set_option maxHeartbeats 4000000 in
set_option maxRecDepth 100000 in
theorem am_Exact_sum_L102 (l : Launch) (hfl : l.flags = pinnedFlags ++ [noTraceFlag]) (D : va_G) (A : Nat → Prop) (σ MC MS : Nat) (h0 : xb_H) (Qr : Int64 → xb_H → Prop) (x0 : Nat) (x1 : Int64) (x3 : Int64) (x6 : Int64) (y0 : Int64) (h : xb_H) (hw : w_Exact_sum_L102 Qr x0 x1 x3 x6 y0 h) : xb_am l D A σ 5 MC MS h0 (fun v h _ _ => ∃ r, v = some (.long r) ∧ Qr r h) (fun _ _ _ _ => False) y_Exact_sum.cls y_Exact_sum.name b_Exact_sum 12 ([] : List ExceptionTableEntry) (some .long) 102 [(0, .ref x0), (1, .long x1), (3, .long x3), (6, .long x6)] [.long y0] h 0 0 := by
  unfold w_Exact_sum_L102 at hw
  intro p e s m args below meth c hC H locs ls k n hE hl hR hS hk hn
  obtain ⟨hx, hb, hown, hlocks, htab, hml, hr, hB, hA, hnm⟩ := id hC
  have hts := hB.1.1.at args
  refine lv_lstore hx hb (xb_d D_Exact_sum 54 rfl) hl (by decide) rfl (fun ls hl => ?_)
  have hl : lv_has ls 12 [(8, .long y0), (0, .ref x0), (1, .long x1), (3, .long x3), (6, .long x6)] := hl
  refine lv_aload_n hx hb (xb_d D_Exact_sum 55 rfl) rfl (lv_at hl 1 rfl) ?_
  refine lv_lload_n hx hb (xb_d D_Exact_sum 56 rfl) rfl (lv_at hl 2 rfl) ?_
  obtain ⟨hk1, hw⟩ := hw
  refine xb_call0 (D := D) (A := A) (σ := σ) (h := h) (d := 2) (maxL := 3) (rest := []) (av := [.ref x0, .long x1]) (fun T hT X => by obtain ⟨cb9, ra9, rb9, rc9⟩ := xb_recv (ci := 9) hR rfl hk1 (by decide); exact xt_invV X hx hown (hts _ m_de267fc4) (hts _ m_8cf2fba2) (hts _ m_e2188cdf) (xt_sigOf (hts _ m_25d2fde1)) nm_Exact_isMinus (by rw [hT]; exact ra9) rb9 rc9 (g := F0 m 106 ls [.long x1, .ref x0]) rfl (argsL := [.long x1]) (rest := []) rfl rfl (by rw [hb]; exact (xb_d D_Exact_sum 57 rfl))) (ok_Exact_isMinus l hfl D A σ x0 x1 h _ hw) (hml.trans hl.1.symm) (by rw [hb]; exact (xb_d D_Exact_sum 57 rfl)) (Nat.le_of_ble_eq_true rfl) (Nat.le_of_ble_eq_true rfl) (Nat.le_of_ble_eq_true rfl) (show k ≤ MC by omega) (show n ≤ MS by omega) (xt_w1 hB.1 m_25d2fde1) (xt_cdOf hB.1 m_25d2fde1) (hts _ m_b807310b) hB hR hS hA (fun vv h2 H locs hq hEh2 hR hS => ?_)
  obtain ⟨r3, rfl, hw⟩ := hq
  have hw := hw hEh2
  have hE := hE.tr hEh2
  refine W.eq (g2 := F0 m 109 ls [.int r3]) rfl ?_
  refine lv_aload_n hx hb (xb_d D_Exact_sum 58 rfl) rfl (lv_at hl 1 rfl) ?_
  refine lv_lload_n hx hb (xb_d D_Exact_sum 59 rfl) rfl (lv_at hl 3 rfl) ?_
  have hk1 : xb_k h2 x0 = 10 := hEh2.k hk1
  refine xb_call0 (D := D) (A := A) (σ := σ) (h := h2) (d := 2) (maxL := 3) (rest := [.int r3]) (av := [.ref x0, .long x3]) (fun T hT X => by obtain ⟨cb9, ra9, rb9, rc9⟩ := xb_recv (ci := 9) hR rfl hk1 (by decide); exact xt_invV X hx hown (hts _ m_de267fc4) (hts _ m_8cf2fba2) (hts _ m_e2188cdf) (xt_sigOf (hts _ m_25d2fde1)) nm_Exact_isMinus (by rw [hT]; exact ra9) rb9 rc9 (g := F0 m 111 ls [.long x3, .ref x0, .int r3]) rfl (argsL := [.long x3]) (rest := [.int r3]) rfl rfl (by rw [hb]; exact (xb_d D_Exact_sum 60 rfl))) (ok_Exact_isMinus l hfl D A σ x0 x3 h2 _ hw) (hml.trans hl.1.symm) (by rw [hb]; exact (xb_d D_Exact_sum 60 rfl)) (Nat.le_of_ble_eq_true rfl) (Nat.le_of_ble_eq_true rfl) (Nat.le_of_ble_eq_true rfl) (show k ≤ MC by omega) (show n ≤ MS by omega) (xt_w1 hB.1 m_25d2fde1) (xt_cdOf hB.1 m_25d2fde1) (hts _ m_b807310b) hB hR hS hA (fun vv h4 H locs hq hEh4 hR hS => ?_)
  obtain ⟨r5, rfl, hw⟩ := hq
  have hw := hw hEh4
  have hE := hE.tr hEh4
  refine W.eq (g2 := F0 m 114 ls [.int r5, .int r3]) rfl ?_
  refine lv_icmp_eq (tgt := 121) hx hb (xb_d D_Exact_sum 61 rfl) rfl (fun hc6 => ?_) (fun hc6 => ?_)
  · have hw := hw.1 hc6
    refine lv_iconst (v := 0) hx hb (xb_d D_Exact_sum 64 rfl) (by decide) ?_
    exact am_Exact_sum_L122 l hfl D A σ MC MS h0 Qr x0 x1 x3 x6 y0 0 h4 hw p e s m args below meth c hC H locs ls k n hE (lv_sub hl [1, 2, 3, 4, 0] rfl) hR hS (by omega) (by omega)
  · have hw := hw.2 hc6
    refine lv_iconst (v := 1) hx hb (xb_d D_Exact_sum 62 rfl) (by decide) ?_
    refine lv_goto (tgt := 122) hx hb (xb_d D_Exact_sum 63 rfl) rfl ?_
    exact am_Exact_sum_L122 l hfl D A σ MC MS h0 Qr x0 x1 x3 x6 y0 1 h4 hw p e s m args below meth c hC H locs ls k n hE (lv_sub hl [1, 2, 3, 4, 0] rfl) hR hS (by omega) (by omega)

set_option maxHeartbeats 4000000 in
set_option maxRecDepth 100000 in
theorem am_Exact_sum_L90 (l : Launch) (hfl : l.flags = pinnedFlags ++ [noTraceFlag]) (D : va_G) (A : Nat → Prop) (σ MC MS : Nat) (h0 : xb_H) (Qr : Int64 → xb_H → Prop) (x0 : Nat) (x1 : Int64) (x3 : Int64) (x5 : Int32) (y0 : Int64) (h : xb_H) (hw : w_Exact_sum_L90 Qr x0 x1 x3 x5 y0 h) : xb_am l D A σ 5 MC MS h0 (fun v h _ _ => ∃ r, v = some (.long r) ∧ Qr r h) (fun _ _ _ _ => False) y_Exact_sum.cls y_Exact_sum.name b_Exact_sum 12 ([] : List ExceptionTableEntry) (some .long) 90 [(0, .ref x0), (1, .long x1), (3, .long x3), (5, .int x5)] [.long y0] h 0 0 := by
  unfold w_Exact_sum_L90 at hw
  intro p e s m args below meth c hC H locs ls k n hE hl hR hS hk hn
  obtain ⟨hx, hb, hown, hlocks, htab, hml, hr, hB, hA, hnm⟩ := id hC
  have hts := hB.1.1.at args
  refine lv_lstore hx hb (xb_d D_Exact_sum 48 rfl) hl (by decide) rfl (fun ls hl => ?_)
  have hl : lv_has ls 12 [(6, .long y0), (0, .ref x0), (1, .long x1), (3, .long x3), (5, .int x5)] := hl
  refine lv_iload hx hb (xb_d D_Exact_sum 49 rfl) (lv_at hl 4 rfl) ?_
  refine lv_if_eq (tgt := 101) hx hb (xb_d D_Exact_sum 50 rfl) rfl (fun hc1 => ?_) (fun hc1 => ?_)
  · have hw := hw.1 hc1
    refine lv_lload_n hx hb (xb_d D_Exact_sum 53 rfl) rfl (lv_at hl 3 rfl) ?_
    exact am_Exact_sum_L102 l hfl D A σ MC MS h0 Qr x0 x1 x3 y0 x3 h hw p e s m args below meth c hC H locs ls k n hE (lv_sub hl [1, 2, 3, 0] rfl) hR hS (by omega) (by omega)
  · have hw := hw.2 hc1
    refine lv_lload_n hx hb (xb_d D_Exact_sum 51 rfl) rfl (lv_at hl 2 rfl) ?_
    refine lv_goto (tgt := 102) hx hb (xb_d D_Exact_sum 52 rfl) rfl ?_
    exact am_Exact_sum_L102 l hfl D A σ MC MS h0 Qr x0 x1 x3 y0 x1 h hw p e s m args below meth c hC H locs ls k n hE (lv_sub hl [1, 2, 3, 0] rfl) hR hS (by omega) (by omega)

set_option maxHeartbeats 4000000 in
set_option maxRecDepth 100000 in
theorem am_Exact_sum_L78 (l : Launch) (hfl : l.flags = pinnedFlags ++ [noTraceFlag]) (D : va_G) (A : Nat → Prop) (σ MC MS : Nat) (h0 : xb_H) (Qr : Int64 → xb_H → Prop) (x0 : Nat) (x1 : Int64) (x3 : Int64) (y0 : Int32) (h : xb_H) (hw : w_Exact_sum_L78 Qr x0 x1 x3 y0 h) : xb_am l D A σ 5 MC MS h0 (fun v h _ _ => ∃ r, v = some (.long r) ∧ Qr r h) (fun _ _ _ _ => False) y_Exact_sum.cls y_Exact_sum.name b_Exact_sum 12 ([] : List ExceptionTableEntry) (some .long) 78 [(0, .ref x0), (1, .long x1), (3, .long x3)] [.int y0] h 0 0 := by
  unfold w_Exact_sum_L78 at hw
  intro p e s m args below meth c hC H locs ls k n hE hl hR hS hk hn
  obtain ⟨hx, hb, hown, hlocks, htab, hml, hr, hB, hA, hnm⟩ := id hC
  have hts := hB.1.1.at args
  refine lv_istore hx hb (xb_d D_Exact_sum 42 rfl) hl (by decide) rfl (fun ls hl => ?_)
  have hl : lv_has ls 12 [(5, .int y0), (0, .ref x0), (1, .long x1), (3, .long x3)] := hl
  refine lv_iload hx hb (xb_d D_Exact_sum 43 rfl) (lv_at hl 0 rfl) ?_
  refine lv_if_eq (tgt := 89) hx hb (xb_d D_Exact_sum 44 rfl) rfl (fun hc1 => ?_) (fun hc1 => ?_)
  · have hw := hw.1 hc1
    refine lv_lload_n hx hb (xb_d D_Exact_sum 47 rfl) rfl (lv_at hl 2 rfl) ?_
    exact am_Exact_sum_L90 l hfl D A σ MC MS h0 Qr x0 x1 x3 y0 x1 h hw p e s m args below meth c hC H locs ls k n hE (lv_sub hl [1, 2, 3, 0] rfl) hR hS (by omega) (by omega)
  · have hw := hw.2 hc1
    refine lv_lload_n hx hb (xb_d D_Exact_sum 45 rfl) rfl (lv_at hl 3 rfl) ?_
    refine lv_goto (tgt := 90) hx hb (xb_d D_Exact_sum 46 rfl) rfl ?_
    exact am_Exact_sum_L90 l hfl D A σ MC MS h0 Qr x0 x1 x3 y0 x3 h hw p e s m args below meth c hC H locs ls k n hE (lv_sub hl [1, 2, 3, 0] rfl) hR hS (by omega) (by omega)

set_option maxHeartbeats 4000000 in
set_option maxRecDepth 100000 in
theorem am_Exact_sum_L58 (l : Launch) (hfl : l.flags = pinnedFlags ++ [noTraceFlag]) (D : va_G) (A : Nat → Prop) (σ MC MS : Nat) (h0 : xb_H) (Qr : Int64 → xb_H → Prop) (y0 : Int64) (h : xb_H) (hw : w_Exact_sum_L58 Qr y0 h) : xb_am l D A σ 5 MC MS h0 (fun v h _ _ => ∃ r, v = some (.long r) ∧ Qr r h) (fun _ _ _ _ => False) y_Exact_sum.cls y_Exact_sum.name b_Exact_sum 12 ([] : List ExceptionTableEntry) (some .long) 58 [] [.long y0] h 0 0 := by
  unfold w_Exact_sum_L58 at hw
  intro p e s m args below meth c hC H locs ls k n hE hl hR hS hk hn
  obtain ⟨hx, hb, hown, hlocks, htab, hml, hr, hB, hA, hnm⟩ := id hC
  have hts := hB.1.1.at args
  exact xb_lret 0 0 hx hb hr hlocks (show k + 0 ≤ MC by omega) (show n + 0 ≤ MS by omega) hE hR hS (xb_d D_Exact_sum 30 rfl) hw

set_option maxHeartbeats 4000000 in
set_option maxRecDepth 100000 in
theorem am_Exact_sum_L45 (l : Launch) (hfl : l.flags = pinnedFlags ++ [noTraceFlag]) (D : va_G) (A : Nat → Prop) (σ MC MS : Nat) (h0 : xb_H) (Qr : Int64 → xb_H → Prop) (x0 : Nat) (x1 : Int64) (x3 : Int64) (h : xb_H) (hw : w_Exact_sum_L45 Qr x0 x1 x3 h) : xb_am l D A σ 5 MC MS h0 (fun v h _ _ => ∃ r, v = some (.long r) ∧ Qr r h) (fun _ _ _ _ => False) y_Exact_sum.cls y_Exact_sum.name b_Exact_sum 12 ([] : List ExceptionTableEntry) (some .long) 45 [(0, .ref x0), (1, .long x1), (3, .long x3)] [] h 0 0 := by
  unfold w_Exact_sum_L45 at hw
  intro p e s m args below meth c hC H locs ls k n hE hl hR hS hk hn
  obtain ⟨hx, hb, hown, hlocks, htab, hml, hr, hB, hA, hnm⟩ := id hC
  have hts := hB.1.1.at args
  refine lv_aload_n hx hb (xb_d D_Exact_sum 23 rfl) rfl (lv_at hl 0 rfl) ?_
  refine lv_lload_n hx hb (xb_d D_Exact_sum 24 rfl) rfl (lv_at hl 1 rfl) ?_
  obtain ⟨hk1, hw⟩ := hw
  refine xb_call0 (D := D) (A := A) (σ := σ) (h := h) (d := 4) (maxL := 3) (rest := []) (av := [.ref x0, .long x1]) (fun T hT X => by obtain ⟨cb9, ra9, rb9, rc9⟩ := xb_recv (ci := 9) hR rfl hk1 (by decide); exact xt_invV X hx hown (hts _ m_4d51455e) (hts _ m_6f0f72ed) (hts _ m_54335684) (xt_sigOf (hts _ m_c0f31264)) nm_Exact_isInfinite (by rw [hT]; exact ra9) rb9 rc9 (g := F0 m 47 ls [.long x1, .ref x0]) rfl (argsL := [.long x1]) (rest := []) rfl rfl (by rw [hb]; exact (xb_d D_Exact_sum 25 rfl))) (ok_Exact_isInfinite l hfl D A σ x0 x1 h _ hw) (hml.trans hl.1.symm) (by rw [hb]; exact (xb_d D_Exact_sum 25 rfl)) (Nat.le_of_ble_eq_true rfl) (Nat.le_of_ble_eq_true rfl) (Nat.le_of_ble_eq_true rfl) (show k ≤ MC by omega) (show n ≤ MS by omega) (xt_w1 hB.1 m_c0f31264) (xt_cdOf hB.1 m_c0f31264) (hts _ m_b807310b) hB hR hS hA (fun vv h2 H locs hq hEh2 hR hS => ?_)
  obtain ⟨r3, rfl, hw⟩ := hq
  have hw := hw hEh2
  have hE := hE.tr hEh2
  refine W.eq (g2 := F0 m 50 ls [.int r3]) rfl ?_
  refine lv_if_eq (tgt := 57) hx hb (xb_d D_Exact_sum 26 rfl) rfl (fun hc4 => ?_) (fun hc4 => ?_)
  · have hw := hw.1 hc4
    refine lv_lload_n hx hb (xb_d D_Exact_sum 29 rfl) rfl (lv_at hl 2 rfl) ?_
    exact am_Exact_sum_L58 l hfl D A σ MC MS h0 Qr x3 h2 hw p e s m args below meth c hC H locs ls k n hE (lv_sub hl [] rfl) hR hS (by omega) (by omega)
  · have hw := hw.2 hc4
    refine lv_lload_n hx hb (xb_d D_Exact_sum 27 rfl) rfl (lv_at hl 1 rfl) ?_
    refine lv_goto (tgt := 58) hx hb (xb_d D_Exact_sum 28 rfl) rfl ?_
    exact am_Exact_sum_L58 l hfl D A σ MC MS h0 Qr x1 h2 hw p e s m args below meth c hC H locs ls k n hE (lv_sub hl [] rfl) hR hS (by omega) (by omega)

set_option maxHeartbeats 4000000 in
set_option maxRecDepth 100000 in
theorem am_Exact_sum_L16 (l : Launch) (hfl : l.flags = pinnedFlags ++ [noTraceFlag]) (D : va_G) (A : Nat → Prop) (σ MC MS : Nat) (h0 : xb_H) (Qr : Int64 → xb_H → Prop) (x0 : Nat) (x1 : Int64) (x3 : Int64) (h : xb_H) (hw : w_Exact_sum_L16 Qr x0 x1 x3 h) : xb_am l D A σ 5 MC MS h0 (fun v h _ _ => ∃ r, v = some (.long r) ∧ Qr r h) (fun _ _ _ _ => False) y_Exact_sum.cls y_Exact_sum.name b_Exact_sum 12 ([] : List ExceptionTableEntry) (some .long) 16 [(0, .ref x0), (1, .long x1), (3, .long x3)] [] h 0 0 := by
  unfold w_Exact_sum_L16 at hw
  intro p e s m args below meth c hC H locs ls k n hE hl hR hS hk hn
  obtain ⟨hx, hb, hown, hlocks, htab, hml, hr, hB, hA, hnm⟩ := id hC
  have hts := hB.1.1.at args
  refine lv_aload_n hx hb (xb_d D_Exact_sum 8 rfl) rfl (lv_at hl 0 rfl) ?_
  refine lv_lload_n hx hb (xb_d D_Exact_sum 9 rfl) rfl (lv_at hl 1 rfl) ?_
  obtain ⟨hk1, hw⟩ := hw
  refine xb_call0 (D := D) (A := A) (σ := σ) (h := h) (d := 4) (maxL := 3) (rest := []) (av := [.ref x0, .long x1]) (fun T hT X => by obtain ⟨cb9, ra9, rb9, rc9⟩ := xb_recv (ci := 9) hR rfl hk1 (by decide); exact xt_invV X hx hown (hts _ m_4d51455e) (hts _ m_6f0f72ed) (hts _ m_54335684) (xt_sigOf (hts _ m_c0f31264)) nm_Exact_isInfinite (by rw [hT]; exact ra9) rb9 rc9 (g := F0 m 18 ls [.long x1, .ref x0]) rfl (argsL := [.long x1]) (rest := []) rfl rfl (by rw [hb]; exact (xb_d D_Exact_sum 10 rfl))) (ok_Exact_isInfinite l hfl D A σ x0 x1 h _ hw) (hml.trans hl.1.symm) (by rw [hb]; exact (xb_d D_Exact_sum 10 rfl)) (Nat.le_of_ble_eq_true rfl) (Nat.le_of_ble_eq_true rfl) (Nat.le_of_ble_eq_true rfl) (show k ≤ MC by omega) (show n ≤ MS by omega) (xt_w1 hB.1 m_c0f31264) (xt_cdOf hB.1 m_c0f31264) (hts _ m_b807310b) hB hR hS hA (fun vv h2 H locs hq hEh2 hR hS => ?_)
  obtain ⟨r3, rfl, hw⟩ := hq
  have hw := hw hEh2
  have hE := hE.tr hEh2
  refine W.eq (g2 := F0 m 21 ls [.int r3]) rfl ?_
  refine lv_if_eq (tgt := 45) hx hb (xb_d D_Exact_sum 11 rfl) rfl (fun hc4 => ?_) (fun hc4 => ?_)
  · have hw := hw.1 hc4
    exact am_Exact_sum_L45 l hfl D A σ MC MS h0 Qr x0 x1 x3 h2 hw p e s m args below meth c hC H locs ls k n hE (lv_sub hl [0, 1, 2] rfl) hR hS (by omega) (by omega)
  · have hw := hw.2 hc4
    refine lv_aload_n hx hb (xb_d D_Exact_sum 12 rfl) rfl (lv_at hl 0 rfl) ?_
    refine lv_lload_n hx hb (xb_d D_Exact_sum 13 rfl) rfl (lv_at hl 2 rfl) ?_
    have hk1 : xb_k h2 x0 = 10 := hEh2.k hk1
    refine xb_call0 (D := D) (A := A) (σ := σ) (h := h2) (d := 4) (maxL := 3) (rest := []) (av := [.ref x0, .long x3]) (fun T hT X => by obtain ⟨cb9, ra9, rb9, rc9⟩ := xb_recv (ci := 9) hR rfl hk1 (by decide); exact xt_invV X hx hown (hts _ m_4d51455e) (hts _ m_6f0f72ed) (hts _ m_54335684) (xt_sigOf (hts _ m_c0f31264)) nm_Exact_isInfinite (by rw [hT]; exact ra9) rb9 rc9 (g := F0 m 26 ls [.long x3, .ref x0]) rfl (argsL := [.long x3]) (rest := []) rfl rfl (by rw [hb]; exact (xb_d D_Exact_sum 14 rfl))) (ok_Exact_isInfinite l hfl D A σ x0 x3 h2 _ hw) (hml.trans hl.1.symm) (by rw [hb]; exact (xb_d D_Exact_sum 14 rfl)) (Nat.le_of_ble_eq_true rfl) (Nat.le_of_ble_eq_true rfl) (Nat.le_of_ble_eq_true rfl) (show k ≤ MC by omega) (show n ≤ MS by omega) (xt_w1 hB.1 m_c0f31264) (xt_cdOf hB.1 m_c0f31264) (hts _ m_b807310b) hB hR hS hA (fun vv h5 H locs hq hEh5 hR hS => ?_)
    obtain ⟨r6, rfl, hw⟩ := hq
    have hw := hw hEh5
    have hE := hE.tr hEh5
    refine W.eq (g2 := F0 m 29 ls [.int r6]) rfl ?_
    refine lv_if_eq (tgt := 45) hx hb (xb_d D_Exact_sum 15 rfl) rfl (fun hc7 => ?_) (fun hc7 => ?_)
    · have hw := hw.1 hc7
      exact am_Exact_sum_L45 l hfl D A σ MC MS h0 Qr x0 x1 x3 h5 hw p e s m args below meth c hC H locs ls k n hE (lv_sub hl [0, 1, 2] rfl) hR hS (by omega) (by omega)
    · have hw := hw.2 hc7
      refine lv_lload_n hx hb (xb_d D_Exact_sum 16 rfl) rfl (lv_at hl 1 rfl) ?_
      refine lv_lload_n hx hb (xb_d D_Exact_sum 17 rfl) rfl (lv_at hl 2 rfl) ?_
      refine xb_lc_eq (tgt := 45) hx hb (xb_d D_Exact_sum 18 rfl) (xb_d D_Exact_sum 19 rfl) rfl (fun hc8 => ?_) (fun hc8 => ?_)
      · have hw := hw.1 hc8
        exact am_Exact_sum_L45 l hfl D A σ MC MS h0 Qr x0 x1 x3 h5 hw p e s m args below meth c hC H locs ls k n hE (lv_sub hl [0, 1, 2] rfl) hR hS (by omega) (by omega)
      · have hw := hw.2 hc8
        refine lv_aload_n hx hb (xb_d D_Exact_sum 20 rfl) rfl (lv_at hl 0 rfl) ?_
        have hk1 : xb_k h5 x0 = 10 := hEh5.k hk1
        refine xb_call0 (D := D) (A := A) (σ := σ) (h := h5) (d := 2) (maxL := 1) (rest := []) (av := [.ref x0]) (fun T hT X => by obtain ⟨cb9, ra9, rb9, rc9⟩ := xb_recv (ci := 9) hR rfl hk1 (by decide); exact xt_invV X hx hown (hts _ m_3b77e327) (hts _ m_488d5ec7) (hts _ m_8dd38d5e) (xt_sigOf (hts _ m_291300c8)) nm_Exact_noNumber (by rw [hT]; exact ra9) rb9 rc9 (g := F0 m 39 ls [.ref x0]) rfl (argsL := []) (rest := []) rfl rfl (by rw [hb]; exact (xb_d D_Exact_sum 21 rfl))) (ok_Exact_noNumber l hfl D A σ x0 h5 _ hw) (hml.trans hl.1.symm) (by rw [hb]; exact (xb_d D_Exact_sum 21 rfl)) (Nat.le_of_ble_eq_true rfl) (Nat.le_of_ble_eq_true rfl) (Nat.le_of_ble_eq_true rfl) (show k ≤ MC by omega) (show n ≤ MS by omega) (xt_w1 hB.1 m_291300c8) (xt_cdOf hB.1 m_291300c8) (hts _ m_b807310b) hB hR hS hA (fun vv h9 H locs hq hEh9 hR hS => ?_)
        obtain ⟨r10, rfl, hw⟩ := hq
        have hw := hw hEh9
        have hE := hE.tr hEh9
        refine W.eq (g2 := F0 m 42 ls [.long r10]) rfl ?_
        refine lv_goto (tgt := 58) hx hb (xb_d D_Exact_sum 22 rfl) rfl ?_
        exact am_Exact_sum_L58 l hfl D A σ MC MS h0 Qr r10 h9 hw p e s m args below meth c hC H locs ls k n hE (lv_sub hl [] rfl) hR hS (by omega) (by omega)

set_option maxHeartbeats 4000000 in
set_option maxRecDepth 100000 in
theorem ok_Exact_sum (l : Launch) (hfl : l.flags = pinnedFlags ++ [noTraceFlag]) (D : va_G) (A : Nat → Prop) (σ : Nat) (x0 : Nat) (x1 : Int64) (x3 : Int64) (h : xb_H) (Qr : Int64 → xb_H → Prop) (hw : w_Exact_sum x0 x1 x3 h Qr) : xb_Met l y_Exact_sum [.code y_Exact_sum b_Exact_sum 12 (some .long)] (xb_rm 5 0 0) (xb_Pc D A σ h [.ref x0, .long x1, .long x3]) (xb_Qc D A h 0 0 (fun v h _ _ => ∃ r, v = some (.long r) ∧ Qr r h) (fun _ _ _ _ => False)) A := by
  refine xb_ofAm (cc := b_Exact_sum) (by decide) (Nat.le_of_ble_eq_true rfl) ?_
  unfold w_Exact_sum at hw
  show xb_am l D A σ 5 0 0 h (fun v h _ _ => ∃ r, v = some (.long r) ∧ Qr r h) (fun _ _ _ _ => False) y_Exact_sum.cls y_Exact_sum.name b_Exact_sum 12 ([] : List ExceptionTableEntry) (some .long) 0 [(0, .ref x0), (1, .long x1), (3, .long x3)] [] h 0 0
  obtain ⟨MC, hMC⟩ : ∃ x, x = 0 := ⟨_, rfl⟩
  obtain ⟨MS, hMS⟩ : ∃ x, x = 0 := ⟨_, rfl⟩
  rw [show xb_am l D A σ 5 0 0 = xb_am l D A σ 5 MC MS by rw [hMC, hMS]]
  obtain ⟨h0, hh0⟩ : ∃ x, x = h := ⟨_, rfl⟩
  rw [show xb_am l D A σ 5 MC MS h = xb_am l D A σ 5 MC MS h0 by rw [hh0]]
  intro p e s m args below meth c hC H locs ls k n hE hl hR hS hk hn
  obtain ⟨hx, hb, hown, hlocks, htab, hml, hr, hB, hA, hnm⟩ := id hC
  have hts := hB.1.1.at args
  refine lv_aload_n hx hb (xb_d D_Exact_sum 0 rfl) rfl (lv_at hl 0 rfl) ?_
  refine lv_lload_n hx hb (xb_d D_Exact_sum 1 rfl) rfl (lv_at hl 1 rfl) ?_
  obtain ⟨hk1, hw⟩ := hw
  refine xb_call0 (D := D) (A := A) (σ := σ) (h := h) (d := 4) (maxL := 3) (rest := []) (av := [.ref x0, .long x1]) (fun T hT X => by obtain ⟨cb9, ra9, rb9, rc9⟩ := xb_recv (ci := 9) hR rfl hk1 (by decide); exact xt_invV X hx hown (hts _ m_4d51455e) (hts _ m_6f0f72ed) (hts _ m_54335684) (xt_sigOf (hts _ m_c0f31264)) nm_Exact_isInfinite (by rw [hT]; exact ra9) rb9 rc9 (g := F0 m 2 ls [.long x1, .ref x0]) rfl (argsL := [.long x1]) (rest := []) rfl rfl (by rw [hb]; exact (xb_d D_Exact_sum 2 rfl))) (ok_Exact_isInfinite l hfl D A σ x0 x1 h _ hw) (hml.trans hl.1.symm) (by rw [hb]; exact (xb_d D_Exact_sum 2 rfl)) (Nat.le_of_ble_eq_true rfl) (Nat.le_of_ble_eq_true rfl) (Nat.le_of_ble_eq_true rfl) (show k ≤ MC by omega) (show n ≤ MS by omega) (xt_w1 hB.1 m_c0f31264) (xt_cdOf hB.1 m_c0f31264) (hts _ m_b807310b) hB hR hS hA (fun vv h2 H locs hq hEh2 hR hS => ?_)
  obtain ⟨r3, rfl, hw⟩ := hq
  have hw := hw hEh2
  have hE := hE.tr hEh2
  refine W.eq (g2 := F0 m 5 ls [.int r3]) rfl ?_
  refine lv_if_ne (tgt := 16) hx hb (xb_d D_Exact_sum 3 rfl) rfl (fun hc4 => ?_) (fun hc4 => ?_)
  · have hw := hw.1 hc4
    exact am_Exact_sum_L16 l hfl D A σ MC MS h0 Qr x0 x1 x3 h2 hw p e s m args below meth c hC H locs ls k n hE (lv_sub hl [0, 1, 2] rfl) hR hS (by omega) (by omega)
  · have hw := hw.2 hc4
    refine lv_aload_n hx hb (xb_d D_Exact_sum 4 rfl) rfl (lv_at hl 0 rfl) ?_
    refine lv_lload_n hx hb (xb_d D_Exact_sum 5 rfl) rfl (lv_at hl 2 rfl) ?_
    have hk1 : xb_k h2 x0 = 10 := hEh2.k hk1
    refine xb_call0 (D := D) (A := A) (σ := σ) (h := h2) (d := 4) (maxL := 3) (rest := []) (av := [.ref x0, .long x3]) (fun T hT X => by obtain ⟨cb9, ra9, rb9, rc9⟩ := xb_recv (ci := 9) hR rfl hk1 (by decide); exact xt_invV X hx hown (hts _ m_4d51455e) (hts _ m_6f0f72ed) (hts _ m_54335684) (xt_sigOf (hts _ m_c0f31264)) nm_Exact_isInfinite (by rw [hT]; exact ra9) rb9 rc9 (g := F0 m 10 ls [.long x3, .ref x0]) rfl (argsL := [.long x3]) (rest := []) rfl rfl (by rw [hb]; exact (xb_d D_Exact_sum 6 rfl))) (ok_Exact_isInfinite l hfl D A σ x0 x3 h2 _ hw) (hml.trans hl.1.symm) (by rw [hb]; exact (xb_d D_Exact_sum 6 rfl)) (Nat.le_of_ble_eq_true rfl) (Nat.le_of_ble_eq_true rfl) (Nat.le_of_ble_eq_true rfl) (show k ≤ MC by omega) (show n ≤ MS by omega) (xt_w1 hB.1 m_c0f31264) (xt_cdOf hB.1 m_c0f31264) (hts _ m_b807310b) hB hR hS hA (fun vv h5 H locs hq hEh5 hR hS => ?_)
    obtain ⟨r6, rfl, hw⟩ := hq
    have hw := hw hEh5
    have hE := hE.tr hEh5
    refine W.eq (g2 := F0 m 13 ls [.int r6]) rfl ?_
    refine lv_if_eq (tgt := 59) hx hb (xb_d D_Exact_sum 7 rfl) rfl (fun hc7 => ?_) (fun hc7 => ?_)
    · have hw := hw.1 hc7
      refine lv_aload_n hx hb (xb_d D_Exact_sum 31 rfl) rfl (lv_at hl 0 rfl) ?_
      refine lv_lload_n hx hb (xb_d D_Exact_sum 32 rfl) rfl (lv_at hl 2 rfl) ?_
      have hk1 : xb_k h5 x0 = 10 := hEh5.k hk1
      refine xb_call0 (D := D) (A := A) (σ := σ) (h := h5) (d := 2) (maxL := 3) (rest := []) (av := [.ref x0, .long x3]) (fun T hT X => by obtain ⟨cb9, ra9, rb9, rc9⟩ := xb_recv (ci := 9) hR rfl hk1 (by decide); exact xt_invV X hx hown (hts _ m_4c81fbb0) (hts _ m_fb12fd6e) (hts _ m_e5146b3f) (xt_sigOf (hts _ m_7f30805a)) nm_Exact_size (by rw [hT]; exact ra9) rb9 rc9 (g := F0 m 61 ls [.long x3, .ref x0]) rfl (argsL := [.long x3]) (rest := []) rfl rfl (by rw [hb]; exact (xb_d D_Exact_sum 33 rfl))) (ok_Exact_size l hfl D A σ x0 x3 h5 _ hw) (hml.trans hl.1.symm) (by rw [hb]; exact (xb_d D_Exact_sum 33 rfl)) (Nat.le_of_ble_eq_true rfl) (Nat.le_of_ble_eq_true rfl) (Nat.le_of_ble_eq_true rfl) (show k ≤ MC by omega) (show n ≤ MS by omega) (xt_w1 hB.1 m_7f30805a) (xt_cdOf hB.1 m_7f30805a) (hts _ m_b807310b) hB hR hS hA (fun vv h8 H locs hq hEh8 hR hS => ?_)
      obtain ⟨r9, rfl, hw⟩ := hq
      have hw := hw hEh8
      have hE := hE.tr hEh8
      refine W.eq (g2 := F0 m 64 ls [.long r9]) rfl ?_
      refine lv_aload_n hx hb (xb_d D_Exact_sum 34 rfl) rfl (lv_at hl 0 rfl) ?_
      refine lv_lload_n hx hb (xb_d D_Exact_sum 35 rfl) rfl (lv_at hl 1 rfl) ?_
      have hk1 : xb_k h8 x0 = 10 := hEh8.k hk1
      refine xb_call0 (D := D) (A := A) (σ := σ) (h := h8) (d := 2) (maxL := 3) (rest := [.long r9]) (av := [.ref x0, .long x1]) (fun T hT X => by obtain ⟨cb9, ra9, rb9, rc9⟩ := xb_recv (ci := 9) hR rfl hk1 (by decide); exact xt_invV X hx hown (hts _ m_4c81fbb0) (hts _ m_fb12fd6e) (hts _ m_e5146b3f) (xt_sigOf (hts _ m_7f30805a)) nm_Exact_size (by rw [hT]; exact ra9) rb9 rc9 (g := F0 m 66 ls [.long x1, .ref x0, .long r9]) rfl (argsL := [.long x1]) (rest := [.long r9]) rfl rfl (by rw [hb]; exact (xb_d D_Exact_sum 36 rfl))) (ok_Exact_size l hfl D A σ x0 x1 h8 _ hw) (hml.trans hl.1.symm) (by rw [hb]; exact (xb_d D_Exact_sum 36 rfl)) (Nat.le_of_ble_eq_true rfl) (Nat.le_of_ble_eq_true rfl) (Nat.le_of_ble_eq_true rfl) (show k ≤ MC by omega) (show n ≤ MS by omega) (xt_w1 hB.1 m_7f30805a) (xt_cdOf hB.1 m_7f30805a) (hts _ m_b807310b) hB hR hS hA (fun vv h10 H locs hq hEh10 hR hS => ?_)
      obtain ⟨r11, rfl, hw⟩ := hq
      have hw := hw hEh10
      have hE := hE.tr hEh10
      refine W.eq (g2 := F0 m 69 ls [.long r11, .long r9]) rfl ?_
      refine xb_lc_le (tgt := 77) hx hb (xb_d D_Exact_sum 37 rfl) (xb_d D_Exact_sum 38 rfl) rfl (fun hc12 => ?_) (fun hc12 => ?_)
      · have hw := hw.1 hc12
        refine lv_iconst (v := 0) hx hb (xb_d D_Exact_sum 41 rfl) (by decide) ?_
        exact am_Exact_sum_L78 l hfl D A σ MC MS h0 Qr x0 x1 x3 0 h10 hw p e s m args below meth c hC H locs ls k n hE (lv_sub hl [0, 1, 2] rfl) hR hS (by omega) (by omega)
      · have hw := hw.2 hc12
        refine lv_iconst (v := 1) hx hb (xb_d D_Exact_sum 39 rfl) (by decide) ?_
        refine lv_goto (tgt := 78) hx hb (xb_d D_Exact_sum 40 rfl) rfl ?_
        exact am_Exact_sum_L78 l hfl D A σ MC MS h0 Qr x0 x1 x3 1 h10 hw p e s m args below meth c hC H locs ls k n hE (lv_sub hl [0, 1, 2] rfl) hR hS (by omega) (by omega)
    · have hw := hw.2 hc7
      exact am_Exact_sum_L16 l hfl D A σ MC MS h0 Qr x0 x1 x3 h5 hw p e s m args below meth c hC H locs ls k n hE (lv_sub hl [0, 1, 2] rfl) hR hS (by omega) (by omega)

