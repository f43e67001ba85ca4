theorem m_3189b10e : (.methodLink "StackHost$Format" 73 y_Format_signed : Cond) ∈ xt_tbl := xt_in (xt_t8 (List.mem_of_getElem? (i := 65) (by decide +kernel))) (by decide +kernel)
theorem m_ac70dee4 : (.instanceMethod y_Format_signed : Cond) ∈ xt_tbl := xt_in (xt_t8 (List.mem_of_getElem? (i := 67) (by decide +kernel))) (by decide +kernel)
theorem m_6afae6d0 : (.selects "StackHost$Format" y_Format_signed y_Format_signed : Cond) ∈ xt_tbl := xt_in (xt_v7 (q := (⟨"StackHost$Format", "signed", "(ZJ)J"⟩, 5)) (List.mem_of_getElem? (i := 5) (by decide +kernel))) (by decide +kernel)
theorem m_a473a09c : (.code y_Format_signed b_Format_signed 4 (some .long) : Cond) ∈ xt_tbl := xt_in (xt_t8 (List.mem_of_getElem? (i := 68) (by decide +kernel))) (by decide +kernel)
theorem m_05bc524f : (.methodLink "StackHost$Format" 69 y_Format_isAway : Cond) ∈ xt_tbl := xt_in (xt_t8 (List.mem_of_getElem? (i := 102) (by decide +kernel))) (by decide +kernel)
theorem m_2dee8f35 : (.static y_Format_isAway : Cond) ∈ xt_tbl := xt_in (xt_t8 (List.mem_of_getElem? (i := 103) (by decide +kernel))) (by decide +kernel)
theorem m_22ef44d1 : (.code y_Format_isAway b_Format_isAway 3 (some .boolean) : Cond) ∈ xt_tbl := xt_in (xt_t8 (List.mem_of_getElem? (i := 104) (by decide +kernel))) (by decide +kernel)
theorem m_790c0ce9 : (.methodLink "StackHost$Format" 63 y_Format_power : Cond) ∈ xt_tbl := xt_in (xt_t8 (List.mem_of_getElem? (i := 28) (by decide +kernel))) (by decide +kernel)
theorem m_493d47bb : (.instanceMethod y_Format_power : Cond) ∈ xt_tbl := xt_in (xt_t8 (List.mem_of_getElem? (i := 30) (by decide +kernel))) (by decide +kernel)
theorem m_ec26896d : (.selects "StackHost$Format" y_Format_power y_Format_power : Cond) ∈ xt_tbl := xt_in (xt_v7 (q := (⟨"StackHost$Format", "power", "(J)I"⟩, 5)) (List.mem_of_getElem? (i := 1) (by decide +kernel))) (by decide +kernel)
theorem m_93bb879e : (.code y_Format_power b_Format_power 3 (some .int) : Cond) ∈ xt_tbl := xt_in (xt_t8 (List.mem_of_getElem? (i := 31) (by decide +kernel))) (by decide +kernel)
theorem m_113bafb3 : (.methodLink "StackHost$Format" 66 y_Format_isZero : Cond) ∈ xt_tbl := xt_in (xt_t8 (List.mem_of_getElem? (i := 69) (by decide +kernel))) (by decide +kernel)
theorem m_ac384f2f : (.instanceMethod y_Format_isZero : Cond) ∈ xt_tbl := xt_in (xt_t8 (List.mem_of_getElem? (i := 71) (by decide +kernel))) (by decide +kernel)
theorem m_7587e6d0 : (.selects "StackHost$Format" y_Format_isZero y_Format_isZero : Cond) ∈ xt_tbl := xt_in (xt_v7 (q := (⟨"StackHost$Format", "isZero", "(J)Z"⟩, 5)) (List.mem_of_getElem? (i := 6) (by decide +kernel))) (by decide +kernel)
theorem m_8c0ed8f1 : (.code y_Format_isZero b_Format_isZero 3 (some .boolean) : Cond) ∈ xt_tbl := xt_in (xt_t8 (List.mem_of_getElem? (i := 72) (by decide +kernel))) (by decide +kernel)
theorem nm_Format_signed : xt_nm y_Format_signed 2 := ⟨by decide +kernel, by decide +kernel⟩
theorem nm_Format_isAway : xt_nm y_Format_isAway 3 := ⟨by decide +kernel, by decide +kernel⟩
theorem nm_Format_power : xt_nm y_Format_power 1 := ⟨by decide +kernel, by decide +kernel⟩
theorem nm_Format_isZero : xt_nm y_Format_isZero 1 := ⟨by decide +kernel, by decide +kernel⟩
set_option maxRecDepth 100000 in
def T_Format_rounded : List (Nat × Instr × Nat) := [(0, .aload_n 0, 1), (1, .lload_n 2, 1), (2, .invokevirtual 63, 3), (5, .istore 4, 2), (7, .iload 4, 2), (9, .aload_n 0, 1), (10, .getfield 9, 3), (13, .iconst 1, 1), (14, .isub, 1), (15, .if_icmp .ge 11, 3), (18, .aload_n 0, 1), (19, .lload_n 2, 1), (20, .invokevirtual 66, 3), (23, .ifCond .eq 5, 3), (26, .lload_n 2, 1), (27, .lreturn, 1), (28, .aload_n 0, 1), (29, .lload_n 2, 1), (30, .invokevirtual 50, 3), (33, .istore 5, 2), (35, .aload_n 0, 1), (36, .lload_n 2, 1), (37, .invokevirtual 53, 3), (40, .lstore 6, 2), (42, .iload 4, 2), (44, .ifCond .ge 74, 3), (47, .iload 4, 2), (49, .iconst (-1), 1), (50, .if_icmp .ne 27, 3), (53, .lload 6, 2), (55, .aload_n 0, 1), (56, .getfield 15, 3), (59, .iconst 1, 1), (60, .isub, 1), (61, .i2l, 1), (62, .aload_n 0, 1), (63, .getfield 9, 3), (66, .iconst 1, 1), (67, .isub, 1), (68, .lshl, 1), (69, .lcmp, 1), (70, .ifCond .le 7, 3), (73, .iconst 1, 1), (74, .goto 4, 3), (77, .iconst 0, 1), (78, .istore 8, 2), (80, .iload_n 1, 1), (81, .iload 5, 2), (83, .iload 8, 2), (85, .invokestatic 69, 3), (88, .istore 9, 2), (90, .aload_n 0, 1), (91, .iload 5, 2), (93, .iload 9, 2), (95, .ifCond .eq 18, 3), (98, .aload_n 0, 1), (99, .getfield 15, 3), (102, .i2l, 1), (103, .aload_n 0, 1), (104, .getfield 9, 3), (107, .iconst 1, 1), (108, .isub, 1), (109, .lshl, 1), (110, .goto 4, 3), (113, .lconst 0, 1), (114, .invokevirtual 73, 3), (117, .lreturn, 1), (118, .aload_n 0, 1), (119, .getfield 9, 3), (122, .iconst 1, 1), (123, .isub, 1), (124, .iload 4, 2), (126, .isub, 1), (127, .istore 8, 2), (129, .lload 6, 2), (131, .lconst 1, 1), (132, .iload 8, 2), (134, .lshl, 1), (135, .lconst 1, 1), (136, .lsub, 1), (137, .land, 1), (138, .lstore 9, 2), (140, .lload 6, 2), (142, .lload 9, 2), (144, .lsub, 1), (145, .lstore 11, 2), (147, .lload 9, 2), (149, .lconst 0, 1), (150, .lcmp, 1), (151, .ifCond .ne 5, 3), (154, .lload_n 2, 1), (155, .lreturn, 1), (156, .lconst 1, 1), (157, .iload 8, 2), (159, .iconst 1, 1), (160, .isub, 1), (161, .lshl, 1), (162, .lstore 13, 2), (164, .lload 11, 2), (166, .iload 8, 2), (168, .lushr, 1), (169, .lconst 1, 1), (170, .land, 1), (171, .lconst 1, 1), (172, .lcmp, 1), (173, .ifCond .ne 7, 3), (176, .iconst 1, 1), (177, .goto 4, 3), (180, .iconst 0, 1), (181, .istore 15, 2), (183, .iload_n 1, 1), (184, .iload 5, 2), (186, .lload 9, 2), (188, .lload 13, 2), (190, .lcmp, 1), (191, .ifCond .gt 16, 3), (194, .lload 9, 2), (196, .lload 13, 2), (198, .lcmp, 1), (199, .ifCond .ne 12, 3), (202, .iload 15, 2), (204, .ifCond .eq 7, 3), (207, .iconst 1, 1), (208, .goto 4, 3), (211, .iconst 0, 1), (212, .invokestatic 69, 3), (215, .istore 16, 2), (217, .aload_n 0, 1), (218, .iload 5, 2), (220, .iload 16, 2), (222, .ifCond .eq 13, 3), (225, .lload 11, 2), (227, .lconst 1, 1), (228, .iload 8, 2), (230, .lshl, 1), (231, .ladd, 1), (232, .goto 5, 3), (235, .lload 11, 2), (237, .invokevirtual 73, 3), (240, .lreturn, 1)]
theorem D_Format_rounded : ∀ q ∈ T_Format_rounded, decode b_Format_rounded q.1 = .ok (q.2.1, q.2.2) := by decide +kernel
def w_Format_rounded_L237 (Qr : Int64 → xb_H → Prop) (y0 : Int64) (y1 : Int32) (y2 : Nat) (h : xb_H) : Prop :=
    xb_k h y2 = 6 ∧ w_Format_signed y2 y1 y0 h (fun (r3 : Int64) (h2 : xb_H) => xb_ext h h2 → Qr r3 h2)

def w_Format_rounded_L212 (Qr : Int64 → xb_H → Prop) (x0 : Nat) (x5 : Int32) (x8 : Int32) (x11 : Int64) (y0 : Int32) (y1 : Int32) (y2 : Int32) (h : xb_H) : Prop :=
    w_Format_isAway y2 y1 y0 h (fun (r2 : Int32) (h1 : xb_H) => xb_ext h h1 → ((r2 = (0 : Int32) → w_Format_rounded_L237 Qr x11 x5 x0 h1) ∧ (¬ r2 = (0 : Int32) → w_Format_rounded_L237 Qr (x11 + (xb_lshl 1 x8)) x5 x0 h1)))

def w_Format_rounded_L211 (Qr : Int64 → xb_H → Prop) (x0 : Nat) (x5 : Int32) (x8 : Int32) (x11 : Int64) (y0 : Int32) (y1 : Int32) (h : xb_H) : Prop :=
    w_Format_rounded_L212 Qr x0 x5 x8 x11 0 y0 y1 h

def w_Format_rounded_L207 (Qr : Int64 → xb_H → Prop) (x0 : Nat) (x5 : Int32) (x8 : Int32) (x11 : Int64) (y0 : Int32) (y1 : Int32) (h : xb_H) : Prop :=
    w_Format_rounded_L212 Qr x0 x5 x8 x11 1 y0 y1 h

def w_Format_rounded_L181 (Qr : Int64 → xb_H → Prop) (x0 : Nat) (x1 : Int32) (x5 : Int32) (x8 : Int32) (x9 : Int64) (x11 : Int64) (x13 : Int64) (y0 : Int32) (h : xb_H) : Prop :=
    ((x13 < x9 → w_Format_rounded_L207 Qr x0 x5 x8 x11 x5 x1 h) ∧ (¬ x13 < x9 → ((¬ x9 = x13 → w_Format_rounded_L211 Qr x0 x5 x8 x11 x5 x1 h) ∧ (x9 = x13 → ((y0 = (0 : Int32) → w_Format_rounded_L211 Qr x0 x5 x8 x11 x5 x1 h) ∧ (¬ y0 = (0 : Int32) → w_Format_rounded_L207 Qr x0 x5 x8 x11 x5 x1 h))))))

def w_Format_rounded_L114 (Qr : Int64 → xb_H → Prop) (y0 : Int64) (y1 : Int32) (y2 : Nat) (h : xb_H) : Prop :=
    xb_k h y2 = 6 ∧ w_Format_signed y2 y1 y0 h (fun (r3 : Int64) (h2 : xb_H) => xb_ext h h2 → Qr r3 h2)

def w_Format_rounded_L78 (Qr : Int64 → xb_H → Prop) (x0 : Nat) (x1 : Int32) (x5 : Int32) (y0 : Int32) (h : xb_H) : Prop :=
    w_Format_isAway x1 x5 y0 h (fun (r2 : Int32) (h1 : xb_H) => xb_ext h h1 → ((r2 = (0 : Int32) → w_Format_rounded_L114 Qr 0 x5 x0 h1) ∧ (¬ r2 = (0 : Int32) → xb_k h1 x0 = 6 ∧ w_Format_rounded_L114 Qr (xb_lshl (Int32.toInt64 (xb_i h1 x0 1)) ((xb_i h1 x0 0) - 1)) x5 x0 h1)))

def w_Format_rounded_L77 (Qr : Int64 → xb_H → Prop) (x0 : Nat) (x1 : Int32) (x5 : Int32) (h : xb_H) : Prop :=
    w_Format_rounded_L78 Qr x0 x1 x5 0 h

def w_Format_rounded_L26 (Qr : Int64 → xb_H → Prop) (x2 : Int64) (h : xb_H) : Prop :=
    Qr x2 h

def w_Format_rounded (x0 : Nat) (x1 : Int32) (x2 : Int64) (h : xb_H) (Qr : Int64 → xb_H → Prop) : Prop :=
    xb_k h x0 = 6 ∧ w_Format_power x0 x2 h (fun (r3 : Int32) (h2 : xb_H) => xb_ext h h2 → ((((xb_i h2 x0 0) - 1) ≤ r3 → w_Format_rounded_L26 Qr x2 h2) ∧ (¬ ((xb_i h2 x0 0) - 1) ≤ r3 → w_Format_isZero x0 x2 h2 (fun (r6 : Int32) (h5 : xb_H) => xb_ext h2 h5 → ((r6 = (0 : Int32) → w_Format_isNegative x0 x2 h5 (fun (r9 : Int32) (h8 : xb_H) => xb_ext h5 h8 → w_Format_magnitude x0 x2 h8 (fun (r11 : Int64) (h10 : xb_H) => xb_ext h8 h10 → (((0 : Int32) ≤ r3 → ∀ v13 : Int32, v13 = (((xb_i h10 x0 0) - 1) - r3) → ∀ v14 : Int64, v14 = (r11 &&& ((xb_lshl 1 v13) - 1)) → ∀ v15 : Int64, v15 = (r11 - v14) → ((¬ v14 = (0 : Int64) → ∀ v17 : Int64, v17 = (xb_lshl 1 (v13 - 1)) → ((¬ ((xb_lushr v15 v13) &&& 1) = (1 : Int64) → w_Format_rounded_L181 Qr x0 x1 r9 v13 v14 v15 v17 0 h10) ∧ (((xb_lushr v15 v13) &&& 1) = (1 : Int64) → w_Format_rounded_L181 Qr x0 x1 r9 v13 v14 v15 v17 1 h10))) ∧ (v14 = (0 : Int64) → Qr x2 h10))) ∧ (¬ (0 : Int32) ≤ r3 → ((¬ r3 = ((-1) : Int32) → w_Format_rounded_L77 Qr x0 x1 r9 h10) ∧ (r3 = ((-1) : Int32) → ((r11 ≤ (xb_lshl (Int32.toInt64 ((xb_i h10 x0 1) - 1)) ((xb_i h10 x0 0) - 1)) → w_Format_rounded_L77 Qr x0 x1 r9 h10) ∧ (¬ r11 ≤ (xb_lshl (Int32.toInt64 ((xb_i h10 x0 1) - 1)) ((xb_i h10 x0 0) - 1)) → w_Format_rounded_L78 Qr x0 x1 r9 1 h10))))))))) ∧ (¬ r6 = (0 : Int32) → w_Format_rounded_L26 Qr x2 h5))))))

set_option maxHeartbeats 4000000 in
set_option maxRecDepth 100000 in
theorem am_Format_rounded_L237 (l : Launch) (hfl : l.flags = pinnedFlags ++ [noTraceFlag]) (D : va_G) (A : Nat → Prop) (σ MC MS : Nat) (h0 : xb_H) (Qr : Int64 → xb_H → Prop) (y0 : Int64) (y1 : Int32) (y2 : Nat) (h : xb_H) (hw : w_Format_rounded_L237 Qr y0 y1 y2 h) : xb_am l D A σ 3 MC MS h0 (fun v h => ∃ r, v = some (.long r) ∧ Qr r h) (fun _ _ => False) y_Format_rounded.cls y_Format_rounded.name b_Format_rounded 17 ([] : List ExceptionTableEntry) (some .long) 237 [] [.long y0, .int y1, .ref y2] h 0 0 := by
  unfold w_Format_rounded_L237 at hw
  intro p e s m args below meth c hC H locs ls k n hE hl hR hS hk hn
  obtain ⟨hx, hb, hown, hlocks, htab, hml, hr, hB, hA, hnm⟩ := id hC
  have hts := hB.1.1.at args
  obtain ⟨hk1, hw⟩ := hw
  refine xb_call (D := D) (A := A) (σ := σ) (h := h) (d := 2) (mc := 0) (ms := 0) (maxL := 4) (rest := []) (av := [.ref y2, .int y1, .long y0]) (fun T hT X => by obtain ⟨cb, r1, r2, r3⟩ := xb_recv (ci := 5) hR rfl hk1 (by decide); exact xt_invV X hx hown (hts _ m_3189b10e) (hts _ m_ac70dee4) (hts _ m_6afae6d0) (xt_sigOf (hts _ m_a473a09c)) nm_Format_signed (by rw [hT]; exact r1) r2 r3 (g := F0 m 237 ls [.long y0, .int y1, .ref y2]) rfl (argsL := [.int y1, .long y0]) (rest := []) rfl rfl (by rw [hb]; exact (xb_d D_Format_rounded 138 rfl))) (ok_Format_signed l hfl D A σ y2 y1 y0 h _ hw) (hml.trans hl.1.symm) (by rw [hb]; exact (xb_d D_Format_rounded 138 rfl)) (Nat.le_of_ble_eq_true rfl) (Nat.le_of_ble_eq_true rfl) (Nat.le_of_ble_eq_true rfl) (show k + 0 ≤ MC by omega) (show n + 0 ≤ MS by omega) (xt_w1 hB.1 m_a473a09c) (xt_cdOf hB.1 m_a473a09c) (hts _ m_64857de5) hB hR hS hA (fun vv h2 H locs hq hEh2 hR hS => ?_) (fun XX ax h2 H locs hq hEh2 hex hR hS => ?_)
  · obtain ⟨r3, rfl, hw⟩ := hq
    have hw := hw hEh2
    have hE := hE.tr hEh2
    refine W.eq (g2 := F0 m 240 ls [.long r3]) rfl ?_
    exact xb_lret hx hb hr hlocks (show k ≤ MC by omega) (show n ≤ MS by omega) hE hR hS (xb_d D_Format_rounded 139 rfl) hw
  · exact False.elim hq

set_option maxHeartbeats 4000000 in
set_option maxRecDepth 100000 in
theorem am_Format_rounded_L212 (l : Launch) (hfl : l.flags = pinnedFlags ++ [noTraceFlag]) (D : va_G) (A : Nat → Prop) (σ MC MS : Nat) (h0 : xb_H) (Qr : Int64 → xb_H → Prop) (x0 : Nat) (x5 : Int32) (x8 : Int32) (x11 : Int64) (y0 : Int32) (y1 : Int32) (y2 : Int32) (h : xb_H) (hw : w_Format_rounded_L212 Qr x0 x5 x8 x11 y0 y1 y2 h) : xb_am l D A σ 3 MC MS h0 (fun v h => ∃ r, v = some (.long r) ∧ Qr r h) (fun _ _ => False) y_Format_rounded.cls y_Format_rounded.name b_Format_rounded 17 ([] : List ExceptionTableEntry) (some .long) 212 [(0, .ref x0), (5, .int x5), (8, .int x8), (11, .long x11)] [.int y0, .int y1, .int y2] h 0 0 := by
  unfold w_Format_rounded_L212 at hw
  intro p e s m args below meth c hC H locs ls k n hE hl hR hS hk hn
  obtain ⟨hx, hb, hown, hlocks, htab, hml, hr, hB, hA, hnm⟩ := id hC
  have hts := hB.1.1.at args
  refine xb_call (D := D) (A := A) (σ := σ) (h := h) (d := 2) (mc := 0) (ms := 0) (maxL := 3) (rest := []) (av := [.int y2, .int y1, .int y0]) (fun T hT X => xt_invS X hx hown (hts _ m_05bc524f) (hts _ m_2dee8f35) (hts _ m_64857de5) (xt_sgS (hts _ m_22ef44d1)).1 (xt_sgS (hts _ m_22ef44d1)).2 nm_Format_isAway (g := F0 m 212 ls [.int y0, .int y1, .int y2]) rfl (argsL := [.int y2, .int y1, .int y0]) (rest := []) rfl rfl (by rw [hb]; exact (xb_d D_Format_rounded 125 rfl))) (ok_Format_isAway l hfl D A σ y2 y1 y0 h _ hw) (hml.trans hl.1.symm) (by rw [hb]; exact (xb_d D_Format_rounded 125 rfl)) (Nat.le_of_ble_eq_true rfl) (Nat.le_of_ble_eq_true rfl) (Nat.le_of_ble_eq_true rfl) (show k + 0 ≤ MC by omega) (show n + 0 ≤ MS by omega) (xt_w1 hB.1 m_22ef44d1) (xt_cdOf hB.1 m_22ef44d1) (hts _ m_64857de5) hB hR hS hA (fun vv h1 H locs hq hEh1 hR hS => ?_) (fun XX ax h1 H locs hq hEh1 hex hR hS => ?_)
  · obtain ⟨r2, rfl, hw⟩ := hq
    have hw := hw hEh1
    have hE := hE.tr hEh1
    refine W.eq (g2 := F0 m 215 ls [.int r2]) rfl ?_
    refine lv_istore hx hb (xb_d D_Format_rounded 126 rfl) hl (by decide) rfl (fun ls hl => ?_)
    have hl : lv_has ls 17 [(16, .int r2), (0, .ref x0), (5, .int x5), (8, .int x8), (11, .long x11)] := hl
    refine lv_aload_n hx hb (xb_d D_Format_rounded 127 rfl) rfl (lv_at hl 1 rfl) ?_
    refine lv_iload hx hb (xb_d D_Format_rounded 128 rfl) (lv_at hl 2 rfl) ?_
    refine lv_iload hx hb (xb_d D_Format_rounded 129 rfl) (lv_at hl 0 rfl) ?_
    refine lv_if_eq (tgt := 235) hx hb (xb_d D_Format_rounded 130 rfl) rfl (fun hc3 => ?_) (fun hc3 => ?_)
    · have hw := hw.1 hc3
      refine lv_lload hx hb (xb_d D_Format_rounded 137 rfl) (lv_at hl 4 rfl) ?_
      exact am_Format_rounded_L237 l hfl D A σ MC MS h0 Qr x11 x5 x0 h1 hw p e s m args below meth c hC H locs ls k n hE (lv_sub hl [] rfl) hR hS (by omega) (by omega)
    · have hw := hw.2 hc3
      refine lv_lload hx hb (xb_d D_Format_rounded 131 rfl) (lv_at hl 4 rfl) ?_
      refine lv_lconst (v := 1) hx hb (xb_d D_Format_rounded 132 rfl) (by decide) ?_
      refine lv_iload hx hb (xb_d D_Format_rounded 133 rfl) (lv_at hl 3 rfl) ?_
      refine lv_lshl (v := (xb_lshl 1 x8)) hx hb (xb_d D_Format_rounded 134 rfl) rfl ?_
      refine lv_ladd hx hb (xb_d D_Format_rounded 135 rfl) ?_
      refine lv_goto (tgt := 237) hx hb (xb_d D_Format_rounded 136 rfl) rfl ?_
      exact am_Format_rounded_L237 l hfl D A σ MC MS h0 Qr (x11 + (xb_lshl 1 x8)) x5 x0 h1 hw p e s m args below meth c hC H locs ls k n hE (lv_sub hl [] rfl) hR hS (by omega) (by omega)
  · exact False.elim hq

set_option maxHeartbeats 4000000 in
set_option maxRecDepth 100000 in
theorem am_Format_rounded_L211 (l : Launch) (hfl : l.flags = pinnedFlags ++ [noTraceFlag]) (D : va_G) (A : Nat → Prop) (σ MC MS : Nat) (h0 : xb_H) (Qr : Int64 → xb_H → Prop) (x0 : Nat) (x5 : Int32) (x8 : Int32) (x11 : Int64) (y0 : Int32) (y1 : Int32) (h : xb_H) (hw : w_Format_rounded_L211 Qr x0 x5 x8 x11 y0 y1 h) : xb_am l D A σ 3 MC MS h0 (fun v h => ∃ r, v = some (.long r) ∧ Qr r h) (fun _ _ => False) y_Format_rounded.cls y_Format_rounded.name b_Format_rounded 17 ([] : List ExceptionTableEntry) (some .long) 211 [(0, .ref x0), (5, .int x5), (8, .int x8), (11, .long x11)] [.int y0, .int y1] h 0 0 := by
  unfold w_Format_rounded_L211 at hw
  intro p e s m args below meth c hC H locs ls k n hE hl hR hS hk hn
  obtain ⟨hx, hb, hown, hlocks, htab, hml, hr, hB, hA, hnm⟩ := id hC
  have hts := hB.1.1.at args
  refine lv_iconst (v := 0) hx hb (xb_d D_Format_rounded 124 rfl) (by decide) ?_
  exact am_Format_rounded_L212 l hfl D A σ MC MS h0 Qr x0 x5 x8 x11 0 y0 y1 h hw p e s m args below meth c hC H locs ls k n hE (lv_sub hl [0, 1, 2, 3] rfl) hR hS (by omega) (by omega)

set_option maxHeartbeats 4000000 in
set_option maxRecDepth 100000 in
theorem am_Format_rounded_L207 (l : Launch) (hfl : l.flags = pinnedFlags ++ [noTraceFlag]) (D : va_G) (A : Nat → Prop) (σ MC MS : Nat) (h0 : xb_H) (Qr : Int64 → xb_H → Prop) (x0 : Nat) (x5 : Int32) (x8 : Int32) (x11 : Int64) (y0 : Int32) (y1 : Int32) (h : xb_H) (hw : w_Format_rounded_L207 Qr x0 x5 x8 x11 y0 y1 h) : xb_am l D A σ 3 MC MS h0 (fun v h => ∃ r, v = some (.long r) ∧ Qr r h) (fun _ _ => False) y_Format_rounded.cls y_Format_rounded.name b_Format_rounded 17 ([] : List ExceptionTableEntry) (some .long) 207 [(0, .ref x0), (5, .int x5), (8, .int x8), (11, .long x11)] [.int y0, .int y1] h 0 0 := by
  unfold w_Format_rounded_L207 at hw
  intro p e s m args below meth c hC H locs ls k n hE hl hR hS hk hn
  obtain ⟨hx, hb, hown, hlocks, htab, hml, hr, hB, hA, hnm⟩ := id hC
  have hts := hB.1.1.at args
  refine lv_iconst (v := 1) hx hb (xb_d D_Format_rounded 122 rfl) (by decide) ?_
  refine lv_goto (tgt := 212) hx hb (xb_d D_Format_rounded 123 rfl) rfl ?_
  exact am_Format_rounded_L212 l hfl D A σ MC MS h0 Qr x0 x5 x8 x11 1 y0 y1 h hw p e s m args below meth c hC H locs ls k n hE (lv_sub hl [0, 1, 2, 3] rfl) hR hS (by omega) (by omega)

set_option maxHeartbeats 4000000 in
set_option maxRecDepth 100000 in
theorem am_Format_rounded_L181 (l : Launch) (hfl : l.flags = pinnedFlags ++ [noTraceFlag]) (D : va_G) (A : Nat → Prop) (σ MC MS : Nat) (h0 : xb_H) (Qr : Int64 → xb_H → Prop) (x0 : Nat) (x1 : Int32) (x5 : Int32) (x8 : Int32) (x9 : Int64) (x11 : Int64) (x13 : Int64) (y0 : Int32) (h : xb_H) (hw : w_Format_rounded_L181 Qr x0 x1 x5 x8 x9 x11 x13 y0 h) : xb_am l D A σ 3 MC MS h0 (fun v h => ∃ r, v = some (.long r) ∧ Qr r h) (fun _ _ => False) y_Format_rounded.cls y_Format_rounded.name b_Format_rounded 17 ([] : List ExceptionTableEntry) (some .long) 181 [(0, .ref x0), (1, .int x1), (5, .int x5), (8, .int x8), (9, .long x9), (11, .long x11), (13, .long x13)] [.int y0] h 0 0 := by
  unfold w_Format_rounded_L181 at hw
  intro p e s m args below meth c hC H locs ls k n hE hl hR hS hk hn
  obtain ⟨hx, hb, hown, hlocks, htab, hml, hr, hB, hA, hnm⟩ := id hC
  have hts := hB.1.1.at args
  refine lv_istore hx hb (xb_d D_Format_rounded 109 rfl) hl (by decide) rfl (fun ls hl => ?_)
  have hl : lv_has ls 17 [(15, .int y0), (0, .ref x0), (1, .int x1), (5, .int x5), (8, .int x8), (9, .long x9), (11, .long x11), (13, .long x13)] := hl
  refine lv_iload_n hx hb (xb_d D_Format_rounded 110 rfl) rfl (lv_at hl 2 rfl) ?_
  refine lv_iload hx hb (xb_d D_Format_rounded 111 rfl) (lv_at hl 3 rfl) ?_
  refine lv_lload hx hb (xb_d D_Format_rounded 112 rfl) (lv_at hl 5 rfl) ?_
  refine lv_lload hx hb (xb_d D_Format_rounded 113 rfl) (lv_at hl 7 rfl) ?_
  refine xb_lc_gt (tgt := 207) hx hb (xb_d D_Format_rounded 114 rfl) (xb_d D_Format_rounded 115 rfl) rfl (fun hc1 => ?_) (fun hc1 => ?_)
  · have hw := hw.1 hc1
    exact am_Format_rounded_L207 l hfl D A σ MC MS h0 Qr x0 x5 x8 x11 x5 x1 h hw p e s m args below meth c hC H locs ls k n hE (lv_sub hl [1, 3, 4, 6] rfl) hR hS (by omega) (by omega)
  · have hw := hw.2 hc1
    refine lv_lload hx hb (xb_d D_Format_rounded 116 rfl) (lv_at hl 5 rfl) ?_
    refine lv_lload hx hb (xb_d D_Format_rounded 117 rfl) (lv_at hl 7 rfl) ?_
    refine xb_lc_ne (tgt := 211) hx hb (xb_d D_Format_rounded 118 rfl) (xb_d D_Format_rounded 119 rfl) rfl (fun hc2 => ?_) (fun hc2 => ?_)
    · have hw := hw.1 hc2
      exact am_Format_rounded_L211 l hfl D A σ MC MS h0 Qr x0 x5 x8 x11 x5 x1 h hw p e s m args below meth c hC H locs ls k n hE (lv_sub hl [1, 3, 4, 6] rfl) hR hS (by omega) (by omega)
    · have hw := hw.2 hc2
      refine lv_iload hx hb (xb_d D_Format_rounded 120 rfl) (lv_at hl 0 rfl) ?_
      refine lv_if_eq (tgt := 211) hx hb (xb_d D_Format_rounded 121 rfl) rfl (fun hc3 => ?_) (fun hc3 => ?_)
      · have hw := hw.1 hc3
        exact am_Format_rounded_L211 l hfl D A σ MC MS h0 Qr x0 x5 x8 x11 x5 x1 h hw p e s m args below meth c hC H locs ls k n hE (lv_sub hl [1, 3, 4, 6] rfl) hR hS (by omega) (by omega)
      · have hw := hw.2 hc3
        exact am_Format_rounded_L207 l hfl D A σ MC MS h0 Qr x0 x5 x8 x11 x5 x1 h hw p e s m args below meth c hC H locs ls k n hE (lv_sub hl [1, 3, 4, 6] rfl) hR hS (by omega) (by omega)

set_option maxHeartbeats 4000000 in
set_option maxRecDepth 100000 in
theorem am_Format_rounded_L114 (l : Launch) (hfl : l.flags = pinnedFlags ++ [noTraceFlag]) (D : va_G) (A : Nat → Prop) (σ MC MS : Nat) (h0 : xb_H) (Qr : Int64 → xb_H → Prop) (y0 : Int64) (y1 : Int32) (y2 : Nat) (h : xb_H) (hw : w_Format_rounded_L114 Qr y0 y1 y2 h) : xb_am l D A σ 3 MC MS h0 (fun v h => ∃ r, v = some (.long r) ∧ Qr r h) (fun _ _ => False) y_Format_rounded.cls y_Format_rounded.name b_Format_rounded 17 ([] : List ExceptionTableEntry) (some .long) 114 [] [.long y0, .int y1, .ref y2] h 0 0 := by
  unfold w_Format_rounded_L114 at hw
  intro p e s m args below meth c hC H locs ls k n hE hl hR hS hk hn
  obtain ⟨hx, hb, hown, hlocks, htab, hml, hr, hB, hA, hnm⟩ := id hC
  have hts := hB.1.1.at args
  obtain ⟨hk1, hw⟩ := hw
  refine xb_call (D := D) (A := A) (σ := σ) (h := h) (d := 2) (mc := 0) (ms := 0) (maxL := 4) (rest := []) (av := [.ref y2, .int y1, .long y0]) (fun T hT X => by obtain ⟨cb, r1, r2, r3⟩ := xb_recv (ci := 5) hR rfl hk1 (by decide); exact xt_invV X hx hown (hts _ m_3189b10e) (hts _ m_ac70dee4) (hts _ m_6afae6d0) (xt_sigOf (hts _ m_a473a09c)) nm_Format_signed (by rw [hT]; exact r1) r2 r3 (g := F0 m 114 ls [.long y0, .int y1, .ref y2]) rfl (argsL := [.int y1, .long y0]) (rest := []) rfl rfl (by rw [hb]; exact (xb_d D_Format_rounded 65 rfl))) (ok_Format_signed l hfl D A σ y2 y1 y0 h _ hw) (hml.trans hl.1.symm) (by rw [hb]; exact (xb_d D_Format_rounded 65 rfl)) (Nat.le_of_ble_eq_true rfl) (Nat.le_of_ble_eq_true rfl) (Nat.le_of_ble_eq_true rfl) (show k + 0 ≤ MC by omega) (show n + 0 ≤ MS by omega) (xt_w1 hB.1 m_a473a09c) (xt_cdOf hB.1 m_a473a09c) (hts _ m_64857de5) hB hR hS hA (fun vv h2 H locs hq hEh2 hR hS => ?_) (fun XX ax h2 H locs hq hEh2 hex hR hS => ?_)
  · obtain ⟨r3, rfl, hw⟩ := hq
    have hw := hw hEh2
    have hE := hE.tr hEh2
    refine W.eq (g2 := F0 m 117 ls [.long r3]) rfl ?_
    exact xb_lret hx hb hr hlocks (show k ≤ MC by omega) (show n ≤ MS by omega) hE hR hS (xb_d D_Format_rounded 66 rfl) hw
  · exact False.elim hq

set_option maxHeartbeats 4000000 in
set_option maxRecDepth 100000 in
theorem am_Format_rounded_L78 (l : Launch) (hfl : l.flags = pinnedFlags ++ [noTraceFlag]) (D : va_G) (A : Nat → Prop) (σ MC MS : Nat) (h0 : xb_H) (Qr : Int64 → xb_H → Prop) (x0 : Nat) (x1 : Int32) (x5 : Int32) (y0 : Int32) (h : xb_H) (hw : w_Format_rounded_L78 Qr x0 x1 x5 y0 h) : xb_am l D A σ 3 MC MS h0 (fun v h => ∃ r, v = some (.long r) ∧ Qr r h) (fun _ _ => False) y_Format_rounded.cls y_Format_rounded.name b_Format_rounded 17 ([] : List ExceptionTableEntry) (some .long) 78 [(0, .ref x0), (1, .int x1), (5, .int x5)] [.int y0] h 0 0 := by
  unfold w_Format_rounded_L78 at hw
  intro p e s m args below meth c hC H locs ls k n hE hl hR hS hk hn
  obtain ⟨hx, hb, hown, hlocks, htab, hml, hr, hB, hA, hnm⟩ := id hC
  have hts := hB.1.1.at args
  refine lv_istore hx hb (xb_d D_Format_rounded 45 rfl) hl (by decide) rfl (fun ls hl => ?_)
  have hl : lv_has ls 17 [(8, .int y0), (0, .ref x0), (1, .int x1), (5, .int x5)] := hl
  refine lv_iload_n hx hb (xb_d D_Format_rounded 46 rfl) rfl (lv_at hl 2 rfl) ?_
  refine lv_iload hx hb (xb_d D_Format_rounded 47 rfl) (lv_at hl 3 rfl) ?_
  refine lv_iload hx hb (xb_d D_Format_rounded 48 rfl) (lv_at hl 0 rfl) ?_
  refine xb_call (D := D) (A := A) (σ := σ) (h := h) (d := 2) (mc := 0) (ms := 0) (maxL := 3) (rest := []) (av := [.int x1, .int x5, .int y0]) (fun T hT X => xt_invS X hx hown (hts _ m_05bc524f) (hts _ m_2dee8f35) (hts _ m_64857de5) (xt_sgS (hts _ m_22ef44d1)).1 (xt_sgS (hts _ m_22ef44d1)).2 nm_Format_isAway (g := F0 m 85 ls [.int y0, .int x5, .int x1]) rfl (argsL := [.int x1, .int x5, .int y0]) (rest := []) rfl rfl (by rw [hb]; exact (xb_d D_Format_rounded 49 rfl))) (ok_Format_isAway l hfl D A σ x1 x5 y0 h _ hw) (hml.trans hl.1.symm) (by rw [hb]; exact (xb_d D_Format_rounded 49 rfl)) (Nat.le_of_ble_eq_true rfl) (Nat.le_of_ble_eq_true rfl) (Nat.le_of_ble_eq_true rfl) (show k + 0 ≤ MC by omega) (show n + 0 ≤ MS by omega) (xt_w1 hB.1 m_22ef44d1) (xt_cdOf hB.1 m_22ef44d1) (hts _ m_64857de5) hB hR hS hA (fun vv h1 H locs hq hEh1 hR hS => ?_) (fun XX ax h1 H locs hq hEh1 hex hR hS => ?_)
  · obtain ⟨r2, rfl, hw⟩ := hq
    have hw := hw hEh1
    have hE := hE.tr hEh1
    refine W.eq (g2 := F0 m 88 ls [.int r2]) rfl ?_
    refine lv_istore hx hb (xb_d D_Format_rounded 50 rfl) hl (by decide) rfl (fun ls hl => ?_)
    have hl : lv_has ls 17 [(9, .int r2), (8, .int y0), (0, .ref x0), (1, .int x1), (5, .int x5)] := hl
    refine lv_aload_n hx hb (xb_d D_Format_rounded 51 rfl) rfl (lv_at hl 2 rfl) ?_
    refine lv_iload hx hb (xb_d D_Format_rounded 52 rfl) (lv_at hl 4 rfl) ?_
    refine lv_iload hx hb (xb_d D_Format_rounded 53 rfl) (lv_at hl 0 rfl) ?_
    refine lv_if_eq (tgt := 113) hx hb (xb_d D_Format_rounded 54 rfl) rfl (fun hc3 => ?_) (fun hc3 => ?_)
    · have hw := hw.1 hc3
      refine lv_lconst (v := 0) hx hb (xb_d D_Format_rounded 64 rfl) (by decide) ?_
      exact am_Format_rounded_L114 l hfl D A σ MC MS h0 Qr 0 x5 x0 h1 hw p e s m args below meth c hC H locs ls k n hE (lv_sub hl [] rfl) hR hS (by omega) (by omega)
    · have hw := hw.2 hc3
      refine lv_aload_n hx hb (xb_d D_Format_rounded 55 rfl) rfl (lv_at hl 2 rfl) ?_
      obtain ⟨hk4, hw⟩ := hw
      refine xb_getI (C := R_Format) (T := F_Format) (N := 5) hx hb 5 1 hts fin_Format hown hR hk4 (by decide) rfl (by decide) rfl (hts _ m_a74735c5) (fun _ h9 => h9) (xb_d D_Format_rounded 56 rfl) ?_
      refine lv_i2l hx hb (xb_d D_Format_rounded 57 rfl) rfl ?_
      refine lv_aload_n hx hb (xb_d D_Format_rounded 58 rfl) rfl (lv_at hl 2 rfl) ?_
      refine xb_getI (C := R_Format) (T := F_Format) (N := 5) hx hb 5 0 hts fin_Format hown hR hk4 (by decide) rfl (by decide) rfl (hts _ m_019aecde) (fun _ h9 => h9) (xb_d D_Format_rounded 59 rfl) ?_
      refine lv_iconst (v := 1) hx hb (xb_d D_Format_rounded 60 rfl) (by decide) ?_
      refine lv_isub hx hb (xb_d D_Format_rounded 61 rfl) ?_
      refine lv_lshl (v := (xb_lshl (Int32.toInt64 (xb_i h1 x0 1)) ((xb_i h1 x0 0) - 1))) hx hb (xb_d D_Format_rounded 62 rfl) rfl ?_
      refine lv_goto (tgt := 114) hx hb (xb_d D_Format_rounded 63 rfl) rfl ?_
      exact am_Format_rounded_L114 l hfl D A σ MC MS h0 Qr (xb_lshl (Int32.toInt64 (xb_i h1 x0 1)) ((xb_i h1 x0 0) - 1)) x5 x0 h1 hw p e s m args below meth c hC H locs ls k n hE (lv_sub hl [] rfl) hR hS (by omega) (by omega)
  · exact False.elim hq

set_option maxHeartbeats 4000000 in
set_option maxRecDepth 100000 in
theorem am_Format_rounded_L77 (l : Launch) (hfl : l.flags = pinnedFlags ++ [noTraceFlag]) (D : va_G) (A : Nat → Prop) (σ MC MS : Nat) (h0 : xb_H) (Qr : Int64 → xb_H → Prop) (x0 : Nat) (x1 : Int32) (x5 : Int32) (h : xb_H) (hw : w_Format_rounded_L77 Qr x0 x1 x5 h) : xb_am l D A σ 3 MC MS h0 (fun v h => ∃ r, v = some (.long r) ∧ Qr r h) (fun _ _ => False) y_Format_rounded.cls y_Format_rounded.name b_Format_rounded 17 ([] : List ExceptionTableEntry) (some .long) 77 [(0, .ref x0), (1, .int x1), (5, .int x5)] [] h 0 0 := by
  unfold w_Format_rounded_L77 at hw
  intro p e s m args below meth c hC H locs ls k n hE hl hR hS hk hn
  obtain ⟨hx, hb, hown, hlocks, htab, hml, hr, hB, hA, hnm⟩ := id hC
  have hts := hB.1.1.at args
  refine lv_iconst (v := 0) hx hb (xb_d D_Format_rounded 44 rfl) (by decide) ?_
  exact am_Format_rounded_L78 l hfl D A σ MC MS h0 Qr x0 x1 x5 0 h hw p e s m args below meth c hC H locs ls k n hE (lv_sub hl [0, 1, 2] rfl) hR hS (by omega) (by omega)

set_option maxHeartbeats 4000000 in
set_option maxRecDepth 100000 in
theorem am_Format_rounded_L26 (l : Launch) (hfl : l.flags = pinnedFlags ++ [noTraceFlag]) (D : va_G) (A : Nat → Prop) (σ MC MS : Nat) (h0 : xb_H) (Qr : Int64 → xb_H → Prop) (x2 : Int64) (h : xb_H) (hw : w_Format_rounded_L26 Qr x2 h) : xb_am l D A σ 3 MC MS h0 (fun v h => ∃ r, v = some (.long r) ∧ Qr r h) (fun _ _ => False) y_Format_rounded.cls y_Format_rounded.name b_Format_rounded 17 ([] : List ExceptionTableEntry) (some .long) 26 [(2, .long x2)] [] h 0 0 := by
  unfold w_Format_rounded_L26 at hw
  intro p e s m args below meth c hC H locs ls k n hE hl hR hS hk hn
  obtain ⟨hx, hb, hown, hlocks, htab, hml, hr, hB, hA, hnm⟩ := id hC
  have hts := hB.1.1.at args
  refine lv_lload_n hx hb (xb_d D_Format_rounded 14 rfl) rfl (lv_at hl 0 rfl) ?_
  exact xb_lret hx hb hr hlocks (show k ≤ MC by omega) (show n ≤ MS by omega) hE hR hS (xb_d D_Format_rounded 15 rfl) hw

set_option maxHeartbeats 4000000 in
set_option maxRecDepth 100000 in
theorem ok_Format_rounded (l : Launch) (hfl : l.flags = pinnedFlags ++ [noTraceFlag]) (D : va_G) (A : Nat → Prop) (σ : Nat) (x0 : Nat) (x1 : Int32) (x2 : Int64) (h : xb_H) (Qr : Int64 → xb_H → Prop) (hw : w_Format_rounded x0 x1 x2 h Qr) : xt_Met l y_Format_rounded [.code y_Format_rounded b_Format_rounded 17 (some .long)] (xb_rm 3 0 0) (xb_Pc D A σ h [.ref x0, .int x1, .long x2]) (xb_Qc D A h (fun v h => ∃ r, v = some (.long r) ∧ Qr r h) (fun _ _ => False)) 0 0 A := by
  refine xb_ofAm (cc := b_Format_rounded) (by decide) (Nat.le_of_ble_eq_true rfl) ?_
  unfold w_Format_rounded at hw
  show xb_am l D A σ 3 0 0 h (fun v h => ∃ r, v = some (.long r) ∧ Qr r h) (fun _ _ => False) y_Format_rounded.cls y_Format_rounded.name b_Format_rounded 17 ([] : List ExceptionTableEntry) (some .long) 0 [(0, .ref x0), (1, .int x1), (2, .long x2)] [] h 0 0
  obtain ⟨MC, hMC⟩ : ∃ x, x = 0 := ⟨_, rfl⟩
  obtain ⟨MS, hMS⟩ : ∃ x, x = 0 := ⟨_, rfl⟩
  rw [show xb_am l D A σ 3 0 0 = xb_am l D A σ 3 MC MS by rw [hMC, hMS]]
  obtain ⟨h0, hh0⟩ : ∃ x, x = h := ⟨_, rfl⟩
  rw [show xb_am l D A σ 3 MC MS h = xb_am l D A σ 3 MC MS h0 by rw [hh0]]
  intro p e s m args below meth c hC H locs ls k n hE hl hR hS hk hn
  obtain ⟨hx, hb, hown, hlocks, htab, hml, hr, hB, hA, hnm⟩ := id hC
  have hts := hB.1.1.at args
  refine lv_aload_n hx hb (xb_d D_Format_rounded 0 rfl) rfl (lv_at hl 0 rfl) ?_
  refine lv_lload_n hx hb (xb_d D_Format_rounded 1 rfl) rfl (lv_at hl 2 rfl) ?_
  obtain ⟨hk1, hw⟩ := hw
  refine xb_call (D := D) (A := A) (σ := σ) (h := h) (d := 2) (mc := 0) (ms := 0) (maxL := 3) (rest := []) (av := [.ref x0, .long x2]) (fun T hT X => by obtain ⟨cb, r1, r2, r3⟩ := xb_recv (ci := 5) hR rfl hk1 (by decide); exact xt_invV X hx hown (hts _ m_790c0ce9) (hts _ m_493d47bb) (hts _ m_ec26896d) (xt_sigOf (hts _ m_93bb879e)) nm_Format_power (by rw [hT]; exact r1) r2 r3 (g := F0 m 2 ls [.long x2, .ref x0]) rfl (argsL := [.long x2]) (rest := []) rfl rfl (by rw [hb]; exact (xb_d D_Format_rounded 2 rfl))) (ok_Format_power l hfl D A σ x0 x2 h _ hw) (hml.trans hl.1.symm) (by rw [hb]; exact (xb_d D_Format_rounded 2 rfl)) (Nat.le_of_ble_eq_true rfl) (Nat.le_of_ble_eq_true rfl) (Nat.le_of_ble_eq_true rfl) (show k + 0 ≤ MC by omega) (show n + 0 ≤ MS by omega) (xt_w1 hB.1 m_93bb879e) (xt_cdOf hB.1 m_93bb879e) (hts _ m_64857de5) hB hR hS hA (fun vv h2 H locs hq hEh2 hR hS => ?_) (fun XX ax h2 H locs hq hEh2 hex hR hS => ?_)
  · obtain ⟨r3, rfl, hw⟩ := hq
    have hw := hw hEh2
    have hE := hE.tr hEh2
    refine W.eq (g2 := F0 m 5 ls [.int r3]) rfl ?_
    refine lv_istore hx hb (xb_d D_Format_rounded 3 rfl) hl (by decide) rfl (fun ls hl => ?_)
    have hl : lv_has ls 17 [(4, .int r3), (0, .ref x0), (1, .int x1), (2, .long x2)] := hl
    refine lv_iload hx hb (xb_d D_Format_rounded 4 rfl) (lv_at hl 0 rfl) ?_
    refine lv_aload_n hx hb (xb_d D_Format_rounded 5 rfl) rfl (lv_at hl 1 rfl) ?_
    have hk1 : xb_k h2 x0 = 6 := hEh2.k hk1
    refine xb_getI (C := R_Format) (T := F_Format) (N := 5) hx hb 5 0 hts fin_Format hown hR hk1 (by decide) rfl (by decide) rfl (hts _ m_019aecde) (fun _ h9 => h9) (xb_d D_Format_rounded 6 rfl) ?_
    refine lv_iconst (v := 1) hx hb (xb_d D_Format_rounded 7 rfl) (by decide) ?_
    refine lv_isub hx hb (xb_d D_Format_rounded 8 rfl) ?_
    refine lv_icmp_ge (tgt := 26) hx hb (xb_d D_Format_rounded 9 rfl) rfl (fun hc4 => ?_) (fun hc4 => ?_)
    · have hw := hw.1 hc4
      exact am_Format_rounded_L26 l hfl D A σ MC MS h0 Qr x2 h2 hw p e s m args below meth c hC H locs ls k n hE (lv_sub hl [3] rfl) hR hS (by omega) (by omega)
    · have hw := hw.2 hc4
      refine lv_aload_n hx hb (xb_d D_Format_rounded 10 rfl) rfl (lv_at hl 1 rfl) ?_
      refine lv_lload_n hx hb (xb_d D_Format_rounded 11 rfl) rfl (lv_at hl 3 rfl) ?_
      refine xb_call (D := D) (A := A) (σ := σ) (h := h2) (d := 2) (mc := 0) (ms := 0) (maxL := 3) (rest := []) (av := [.ref x0, .long x2]) (fun T hT X => by obtain ⟨cb, r1, r2, r3⟩ := xb_recv (ci := 5) hR rfl hk1 (by decide); exact xt_invV X hx hown (hts _ m_113bafb3) (hts _ m_ac384f2f) (hts _ m_7587e6d0) (xt_sigOf (hts _ m_8c0ed8f1)) nm_Format_isZero (by rw [hT]; exact r1) r2 r3 (g := F0 m 20 ls [.long x2, .ref x0]) rfl (argsL := [.long x2]) (rest := []) rfl rfl (by rw [hb]; exact (xb_d D_Format_rounded 12 rfl))) (ok_Format_isZero l hfl D A σ x0 x2 h2 _ hw) (hml.trans hl.1.symm) (by rw [hb]; exact (xb_d D_Format_rounded 12 rfl)) (Nat.le_of_ble_eq_true rfl) (Nat.le_of_ble_eq_true rfl) (Nat.le_of_ble_eq_true rfl) (show k + 0 ≤ MC by omega) (show n + 0 ≤ MS by omega) (xt_w1 hB.1 m_8c0ed8f1) (xt_cdOf hB.1 m_8c0ed8f1) (hts _ m_64857de5) hB hR hS hA (fun vv h5 H locs hq hEh5 hR hS => ?_) (fun XX ax h5 H locs hq hEh5 hex hR hS => ?_)
      · obtain ⟨r6, rfl, hw⟩ := hq
        have hw := hw hEh5
        have hE := hE.tr hEh5
        refine W.eq (g2 := F0 m 23 ls [.int r6]) rfl ?_
        refine lv_if_eq (tgt := 28) hx hb (xb_d D_Format_rounded 13 rfl) rfl (fun hc7 => ?_) (fun hc7 => ?_)
        · have hw := hw.1 hc7
          refine lv_aload_n hx hb (xb_d D_Format_rounded 16 rfl) rfl (lv_at hl 1 rfl) ?_
          refine lv_lload_n hx hb (xb_d D_Format_rounded 17 rfl) rfl (lv_at hl 3 rfl) ?_
          have hk1 : xb_k h5 x0 = 6 := hEh5.k hk1
          refine xb_call (D := D) (A := A) (σ := σ) (h := h5) (d := 2) (mc := 0) (ms := 0) (maxL := 3) (rest := []) (av := [.ref x0, .long x2]) (fun T hT X => by obtain ⟨cb, r1, r2, r3⟩ := xb_recv (ci := 5) hR rfl hk1 (by decide); exact xt_invV X hx hown (hts _ m_e7046197) (hts _ m_9e016368) (hts _ m_42f2e51b) (xt_sigOf (hts _ m_6ee44111)) nm_Format_isNegative (by rw [hT]; exact r1) r2 r3 (g := F0 m 30 ls [.long x2, .ref x0]) rfl (argsL := [.long x2]) (rest := []) rfl rfl (by rw [hb]; exact (xb_d D_Format_rounded 18 rfl))) (ok_Format_isNegative l hfl D A σ x0 x2 h5 _ hw) (hml.trans hl.1.symm) (by rw [hb]; exact (xb_d D_Format_rounded 18 rfl)) (Nat.le_of_ble_eq_true rfl) (Nat.le_of_ble_eq_true rfl) (Nat.le_of_ble_eq_true rfl) (show k + 0 ≤ MC by omega) (show n + 0 ≤ MS by omega) (xt_w1 hB.1 m_6ee44111) (xt_cdOf hB.1 m_6ee44111) (hts _ m_64857de5) hB hR hS hA (fun vv h8 H locs hq hEh8 hR hS => ?_) (fun XX ax h8 H locs hq hEh8 hex hR hS => ?_)
          · obtain ⟨r9, rfl, hw⟩ := hq
            have hw := hw hEh8
            have hE := hE.tr hEh8
            refine W.eq (g2 := F0 m 33 ls [.int r9]) rfl ?_
            refine lv_istore hx hb (xb_d D_Format_rounded 19 rfl) hl (by decide) rfl (fun ls hl => ?_)
            have hl : lv_has ls 17 [(5, .int r9), (4, .int r3), (0, .ref x0), (1, .int x1), (2, .long x2)] := hl
            refine lv_aload_n hx hb (xb_d D_Format_rounded 20 rfl) rfl (lv_at hl 2 rfl) ?_
            refine lv_lload_n hx hb (xb_d D_Format_rounded 21 rfl) rfl (lv_at hl 4 rfl) ?_
            have hk1 : xb_k h8 x0 = 6 := hEh8.k hk1
            refine xb_call (D := D) (A := A) (σ := σ) (h := h8) (d := 2) (mc := 0) (ms := 0) (maxL := 3) (rest := []) (av := [.ref x0, .long x2]) (fun T hT X => by obtain ⟨cb, r1, r2, r3⟩ := xb_recv (ci := 5) hR rfl hk1 (by decide); exact xt_invV X hx hown (hts _ m_d2fcf5e9) (hts _ m_9ed8050f) (hts _ m_945e3e7d) (xt_sigOf (hts _ m_08158875)) nm_Format_magnitude (by rw [hT]; exact r1) r2 r3 (g := F0 m 37 ls [.long x2, .ref x0]) rfl (argsL := [.long x2]) (rest := []) rfl rfl (by rw [hb]; exact (xb_d D_Format_rounded 22 rfl))) (ok_Format_magnitude l hfl D A σ x0 x2 h8 _ hw) (hml.trans hl.1.symm) (by rw [hb]; exact (xb_d D_Format_rounded 22 rfl)) (Nat.le_of_ble_eq_true rfl) (Nat.le_of_ble_eq_true rfl) (Nat.le_of_ble_eq_true rfl) (show k + 0 ≤ MC by omega) (show n + 0 ≤ MS by omega) (xt_w1 hB.1 m_08158875) (xt_cdOf hB.1 m_08158875) (hts _ m_64857de5) hB hR hS hA (fun vv h10 H locs hq hEh10 hR hS => ?_) (fun XX ax h10 H locs hq hEh10 hex hR hS => ?_)
            · obtain ⟨r11, rfl, hw⟩ := hq
              have hw := hw hEh10
              have hE := hE.tr hEh10
              refine W.eq (g2 := F0 m 40 ls [.long r11]) rfl ?_
              refine lv_lstore hx hb (xb_d D_Format_rounded 23 rfl) hl (by decide) rfl (fun ls hl => ?_)
              have hl : lv_has ls 17 [(6, .long r11), (5, .int r9), (4, .int r3), (0, .ref x0), (1, .int x1), (2, .long x2)] := hl
              refine lv_iload hx hb (xb_d D_Format_rounded 24 rfl) (lv_at hl 2 rfl) ?_
              refine lv_if_ge (tgt := 118) hx hb (xb_d D_Format_rounded 25 rfl) rfl (fun hc12 => ?_) (fun hc12 => ?_)
              · have hw := hw.1 hc12
                refine lv_aload_n hx hb (xb_d D_Format_rounded 67 rfl) rfl (lv_at hl 3 rfl) ?_
                have hk1 : xb_k h10 x0 = 6 := hEh10.k hk1
                refine xb_getI (C := R_Format) (T := F_Format) (N := 5) hx hb 5 0 hts fin_Format hown hR hk1 (by decide) rfl (by decide) rfl (hts _ m_019aecde) (fun _ h9 => h9) (xb_d D_Format_rounded 68 rfl) ?_
                refine lv_iconst (v := 1) hx hb (xb_d D_Format_rounded 69 rfl) (by decide) ?_
                refine lv_isub hx hb (xb_d D_Format_rounded 70 rfl) ?_
                refine lv_iload hx hb (xb_d D_Format_rounded 71 rfl) (lv_at hl 2 rfl) ?_
                refine lv_isub hx hb (xb_d D_Format_rounded 72 rfl) ?_
                obtain ⟨v13, ev13⟩ : ∃ x : Int32, x = (((xb_i h10 x0 0) - 1) - r3) := ⟨_, rfl⟩
                have hw := hw v13 ev13
                refine xt_numi (y := v13) ev13.symm ?_
                refine lv_istore hx hb (xb_d D_Format_rounded 73 rfl) hl (by decide) rfl (fun ls hl => ?_)
                have hl : lv_has ls 17 [(8, .int v13), (6, .long r11), (5, .int r9), (4, .int r3), (0, .ref x0), (1, .int x1), (2, .long x2)] := hl
                refine lv_lload hx hb (xb_d D_Format_rounded 74 rfl) (lv_at hl 1 rfl) ?_
                refine lv_lconst (v := 1) hx hb (xb_d D_Format_rounded 75 rfl) (by decide) ?_
                refine lv_iload hx hb (xb_d D_Format_rounded 76 rfl) (lv_at hl 0 rfl) ?_
                refine lv_lshl (v := (xb_lshl 1 v13)) hx hb (xb_d D_Format_rounded 77 rfl) rfl ?_
                refine lv_lconst (v := 1) hx hb (xb_d D_Format_rounded 78 rfl) (by decide) ?_
                refine lv_lsub hx hb (xb_d D_Format_rounded 79 rfl) ?_
                refine lv_land hx hb (xb_d D_Format_rounded 80 rfl) ?_
                obtain ⟨v14, ev14⟩ : ∃ x : Int64, x = (r11 &&& ((xb_lshl 1 v13) - 1)) := ⟨_, rfl⟩
                have hw := hw v14 ev14
                refine xt_numl (y := v14) ev14.symm ?_
                refine lv_lstore hx hb (xb_d D_Format_rounded 81 rfl) hl (by decide) rfl (fun ls hl => ?_)
                have hl : lv_has ls 17 [(9, .long v14), (8, .int v13), (6, .long r11), (5, .int r9), (4, .int r3), (0, .ref x0), (1, .int x1), (2, .long x2)] := hl
                refine lv_lload hx hb (xb_d D_Format_rounded 82 rfl) (lv_at hl 2 rfl) ?_
                refine lv_lload hx hb (xb_d D_Format_rounded 83 rfl) (lv_at hl 0 rfl) ?_
                refine lv_lsub hx hb (xb_d D_Format_rounded 84 rfl) ?_
                obtain ⟨v15, ev15⟩ : ∃ x : Int64, x = (r11 - v14) := ⟨_, rfl⟩
                have hw := hw v15 ev15
                refine xt_numl (y := v15) ev15.symm ?_
                refine lv_lstore hx hb (xb_d D_Format_rounded 85 rfl) hl (by decide) rfl (fun ls hl => ?_)
                have hl : lv_has ls 17 [(11, .long v15), (9, .long v14), (8, .int v13), (6, .long r11), (5, .int r9), (4, .int r3), (0, .ref x0), (1, .int x1), (2, .long x2)] := hl
                refine lv_lload hx hb (xb_d D_Format_rounded 86 rfl) (lv_at hl 1 rfl) ?_
                refine lv_lconst (v := 0) hx hb (xb_d D_Format_rounded 87 rfl) (by decide) ?_
                refine xb_lc_ne (tgt := 156) hx hb (xb_d D_Format_rounded 88 rfl) (xb_d D_Format_rounded 89 rfl) rfl (fun hc16 => ?_) (fun hc16 => ?_)
                · have hw := hw.1 hc16
                  refine lv_lconst (v := 1) hx hb (xb_d D_Format_rounded 92 rfl) (by decide) ?_
                  refine lv_iload hx hb (xb_d D_Format_rounded 93 rfl) (lv_at hl 2 rfl) ?_
                  refine lv_iconst (v := 1) hx hb (xb_d D_Format_rounded 94 rfl) (by decide) ?_
                  refine lv_isub hx hb (xb_d D_Format_rounded 95 rfl) ?_
                  refine lv_lshl (v := (xb_lshl 1 (v13 - 1))) hx hb (xb_d D_Format_rounded 96 rfl) rfl ?_
                  obtain ⟨v17, ev17⟩ : ∃ x : Int64, x = (xb_lshl 1 (v13 - 1)) := ⟨_, rfl⟩
                  have hw := hw v17 ev17
                  refine xt_numl (y := v17) ev17.symm ?_
                  refine lv_lstore hx hb (xb_d D_Format_rounded 97 rfl) hl (by decide) rfl (fun ls hl => ?_)
                  have hl : lv_has ls 17 [(13, .long v17), (11, .long v15), (9, .long v14), (8, .int v13), (6, .long r11), (5, .int r9), (4, .int r3), (0, .ref x0), (1, .int x1), (2, .long x2)] := hl
                  refine lv_lload hx hb (xb_d D_Format_rounded 98 rfl) (lv_at hl 1 rfl) ?_
                  refine lv_iload hx hb (xb_d D_Format_rounded 99 rfl) (lv_at hl 3 rfl) ?_
                  refine lv_lushr (v := (xb_lushr v15 v13)) hx hb (xb_d D_Format_rounded 100 rfl) rfl ?_
                  refine lv_lconst (v := 1) hx hb (xb_d D_Format_rounded 101 rfl) (by decide) ?_
                  refine lv_land hx hb (xb_d D_Format_rounded 102 rfl) ?_
                  refine lv_lconst (v := 1) hx hb (xb_d D_Format_rounded 103 rfl) (by decide) ?_
                  refine xb_lc_ne (tgt := 180) hx hb (xb_d D_Format_rounded 104 rfl) (xb_d D_Format_rounded 105 rfl) rfl (fun hc18 => ?_) (fun hc18 => ?_)
                  · have hw := hw.1 hc18
                    refine lv_iconst (v := 0) hx hb (xb_d D_Format_rounded 108 rfl) (by decide) ?_
                    exact am_Format_rounded_L181 l hfl D A σ MC MS h0 Qr x0 x1 r9 v13 v14 v15 v17 0 h10 hw p e s m args below meth c hC H locs ls k n hE (lv_sub hl [7, 8, 5, 3, 2, 1, 0] rfl) hR hS (by omega) (by omega)
                  · have hw := hw.2 hc18
                    refine lv_iconst (v := 1) hx hb (xb_d D_Format_rounded 106 rfl) (by decide) ?_
                    refine lv_goto (tgt := 181) hx hb (xb_d D_Format_rounded 107 rfl) rfl ?_
                    exact am_Format_rounded_L181 l hfl D A σ MC MS h0 Qr x0 x1 r9 v13 v14 v15 v17 1 h10 hw p e s m args below meth c hC H locs ls k n hE (lv_sub hl [7, 8, 5, 3, 2, 1, 0] rfl) hR hS (by omega) (by omega)
                · have hw := hw.2 hc16
                  refine lv_lload_n hx hb (xb_d D_Format_rounded 90 rfl) rfl (lv_at hl 8 rfl) ?_
                  exact xb_lret hx hb hr hlocks (show k ≤ MC by omega) (show n ≤ MS by omega) hE hR hS (xb_d D_Format_rounded 91 rfl) hw
              · have hw := hw.2 hc12
                refine lv_iload hx hb (xb_d D_Format_rounded 26 rfl) (lv_at hl 2 rfl) ?_
                refine lv_iconst (v := (-1)) hx hb (xb_d D_Format_rounded 27 rfl) (by decide) ?_
                refine lv_icmp_ne (tgt := 77) hx hb (xb_d D_Format_rounded 28 rfl) rfl (fun hc19 => ?_) (fun hc19 => ?_)
                · have hw := hw.1 hc19
                  exact am_Format_rounded_L77 l hfl D A σ MC MS h0 Qr x0 x1 r9 h10 hw p e s m args below meth c hC H locs ls k n hE (lv_sub hl [3, 4, 1] rfl) hR hS (by omega) (by omega)
                · have hw := hw.2 hc19
                  refine lv_lload hx hb (xb_d D_Format_rounded 29 rfl) (lv_at hl 0 rfl) ?_
                  refine lv_aload_n hx hb (xb_d D_Format_rounded 30 rfl) rfl (lv_at hl 3 rfl) ?_
                  have hk1 : xb_k h10 x0 = 6 := hEh10.k hk1
                  refine xb_getI (C := R_Format) (T := F_Format) (N := 5) hx hb 5 1 hts fin_Format hown hR hk1 (by decide) rfl (by decide) rfl (hts _ m_a74735c5) (fun _ h9 => h9) (xb_d D_Format_rounded 31 rfl) ?_
                  refine lv_iconst (v := 1) hx hb (xb_d D_Format_rounded 32 rfl) (by decide) ?_
                  refine lv_isub hx hb (xb_d D_Format_rounded 33 rfl) ?_
                  refine lv_i2l hx hb (xb_d D_Format_rounded 34 rfl) rfl ?_
                  refine lv_aload_n hx hb (xb_d D_Format_rounded 35 rfl) rfl (lv_at hl 3 rfl) ?_
                  refine xb_getI (C := R_Format) (T := F_Format) (N := 5) hx hb 5 0 hts fin_Format hown hR hk1 (by decide) rfl (by decide) rfl (hts _ m_019aecde) (fun _ h9 => h9) (xb_d D_Format_rounded 36 rfl) ?_
                  refine lv_iconst (v := 1) hx hb (xb_d D_Format_rounded 37 rfl) (by decide) ?_
                  refine lv_isub hx hb (xb_d D_Format_rounded 38 rfl) ?_
                  refine lv_lshl (v := (xb_lshl (Int32.toInt64 ((xb_i h10 x0 1) - 1)) ((xb_i h10 x0 0) - 1))) hx hb (xb_d D_Format_rounded 39 rfl) rfl ?_
                  refine xb_lc_le (tgt := 77) hx hb (xb_d D_Format_rounded 40 rfl) (xb_d D_Format_rounded 41 rfl) rfl (fun hc20 => ?_) (fun hc20 => ?_)
                  · have hw := hw.1 hc20
                    exact am_Format_rounded_L77 l hfl D A σ MC MS h0 Qr x0 x1 r9 h10 hw p e s m args below meth c hC H locs ls k n hE (lv_sub hl [3, 4, 1] rfl) hR hS (by omega) (by omega)
                  · have hw := hw.2 hc20
                    refine lv_iconst (v := 1) hx hb (xb_d D_Format_rounded 42 rfl) (by decide) ?_
                    refine lv_goto (tgt := 78) hx hb (xb_d D_Format_rounded 43 rfl) rfl ?_
                    exact am_Format_rounded_L78 l hfl D A σ MC MS h0 Qr x0 x1 r9 1 h10 hw p e s m args below meth c hC H locs ls k n hE (lv_sub hl [3, 4, 1] rfl) hR hS (by omega) (by omega)
            · exact False.elim hq
          · exact False.elim hq
        · have hw := hw.2 hc7
          exact am_Format_rounded_L26 l hfl D A σ MC MS h0 Qr x2 h5 hw p e s m args below meth c hC H locs ls k n hE (lv_sub hl [3] rfl) hR hS (by omega) (by omega)
      · exact False.elim hq
  · exact False.elim hq

theorem m_da28b66e : (.methodLink "StackHost$Format" 77 y_Format_isInfinite : Cond) ∈ xt_tbl := xt_in (xt_t8 (List.mem_of_getElem? (i := 61) (by decide +kernel))) (by decide +kernel)
theorem m_a2bd27ec : (.instanceMethod y_Format_isInfinite : Cond) ∈ xt_tbl := xt_in (xt_t8 (List.mem_of_getElem? (i := 63) (by decide +kernel))) (by decide +kernel)
theorem m_ea0426d6 : (.selects "StackHost$Format" y_Format_isInfinite y_Format_isInfinite : Cond) ∈ xt_tbl := xt_in (xt_v7 (q := (⟨"StackHost$Format", "isInfinite", "(J)Z"⟩, 5)) (List.mem_of_getElem? (i := 4) (by decide +kernel))) (by decide +kernel)
theorem m_62c3a91f : (.code y_Format_isInfinite b_Format_isInfinite 3 (some .boolean) : Cond) ∈ xt_tbl := xt_in (xt_t8 (List.mem_of_getElem? (i := 64) (by decide +kernel))) (by decide +kernel)
theorem nm_Format_isInfinite : xt_nm y_Format_isInfinite 1 := ⟨by decide +kernel, by decide +kernel⟩
set_option maxRecDepth 100000 in
def T_Format_sumOfBounds : List (Nat × Instr × Nat) := [(0, .aload_n 0, 1), (1, .lload_n 1, 1), (2, .invokevirtual 77, 3), (5, .ifCond .eq 26, 3), (8, .aload_n 0, 1), (9, .lload_n 3, 1), (10, .invokevirtual 77, 3), (13, .ifCond .eq 16, 3), (16, .lload_n 1, 1), (17, .lload_n 3, 1), (18, .lcmp, 1), (19, .ifCond .eq 10, 3), (22, .aload_n 0, 1), (23, .getfield 27, 3), (26, .goto 4, 3), (29, .lload_n 1, 1), (30, .lreturn, 1), (31, .aload_n 0, 1), (32, .lload_n 3, 1), (33, .invokevirtual 77, 3), (36, .ifCond .eq 5, 3), (39, .lload_n 3, 1), (40, .lreturn, 1), (41, .aload_n 0, 1), (42, .lload_n 1, 1), (43, .invokevirtual 66, 3), (46, .ifCond .eq 19, 3), (49, .aload_n 0, 1), (50, .lload_n 3, 1), (51, .invokevirtual 66, 3), (54, .ifCond .eq 9, 3), (57, .lload_n 1, 1), (58, .lload_n 3, 1), (59, .land, 1), (60, .goto 4, 3), (63, .lload_n 3, 1), (64, .lreturn, 1), (65, .lload_n 1, 1), (66, .lreturn, 1)]
theorem D_Format_sumOfBounds : ∀ q ∈ T_Format_sumOfBounds, decode b_Format_sumOfBounds q.1 = .ok (q.2.1, q.2.2) := by decide +kernel
def w_Format_sumOfBounds_L64 (Qr : Int64 → xb_H → Prop) (y0 : Int64) (h : xb_H) : Prop :=
    Qr y0 h

def w_Format_sumOfBounds_L30 (Qr : Int64 → xb_H → Prop) (y0 : Int64) (h : xb_H) : Prop :=
    Qr y0 h

def w_Format_sumOfBounds_L29 (Qr : Int64 → xb_H → Prop) (x1 : Int64) (h : xb_H) : Prop :=
    w_Format_sumOfBounds_L30 Qr x1 h

def w_Format_sumOfBounds (x0 : Nat) (x1 : Int64) (x3 : Int64) (h : xb_H) (Qr : Int64 → xb_H → Prop) : Prop :=
    xb_k h x0 = 6 ∧ w_Format_isInfinite x0 x1 h (fun (r3 : Int32) (h2 : xb_H) => xb_ext h h2 → ((r3 = (0 : Int32) → w_Format_isInfinite x0 x3 h2 (fun (r6 : Int32) (h5 : xb_H) => xb_ext h2 h5 → ((r6 = (0 : Int32) → w_Format_isZero x0 x1 h5 (fun (r9 : Int32) (h8 : xb_H) => xb_ext h5 h8 → ((r9 = (0 : Int32) → Qr x1 h8) ∧ (¬ r9 = (0 : Int32) → w_Format_isZero x0 x3 h8 (fun (r12 : Int32) (h11 : xb_H) => xb_ext h8 h11 → ((r12 = (0 : Int32) → w_Format_sumOfBounds_L64 Qr x3 h11) ∧ (¬ r12 = (0 : Int32) → w_Format_sumOfBounds_L64 Qr (x1 &&& x3) h11))))))) ∧ (¬ r6 = (0 : Int32) → Qr x3 h5)))) ∧ (¬ r3 = (0 : Int32) → w_Format_isInfinite x0 x3 h2 (fun (r15 : Int32) (h14 : xb_H) => xb_ext h2 h14 → ((r15 = (0 : Int32) → w_Format_sumOfBounds_L29 Qr x1 h14) ∧ (¬ r15 = (0 : Int32) → ((x1 = x3 → w_Format_sumOfBounds_L29 Qr x1 h14) ∧ (¬ x1 = x3 → w_Format_sumOfBounds_L30 Qr (xb_l h14 x0 4) h14))))))))

set_option maxHeartbeats 4000000 in
set_option maxRecDepth 100000 in
theorem am_Format_sumOfBounds_L64 (l : Launch) (hfl : l.flags = pinnedFlags ++ [noTraceFlag]) (D : va_G) (A : Nat → Prop) (σ MC MS : Nat) (h0 : xb_H) (Qr : Int64 → xb_H → Prop) (y0 : Int64) (h : xb_H) (hw : w_Format_sumOfBounds_L64 Qr y0 h) : xb_am l D A σ 3 MC MS h0 (fun v h => ∃ r, v = some (.long r) ∧ Qr r h) (fun _ _ => False) y_Format_sumOfBounds.cls y_Format_sumOfBounds.name b_Format_sumOfBounds 5 ([] : List ExceptionTableEntry) (some .long) 64 [] [.long y0] h 0 0 := by
  unfold w_Format_sumOfBounds_L64 at hw
  intro p e s m args below meth c hC H locs ls k n hE hl hR hS hk hn
  obtain ⟨hx, hb, hown, hlocks, htab, hml, hr, hB, hA, hnm⟩ := id hC
  have hts := hB.1.1.at args
  exact xb_lret hx hb hr hlocks (show k ≤ MC by omega) (show n ≤ MS by omega) hE hR hS (xb_d D_Format_sumOfBounds 36 rfl) hw

set_option maxHeartbeats 4000000 in
set_option maxRecDepth 100000 in
theorem am_Format_sumOfBounds_L30 (l : Launch) (hfl : l.flags = pinnedFlags ++ [noTraceFlag]) (D : va_G) (A : Nat → Prop) (σ MC MS : Nat) (h0 : xb_H) (Qr : Int64 → xb_H → Prop) (y0 : Int64) (h : xb_H) (hw : w_Format_sumOfBounds_L30 Qr y0 h) : xb_am l D A σ 3 MC MS h0 (fun v h => ∃ r, v = some (.long r) ∧ Qr r h) (fun _ _ => False) y_Format_sumOfBounds.cls y_Format_sumOfBounds.name b_Format_sumOfBounds 5 ([] : List ExceptionTableEntry) (some .long) 30 [] [.long y0] h 0 0 := by
  unfold w_Format_sumOfBounds_L30 at hw
  intro p e s m args below meth c hC H locs ls k n hE hl hR hS hk hn
  obtain ⟨hx, hb, hown, hlocks, htab, hml, hr, hB, hA, hnm⟩ := id hC
  have hts := hB.1.1.at args
  exact xb_lret hx hb hr hlocks (show k ≤ MC by omega) (show n ≤ MS by omega) hE hR hS (xb_d D_Format_sumOfBounds 16 rfl) hw

set_option maxHeartbeats 4000000 in
set_option maxRecDepth 100000 in
theorem am_Format_sumOfBounds_L29 (l : Launch) (hfl : l.flags = pinnedFlags ++ [noTraceFlag]) (D : va_G) (A : Nat → Prop) (σ MC MS : Nat) (h0 : xb_H) (Qr : Int64 → xb_H → Prop) (x1 : Int64) (h : xb_H) (hw : w_Format_sumOfBounds_L29 Qr x1 h) : xb_am l D A σ 3 MC MS h0 (fun v h => ∃ r, v = some (.long r) ∧ Qr r h) (fun _ _ => False) y_Format_sumOfBounds.cls y_Format_sumOfBounds.name b_Format_sumOfBounds 5 ([] : List ExceptionTableEntry) (some .long) 29 [(1, .long x1)] [] h 0 0 := by
  unfold w_Format_sumOfBounds_L29 at hw
  intro p e s m args below meth c hC H locs ls k n hE hl hR hS hk hn
  obtain ⟨hx, hb, hown, hlocks, htab, hml, hr, hB, hA, hnm⟩ := id hC
  have hts := hB.1.1.at args
  refine lv_lload_n hx hb (xb_d D_Format_sumOfBounds 15 rfl) rfl (lv_at hl 0 rfl) ?_
  exact am_Format_sumOfBounds_L30 l hfl D A σ MC MS h0 Qr x1 h hw p e s m args below meth c hC H locs ls k n hE (lv_sub hl [] rfl) hR hS (by omega) (by omega)

set_option maxHeartbeats 4000000 in
set_option maxRecDepth 100000 in
theorem ok_Format_sumOfBounds (l : Launch) (hfl : l.flags = pinnedFlags ++ [noTraceFlag]) (D : va_G) (A : Nat → Prop) (σ : Nat) (x0 : Nat) (x1 : Int64) (x3 : Int64) (h : xb_H) (Qr : Int64 → xb_H → Prop) (hw : w_Format_sumOfBounds x0 x1 x3 h Qr) : xt_Met l y_Format_sumOfBounds [.code y_Format_sumOfBounds b_Format_sumOfBounds 5 (some .long)] (xb_rm 3 0 0) (xb_Pc D A σ h [.ref x0, .long x1, .long x3]) (xb_Qc D A h (fun v h => ∃ r, v = some (.long r) ∧ Qr r h) (fun _ _ => False)) 0 0 A := by
  refine xb_ofAm (cc := b_Format_sumOfBounds) (by decide) (Nat.le_of_ble_eq_true rfl) ?_
  unfold w_Format_sumOfBounds at hw
  show xb_am l D A σ 3 0 0 h (fun v h => ∃ r, v = some (.long r) ∧ Qr r h) (fun _ _ => False) y_Format_sumOfBounds.cls y_Format_sumOfBounds.name b_Format_sumOfBounds 5 ([] : List ExceptionTableEntry) (some .long) 0 [(0, .ref x0), (1, .long x1), (3, .long x3)] [] h 0 0
  obtain ⟨MC, hMC⟩ : ∃ x, x = 0 := ⟨_, rfl⟩
  obtain ⟨MS, hMS⟩ : ∃ x, x = 0 := ⟨_, rfl⟩
  rw [show xb_am l D A σ 3 0 0 = xb_am l D A σ 3 MC MS by rw [hMC, hMS]]
  obtain ⟨h0, hh0⟩ : ∃ x, x = h := ⟨_, rfl⟩
  rw [show xb_am l D A σ 3 MC MS h = xb_am l D A σ 3 MC MS h0 by rw [hh0]]
  intro p e s m args below meth c hC H locs ls k n hE hl hR hS hk hn
  obtain ⟨hx, hb, hown, hlocks, htab, hml, hr, hB, hA, hnm⟩ := id hC
  have hts := hB.1.1.at args
  refine lv_aload_n hx hb (xb_d D_Format_sumOfBounds 0 rfl) rfl (lv_at hl 0 rfl) ?_
  refine lv_lload_n hx hb (xb_d D_Format_sumOfBounds 1 rfl) rfl (lv_at hl 1 rfl) ?_
  obtain ⟨hk1, hw⟩ := hw
  refine xb_call (D := D) (A := A) (σ := σ) (h := h) (d := 2) (mc := 0) (ms := 0) (maxL := 3) (rest := []) (av := [.ref x0, .long x1]) (fun T hT X => by obtain ⟨cb, r1, r2, r3⟩ := xb_recv (ci := 5) hR rfl hk1 (by decide); exact xt_invV X hx hown (hts _ m_da28b66e) (hts _ m_a2bd27ec) (hts _ m_ea0426d6) (xt_sigOf (hts _ m_62c3a91f)) nm_Format_isInfinite (by rw [hT]; exact r1) r2 r3 (g := F0 m 2 ls [.long x1, .ref x0]) rfl (argsL := [.long x1]) (rest := []) rfl rfl (by rw [hb]; exact (xb_d D_Format_sumOfBounds 2 rfl))) (ok_Format_isInfinite l hfl D A σ x0 x1 h _ hw) (hml.trans hl.1.symm) (by rw [hb]; exact (xb_d D_Format_sumOfBounds 2 rfl)) (Nat.le_of_ble_eq_true rfl) (Nat.le_of_ble_eq_true rfl) (Nat.le_of_ble_eq_true rfl) (show k + 0 ≤ MC by omega) (show n + 0 ≤ MS by omega) (xt_w1 hB.1 m_62c3a91f) (xt_cdOf hB.1 m_62c3a91f) (hts _ m_64857de5) hB hR hS hA (fun vv h2 H locs hq hEh2 hR hS => ?_) (fun XX ax h2 H locs hq hEh2 hex hR hS => ?_)
  · obtain ⟨r3, rfl, hw⟩ := hq
    have hw := hw hEh2
    have hE := hE.tr hEh2
    refine W.eq (g2 := F0 m 5 ls [.int r3]) rfl ?_
    refine lv_if_eq (tgt := 31) hx hb (xb_d D_Format_sumOfBounds 3 rfl) rfl (fun hc4 => ?_) (fun hc4 => ?_)
    · have hw := hw.1 hc4
      refine lv_aload_n hx hb (xb_d D_Format_sumOfBounds 17 rfl) rfl (lv_at hl 0 rfl) ?_
      refine lv_lload_n hx hb (xb_d D_Format_sumOfBounds 18 rfl) rfl (lv_at hl 2 rfl) ?_
      have hk1 : xb_k h2 x0 = 6 := hEh2.k hk1
      refine xb_call (D := D) (A := A) (σ := σ) (h := h2) (d := 2) (mc := 0) (ms := 0) (maxL := 3) (rest := []) (av := [.ref x0, .long x3]) (fun T hT X => by obtain ⟨cb, r1, r2, r3⟩ := xb_recv (ci := 5) hR rfl hk1 (by decide); exact xt_invV X hx hown (hts _ m_da28b66e) (hts _ m_a2bd27ec) (hts _ m_ea0426d6) (xt_sigOf (hts _ m_62c3a91f)) nm_Format_isInfinite (by rw [hT]; exact r1) r2 r3 (g := F0 m 33 ls [.long x3, .ref x0]) rfl (argsL := [.long x3]) (rest := []) rfl rfl (by rw [hb]; exact (xb_d D_Format_sumOfBounds 19 rfl))) (ok_Format_isInfinite l hfl D A σ x0 x3 h2 _ hw) (hml.trans hl.1.symm) (by rw [hb]; exact (xb_d D_Format_sumOfBounds 19 rfl)) (Nat.le_of_ble_eq_true rfl) (Nat.le_of_ble_eq_true rfl) (Nat.le_of_ble_eq_true rfl) (show k + 0 ≤ MC by omega) (show n + 0 ≤ MS by omega) (xt_w1 hB.1 m_62c3a91f) (xt_cdOf hB.1 m_62c3a91f) (hts _ m_64857de5) hB hR hS hA (fun vv h5 H locs hq hEh5 hR hS => ?_) (fun XX ax h5 H locs hq hEh5 hex hR hS => ?_)
      · obtain ⟨r6, rfl, hw⟩ := hq
        have hw := hw hEh5
        have hE := hE.tr hEh5
        refine W.eq (g2 := F0 m 36 ls [.int r6]) rfl ?_
        refine lv_if_eq (tgt := 41) hx hb (xb_d D_Format_sumOfBounds 20 rfl) rfl (fun hc7 => ?_) (fun hc7 => ?_)
        · have hw := hw.1 hc7
          refine lv_aload_n hx hb (xb_d D_Format_sumOfBounds 23 rfl) rfl (lv_at hl 0 rfl) ?_
          refine lv_lload_n hx hb (xb_d D_Format_sumOfBounds 24 rfl) rfl (lv_at hl 1 rfl) ?_
          have hk1 : xb_k h5 x0 = 6 := hEh5.k hk1
          refine xb_call (D := D) (A := A) (σ := σ) (h := h5) (d := 2) (mc := 0) (ms := 0) (maxL := 3) (rest := []) (av := [.ref x0, .long x1]) (fun T hT X => by obtain ⟨cb, r1, r2, r3⟩ := xb_recv (ci := 5) hR rfl hk1 (by decide); exact xt_invV X hx hown (hts _ m_113bafb3) (hts _ m_ac384f2f) (hts _ m_7587e6d0) (xt_sigOf (hts _ m_8c0ed8f1)) nm_Format_isZero (by rw [hT]; exact r1) r2 r3 (g := F0 m 43 ls [.long x1, .ref x0]) rfl (argsL := [.long x1]) (rest := []) rfl rfl (by rw [hb]; exact (xb_d D_Format_sumOfBounds 25 rfl))) (ok_Format_isZero l hfl D A σ x0 x1 h5 _ hw) (hml.trans hl.1.symm) (by rw [hb]; exact (xb_d D_Format_sumOfBounds 25 rfl)) (Nat.le_of_ble_eq_true rfl) (Nat.le_of_ble_eq_true rfl) (Nat.le_of_ble_eq_true rfl) (show k + 0 ≤ MC by omega) (show n + 0 ≤ MS by omega) (xt_w1 hB.1 m_8c0ed8f1) (xt_cdOf hB.1 m_8c0ed8f1) (hts _ m_64857de5) hB hR hS hA (fun vv h8 H locs hq hEh8 hR hS => ?_) (fun XX ax h8 H locs hq hEh8 hex hR hS => ?_)
          · obtain ⟨r9, rfl, hw⟩ := hq
            have hw := hw hEh8
            have hE := hE.tr hEh8
            refine W.eq (g2 := F0 m 46 ls [.int r9]) rfl ?_
            refine lv_if_eq (tgt := 65) hx hb (xb_d D_Format_sumOfBounds 26 rfl) rfl (fun hc10 => ?_) (fun hc10 => ?_)
            · have hw := hw.1 hc10
              refine lv_lload_n hx hb (xb_d D_Format_sumOfBounds 37 rfl) rfl (lv_at hl 1 rfl) ?_
              exact xb_lret hx hb hr hlocks (show k ≤ MC by omega) (show n ≤ MS by omega) hE hR hS (xb_d D_Format_sumOfBounds 38 rfl) hw
            · have hw := hw.2 hc10
              refine lv_aload_n hx hb (xb_d D_Format_sumOfBounds 27 rfl) rfl (lv_at hl 0 rfl) ?_
              refine lv_lload_n hx hb (xb_d D_Format_sumOfBounds 28 rfl) rfl (lv_at hl 2 rfl) ?_
              have hk1 : xb_k h8 x0 = 6 := hEh8.k hk1
              refine xb_call (D := D) (A := A) (σ := σ) (h := h8) (d := 2) (mc := 0) (ms := 0) (maxL := 3) (rest := []) (av := [.ref x0, .long x3]) (fun T hT X => by obtain ⟨cb, r1, r2, r3⟩ := xb_recv (ci := 5) hR rfl hk1 (by decide); exact xt_invV X hx hown (hts _ m_113bafb3) (hts _ m_ac384f2f) (hts _ m_7587e6d0) (xt_sigOf (hts _ m_8c0ed8f1)) nm_Format_isZero (by rw [hT]; exact r1) r2 r3 (g := F0 m 51 ls [.long x3, .ref x0]) rfl (argsL := [.long x3]) (rest := []) rfl rfl (by rw [hb]; exact (xb_d D_Format_sumOfBounds 29 rfl))) (ok_Format_isZero l hfl D A σ x0 x3 h8 _ hw) (hml.trans hl.1.symm) (by rw [hb]; exact (xb_d D_Format_sumOfBounds 29 rfl)) (Nat.le_of_ble_eq_true rfl) (Nat.le_of_ble_eq_true rfl) (Nat.le_of_ble_eq_true rfl) (show k + 0 ≤ MC by omega) (show n + 0 ≤ MS by omega) (xt_w1 hB.1 m_8c0ed8f1) (xt_cdOf hB.1 m_8c0ed8f1) (hts _ m_64857de5) hB hR hS hA (fun vv h11 H locs hq hEh11 hR hS => ?_) (fun XX ax h11 H locs hq hEh11 hex hR hS => ?_)
              · obtain ⟨r12, rfl, hw⟩ := hq
                have hw := hw hEh11
                have hE := hE.tr hEh11
                refine W.eq (g2 := F0 m 54 ls [.int r12]) rfl ?_
                refine lv_if_eq (tgt := 63) hx hb (xb_d D_Format_sumOfBounds 30 rfl) rfl (fun hc13 => ?_) (fun hc13 => ?_)
                · have hw := hw.1 hc13
                  refine lv_lload_n hx hb (xb_d D_Format_sumOfBounds 35 rfl) rfl (lv_at hl 2 rfl) ?_
                  exact am_Format_sumOfBounds_L64 l hfl D A σ MC MS h0 Qr x3 h11 hw p e s m args below meth c hC H locs ls k n hE (lv_sub hl [] rfl) hR hS (by omega) (by omega)
                · have hw := hw.2 hc13
                  refine lv_lload_n hx hb (xb_d D_Format_sumOfBounds 31 rfl) rfl (lv_at hl 1 rfl) ?_
                  refine lv_lload_n hx hb (xb_d D_Format_sumOfBounds 32 rfl) rfl (lv_at hl 2 rfl) ?_
                  refine lv_land hx hb (xb_d D_Format_sumOfBounds 33 rfl) ?_
                  refine lv_goto (tgt := 64) hx hb (xb_d D_Format_sumOfBounds 34 rfl) rfl ?_
                  exact am_Format_sumOfBounds_L64 l hfl D A σ MC MS h0 Qr (x1 &&& x3) h11 hw p e s m args below meth c hC H locs ls k n hE (lv_sub hl [] rfl) hR hS (by omega) (by omega)
              · exact False.elim hq
          · exact False.elim hq
        · have hw := hw.2 hc7
          refine lv_lload_n hx hb (xb_d D_Format_sumOfBounds 21 rfl) rfl (lv_at hl 2 rfl) ?_
          exact xb_lret hx hb hr hlocks (show k ≤ MC by omega) (show n ≤ MS by omega) hE hR hS (xb_d D_Format_sumOfBounds 22 rfl) hw
      · exact False.elim hq
    · have hw := hw.2 hc4
      refine lv_aload_n hx hb (xb_d D_Format_sumOfBounds 4 rfl) rfl (lv_at hl 0 rfl) ?_
      refine lv_lload_n hx hb (xb_d D_Format_sumOfBounds 5 rfl) rfl (lv_at hl 2 rfl) ?_
      have hk1 : xb_k h2 x0 = 6 := hEh2.k hk1
      refine xb_call (D := D) (A := A) (σ := σ) (h := h2) (d := 2) (mc := 0) (ms := 0) (maxL := 3) (rest := []) (av := [.ref x0, .long x3]) (fun T hT X => by obtain ⟨cb, r1, r2, r3⟩ := xb_recv (ci := 5) hR rfl hk1 (by decide); exact xt_invV X hx hown (hts _ m_da28b66e) (hts _ m_a2bd27ec) (hts _ m_ea0426d6) (xt_sigOf (hts _ m_62c3a91f)) nm_Format_isInfinite (by rw [hT]; exact r1) r2 r3 (g := F0 m 10 ls [.long x3, .ref x0]) rfl (argsL := [.long x3]) (rest := []) rfl rfl (by rw [hb]; exact (xb_d D_Format_sumOfBounds 6 rfl))) (ok_Format_isInfinite l hfl D A σ x0 x3 h2 _ hw) (hml.trans hl.1.symm) (by rw [hb]; exact (xb_d D_Format_sumOfBounds 6 rfl)) (Nat.le_of_ble_eq_true rfl) (Nat.le_of_ble_eq_true rfl) (Nat.le_of_ble_eq_true rfl) (show k + 0 ≤ MC by omega) (show n + 0 ≤ MS by omega) (xt_w1 hB.1 m_62c3a91f) (xt_cdOf hB.1 m_62c3a91f) (hts _ m_64857de5) hB hR hS hA (fun vv h14 H locs hq hEh14 hR hS => ?_) (fun XX ax h14 H locs hq hEh14 hex hR hS => ?_)
      · obtain ⟨r15, rfl, hw⟩ := hq
        have hw := hw hEh14
        have hE := hE.tr hEh14
        refine W.eq (g2 := F0 m 13 ls [.int r15]) rfl ?_
        refine lv_if_eq (tgt := 29) hx hb (xb_d D_Format_sumOfBounds 7 rfl) rfl (fun hc16 => ?_) (fun hc16 => ?_)
        · have hw := hw.1 hc16
          exact am_Format_sumOfBounds_L29 l hfl D A σ MC MS h0 Qr x1 h14 hw p e s m args below meth c hC H locs ls k n hE (lv_sub hl [1] rfl) hR hS (by omega) (by omega)
        · have hw := hw.2 hc16
          refine lv_lload_n hx hb (xb_d D_Format_sumOfBounds 8 rfl) rfl (lv_at hl 1 rfl) ?_
          refine lv_lload_n hx hb (xb_d D_Format_sumOfBounds 9 rfl) rfl (lv_at hl 2 rfl) ?_
          refine xb_lc_eq (tgt := 29) hx hb (xb_d D_Format_sumOfBounds 10 rfl) (xb_d D_Format_sumOfBounds 11 rfl) rfl (fun hc17 => ?_) (fun hc17 => ?_)
          · have hw := hw.1 hc17
            exact am_Format_sumOfBounds_L29 l hfl D A σ MC MS h0 Qr x1 h14 hw p e s m args below meth c hC H locs ls k n hE (lv_sub hl [1] rfl) hR hS (by omega) (by omega)
          · have hw := hw.2 hc17
            refine lv_aload_n hx hb (xb_d D_Format_sumOfBounds 12 rfl) rfl (lv_at hl 0 rfl) ?_
            have hk1 : xb_k h14 x0 = 6 := hEh14.k hk1
            refine xb_getL (C := R_Format) (T := F_Format) (N := 5) hx hb 5 4 hts fin_Format hown hR hk1 (by decide) rfl (by decide) rfl (hts _ m_291a6679) (fun _ h9 => h9) (xb_d D_Format_sumOfBounds 13 rfl) ?_
            refine lv_goto (tgt := 30) hx hb (xb_d D_Format_sumOfBounds 14 rfl) rfl ?_
            exact am_Format_sumOfBounds_L30 l hfl D A σ MC MS h0 Qr (xb_l h14 x0 4) h14 hw p e s m args below meth c hC H locs ls k n hE (lv_sub hl [] rfl) hR hS (by omega) (by omega)
      · exact False.elim hq
  · exact False.elim hq

set_option maxRecDepth 100000 in
def T_Format_wholePart : List (Nat × Instr × Nat) := [(0, .aload_n 0, 1), (1, .lload_n 1, 1), (2, .invokevirtual 63, 3), (5, .istore_n 3, 1), (6, .iload_n 3, 1), (7, .ifCond .ge 5, 3), (10, .lconst 0, 1), (11, .lreturn, 1), (12, .lconst 1, 1), (13, .aload_n 0, 1), (14, .getfield 9, 3), (17, .iconst 1, 1), (18, .isub, 1), (19, .lshl, 1), (20, .lstore 4, 2), (22, .lload_n 1, 1), (23, .lload 4, 2), (25, .lconst 1, 1), (26, .lsub, 1), (27, .land, 1), (28, .lload 4, 2), (30, .lor, 1), (31, .lstore 6, 2), (33, .iload_n 3, 1), (34, .aload_n 0, 1), (35, .getfield 9, 3), (38, .iconst 1, 1), (39, .isub, 1), (40, .isub, 1), (41, .istore 8, 2), (43, .iload 8, 2), (45, .ifCond .lt 11, 3), (48, .lload 6, 2), (50, .iload 8, 2), (52, .lshl, 1), (53, .goto 9, 3), (56, .lload 6, 2), (58, .iload 8, 2), (60, .ineg, 1), (61, .lushr, 1), (62, .lreturn, 1)]
theorem D_Format_wholePart : ∀ q ∈ T_Format_wholePart, decode b_Format_wholePart q.1 = .ok (q.2.1, q.2.2) := by decide +kernel
def w_Format_wholePart_L62 (Qr : Int64 → xb_H → Prop) (y0 : Int64) (h : xb_H) : Prop :=
    Qr y0 h

def w_Format_wholePart (x0 : Nat) (x1 : Int64) (h : xb_H) (Qr : Int64 → xb_H → Prop) : Prop :=
    xb_k h x0 = 6 ∧ w_Format_power x0 x1 h (fun (r3 : Int32) (h2 : xb_H) => xb_ext h h2 → (((0 : Int32) ≤ r3 → ∀ v5 : Int64, v5 = (xb_lshl 1 ((xb_i h2 x0 0) - 1)) → ∀ v6 : Int64, v6 = ((x1 &&& (v5 - 1)) ||| v5) → ∀ v7 : Int32, v7 = (r3 - ((xb_i h2 x0 0) - 1)) → ((v7 < (0 : Int32) → w_Format_wholePart_L62 Qr (xb_lushr v6 (-v7)) h2) ∧ (¬ v7 < (0 : Int32) → w_Format_wholePart_L62 Qr (xb_lshl v6 v7) h2))) ∧ (¬ (0 : Int32) ≤ r3 → Qr 0 h2)))

set_option maxHeartbeats 4000000 in
set_option maxRecDepth 100000 in
theorem am_Format_wholePart_L62 (l : Launch) (hfl : l.flags = pinnedFlags ++ [noTraceFlag]) (D : va_G) (A : Nat → Prop) (σ MC MS : Nat) (h0 : xb_H) (Qr : Int64 → xb_H → Prop) (y0 : Int64) (h : xb_H) (hw : w_Format_wholePart_L62 Qr y0 h) : xb_am l D A σ 3 MC MS h0 (fun v h => ∃ r, v = some (.long r) ∧ Qr r h) (fun _ _ => False) y_Format_wholePart.cls y_Format_wholePart.name b_Format_wholePart 9 ([] : List ExceptionTableEntry) (some .long) 62 [] [.long y0] h 0 0 := by
  unfold w_Format_wholePart_L62 at hw
  intro p e s m args below meth c hC H locs ls k n hE hl hR hS hk hn
  obtain ⟨hx, hb, hown, hlocks, htab, hml, hr, hB, hA, hnm⟩ := id hC
  have hts := hB.1.1.at args
  exact xb_lret hx hb hr hlocks (show k ≤ MC by omega) (show n ≤ MS by omega) hE hR hS (xb_d D_Format_wholePart 40 rfl) hw

set_option maxHeartbeats 4000000 in
set_option maxRecDepth 100000 in
theorem ok_Format_wholePart (l : Launch) (hfl : l.flags = pinnedFlags ++ [noTraceFlag]) (D : va_G) (A : Nat → Prop) (σ : Nat) (x0 : Nat) (x1 : Int64) (h : xb_H) (Qr : Int64 → xb_H → Prop) (hw : w_Format_wholePart x0 x1 h Qr) : xt_Met l y_Format_wholePart [.code y_Format_wholePart b_Format_wholePart 9 (some .long)] (xb_rm 3 0 0) (xb_Pc D A σ h [.ref x0, .long x1]) (xb_Qc D A h (fun v h => ∃ r, v = some (.long r) ∧ Qr r h) (fun _ _ => False)) 0 0 A := by
  refine xb_ofAm (cc := b_Format_wholePart) (by decide) (Nat.le_of_ble_eq_true rfl) ?_
  unfold w_Format_wholePart at hw
  show xb_am l D A σ 3 0 0 h (fun v h => ∃ r, v = some (.long r) ∧ Qr r h) (fun _ _ => False) y_Format_wholePart.cls y_Format_wholePart.name b_Format_wholePart 9 ([] : List ExceptionTableEntry) (some .long) 0 [(0, .ref x0), (1, .long x1)] [] h 0 0
  obtain ⟨MC, hMC⟩ : ∃ x, x = 0 := ⟨_, rfl⟩
  obtain ⟨MS, hMS⟩ : ∃ x, x = 0 := ⟨_, rfl⟩
  rw [show xb_am l D A σ 3 0 0 = xb_am l D A σ 3 MC MS by rw [hMC, hMS]]
  obtain ⟨h0, hh0⟩ : ∃ x, x = h := ⟨_, rfl⟩
  rw [show xb_am l D A σ 3 MC MS h = xb_am l D A σ 3 MC MS h0 by rw [hh0]]
  intro p e s m args below meth c hC H locs ls k n hE hl hR hS hk hn
  obtain ⟨hx, hb, hown, hlocks, htab, hml, hr, hB, hA, hnm⟩ := id hC
  have hts := hB.1.1.at args
  refine lv_aload_n hx hb (xb_d D_Format_wholePart 0 rfl) rfl (lv_at hl 0 rfl) ?_
  refine lv_lload_n hx hb (xb_d D_Format_wholePart 1 rfl) rfl (lv_at hl 1 rfl) ?_
  obtain ⟨hk1, hw⟩ := hw
  refine xb_call (D := D) (A := A) (σ := σ) (h := h) (d := 2) (mc := 0) (ms := 0) (maxL := 3) (rest := []) (av := [.ref x0, .long x1]) (fun T hT X => by obtain ⟨cb, r1, r2, r3⟩ := xb_recv (ci := 5) hR rfl hk1 (by decide); exact xt_invV X hx hown (hts _ m_790c0ce9) (hts _ m_493d47bb) (hts _ m_ec26896d) (xt_sigOf (hts _ m_93bb879e)) nm_Format_power (by rw [hT]; exact r1) r2 r3 (g := F0 m 2 ls [.long x1, .ref x0]) rfl (argsL := [.long x1]) (rest := []) rfl rfl (by rw [hb]; exact (xb_d D_Format_wholePart 2 rfl))) (ok_Format_power l hfl D A σ x0 x1 h _ hw) (hml.trans hl.1.symm) (by rw [hb]; exact (xb_d D_Format_wholePart 2 rfl)) (Nat.le_of_ble_eq_true rfl) (Nat.le_of_ble_eq_true rfl) (Nat.le_of_ble_eq_true rfl) (show k + 0 ≤ MC by omega) (show n + 0 ≤ MS by omega) (xt_w1 hB.1 m_93bb879e) (xt_cdOf hB.1 m_93bb879e) (hts _ m_64857de5) hB hR hS hA (fun vv h2 H locs hq hEh2 hR hS => ?_) (fun XX ax h2 H locs hq hEh2 hex hR hS => ?_)
  · obtain ⟨r3, rfl, hw⟩ := hq
    have hw := hw hEh2
    have hE := hE.tr hEh2
    refine W.eq (g2 := F0 m 5 ls [.int r3]) rfl ?_
    refine lv_istore_n hx hb (xb_d D_Format_wholePart 3 rfl) rfl hl (by decide) rfl (fun ls hl => ?_)
    have hl : lv_has ls 9 [(3, .int r3), (0, .ref x0), (1, .long x1)] := hl
    refine lv_iload_n hx hb (xb_d D_Format_wholePart 4 rfl) rfl (lv_at hl 0 rfl) ?_
    refine lv_if_ge (tgt := 12) hx hb (xb_d D_Format_wholePart 5 rfl) rfl (fun hc4 => ?_) (fun hc4 => ?_)
    · have hw := hw.1 hc4
      refine lv_lconst (v := 1) hx hb (xb_d D_Format_wholePart 8 rfl) (by decide) ?_
      refine lv_aload_n hx hb (xb_d D_Format_wholePart 9 rfl) rfl (lv_at hl 1 rfl) ?_
      have hk1 : xb_k h2 x0 = 6 := hEh2.k hk1
      refine xb_getI (C := R_Format) (T := F_Format) (N := 5) hx hb 5 0 hts fin_Format hown hR hk1 (by decide) rfl (by decide) rfl (hts _ m_019aecde) (fun _ h9 => h9) (xb_d D_Format_wholePart 10 rfl) ?_
      refine lv_iconst (v := 1) hx hb (xb_d D_Format_wholePart 11 rfl) (by decide) ?_
      refine lv_isub hx hb (xb_d D_Format_wholePart 12 rfl) ?_
      refine lv_lshl (v := (xb_lshl 1 ((xb_i h2 x0 0) - 1))) hx hb (xb_d D_Format_wholePart 13 rfl) rfl ?_
      obtain ⟨v5, ev5⟩ : ∃ x : Int64, x = (xb_lshl 1 ((xb_i h2 x0 0) - 1)) := ⟨_, rfl⟩
      have hw := hw v5 ev5
      refine xt_numl (y := v5) ev5.symm ?_
      refine lv_lstore hx hb (xb_d D_Format_wholePart 14 rfl) hl (by decide) rfl (fun ls hl => ?_)
      have hl : lv_has ls 9 [(4, .long v5), (3, .int r3), (0, .ref x0), (1, .long x1)] := hl
      refine lv_lload_n hx hb (xb_d D_Format_wholePart 15 rfl) rfl (lv_at hl 3 rfl) ?_
      refine lv_lload hx hb (xb_d D_Format_wholePart 16 rfl) (lv_at hl 0 rfl) ?_
      refine lv_lconst (v := 1) hx hb (xb_d D_Format_wholePart 17 rfl) (by decide) ?_
      refine lv_lsub hx hb (xb_d D_Format_wholePart 18 rfl) ?_
      refine lv_land hx hb (xb_d D_Format_wholePart 19 rfl) ?_
      refine lv_lload hx hb (xb_d D_Format_wholePart 20 rfl) (lv_at hl 0 rfl) ?_
      refine lv_lor hx hb (xb_d D_Format_wholePart 21 rfl) ?_
      obtain ⟨v6, ev6⟩ : ∃ x : Int64, x = ((x1 &&& (v5 - 1)) ||| v5) := ⟨_, rfl⟩
      have hw := hw v6 ev6
      refine xt_numl (y := v6) ev6.symm ?_
      refine lv_lstore hx hb (xb_d D_Format_wholePart 22 rfl) hl (by decide) rfl (fun ls hl => ?_)
      have hl : lv_has ls 9 [(6, .long v6), (4, .long v5), (3, .int r3), (0, .ref x0), (1, .long x1)] := hl
      refine lv_iload_n hx hb (xb_d D_Format_wholePart 23 rfl) rfl (lv_at hl 2 rfl) ?_
      refine lv_aload_n hx hb (xb_d D_Format_wholePart 24 rfl) rfl (lv_at hl 3 rfl) ?_
      refine xb_getI (C := R_Format) (T := F_Format) (N := 5) hx hb 5 0 hts fin_Format hown hR hk1 (by decide) rfl (by decide) rfl (hts _ m_019aecde) (fun _ h9 => h9) (xb_d D_Format_wholePart 25 rfl) ?_
      refine lv_iconst (v := 1) hx hb (xb_d D_Format_wholePart 26 rfl) (by decide) ?_
      refine lv_isub hx hb (xb_d D_Format_wholePart 27 rfl) ?_
      refine lv_isub hx hb (xb_d D_Format_wholePart 28 rfl) ?_
      obtain ⟨v7, ev7⟩ : ∃ x : Int32, x = (r3 - ((xb_i h2 x0 0) - 1)) := ⟨_, rfl⟩
      have hw := hw v7 ev7
      refine xt_numi (y := v7) ev7.symm ?_
      refine lv_istore hx hb (xb_d D_Format_wholePart 29 rfl) hl (by decide) rfl (fun ls hl => ?_)
      have hl : lv_has ls 9 [(8, .int v7), (6, .long v6), (4, .long v5), (3, .int r3), (0, .ref x0), (1, .long x1)] := hl
      refine lv_iload hx hb (xb_d D_Format_wholePart 30 rfl) (lv_at hl 0 rfl) ?_
      refine lv_if_lt (tgt := 56) hx hb (xb_d D_Format_wholePart 31 rfl) rfl (fun hc8 => ?_) (fun hc8 => ?_)
      · have hw := hw.1 hc8
        refine lv_lload hx hb (xb_d D_Format_wholePart 36 rfl) (lv_at hl 1 rfl) ?_
        refine lv_iload hx hb (xb_d D_Format_wholePart 37 rfl) (lv_at hl 0 rfl) ?_
        refine lv_ineg hx hb (xb_d D_Format_wholePart 38 rfl) ?_
        refine lv_lushr (v := (xb_lushr v6 (-v7))) hx hb (xb_d D_Format_wholePart 39 rfl) rfl ?_
        exact am_Format_wholePart_L62 l hfl D A σ MC MS h0 Qr (xb_lushr v6 (-v7)) h2 hw p e s m args below meth c hC H locs ls k n hE (lv_sub hl [] rfl) hR hS (by omega) (by omega)
      · have hw := hw.2 hc8
        refine lv_lload hx hb (xb_d D_Format_wholePart 32 rfl) (lv_at hl 1 rfl) ?_
        refine lv_iload hx hb (xb_d D_Format_wholePart 33 rfl) (lv_at hl 0 rfl) ?_
        refine lv_lshl (v := (xb_lshl v6 v7)) hx hb (xb_d D_Format_wholePart 34 rfl) rfl ?_
        refine lv_goto (tgt := 62) hx hb (xb_d D_Format_wholePart 35 rfl) rfl ?_
        exact am_Format_wholePart_L62 l hfl D A σ MC MS h0 Qr (xb_lshl v6 v7) h2 hw p e s m args below meth c hC H locs ls k n hE (lv_sub hl [] rfl) hR hS (by omega) (by omega)
    · have hw := hw.2 hc4
      refine lv_lconst (v := 0) hx hb (xb_d D_Format_wholePart 6 rfl) (by decide) ?_
      exact xb_lret hx hb hr hlocks (show k ≤ MC by omega) (show n ≤ MS by omega) hE hR hS (xb_d D_Format_wholePart 7 rfl) hw
  · exact False.elim hq

theorem m_71aa6e23 : (.methodLink "StackHost$Instance" 1 objectInit : Cond) ∈ xt_tbl := xt_in (xt_t6 (List.mem_of_getElem? (i := 238) (by decide +kernel))) (by decide +kernel)
theorem m_04064a17 : (.fieldLink "StackHost$Instance" 7 "StackHost$Instance" "number" "I" : Cond) ∈ xt_tbl := xt_in (xt_t7 (List.mem_of_getElem? (i := 0) (by decide +kernel))) (by decide +kernel)
theorem m_e9dbd72b : (.fieldLink "StackHost$Instance" 13 "StackHost$Instance" "module" "LStackHost$StackModule;" : Cond) ∈ xt_tbl := xt_in (xt_t7 (List.mem_of_getElem? (i := 4) (by decide +kernel))) (by decide +kernel)
theorem m_d5ca1d29 : (.fieldLink "StackHost$Instance" 17 "StackHost$World" "foundFunctions" "LStackHost$Row;" : Cond) ∈ xt_tbl := xt_in (xt_t1 (List.mem_of_getElem? (i := 189) (by decide +kernel))) (by decide +kernel)
theorem m_37b4b483 : (.fieldLink "StackHost$Instance" 23 "StackHost$Row" "items" "[J" : Cond) ∈ xt_tbl := xt_in (xt_t1 (List.mem_of_getElem? (i := 145) (by decide +kernel))) (by decide +kernel)
theorem m_94ec7535 : (.fieldLink "StackHost$Instance" 29 "StackHost$Row" "size" "I" : Cond) ∈ xt_tbl := xt_in (xt_t1 (List.mem_of_getElem? (i := 150) (by decide +kernel))) (by decide +kernel)
theorem m_28b0918c : (.methodLink "StackHost$Instance" 32 y_Arrays_copyOf1 : Cond) ∈ xt_tbl := xt_in (xt_t6 (List.mem_of_getElem? (i := 239) (by decide +kernel))) (by decide +kernel)
theorem m_92cbae34 : (.static y_Arrays_copyOf1 : Cond) ∈ xt_tbl := xt_in (xt_t3 (List.mem_of_getElem? (i := 234) (by decide +kernel))) (by decide +kernel)
theorem m_00ffaf1f : (.code y_Arrays_copyOf1 b_Arrays_copyOf1 3 (some (.array .long)) : Cond) ∈ xt_tbl := xt_in (xt_t3 (List.mem_of_getElem? (i := 235) (by decide +kernel))) (by decide +kernel)
theorem m_9e7a7e5c : (.fieldLink "StackHost$Instance" 41 "StackHost$World" "foundVariables" "LStackHost$Row;" : Cond) ∈ xt_tbl := xt_in (xt_t1 (List.mem_of_getElem? (i := 191) (by decide +kernel))) (by decide +kernel)
theorem m_821fbd49 : (.fieldLink "StackHost$Instance" 47 "StackHost$World" "owners" "LStackHost$Row;" : Cond) ∈ xt_tbl := xt_in (xt_t1 (List.mem_of_getElem? (i := 170) (by decide +kernel))) (by decide +kernel)
theorem m_fb73f8ca : (.fieldLink "StackHost$Instance" 53 "StackHost$World" "variables" "LStackHost$Row;" : Cond) ∈ xt_tbl := xt_in (xt_t1 (List.mem_of_getElem? (i := 172) (by decide +kernel))) (by decide +kernel)
theorem m_27acaeec : (.fieldLink "StackHost$Instance" 59 "StackHost$World" "foundTable" "LStackHost$Table;" : Cond) ∈ xt_tbl := xt_in (xt_t1 (List.mem_of_getElem? (i := 193) (by decide +kernel))) (by decide +kernel)
theorem m_4c6661c5 : (.fieldLink "StackHost$Instance" 63 "StackHost$Instance" "table" "LStackHost$Table;" : Cond) ∈ xt_tbl := xt_in (xt_t7 (List.mem_of_getElem? (i := 12) (by decide +kernel))) (by decide +kernel)
theorem m_e430202e : (.fieldLink "StackHost$Instance" 66 "StackHost$World" "foundMemory" "LStackHost$Memory;" : Cond) ∈ xt_tbl := xt_in (xt_t1 (List.mem_of_getElem? (i := 195) (by decide +kernel))) (by decide +kernel)
theorem m_90ac9ab4 : (.fieldLink "StackHost$Instance" 70 "StackHost$Instance" "memory" "LStackHost$Memory;" : Cond) ∈ xt_tbl := xt_in (xt_t7 (List.mem_of_getElem? (i := 16) (by decide +kernel))) (by decide +kernel)
theorem nm_Arrays_copyOf1 : xt_nm y_Arrays_copyOf1 2 := ⟨by decide +kernel, by decide +kernel⟩
set_option maxRecDepth 100000 in
def T_Instance_init : List (Nat × Instr × Nat) := [(0, .aload_n 0, 1), (1, .invokespecial 1, 3), (4, .aload_n 0, 1), (5, .iload_n 1, 1), (6, .putfield 7, 3), (9, .aload_n 0, 1), (10, .aload_n 2, 1), (11, .putfield 13, 3), (14, .aload_n 0, 1), (15, .aload_n 3, 1), (16, .getfield 17, 3), (19, .getfield 23, 3), (22, .aload_n 3, 1), (23, .getfield 17, 3), (26, .getfield 29, 3), (29, .invokestatic 32, 3), (32, .putfield 38, 3), (35, .aload_n 0, 1), (36, .aload_n 3, 1), (37, .getfield 41, 3), (40, .getfield 23, 3), (43, .aload_n 3, 1), (44, .getfield 41, 3), (47, .getfield 29, 3), (50, .invokestatic 32, 3), (53, .putfield 44, 3), (56, .aload_n 0, 1), (57, .aload_n 3, 1), (58, .getfield 47, 3), (61, .getfield 29, 3), (64, .putfield 50, 3), (67, .aload_n 0, 1), (68, .aload_n 3, 1), (69, .getfield 53, 3), (72, .getfield 29, 3), (75, .putfield 56, 3), (78, .aload_n 0, 1), (79, .aload_n 3, 1), (80, .getfield 59, 3), (83, .putfield 63, 3), (86, .aload_n 0, 1), (87, .aload_n 3, 1), (88, .getfield 66, 3), (91, .putfield 70, 3), (94, .return_, 1)]
theorem D_Instance_init : ∀ q ∈ T_Instance_init, decode b_Instance_init q.1 = .ok (q.2.1, q.2.2) := by decide +kernel
def w_Instance_init (x0 : Nat) (x1 : Int32) (x2 : Nat) (x3 : Nat) (h : xb_H) (bc : Nat) (bs : Nat) (Qr : xb_H → Prop) : Prop :=
    xb_k h x0 = 11 ∧ ∀ h2 : xb_H, h2 = xb_I h x0 0 x1 → ∀ h3 : xb_H, h3 = xb_P h2 x0 1 (some x2) → xb_k h3 x3 = 7 ∧ ∃ b5 : Nat, (xb_r h3 x3 12) = some b5 ∧ xb_k h3 b5 = 2 ∧ ∃ b7 : Nat, (xb_r h3 b5 0) = some b7 ∧ ∃ b8 : Nat, (xb_r h3 x3 12) = some b8 ∧ xb_k h3 b8 = 2 ∧ ∃ c12 sc12 : Nat, c12 ≤ bc ∧ sc12 ≤ bs ∧ w_Arrays_copyOf1 b7 (xb_i h3 b8 1) h3 c12 sc12 (fun (r11 : Nat) (h10 : xb_H) => xb_ext h3 h10 → ∀ h13 : xb_H, h13 = xb_P h10 x0 2 (some r11) → ∃ b14 : Nat, (xb_r h13 x3 13) = some b14 ∧ xb_k h13 b14 = 2 ∧ ∃ b16 : Nat, (xb_r h13 b14 0) = some b16 ∧ ∃ b17 : Nat, (xb_r h13 x3 13) = some b17 ∧ xb_k h13 b17 = 2 ∧ ∃ c21 sc21 : Nat, c21 ≤ (bc - c12) ∧ sc21 ≤ (bs - sc12) ∧ w_Arrays_copyOf1 b16 (xb_i h13 b17 1) h13 c21 sc21 (fun (r20 : Nat) (h19 : xb_H) => xb_ext h13 h19 → ∀ h22 : xb_H, h22 = xb_P h19 x0 3 (some r20) → ∃ b23 : Nat, (xb_r h22 x3 2) = some b23 ∧ xb_k h22 b23 = 2 ∧ ∀ h25 : xb_H, h25 = xb_I h22 x0 4 (xb_i h22 b23 1) → ∃ b26 : Nat, (xb_r h25 x3 3) = some b26 ∧ xb_k h25 b26 = 2 ∧ ∀ h28 : xb_H, h28 = xb_I h25 x0 5 (xb_i h25 b26 1) → ∀ h29 : xb_H, h29 = xb_P h28 x0 6 (xb_r h28 x3 14) → ∀ h30 : xb_H, h30 = xb_P h29 x0 7 (xb_r h29 x3 15) → Qr h30))

set_option maxHeartbeats 4000000 in
set_option maxRecDepth 100000 in
theorem ok_Instance_init (l : Launch) (hfl : l.flags = pinnedFlags ++ [noTraceFlag]) (D : va_G) (A : Nat → Prop) (σ : Nat) (x0 : Nat) (x1 : Int32) (x2 : Nat) (x3 : Nat) (h : xb_H) (bc : Nat) (bs : Nat) (Qr : xb_H → Prop) (hw : w_Instance_init x0 x1 x2 x3 h bc bs Qr) : xt_Met l y_Instance_init [.code y_Instance_init b_Instance_init 4 none] (xb_rm 3 bc bs) (xb_Pc D A σ h [.ref x0, .int x1, .ref x2, .ref x3]) (xb_Qc D A h (fun v h => v = none ∧ Qr h) (fun _ _ => False)) bc bs A := by
  refine xb_ofAm (cc := b_Instance_init) (by decide) (Nat.le_of_ble_eq_true rfl) ?_
  unfold w_Instance_init at hw
  show xb_am l D A σ 3 bc bs h (fun v h => v = none ∧ Qr h) (fun _ _ => False) y_Instance_init.cls y_Instance_init.name b_Instance_init 4 ([] : List ExceptionTableEntry) none 0 [(0, .ref x0), (1, .int x1), (2, .ref x2), (3, .ref x3)] [] h bc bs
  obtain ⟨MC, hMC⟩ : ∃ x, x = bc := ⟨_, rfl⟩
  obtain ⟨MS, hMS⟩ : ∃ x, x = bs := ⟨_, rfl⟩
  rw [show xb_am l D A σ 3 bc bs = xb_am l D A σ 3 MC MS by rw [hMC, hMS]]
  obtain ⟨h0, hh0⟩ : ∃ x, x = h := ⟨_, rfl⟩
  rw [show xb_am l D A σ 3 MC MS h = xb_am l D A σ 3 MC MS h0 by rw [hh0]]
  intro p e s m args below meth c hC H locs ls k n hE hl hR hS hk hn
  obtain ⟨hx, hb, hown, hlocks, htab, hml, hr, hB, hA, hnm⟩ := id hC
  have hts := hB.1.1.at args
  refine lv_aload_n hx hb (xb_d D_Instance_init 0 rfl) rfl (lv_at hl 0 rfl) ?_
  refine W.objInit hx hb hown (hts _ m_71aa6e23) (hts _ m_fba9d542) (hts _ m_9febdb7e) rfl (hml.trans hl.1.symm).symm rfl (xb_d D_Instance_init 1 rfl) (by show 1 ≤ 8 + _; omega) (Nat.le_trans (Nat.le_of_ble_eq_true rfl : _ ≤ 40) (by show 40 ≤ 120 + _; omega)) ?_
  refine W.eq (g2 := F0 m 4 ls []) rfl ?_
  refine lv_aload_n hx hb (xb_d D_Instance_init 2 rfl) rfl (lv_at hl 0 rfl) ?_
  refine lv_iload_n hx hb (xb_d D_Instance_init 3 rfl) rfl (lv_at hl 1 rfl) ?_
  obtain ⟨hk1, hw⟩ := hw
  refine xb_putIF (C := R_Instance) (T := F_Instance) (N := 8) (ty := .int) (x := x1) hx hb 10 0 hts fin_Instance t_Instance t_Instance_ok n_Instance hown hR hS hk1 (by decide) rfl (by decide) rfl (hts _ m_04064a17) (fun _ h9 => h9) rfl hnm rfl (by decide +kernel) rfl rfl (xb_d D_Instance_init 4 rfl) (fun H locs hR hS => ?_)
  obtain ⟨h2, eh2⟩ : ∃ x : xb_H, x = xb_I h x0 0 x1 := ⟨_, rfl⟩
  rw [← eh2] at hR
  have hw := hw h2 eh2
  have hE : xb_ext h0 h2 := by rw [eh2]; exact hE
  refine lv_aload_n hx hb (xb_d D_Instance_init 5 rfl) rfl (lv_at hl 0 rfl) ?_
  refine lv_aload_n hx hb (xb_d D_Instance_init 6 rfl) rfl (lv_at hl 2 rfl) ?_
  have hk1 : xb_k h2 x0 = 11 := by rw [eh2]; exact hk1
  refine xb_putPF (C := R_Instance) (T := F_Instance) (N := 8) (ty := .object "StackHost$StackModule") (x := (some x2)) hx hb 10 1 hts fin_Instance t_Instance t_Instance_ok n_Instance hown hR hS hk1 (by decide) rfl (by decide) rfl (hts _ m_e9dbd72b) (fun _ h9 => h9) rfl hnm rfl (by decide +kernel) (xb_pnO _ _).1 (xb_pnO _ _).2 (xb_d D_Instance_init 7 rfl) (fun H locs hR hS => ?_)
  obtain ⟨h3, eh3⟩ : ∃ x : xb_H, x = xb_P h2 x0 1 (some x2) := ⟨_, rfl⟩
  rw [← eh3] at hR
  have hw := hw h3 eh3
  have hE : xb_ext h0 h3 := by rw [eh3]; exact hE
  refine lv_aload_n hx hb (xb_d D_Instance_init 8 rfl) rfl (lv_at hl 0 rfl) ?_
  refine lv_aload_n hx hb (xb_d D_Instance_init 9 rfl) rfl (lv_at hl 3 rfl) ?_
  obtain ⟨hk4, hw⟩ := hw
  refine xb_getP (C := R_World) (T := F_World) (N := 16) hx hb 6 12 hts fin_World hown hR hk4 (by decide) rfl (by decide) rfl (hts _ m_d5ca1d29) (fun _ h9 => h9) (xb_d D_Instance_init 10 rfl) ?_
  obtain ⟨b5, eb5, hw⟩ := hw
  refine xb_some eb5 ?_
  obtain ⟨hk6, hw⟩ := hw
  refine xb_getP (C := R_Row) (T := F_Row) (N := 3) hx hb 1 0 hts fin_Row hown hR hk6 (by decide) rfl (by decide) rfl (hts _ m_37b4b483) (fun _ h9 => h9) (xb_d D_Instance_init 11 rfl) ?_
  obtain ⟨b7, eb7, hw⟩ := hw
  refine xb_some eb7 ?_
  refine lv_aload_n hx hb (xb_d D_Instance_init 12 rfl) rfl (lv_at hl 3 rfl) ?_
  refine xb_getP (C := R_World) (T := F_World) (N := 16) hx hb 6 12 hts fin_World hown hR hk4 (by decide) rfl (by decide) rfl (hts _ m_d5ca1d29) (fun _ h9 => h9) (xb_d D_Instance_init 13 rfl) ?_
  obtain ⟨b8, eb8, hw⟩ := hw
  refine xb_some eb8 ?_
  obtain ⟨hk9, hw⟩ := hw
  refine xb_getI (C := R_Row) (T := F_Row) (N := 3) hx hb 1 1 hts fin_Row hown hR hk9 (by decide) rfl (by decide) rfl (hts _ m_94ec7535) (fun _ h9 => h9) (xb_d D_Instance_init 14 rfl) ?_
  obtain ⟨c12, sc12, hlc12, hlsc12, hw⟩ := hw
  refine xb_call (D := D) (A := A) (σ := σ) (h := h3) (d := 2) (mc := c12) (ms := sc12) (maxL := 3) (rest := [.ref x0]) (av := [.ref b7, .int (xb_i h3 b8 1)]) (fun T hT X => xt_invS X hx hown (hts _ m_28b0918c) (hts _ m_92cbae34) (hts _ m_b999e92a) (xt_sgS (hts _ m_00ffaf1f)).1 (xt_sgS (hts _ m_00ffaf1f)).2 nm_Arrays_copyOf1 (g := F0 m 29 ls [.int (xb_i h3 b8 1), .ref b7, .ref x0]) rfl (argsL := [.ref b7, .int (xb_i h3 b8 1)]) (rest := [.ref x0]) rfl rfl (by rw [hb]; exact (xb_d D_Instance_init 15 rfl))) (ok_Arrays_copyOf1 l hfl D A σ b7 (xb_i h3 b8 1) h3 c12 sc12 _ hw) (hml.trans hl.1.symm) (by rw [hb]; exact (xb_d D_Instance_init 15 rfl)) (Nat.le_of_ble_eq_true rfl) (Nat.le_of_ble_eq_true rfl) (Nat.le_of_ble_eq_true rfl) (show k + c12 ≤ MC by omega) (show n + sc12 ≤ MS by omega) (xt_w1 hB.1 m_00ffaf1f) (xt_cdOf hB.1 m_00ffaf1f) (hts _ m_b999e92a) hB hR hS hA (fun vv h10 H locs hq hEh10 hR hS => ?_) (fun XX ax h10 H locs hq hEh10 hex hR hS => ?_)
  · obtain ⟨r11, rfl, hw⟩ := hq
    have hw := hw hEh10
    have hE := hE.tr hEh10
    refine W.eq (g2 := F0 m 32 ls [.ref r11, .ref x0]) rfl ?_
    have hk1 : xb_k h3 x0 = 11 := by rw [eh3]; exact hk1
    have hk1 : xb_k h10 x0 = 11 := hEh10.k hk1
    refine xb_putPF (C := R_Instance) (T := F_Instance) (N := 8) (ty := .array .long) (x := (some r11)) hx hb 10 2 hts fin_Instance t_Instance t_Instance_ok n_Instance hown hR hS hk1 (by decide) rfl (by decide) rfl (hts _ m_192b1ea9) (fun _ h9 => h9) rfl hnm rfl (by decide +kernel) (xb_pnA _ _).1 (xb_pnA _ _).2 (xb_d D_Instance_init 16 rfl) (fun H locs hR hS => ?_)
    obtain ⟨h13, eh13⟩ : ∃ x : xb_H, x = xb_P h10 x0 2 (some r11) := ⟨_, rfl⟩
    rw [← eh13] at hR
    have hw := hw h13 eh13
    have hE : xb_ext h0 h13 := by rw [eh13]; exact hE
    refine lv_aload_n hx hb (xb_d D_Instance_init 17 rfl) rfl (lv_at hl 0 rfl) ?_
    refine lv_aload_n hx hb (xb_d D_Instance_init 18 rfl) rfl (lv_at hl 3 rfl) ?_
    have hk4 : xb_k h10 x3 = 7 := hEh10.k hk4
    have hk4 : xb_k h13 x3 = 7 := by rw [eh13]; exact hk4
    refine xb_getP (C := R_World) (T := F_World) (N := 16) hx hb 6 13 hts fin_World hown hR hk4 (by decide) rfl (by decide) rfl (hts _ m_9e7a7e5c) (fun _ h9 => h9) (xb_d D_Instance_init 19 rfl) ?_
    obtain ⟨b14, eb14, hw⟩ := hw
    refine xb_some eb14 ?_
    obtain ⟨hk15, hw⟩ := hw
    refine xb_getP (C := R_Row) (T := F_Row) (N := 3) hx hb 1 0 hts fin_Row hown hR hk15 (by decide) rfl (by decide) rfl (hts _ m_37b4b483) (fun _ h9 => h9) (xb_d D_Instance_init 20 rfl) ?_
    obtain ⟨b16, eb16, hw⟩ := hw
    refine xb_some eb16 ?_
    refine lv_aload_n hx hb (xb_d D_Instance_init 21 rfl) rfl (lv_at hl 3 rfl) ?_
    refine xb_getP (C := R_World) (T := F_World) (N := 16) hx hb 6 13 hts fin_World hown hR hk4 (by decide) rfl (by decide) rfl (hts _ m_9e7a7e5c) (fun _ h9 => h9) (xb_d D_Instance_init 22 rfl) ?_
    obtain ⟨b17, eb17, hw⟩ := hw
    refine xb_some eb17 ?_
    obtain ⟨hk18, hw⟩ := hw
    refine xb_getI (C := R_Row) (T := F_Row) (N := 3) hx hb 1 1 hts fin_Row hown hR hk18 (by decide) rfl (by decide) rfl (hts _ m_94ec7535) (fun _ h9 => h9) (xb_d D_Instance_init 23 rfl) ?_
    obtain ⟨c21, sc21, hlc21, hlsc21, hw⟩ := hw
    refine xb_call (D := D) (A := A) (σ := σ) (h := h13) (d := 2) (mc := c21) (ms := sc21) (maxL := 3) (rest := [.ref x0]) (av := [.ref b16, .int (xb_i h13 b17 1)]) (fun T hT X => xt_invS X hx hown (hts _ m_28b0918c) (hts _ m_92cbae34) (hts _ m_b999e92a) (xt_sgS (hts _ m_00ffaf1f)).1 (xt_sgS (hts _ m_00ffaf1f)).2 nm_Arrays_copyOf1 (g := F0 m 50 ls [.int (xb_i h13 b17 1), .ref b16, .ref x0]) rfl (argsL := [.ref b16, .int (xb_i h13 b17 1)]) (rest := [.ref x0]) rfl rfl (by rw [hb]; exact (xb_d D_Instance_init 24 rfl))) (ok_Arrays_copyOf1 l hfl D A σ b16 (xb_i h13 b17 1) h13 c21 sc21 _ hw) (hml.trans hl.1.symm) (by rw [hb]; exact (xb_d D_Instance_init 24 rfl)) (Nat.le_of_ble_eq_true rfl) (Nat.le_of_ble_eq_true rfl) (Nat.le_of_ble_eq_true rfl) (show (k + c12) + c21 ≤ MC by omega) (show (n + sc12) + sc21 ≤ MS by omega) (xt_w1 hB.1 m_00ffaf1f) (xt_cdOf hB.1 m_00ffaf1f) (hts _ m_b999e92a) hB hR hS hA (fun vv h19 H locs hq hEh19 hR hS => ?_) (fun XX ax h19 H locs hq hEh19 hex hR hS => ?_)
    · obtain ⟨r20, rfl, hw⟩ := hq
      have hw := hw hEh19
      have hE := hE.tr hEh19
      refine W.eq (g2 := F0 m 53 ls [.ref r20, .ref x0]) rfl ?_
      have hk1 : xb_k h13 x0 = 11 := by rw [eh13]; exact hk1
      have hk1 : xb_k h19 x0 = 11 := hEh19.k hk1
      refine xb_putPF (C := R_Instance) (T := F_Instance) (N := 8) (ty := .array .long) (x := (some r20)) hx hb 10 3 hts fin_Instance t_Instance t_Instance_ok n_Instance hown hR hS hk1 (by decide) rfl (by decide) rfl (hts _ m_79003569) (fun _ h9 => h9) rfl hnm rfl (by decide +kernel) (xb_pnA _ _).1 (xb_pnA _ _).2 (xb_d D_Instance_init 25 rfl) (fun H locs hR hS => ?_)
      obtain ⟨h22, eh22⟩ : ∃ x : xb_H, x = xb_P h19 x0 3 (some r20) := ⟨_, rfl⟩
      rw [← eh22] at hR
      have hw := hw h22 eh22
      have hE : xb_ext h0 h22 := by rw [eh22]; exact hE
      refine lv_aload_n hx hb (xb_d D_Instance_init 26 rfl) rfl (lv_at hl 0 rfl) ?_
      refine lv_aload_n hx hb (xb_d D_Instance_init 27 rfl) rfl (lv_at hl 3 rfl) ?_
      have hk4 : xb_k h19 x3 = 7 := hEh19.k hk4
      have hk4 : xb_k h22 x3 = 7 := by rw [eh22]; exact hk4
      refine xb_getP (C := R_World) (T := F_World) (N := 16) hx hb 6 2 hts fin_World hown hR hk4 (by decide) rfl (by decide) rfl (hts _ m_821fbd49) (fun _ h9 => h9) (xb_d D_Instance_init 28 rfl) ?_
      obtain ⟨b23, eb23, hw⟩ := hw
      refine xb_some eb23 ?_
      obtain ⟨hk24, hw⟩ := hw
      refine xb_getI (C := R_Row) (T := F_Row) (N := 3) hx hb 1 1 hts fin_Row hown hR hk24 (by decide) rfl (by decide) rfl (hts _ m_94ec7535) (fun _ h9 => h9) (xb_d D_Instance_init 29 rfl) ?_
      have hk1 : xb_k h22 x0 = 11 := by rw [eh22]; exact hk1
      refine xb_putIF (C := R_Instance) (T := F_Instance) (N := 8) (ty := .int) (x := (xb_i h22 b23 1)) hx hb 10 4 hts fin_Instance t_Instance t_Instance_ok n_Instance hown hR hS hk1 (by decide) rfl (by decide) rfl (hts _ m_f477301c) (fun _ h9 => h9) rfl hnm rfl (by decide +kernel) rfl rfl (xb_d D_Instance_init 30 rfl) (fun H locs hR hS => ?_)
      obtain ⟨h25, eh25⟩ : ∃ x : xb_H, x = xb_I h22 x0 4 (xb_i h22 b23 1) := ⟨_, rfl⟩
      rw [← eh25] at hR
      have hw := hw h25 eh25
      have hE : xb_ext h0 h25 := by rw [eh25]; exact hE
      refine lv_aload_n hx hb (xb_d D_Instance_init 31 rfl) rfl (lv_at hl 0 rfl) ?_
      refine lv_aload_n hx hb (xb_d D_Instance_init 32 rfl) rfl (lv_at hl 3 rfl) ?_
      have hk4 : xb_k h25 x3 = 7 := by rw [eh25]; exact hk4
      refine xb_getP (C := R_World) (T := F_World) (N := 16) hx hb 6 3 hts fin_World hown hR hk4 (by decide) rfl (by decide) rfl (hts _ m_fb73f8ca) (fun _ h9 => h9) (xb_d D_Instance_init 33 rfl) ?_
      obtain ⟨b26, eb26, hw⟩ := hw
      refine xb_some eb26 ?_
      obtain ⟨hk27, hw⟩ := hw
      refine xb_getI (C := R_Row) (T := F_Row) (N := 3) hx hb 1 1 hts fin_Row hown hR hk27 (by decide) rfl (by decide) rfl (hts _ m_94ec7535) (fun _ h9 => h9) (xb_d D_Instance_init 34 rfl) ?_
      have hk1 : xb_k h25 x0 = 11 := by rw [eh25]; exact hk1
      refine xb_putIF (C := R_Instance) (T := F_Instance) (N := 8) (ty := .int) (x := (xb_i h25 b26 1)) hx hb 10 5 hts fin_Instance t_Instance t_Instance_ok n_Instance hown hR hS hk1 (by decide) rfl (by decide) rfl (hts _ m_ca9c5328) (fun _ h9 => h9) rfl hnm rfl (by decide +kernel) rfl rfl (xb_d D_Instance_init 35 rfl) (fun H locs hR hS => ?_)
      obtain ⟨h28, eh28⟩ : ∃ x : xb_H, x = xb_I h25 x0 5 (xb_i h25 b26 1) := ⟨_, rfl⟩
      rw [← eh28] at hR
      have hw := hw h28 eh28
      have hE : xb_ext h0 h28 := by rw [eh28]; exact hE
      refine lv_aload_n hx hb (xb_d D_Instance_init 36 rfl) rfl (lv_at hl 0 rfl) ?_
      refine lv_aload_n hx hb (xb_d D_Instance_init 37 rfl) rfl (lv_at hl 3 rfl) ?_
      have hk4 : xb_k h28 x3 = 7 := by rw [eh28]; exact hk4
      refine xb_getP (C := R_World) (T := F_World) (N := 16) hx hb 6 14 hts fin_World hown hR hk4 (by decide) rfl (by decide) rfl (hts _ m_27acaeec) (fun _ h9 => h9) (xb_d D_Instance_init 38 rfl) ?_
      have hk1 : xb_k h28 x0 = 11 := by rw [eh28]; exact hk1
      refine xb_putP (C := R_Instance) (T := F_Instance) (N := 8) (ty := .object "StackHost$Table") (x := (xb_r h28 x3 14)) hx hb 10 6 hts fin_Instance t_Instance t_Instance_ok n_Instance hown hR hS hk1 (by decide) rfl (by decide) rfl (hts _ m_4c6661c5) (fun _ h9 => h9) rfl (by decide +kernel) (xb_pnO _ _).1 (xb_pnO _ _).2 (xb_d D_Instance_init 39 rfl) (fun H locs hR hS => ?_)
      obtain ⟨h29, eh29⟩ : ∃ x : xb_H, x = xb_P h28 x0 6 (xb_r h28 x3 14) := ⟨_, rfl⟩
      rw [← eh29] at hR
      have hw := hw h29 eh29
      have hE : xb_ext h0 h29 := by rw [eh29]; exact hE
      refine lv_aload_n hx hb (xb_d D_Instance_init 40 rfl) rfl (lv_at hl 0 rfl) ?_
      refine lv_aload_n hx hb (xb_d D_Instance_init 41 rfl) rfl (lv_at hl 3 rfl) ?_
      have hk4 : xb_k h29 x3 = 7 := by rw [eh29]; exact hk4
      refine xb_getP (C := R_World) (T := F_World) (N := 16) hx hb 6 15 hts fin_World hown hR hk4 (by decide) rfl (by decide) rfl (hts _ m_e430202e) (fun _ h9 => h9) (xb_d D_Instance_init 42 rfl) ?_
      have hk1 : xb_k h29 x0 = 11 := by rw [eh29]; exact hk1
      refine xb_putP (C := R_Instance) (T := F_Instance) (N := 8) (ty := .object "StackHost$Memory") (x := (xb_r h29 x3 15)) hx hb 10 7 hts fin_Instance t_Instance t_Instance_ok n_Instance hown hR hS hk1 (by decide) rfl (by decide) rfl (hts _ m_90ac9ab4) (fun _ h9 => h9) rfl (by decide +kernel) (xb_pnO _ _).1 (xb_pnO _ _).2 (xb_d D_Instance_init 43 rfl) (fun H locs hR hS => ?_)
      obtain ⟨h30, eh30⟩ : ∃ x : xb_H, x = xb_P h29 x0 7 (xb_r h29 x3 15) := ⟨_, rfl⟩
      rw [← eh30] at hR
      have hw := hw h30 eh30
      have hE : xb_ext h0 h30 := by rw [eh30]; exact hE
      exact xb_vret hx hb hr hlocks (show ((k + c12) + c21) ≤ MC by omega) (show ((n + sc12) + sc21) ≤ MS by omega) hE hR hS (xb_d D_Instance_init 44 rfl) hw
    · exact False.elim hq
  · exact False.elim hq

theorem m_4f3bb594 : (.methodLink "StackHost$Machine" 3 objectInit : Cond) ∈ xt_tbl := xt_in (xt_t1 (List.mem_of_getElem? (i := 235) (by decide +kernel))) (by decide +kernel)
theorem m_21de6f07 : (.classLink "StackHost$Machine" 9 "StackHost$Format" : Cond) ∈ xt_tbl := xt_in (xt_t1 (List.mem_of_getElem? (i := 236) (by decide +kernel))) (by decide +kernel)
theorem m_56af0da6 : (.instantiable "StackHost$Format" 5 : Cond) ∈ xt_tbl := xt_in (xt_t1 (List.mem_of_getElem? (i := 237) (by decide +kernel))) (by decide +kernel)
theorem m_ee1f5528 : (.constantLong "StackHost$Machine" 11 2147483648 : Cond) ∈ xt_tbl := xt_in (xt_t1 (List.mem_of_getElem? (i := 238) (by decide +kernel))) (by decide +kernel)
theorem m_8d5113d2 : (.methodLink "StackHost$Machine" 13 y_Format_init : Cond) ∈ xt_tbl := xt_in (xt_t1 (List.mem_of_getElem? (i := 239) (by decide +kernel))) (by decide +kernel)
theorem m_f42f6adf : (.instanceMethod y_Format_init : Cond) ∈ xt_tbl := xt_in (xt_t2 (List.mem_of_getElem? (i := 0) (by decide +kernel))) (by decide +kernel)
theorem m_cbf096b7 : (.code y_Format_init b_Format_init 5 none : Cond) ∈ xt_tbl := xt_in (xt_t2 (List.mem_of_getElem? (i := 1) (by decide +kernel))) (by decide +kernel)
theorem m_ae64f9ca : (.fieldLink "StackHost$Machine" 16 "StackHost$Machine" "singles" "LStackHost$Format;" : Cond) ∈ xt_tbl := xt_in (xt_t2 (List.mem_of_getElem? (i := 22) (by decide +kernel))) (by decide +kernel)
theorem m_a8868524 : (.constantLong "StackHost$Machine" 22 (-9223372036854775808) : Cond) ∈ xt_tbl := xt_in (xt_t2 (List.mem_of_getElem? (i := 20) (by decide +kernel))) (by decide +kernel)
theorem m_ba1eb42f : (.fieldLink "StackHost$Machine" 24 "StackHost$Machine" "doubles" "LStackHost$Format;" : Cond) ∈ xt_tbl := xt_in (xt_t2 (List.mem_of_getElem? (i := 23) (by decide +kernel))) (by decide +kernel)
theorem nm_Format_init : xt_nm y_Format_init 3 := ⟨by decide +kernel, by decide +kernel⟩
set_option maxRecDepth 100000 in
def T_Machine_init : List (Nat × Instr × Nat) := [(0, .aload_n 0, 1), (1, .invokespecial 3, 3), (4, .aload_n 0, 1), (5, .new 9, 3), (8, .dup, 1), (9, .bipush 24, 2), (11, .bipush 127, 2), (13, .ldc2_w 11, 3), (16, .invokespecial 13, 3), (19, .putfield 16, 3), (22, .aload_n 0, 1), (23, .new 9, 3), (26, .dup, 1), (27, .bipush 53, 2), (29, .sipush 1023, 3), (32, .ldc2_w 22, 3), (35, .invokespecial 13, 3), (38, .putfield 24, 3), (41, .aload_n 0, 1), (42, .iconst 4, 1), (43, .newarray .int, 2), (45, .dup, 1), (46, .iconst 0, 1), (47, .iconst 0, 1), (48, .iastore, 1), (49, .dup, 1), (50, .iconst 1, 1), (51, .iconst (-1), 1), (52, .iastore, 1), (53, .dup, 1), (54, .iconst 2, 1), (55, .iconst (-1), 1), (56, .iastore, 1), (57, .dup, 1), (58, .iconst 3, 1), (59, .iconst (-1), 1), (60, .iastore, 1), (61, .putfield 27, 3), (64, .aload_n 0, 1), (65, .iconst (-1), 1), (66, .putfield 31, 3), (69, .aload_n 0, 1), (70, .bipush 64, 2), (72, .newarray .long, 2), (74, .putfield 35, 3), (77, .aload_n 0, 1), (78, .sipush 1000, 3), (81, .newarray .int, 2), (83, .putfield 39, 3), (86, .aload_n 0, 1), (87, .aload_n 1, 1), (88, .putfield 42, 3), (91, .return_, 1)]
theorem D_Machine_init : ∀ q ∈ T_Machine_init, decode b_Machine_init q.1 = .ok (q.2.1, q.2.2) := by decide +kernel
def w_Machine_init (x0 : Nat) (x1 : Nat) (h : xb_H) (bc : Nat) (bs : Nat) (Qr : xb_H → Prop) : Prop :=
    1 ≤ bc ∧ 5 ≤ bs ∧ ∀ q1 : Nat, xb_k h q1 = 0 → ∀ h2 : xb_H, h2 = xb_new h q1 6 0 → w_Format_init q1 24 127 2147483648 h2 (fun (h4 : xb_H) => xb_ext h2 h4 → xb_k h4 x0 = 8 ∧ ∀ h7 : xb_H, h7 = xb_P h4 x0 1 (some q1) → 1 ≤ (bc - 1) ∧ 5 ≤ (bs - 5) ∧ ∀ q8 : Nat, xb_k h7 q8 = 0 → ∀ h9 : xb_H, h9 = xb_new h7 q8 6 0 → w_Format_init q8 53 1023 (-9223372036854775808) h9 (fun (h11 : xb_H) => xb_ext h9 h11 → ∀ h13 : xb_H, h13 = xb_P h11 x0 2 (some q8) → 1 ≤ ((bc - 1) - 1) ∧ 4 ≤ ((bs - 5) - 5) ∧ ∀ q14 : Nat, xb_k h13 q14 = 0 → ∀ h15 : xb_H, h15 = xb_new h13 q14 102 4 → vp_in 0 (xb_n h15 q14) ∧ ∀ h18 : xb_H, h18 = xb_I h15 q14 (Int32.toNatClampNeg 0) 0 → vp_in 1 (xb_n h18 q14) ∧ ∀ h20 : xb_H, h20 = xb_I h18 q14 (Int32.toNatClampNeg 1) (-1) → vp_in 2 (xb_n h20 q14) ∧ ∀ h22 : xb_H, h22 = xb_I h20 q14 (Int32.toNatClampNeg 2) (-1) → vp_in 3 (xb_n h22 q14) ∧ ∀ h24 : xb_H, h24 = xb_I h22 q14 (Int32.toNatClampNeg 3) (-1) → ∀ h25 : xb_H, h25 = xb_P h24 x0 6 (some q14) → ∀ h26 : xb_H, h26 = xb_I h25 x0 8 (-1) → 1 ≤ (((bc - 1) - 1) - 1) ∧ 64 ≤ (((bs - 5) - 5) - 4) ∧ ∀ q27 : Nat, xb_k h26 q27 = 0 → ∀ h28 : xb_H, h28 = xb_new h26 q27 103 64 → ∀ h30 : xb_H, h30 = xb_P h28 x0 9 (some q27) → 1 ≤ ((((bc - 1) - 1) - 1) - 1) ∧ 1000 ≤ ((((bs - 5) - 5) - 4) - 64) ∧ ∀ q31 : Nat, xb_k h30 q31 = 0 → ∀ h32 : xb_H, h32 = xb_new h30 q31 102 1000 → ∀ h34 : xb_H, h34 = xb_P h32 x0 11 (some q31) → ∀ h35 : xb_H, h35 = xb_P h34 x0 0 (some x1) → Qr h35))

set_option maxHeartbeats 4000000 in
set_option maxRecDepth 100000 in
theorem ok_Machine_init (l : Launch) (hfl : l.flags = pinnedFlags ++ [noTraceFlag]) (D : va_G) (A : Nat → Prop) (σ : Nat) (x0 : Nat) (x1 : Nat) (h : xb_H) (bc : Nat) (bs : Nat) (Qr : xb_H → Prop) (hw : w_Machine_init x0 x1 h bc bs Qr) : xt_Met l y_Machine_init [.code y_Machine_init b_Machine_init 2 none] (xb_rm 3 bc bs) (xb_Pc D A σ h [.ref x0, .ref x1]) (xb_Qc D A h (fun v h => v = none ∧ Qr h) (fun _ _ => False)) bc bs A := by
  refine xb_ofAm (cc := b_Machine_init) (by decide) (Nat.le_of_ble_eq_true rfl) ?_
  unfold w_Machine_init at hw
  show xb_am l D A σ 3 bc bs h (fun v h => v = none ∧ Qr h) (fun _ _ => False) y_Machine_init.cls y_Machine_init.name b_Machine_init 2 ([] : List ExceptionTableEntry) none 0 [(0, .ref x0), (1, .ref x1)] [] h bc bs
  obtain ⟨MC, hMC⟩ : ∃ x, x = bc := ⟨_, rfl⟩
  obtain ⟨MS, hMS⟩ : ∃ x, x = bs := ⟨_, rfl⟩
  rw [show xb_am l D A σ 3 bc bs = xb_am l D A σ 3 MC MS by rw [hMC, hMS]]
  obtain ⟨h0, hh0⟩ : ∃ x, x = h := ⟨_, rfl⟩
  rw [show xb_am l D A σ 3 MC MS h = xb_am l D A σ 3 MC MS h0 by rw [hh0]]
  intro p e s m args below meth c hC H locs ls k n hE hl hR hS hk hn
  obtain ⟨hx, hb, hown, hlocks, htab, hml, hr, hB, hA, hnm⟩ := id hC
  have hts := hB.1.1.at args
  refine lv_aload_n hx hb (xb_d D_Machine_init 0 rfl) rfl (lv_at hl 0 rfl) ?_
  refine W.objInit hx hb hown (hts _ m_4f3bb594) (hts _ m_fba9d542) (hts _ m_9febdb7e) rfl (hml.trans hl.1.symm).symm rfl (xb_d D_Machine_init 1 rfl) (by show 1 ≤ 8 + _; omega) (Nat.le_trans (Nat.le_of_ble_eq_true rfl : _ ≤ 40) (by show 40 ≤ 120 + _; omega)) ?_
  refine W.eq (g2 := F0 m 4 ls []) rfl ?_
  refine lv_aload_n hx hb (xb_d D_Machine_init 2 rfl) rfl (lv_at hl 0 rfl) ?_
  obtain ⟨hcq1, hsq1, hw⟩ := hw
  refine xb_newo (C := R_Format) (T := F_Format) (N := 5) hx hb 5 hts fin_Format t_Format t_Format_ok hown (hts _ m_21de6f07) (hts _ m_56af0da6) (hts _ m_64857de5) hR hS hA (by decide) rfl dg_Format (show k + 1 ≤ MC by omega) (show n + 5 ≤ MS by omega) (xb_d D_Machine_init 3 rfl) (fun q1 H hqq1 hR hS => ?_)
  have hw := hw q1 hqq1
  obtain ⟨h2, eh2⟩ : ∃ x : xb_H, x = xb_new h q1 6 0 := ⟨_, rfl⟩
  rw [← eh2] at hR
  have hw := hw h2 eh2
  have hE : xb_ext h0 h2 := by rw [eh2]; exact hE.new _ _ hqq1
  have hk3 : xb_k h2 q1 = 6 := by rw [eh2]; exact xb_new_k _ _ _ _
  refine lv_dup hx hb (xb_d D_Machine_init 4 rfl) rfl ?_
  refine lv_bipush (v := 24) hx hb (xb_d D_Machine_init 5 rfl) (by decide) ?_
  refine lv_bipush (v := 127) hx hb (xb_d D_Machine_init 6 rfl) (by decide) ?_
  refine lv_ldc2 (v := 2147483648) hx hb hown (hts _ m_ee1f5528) (xb_d D_Machine_init 7 rfl) ?_
  refine xb_call (D := D) (A := A) (σ := σ) (h := h2) (d := 2) (mc := 0) (ms := 0) (maxL := 5) (rest := [.ref q1, .ref x0]) (av := [.ref q1, .int 24, .int 127, .long 2147483648]) (fun T hT X => xt_invI X hx hown rfl (hts _ m_8d5113d2) (hts _ m_f42f6adf) (hts _ m_cbf096b7) nm_Format_init (g := F0 m 16 ls [.long 2147483648, .int 127, .int 24, .ref q1, .ref q1, .ref x0]) rfl (b := q1) (argsL := [.int 24, .int 127, .long 2147483648]) (rest := [.ref q1, .ref x0]) rfl rfl (by rw [hb]; exact (xb_d D_Machine_init 8 rfl))) (ok_Format_init l hfl D A σ q1 24 127 2147483648 h2 _ hw) (hml.trans hl.1.symm) (by rw [hb]; exact (xb_d D_Machine_init 8 rfl)) (Nat.le_of_ble_eq_true rfl) (Nat.le_of_ble_eq_true rfl) (Nat.le_of_ble_eq_true rfl) (show (k + 1) + 0 ≤ MC by omega) (show (n + 5) + 0 ≤ MS by omega) (xt_w1 hB.1 m_cbf096b7) (xt_cdOf hB.1 m_cbf096b7) (hts _ m_64857de5) hB hR hS hA (fun vv h4 H locs hq hEh4 hR hS => ?_) (fun XX ax h4 H locs hq hEh4 hex hR hS => ?_)
  · obtain ⟨rfl, hw⟩ := hq
    have hw := hw hEh4
    have hE := hE.tr hEh4
    refine W.eq (g2 := F0 m 19 ls [.ref q1, .ref x0]) rfl ?_
    obtain ⟨hk6, hw⟩ := hw
    refine xb_putPF (C := R_Machine) (T := F_Machine) (N := 18) (ty := .object "StackHost$Format") (x := (some q1)) hx hb 7 1 hts fin_Machine t_Machine t_Machine_ok n_Machine hown hR hS hk6 (by decide) rfl (by decide) rfl (hts _ m_ae64f9ca) (fun _ h9 => h9) rfl hnm rfl (by decide +kernel) (xb_pnO _ _).1 (xb_pnO _ _).2 (xb_d D_Machine_init 9 rfl) (fun H locs hR hS => ?_)
    obtain ⟨h7, eh7⟩ : ∃ x : xb_H, x = xb_P h4 x0 1 (some q1) := ⟨_, rfl⟩
    rw [← eh7] at hR
    have hw := hw h7 eh7
    have hE : xb_ext h0 h7 := by rw [eh7]; exact hE
    refine lv_aload_n hx hb (xb_d D_Machine_init 10 rfl) rfl (lv_at hl 0 rfl) ?_
    obtain ⟨hcq8, hsq8, hw⟩ := hw
    refine xb_newo (C := R_Format) (T := F_Format) (N := 5) hx hb 5 hts fin_Format t_Format t_Format_ok hown (hts _ m_21de6f07) (hts _ m_56af0da6) (hts _ m_64857de5) hR hS hA (by decide) rfl dg_Format (show (k + 1) + 1 ≤ MC by omega) (show (n + 5) + 5 ≤ MS by omega) (xb_d D_Machine_init 11 rfl) (fun q8 H hqq8 hR hS => ?_)
    have hw := hw q8 hqq8
    obtain ⟨h9, eh9⟩ : ∃ x : xb_H, x = xb_new h7 q8 6 0 := ⟨_, rfl⟩
    rw [← eh9] at hR
    have hw := hw h9 eh9
    have hE : xb_ext h0 h9 := by rw [eh9]; exact hE.new _ _ hqq8
    have hk10 : xb_k h9 q8 = 6 := by rw [eh9]; exact xb_new_k _ _ _ _
    refine lv_dup hx hb (xb_d D_Machine_init 12 rfl) rfl ?_
    refine lv_bipush (v := 53) hx hb (xb_d D_Machine_init 13 rfl) (by decide) ?_
    refine lv_sipush (v := 1023) hx hb (xb_d D_Machine_init 14 rfl) (by decide) ?_
    refine lv_ldc2 (v := (-9223372036854775808)) hx hb hown (hts _ m_a8868524) (xb_d D_Machine_init 15 rfl) ?_
    refine xb_call (D := D) (A := A) (σ := σ) (h := h9) (d := 2) (mc := 0) (ms := 0) (maxL := 5) (rest := [.ref q8, .ref x0]) (av := [.ref q8, .int 53, .int 1023, .long (-9223372036854775808)]) (fun T hT X => xt_invI X hx hown rfl (hts _ m_8d5113d2) (hts _ m_f42f6adf) (hts _ m_cbf096b7) nm_Format_init (g := F0 m 35 ls [.long (-9223372036854775808), .int 1023, .int 53, .ref q8, .ref q8, .ref x0]) rfl (b := q8) (argsL := [.int 53, .int 1023, .long (-9223372036854775808)]) (rest := [.ref q8, .ref x0]) rfl rfl (by rw [hb]; exact (xb_d D_Machine_init 16 rfl))) (ok_Format_init l hfl D A σ q8 53 1023 (-9223372036854775808) h9 _ hw) (hml.trans hl.1.symm) (by rw [hb]; exact (xb_d D_Machine_init 16 rfl)) (Nat.le_of_ble_eq_true rfl) (Nat.le_of_ble_eq_true rfl) (Nat.le_of_ble_eq_true rfl) (show ((k + 1) + 1) + 0 ≤ MC by omega) (show ((n + 5) + 5) + 0 ≤ MS by omega) (xt_w1 hB.1 m_cbf096b7) (xt_cdOf hB.1 m_cbf096b7) (hts _ m_64857de5) hB hR hS hA (fun vv h11 H locs hq hEh11 hR hS => ?_) (fun XX ax h11 H locs hq hEh11 hex hR hS => ?_)
    · obtain ⟨rfl, hw⟩ := hq
      have hw := hw hEh11
      have hE := hE.tr hEh11
      refine W.eq (g2 := F0 m 38 ls [.ref q8, .ref x0]) rfl ?_
      have hk6 : xb_k h7 x0 = 8 := by rw [eh7]; exact hk6
      have hk6 : xb_k h9 x0 = 8 := by rw [eh9]; exact xb_nk hqq8 hk6
      have hk6 : xb_k h11 x0 = 8 := hEh11.k hk6
      refine xb_putPF (C := R_Machine) (T := F_Machine) (N := 18) (ty := .object "StackHost$Format") (x := (some q8)) hx hb 7 2 hts fin_Machine t_Machine t_Machine_ok n_Machine hown hR hS hk6 (by decide) rfl (by decide) rfl (hts _ m_ba1eb42f) (fun _ h9 => h9) rfl hnm rfl (by decide +kernel) (xb_pnO _ _).1 (xb_pnO _ _).2 (xb_d D_Machine_init 17 rfl) (fun H locs hR hS => ?_)
      obtain ⟨h13, eh13⟩ : ∃ x : xb_H, x = xb_P h11 x0 2 (some q8) := ⟨_, rfl⟩
      rw [← eh13] at hR
      have hw := hw h13 eh13
      have hE : xb_ext h0 h13 := by rw [eh13]; exact hE
      refine lv_aload_n hx hb (xb_d D_Machine_init 18 rfl) rfl (lv_at hl 0 rfl) ?_
      refine lv_iconst (v := 4) hx hb (xb_d D_Machine_init 19 rfl) (by decide) ?_
      obtain ⟨hcq14, hsq14, hw⟩ := hw
      have enq14 : (4 : Int32).toNatClampNeg = 4 := by decide
      refine xb_newa_i hx hb (hts _ m_d160d5ac) hR hS hA (by decide) (by decide +kernel) (show ((k + 1) + 1) + 1 ≤ MC by omega) (show ((n + 5) + 5) + _ ≤ MS by rw [enq14]; omega) (xb_d D_Machine_init 20 rfl) (fun q14 H hqq14 hR hS => ?_)
      rw [enq14] at hR ⊢
      have hw := hw q14 hqq14
      obtain ⟨h15, eh15⟩ : ∃ x : xb_H, x = xb_new h13 q14 102 4 := ⟨_, rfl⟩
      rw [← eh15] at hR
      have hw := hw h15 eh15
      have hE : xb_ext h0 h15 := by rw [eh15]; exact hE.new _ _ hqq14
      have hk16 : xb_k h15 q14 = 102 := by rw [eh15]; exact xb_new_k _ _ _ _
      refine lv_dup hx hb (xb_d D_Machine_init 21 rfl) rfl ?_
      refine lv_iconst (v := 0) hx hb (xb_d D_Machine_init 22 rfl) (by decide) ?_
      refine lv_iconst (v := 0) hx hb (xb_d D_Machine_init 23 rfl) (by decide) ?_
      obtain ⟨hi17, hw⟩ := hw
      refine xb_iast hx hb hR hS hk16 hi17 (xb_d D_Machine_init 24 rfl) (fun H locs hR hS => ?_)
      obtain ⟨h18, eh18⟩ : ∃ x : xb_H, x = xb_I h15 q14 (Int32.toNatClampNeg 0) 0 := ⟨_, rfl⟩
      rw [← eh18] at hR
      have hw := hw h18 eh18
      have hE : xb_ext h0 h18 := by rw [eh18]; exact hE
      refine lv_dup hx hb (xb_d D_Machine_init 25 rfl) rfl ?_
      refine lv_iconst (v := 1) hx hb (xb_d D_Machine_init 26 rfl) (by decide) ?_
      refine lv_iconst (v := (-1)) hx hb (xb_d D_Machine_init 27 rfl) (by decide) ?_
      have hk16 : xb_k h18 q14 = 102 := by rw [eh18]; exact hk16
      obtain ⟨hi19, hw⟩ := hw
      refine xb_iast hx hb hR hS hk16 hi19 (xb_d D_Machine_init 28 rfl) (fun H locs hR hS => ?_)
      obtain ⟨h20, eh20⟩ : ∃ x : xb_H, x = xb_I h18 q14 (Int32.toNatClampNeg 1) (-1) := ⟨_, rfl⟩
      rw [← eh20] at hR
      have hw := hw h20 eh20
      have hE : xb_ext h0 h20 := by rw [eh20]; exact hE
      refine lv_dup hx hb (xb_d D_Machine_init 29 rfl) rfl ?_
      refine lv_iconst (v := 2) hx hb (xb_d D_Machine_init 30 rfl) (by decide) ?_
      refine lv_iconst (v := (-1)) hx hb (xb_d D_Machine_init 31 rfl) (by decide) ?_
      have hk16 : xb_k h20 q14 = 102 := by rw [eh20]; exact hk16
      obtain ⟨hi21, hw⟩ := hw
      refine xb_iast hx hb hR hS hk16 hi21 (xb_d D_Machine_init 32 rfl) (fun H locs hR hS => ?_)
      obtain ⟨h22, eh22⟩ : ∃ x : xb_H, x = xb_I h20 q14 (Int32.toNatClampNeg 2) (-1) := ⟨_, rfl⟩
      rw [← eh22] at hR
      have hw := hw h22 eh22
      have hE : xb_ext h0 h22 := by rw [eh22]; exact hE
      refine lv_dup hx hb (xb_d D_Machine_init 33 rfl) rfl ?_
      refine lv_iconst (v := 3) hx hb (xb_d D_Machine_init 34 rfl) (by decide) ?_
      refine lv_iconst (v := (-1)) hx hb (xb_d D_Machine_init 35 rfl) (by decide) ?_
      have hk16 : xb_k h22 q14 = 102 := by rw [eh22]; exact hk16
      obtain ⟨hi23, hw⟩ := hw
      refine xb_iast hx hb hR hS hk16 hi23 (xb_d D_Machine_init 36 rfl) (fun H locs hR hS => ?_)
      obtain ⟨h24, eh24⟩ : ∃ x : xb_H, x = xb_I h22 q14 (Int32.toNatClampNeg 3) (-1) := ⟨_, rfl⟩
      rw [← eh24] at hR
      have hw := hw h24 eh24
      have hE : xb_ext h0 h24 := by rw [eh24]; exact hE
      have hk6 : xb_k h13 x0 = 8 := by rw [eh13]; exact hk6
      have hk6 : xb_k h15 x0 = 8 := by rw [eh15]; exact xb_nk hqq14 hk6
      have hk6 : xb_k h18 x0 = 8 := by rw [eh18]; exact hk6
      have hk6 : xb_k h20 x0 = 8 := by rw [eh20]; exact hk6
      have hk6 : xb_k h22 x0 = 8 := by rw [eh22]; exact hk6
      have hk6 : xb_k h24 x0 = 8 := by rw [eh24]; exact hk6
      refine xb_putPF (C := R_Machine) (T := F_Machine) (N := 18) (ty := .array .int) (x := (some q14)) hx hb 7 6 hts fin_Machine t_Machine t_Machine_ok n_Machine hown hR hS hk6 (by decide) rfl (by decide) rfl (hts _ m_731e5d01) (fun _ h9 => h9) rfl hnm rfl (by decide +kernel) (xb_pnA _ _).1 (xb_pnA _ _).2 (xb_d D_Machine_init 37 rfl) (fun H locs hR hS => ?_)
      obtain ⟨h25, eh25⟩ : ∃ x : xb_H, x = xb_P h24 x0 6 (some q14) := ⟨_, rfl⟩
      rw [← eh25] at hR
      have hw := hw h25 eh25
      have hE : xb_ext h0 h25 := by rw [eh25]; exact hE
      refine lv_aload_n hx hb (xb_d D_Machine_init 38 rfl) rfl (lv_at hl 0 rfl) ?_
      refine lv_iconst (v := (-1)) hx hb (xb_d D_Machine_init 39 rfl) (by decide) ?_
      have hk6 : xb_k h25 x0 = 8 := by rw [eh25]; exact hk6
      refine xb_putI (C := R_Machine) (T := F_Machine) (N := 18) (ty := .int) (x := (-1)) hx hb 7 8 hts fin_Machine t_Machine t_Machine_ok n_Machine hown hR hS hk6 (by decide) rfl (by decide) rfl (hts _ m_71c815d4) (fun _ h9 => h9) rfl (by decide +kernel) rfl rfl (xb_d D_Machine_init 40 rfl) (fun H locs hR hS => ?_)
      obtain ⟨h26, eh26⟩ : ∃ x : xb_H, x = xb_I h25 x0 8 (-1) := ⟨_, rfl⟩
      rw [← eh26] at hR
      have hw := hw h26 eh26
      have hE : xb_ext h0 h26 := by rw [eh26]; exact hE
      refine lv_aload_n hx hb (xb_d D_Machine_init 41 rfl) rfl (lv_at hl 0 rfl) ?_
      refine lv_bipush (v := 64) hx hb (xb_d D_Machine_init 42 rfl) (by decide) ?_
      obtain ⟨hcq27, hsq27, hw⟩ := hw
      have enq27 : (64 : Int32).toNatClampNeg = 64 := by decide
      refine xb_newa_l hx hb (hts _ m_f2af499d) hR hS hA (by decide) (by decide +kernel) (show (((k + 1) + 1) + 1) + 1 ≤ MC by omega) (show (((n + 5) + 5) + 4) + _ ≤ MS by rw [enq27]; omega) (xb_d D_Machine_init 43 rfl) (fun q27 H hqq27 hR hS => ?_)
      rw [enq27] at hR ⊢
      have hw := hw q27 hqq27
      obtain ⟨h28, eh28⟩ : ∃ x : xb_H, x = xb_new h26 q27 103 64 := ⟨_, rfl⟩
      rw [← eh28] at hR
      have hw := hw h28 eh28
      have hE : xb_ext h0 h28 := by rw [eh28]; exact hE.new _ _ hqq27
      have hk29 : xb_k h28 q27 = 103 := by rw [eh28]; exact xb_new_k _ _ _ _
      have hk6 : xb_k h26 x0 = 8 := by rw [eh26]; exact hk6
      have hk6 : xb_k h28 x0 = 8 := by rw [eh28]; exact xb_nk hqq27 hk6
      refine xb_putP (C := R_Machine) (T := F_Machine) (N := 18) (ty := .array .long) (x := (some q27)) hx hb 7 9 hts fin_Machine t_Machine t_Machine_ok n_Machine hown hR hS hk6 (by decide) rfl (by decide) rfl (hts _ m_6904195b) (fun _ h9 => h9) rfl (by decide +kernel) (xb_pnA _ _).1 (xb_pnA _ _).2 (xb_d D_Machine_init 44 rfl) (fun H locs hR hS => ?_)
      obtain ⟨h30, eh30⟩ : ∃ x : xb_H, x = xb_P h28 x0 9 (some q27) := ⟨_, rfl⟩
      rw [← eh30] at hR
      have hw := hw h30 eh30
      have hE : xb_ext h0 h30 := by rw [eh30]; exact hE
      refine lv_aload_n hx hb (xb_d D_Machine_init 45 rfl) rfl (lv_at hl 0 rfl) ?_
      refine lv_sipush (v := 1000) hx hb (xb_d D_Machine_init 46 rfl) (by decide) ?_
      obtain ⟨hcq31, hsq31, hw⟩ := hw
      have enq31 : (1000 : Int32).toNatClampNeg = 1000 := by decide
      refine xb_newa_i hx hb (hts _ m_d160d5ac) hR hS hA (by decide) (by decide +kernel) (show ((((k + 1) + 1) + 1) + 1) + 1 ≤ MC by omega) (show ((((n + 5) + 5) + 4) + 64) + _ ≤ MS by rw [enq31]; omega) (xb_d D_Machine_init 47 rfl) (fun q31 H hqq31 hR hS => ?_)
      rw [enq31] at hR ⊢
      have hw := hw q31 hqq31
      obtain ⟨h32, eh32⟩ : ∃ x : xb_H, x = xb_new h30 q31 102 1000 := ⟨_, rfl⟩
      rw [← eh32] at hR
      have hw := hw h32 eh32
      have hE : xb_ext h0 h32 := by rw [eh32]; exact hE.new _ _ hqq31
      have hk33 : xb_k h32 q31 = 102 := by rw [eh32]; exact xb_new_k _ _ _ _
      have hk6 : xb_k h30 x0 = 8 := by rw [eh30]; exact hk6
      have hk6 : xb_k h32 x0 = 8 := by rw [eh32]; exact xb_nk hqq31 hk6
      refine xb_putPF (C := R_Machine) (T := F_Machine) (N := 18) (ty := .array .int) (x := (some q31)) hx hb 7 11 hts fin_Machine t_Machine t_Machine_ok n_Machine hown hR hS hk6 (by decide) rfl (by decide) rfl (hts _ m_ca1fb183) (fun _ h9 => h9) rfl hnm rfl (by decide +kernel) (xb_pnA _ _).1 (xb_pnA _ _).2 (xb_d D_Machine_init 48 rfl) (fun H locs hR hS => ?_)
      obtain ⟨h34, eh34⟩ : ∃ x : xb_H, x = xb_P h32 x0 11 (some q31) := ⟨_, rfl⟩
      rw [← eh34] at hR
      have hw := hw h34 eh34
      have hE : xb_ext h0 h34 := by rw [eh34]; exact hE
      refine lv_aload_n hx hb (xb_d D_Machine_init 49 rfl) rfl (lv_at hl 0 rfl) ?_
      refine lv_aload_n hx hb (xb_d D_Machine_init 50 rfl) rfl (lv_at hl 1 rfl) ?_
      have hk6 : xb_k h34 x0 = 8 := by rw [eh34]; exact hk6
      refine xb_putPF (C := R_Machine) (T := F_Machine) (N := 18) (ty := .object "StackHost$World") (x := (some x1)) hx hb 7 0 hts fin_Machine t_Machine t_Machine_ok n_Machine hown hR hS hk6 (by decide) rfl (by decide) rfl (hts _ m_436e7c8c) (fun _ h9 => h9) rfl hnm rfl (by decide +kernel) (xb_pnO _ _).1 (xb_pnO _ _).2 (xb_d D_Machine_init 51 rfl) (fun H locs hR hS => ?_)
      obtain ⟨h35, eh35⟩ : ∃ x : xb_H, x = xb_P h34 x0 0 (some x1) := ⟨_, rfl⟩
      rw [← eh35] at hR
      have hw := hw h35 eh35
      have hE : xb_ext h0 h35 := by rw [eh35]; exact hE
      exact xb_vret hx hb hr hlocks (show (((((k + 1) + 1) + 1) + 1) + 1) ≤ MC by omega) (show (((((n + 5) + 5) + 4) + 64) + 1000) ≤ MS by omega) hE hR hS (xb_d D_Machine_init 52 rfl) hw
    · exact False.elim hq
  · exact False.elim hq

theorem m_51c4afd2 : (.methodLink "StackHost$Machine" 76 Lib.Math.max.name : Cond) ∈ xt_tbl := xt_in (xt_t7 (List.mem_of_getElem? (i := 188) (by decide +kernel))) (by decide +kernel)
theorem m_342e19d2 : (.methodLink "StackHost$Machine" 81 Lib.Math.min.name : Cond) ∈ xt_tbl := xt_in (xt_t7 (List.mem_of_getElem? (i := 189) (by decide +kernel))) (by decide +kernel)
theorem m_4b595091 : (.methodLink "StackHost$Machine" 84 y_Arrays_copyOf1 : Cond) ∈ xt_tbl := xt_in (xt_t7 (List.mem_of_getElem? (i := 190) (by decide +kernel))) (by decide +kernel)
set_option maxRecDepth 100000 in
def T_Machine_makeRoom : List (Nat × Instr × Nat) := [(0, .iload_n 1, 1), (1, .aload_n 0, 1), (2, .getfield 35, 3), (5, .arraylength, 1), (6, .if_icmp .le 31, 3), (9, .aload_n 0, 1), (10, .aload_n 0, 1), (11, .getfield 35, 3), (14, .sipush 16384, 3), (17, .iload_n 1, 1), (18, .iconst 2, 1), (19, .aload_n 0, 1), (20, .getfield 35, 3), (23, .arraylength, 1), (24, .imul, 1), (25, .invokestatic 76, 3), (28, .invokestatic 81, 3), (31, .invokestatic 84, 3), (34, .putfield 35, 3), (37, .return_, 1)]
theorem D_Machine_makeRoom : ∀ q ∈ T_Machine_makeRoom, decode b_Machine_makeRoom q.1 = .ok (q.2.1, q.2.2) := by decide +kernel
def w_Machine_makeRoom_L37 (Qr : xb_H → Prop) (h : xb_H) (bc : Nat) (bs : Nat) : Prop :=
    Qr h

def w_Machine_makeRoom (x0 : Nat) (x1 : Int32) (h : xb_H) (bc : Nat) (bs : Nat) (Qr : xb_H → Prop) : Prop :=
    xb_k h x0 = 8 ∧ ∃ b2 : Nat, (xb_r h x0 9) = some b2 ∧ xb_k h b2 = 103 ∧ ((x1 ≤ (nI (xb_n h b2)) → w_Machine_makeRoom_L37 Qr h bc bs) ∧ (¬ x1 ≤ (nI (xb_n h b2)) → ∃ b5 : Nat, (xb_r h x0 9) = some b5 ∧ ∃ b6 : Nat, (xb_r h x0 9) = some b6 ∧ xb_k h b6 = 103 ∧ ∃ c10 sc10 : Nat, c10 ≤ bc ∧ sc10 ≤ bs ∧ w_Arrays_copyOf1 b5 (if (if x1 < (2 * (nI (xb_n h b6))) then (2 * (nI (xb_n h b6))) else x1) < 16384 then (if x1 < (2 * (nI (xb_n h b6))) then (2 * (nI (xb_n h b6))) else x1) else 16384) h c10 sc10 (fun (r9 : Nat) (h8 : xb_H) => xb_ext h h8 → ∀ h11 : xb_H, h11 = xb_P h8 x0 9 (some r9) → w_Machine_makeRoom_L37 Qr h11 (bc - c10) (bs - sc10))))

set_option maxHeartbeats 4000000 in
set_option maxRecDepth 100000 in
theorem am_Machine_makeRoom_L37 (l : Launch) (hfl : l.flags = pinnedFlags ++ [noTraceFlag]) (D : va_G) (A : Nat → Prop) (σ MC MS : Nat) (h0 : xb_H) (Qr : xb_H → Prop) (h : xb_H) (bc : Nat) (bs : Nat) (hw : w_Machine_makeRoom_L37 Qr h bc bs) : xb_am l D A σ 3 MC MS h0 (fun v h => v = none ∧ Qr h) (fun _ _ => False) y_Machine_makeRoom.cls y_Machine_makeRoom.name b_Machine_makeRoom 2 ([] : List ExceptionTableEntry) none 37 [] [] h bc bs := by
  unfold w_Machine_makeRoom_L37 at hw
  intro p e s m args below meth c hC H locs ls k n hE hl hR hS hk hn
  obtain ⟨hx, hb, hown, hlocks, htab, hml, hr, hB, hA, hnm⟩ := id hC
  have hts := hB.1.1.at args
  exact xb_vret hx hb hr hlocks (show k ≤ MC by omega) (show n ≤ MS by omega) hE hR hS (xb_d D_Machine_makeRoom 19 rfl) hw

set_option maxHeartbeats 4000000 in
set_option maxRecDepth 100000 in
theorem ok_Machine_makeRoom (l : Launch) (hfl : l.flags = pinnedFlags ++ [noTraceFlag]) (D : va_G) (A : Nat → Prop) (σ : Nat) (x0 : Nat) (x1 : Int32) (h : xb_H) (bc : Nat) (bs : Nat) (Qr : xb_H → Prop) (hw : w_Machine_makeRoom x0 x1 h bc bs Qr) : xt_Met l y_Machine_makeRoom [.code y_Machine_makeRoom b_Machine_makeRoom 2 none] (xb_rm 3 bc bs) (xb_Pc D A σ h [.ref x0, .int x1]) (xb_Qc D A h (fun v h => v = none ∧ Qr h) (fun _ _ => False)) bc bs A := by
  refine xb_ofAm (cc := b_Machine_makeRoom) (by decide) (Nat.le_of_ble_eq_true rfl) ?_
  unfold w_Machine_makeRoom at hw
  show xb_am l D A σ 3 bc bs h (fun v h => v = none ∧ Qr h) (fun _ _ => False) y_Machine_makeRoom.cls y_Machine_makeRoom.name b_Machine_makeRoom 2 ([] : List ExceptionTableEntry) none 0 [(0, .ref x0), (1, .int x1)] [] h bc bs
  obtain ⟨MC, hMC⟩ : ∃ x, x = bc := ⟨_, rfl⟩
  obtain ⟨MS, hMS⟩ : ∃ x, x = bs := ⟨_, rfl⟩
  rw [show xb_am l D A σ 3 bc bs = xb_am l D A σ 3 MC MS by rw [hMC, hMS]]
  obtain ⟨h0, hh0⟩ : ∃ x, x = h := ⟨_, rfl⟩
  rw [show xb_am l D A σ 3 MC MS h = xb_am l D A σ 3 MC MS h0 by rw [hh0]]
  intro p e s m args below meth c hC H locs ls k n hE hl hR hS hk hn
  obtain ⟨hx, hb, hown, hlocks, htab, hml, hr, hB, hA, hnm⟩ := id hC
  have hts := hB.1.1.at args
  refine lv_iload_n hx hb (xb_d D_Machine_makeRoom 0 rfl) rfl (lv_at hl 1 rfl) ?_
  refine lv_aload_n hx hb (xb_d D_Machine_makeRoom 1 rfl) rfl (lv_at hl 0 rfl) ?_
  obtain ⟨hk1, hw⟩ := hw
  refine xb_getP (C := R_Machine) (T := F_Machine) (N := 18) hx hb 7 9 hts fin_Machine hown hR hk1 (by decide) rfl (by decide) rfl (hts _ m_6904195b) (fun _ h9 => h9) (xb_d D_Machine_makeRoom 2 rfl) ?_
  obtain ⟨b2, eb2, hw⟩ := hw
  refine xb_some eb2 ?_
  obtain ⟨hk3, hw⟩ := hw
  refine xb_alen hx hb hR hk3 (by decide) (xb_d D_Machine_makeRoom 3 rfl) ?_
  refine lv_icmp_le (tgt := 37) hx hb (xb_d D_Machine_makeRoom 4 rfl) rfl (fun hc4 => ?_) (fun hc4 => ?_)
  · have hw := hw.1 hc4
    exact am_Machine_makeRoom_L37 l hfl D A σ MC MS h0 Qr h bc bs hw p e s m args below meth c hC H locs ls k n hE (lv_sub hl [] rfl) hR hS (by omega) (by omega)
  · have hw := hw.2 hc4
    refine lv_aload_n hx hb (xb_d D_Machine_makeRoom 5 rfl) rfl (lv_at hl 0 rfl) ?_
    refine lv_aload_n hx hb (xb_d D_Machine_makeRoom 6 rfl) rfl (lv_at hl 0 rfl) ?_
    refine xb_getP (C := R_Machine) (T := F_Machine) (N := 18) hx hb 7 9 hts fin_Machine hown hR hk1 (by decide) rfl (by decide) rfl (hts _ m_6904195b) (fun _ h9 => h9) (xb_d D_Machine_makeRoom 7 rfl) ?_
    obtain ⟨b5, eb5, hw⟩ := hw
    refine xb_some eb5 ?_
    refine lv_sipush (v := 16384) hx hb (xb_d D_Machine_makeRoom 8 rfl) (by decide) ?_
    refine lv_iload_n hx hb (xb_d D_Machine_makeRoom 9 rfl) rfl (lv_at hl 1 rfl) ?_
    refine lv_iconst (v := 2) hx hb (xb_d D_Machine_makeRoom 10 rfl) (by decide) ?_
    refine lv_aload_n hx hb (xb_d D_Machine_makeRoom 11 rfl) rfl (lv_at hl 0 rfl) ?_
    refine xb_getP (C := R_Machine) (T := F_Machine) (N := 18) hx hb 7 9 hts fin_Machine hown hR hk1 (by decide) rfl (by decide) rfl (hts _ m_6904195b) (fun _ h9 => h9) (xb_d D_Machine_makeRoom 12 rfl) ?_
    obtain ⟨b6, eb6, hw⟩ := hw
    refine xb_some eb6 ?_
    obtain ⟨hk7, hw⟩ := hw
    refine xb_alen hx hb hR hk7 (by decide) (xb_d D_Machine_makeRoom 13 rfl) ?_
    refine lv_imul hx hb (xb_d D_Machine_makeRoom 14 rfl) ?_
    refine va_mmax hx hb (hml.trans hl.1.symm) hown (hts _ m_51c4afd2) (hts _ m_80a2ec50) (hts _ m_868a9286) (hts _ m_b6349a14) (by show 1 ≤ 8 + _; omega) (Nat.le_trans (Nat.le_of_ble_eq_true rfl : _ ≤ 60) (by show 60 ≤ 120 + _; omega)) (show k ≤ MC by omega) (show n ≤ MS by omega) (xb_d D_Machine_makeRoom 15 rfl) ?_
    refine va_mmin hx hb (hml.trans hl.1.symm) hown (hts _ m_342e19d2) (hts _ m_79b26afc) (hts _ m_868a9286) (hts _ m_0fd793e2) (by show 1 ≤ 8 + _; omega) (Nat.le_trans (Nat.le_of_ble_eq_true rfl : _ ≤ 60) (by show 60 ≤ 120 + _; omega)) (show k ≤ MC by omega) (show n ≤ MS by omega) (xb_d D_Machine_makeRoom 16 rfl) ?_
    obtain ⟨c10, sc10, hlc10, hlsc10, hw⟩ := hw
    refine xb_call (D := D) (A := A) (σ := σ) (h := h) (d := 2) (mc := c10) (ms := sc10) (maxL := 3) (rest := [.ref x0]) (av := [.ref b5, .int (if (if x1 < (2 * (nI (xb_n h b6))) then (2 * (nI (xb_n h b6))) else x1) < 16384 then (if x1 < (2 * (nI (xb_n h b6))) then (2 * (nI (xb_n h b6))) else x1) else 16384)]) (fun T hT X => xt_invS X hx hown (hts _ m_4b595091) (hts _ m_92cbae34) (hts _ m_b999e92a) (xt_sgS (hts _ m_00ffaf1f)).1 (xt_sgS (hts _ m_00ffaf1f)).2 nm_Arrays_copyOf1 (g := F0 m 31 ls [.int (if (if x1 < (2 * (nI (xb_n h b6))) then (2 * (nI (xb_n h b6))) else x1) < 16384 then (if x1 < (2 * (nI (xb_n h b6))) then (2 * (nI (xb_n h b6))) else x1) else 16384), .ref b5, .ref x0]) rfl (argsL := [.ref b5, .int (if (if x1 < (2 * (nI (xb_n h b6))) then (2 * (nI (xb_n h b6))) else x1) < 16384 then (if x1 < (2 * (nI (xb_n h b6))) then (2 * (nI (xb_n h b6))) else x1) else 16384)]) (rest := [.ref x0]) rfl rfl (by rw [hb]; exact (xb_d D_Machine_makeRoom 17 rfl))) (ok_Arrays_copyOf1 l hfl D A σ b5 (if (if x1 < (2 * (nI (xb_n h b6))) then (2 * (nI (xb_n h b6))) else x1) < 16384 then (if x1 < (2 * (nI (xb_n h b6))) then (2 * (nI (xb_n h b6))) else x1) else 16384) h c10 sc10 _ hw) (hml.trans hl.1.symm) (by rw [hb]; exact (xb_d D_Machine_makeRoom 17 rfl)) (Nat.le_of_ble_eq_true rfl) (Nat.le_of_ble_eq_true rfl) (Nat.le_of_ble_eq_true rfl) (show k + c10 ≤ MC by omega) (show n + sc10 ≤ MS by omega) (xt_w1 hB.1 m_00ffaf1f) (xt_cdOf hB.1 m_00ffaf1f) (hts _ m_b999e92a) hB hR hS hA (fun vv h8 H locs hq hEh8 hR hS => ?_) (fun XX ax h8 H locs hq hEh8 hex hR hS => ?_)
    · obtain ⟨r9, rfl, hw⟩ := hq
      have hw := hw hEh8
      have hE := hE.tr hEh8
      refine W.eq (g2 := F0 m 34 ls [.ref r9, .ref x0]) rfl ?_
      have hk1 : xb_k h8 x0 = 8 := hEh8.k hk1
      refine xb_putP (C := R_Machine) (T := F_Machine) (N := 18) (ty := .array .long) (x := (some r9)) hx hb 7 9 hts fin_Machine t_Machine t_Machine_ok n_Machine hown hR hS hk1 (by decide) rfl (by decide) rfl (hts _ m_6904195b) (fun _ h9 => h9) rfl (by decide +kernel) (xb_pnA _ _).1 (xb_pnA _ _).2 (xb_d D_Machine_makeRoom 18 rfl) (fun H locs hR hS => ?_)
      obtain ⟨h11, eh11⟩ : ∃ x : xb_H, x = xb_P h8 x0 9 (some r9) := ⟨_, rfl⟩
      rw [← eh11] at hR
      have hw := hw h11 eh11
      have hE : xb_ext h0 h11 := by rw [eh11]; exact hE
      exact am_Machine_makeRoom_L37 l hfl D A σ MC MS h0 Qr h11 (bc - c10) (bs - sc10) hw p e s m args below meth c hC H locs ls (k + c10) (n + sc10) hE (lv_sub hl [] rfl) hR hS (by omega) (by omega)
    · exact False.elim hq

theorem m_b93b25cc : (.methodLink "StackHost$Machine" 198 y_Machine_putValue : Cond) ∈ xt_tbl := xt_in (xt_t8 (List.mem_of_getElem? (i := 4) (by decide +kernel))) (by decide +kernel)
theorem m_5256b489 : (.instanceMethod y_Machine_putValue : Cond) ∈ xt_tbl := xt_in (xt_t8 (List.mem_of_getElem? (i := 6) (by decide +kernel))) (by decide +kernel)
theorem m_b846adde : (.selects "StackHost$Machine" y_Machine_putValue y_Machine_putValue : Cond) ∈ xt_tbl := xt_in (xt_v6 (q := (⟨"StackHost$Machine", "putValue", "(J)V"⟩, 18)) (List.mem_of_getElem? (i := 12) (by decide +kernel))) (by decide +kernel)
theorem m_ea231fcd : (.code y_Machine_putValue b_Machine_putValue 3 none : Cond) ∈ xt_tbl := xt_in (xt_t8 (List.mem_of_getElem? (i := 7) (by decide +kernel))) (by decide +kernel)
theorem m_b8379059 : (.fieldLink "StackHost$Machine" 256 "StackHost$World" "variables" "LStackHost$Row;" : Cond) ∈ xt_tbl := xt_in (xt_t1 (List.mem_of_getElem? (i := 173) (by decide +kernel))) (by decide +kernel)
theorem m_04d8c73d : (.fieldLink "StackHost$Machine" 71 "StackHost$Row" "items" "[J" : Cond) ∈ xt_tbl := xt_in (xt_t1 (List.mem_of_getElem? (i := 146) (by decide +kernel))) (by decide +kernel)
theorem m_f040af52 : (.methodLink "StackHost$Machine" 259 y_Instance_variableId : Cond) ∈ xt_tbl := xt_in (xt_t9 (List.mem_of_getElem? (i := 4) (by decide +kernel))) (by decide +kernel)
theorem nm_Machine_putValue : xt_nm y_Machine_putValue 1 := ⟨by decide +kernel, by decide +kernel⟩
set_option maxRecDepth 100000 in
def T_Machine_useNamed : List (Nat × Instr × Nat) := [(0, .aload_n 0, 1), (1, .getfield 111, 3), (4, .aload_n 0, 1), (5, .getfield 108, 3), (8, .iconst 1, 1), (9, .iadd, 1), (10, .iaload, 1), (11, .istore_n 2, 1), (12, .iload_n 1, 1), (13, .tableswitch 133 32 35 #[31, 49, 82, 107], 31), (44, .aload_n 0, 1), (45, .aload_n 0, 1), (46, .getfield 35, 3), (49, .aload_n 0, 1), (50, .getfield 188, 3), (53, .iload_n 2, 1), (54, .iadd, 1), (55, .laload, 1), (56, .invokevirtual 198, 3), (59, .goto 125, 3), (62, .aload_n 0, 1), (63, .dup, 1), (64, .getfield 53, 3), (67, .iconst 1, 1), (68, .isub, 1), (69, .putfield 53, 3), (72, .aload_n 0, 1), (73, .getfield 35, 3), (76, .aload_n 0, 1), (77, .getfield 188, 3), (80, .iload_n 2, 1), (81, .iadd, 1), (82, .aload_n 0, 1), (83, .getfield 35, 3), (86, .aload_n 0, 1), (87, .getfield 53, 3), (90, .laload, 1), (91, .lastore, 1), (92, .goto 92, 3), (95, .aload_n 0, 1), (96, .getfield 35, 3), (99, .aload_n 0, 1), (100, .getfield 188, 3), (103, .iload_n 2, 1), (104, .iadd, 1), (105, .aload_n 0, 1), (106, .getfield 35, 3), (109, .aload_n 0, 1), (110, .getfield 53, 3), (113, .iconst 1, 1), (114, .isub, 1), (115, .laload, 1), (116, .lastore, 1), (117, .goto 67, 3), (120, .aload_n 0, 1), (121, .aload_n 0, 1), (122, .getfield 42, 3), (125, .getfield 256, 3), (128, .getfield 71, 3), (131, .aload_n 0, 1), (132, .getfield 117, 3), (135, .iload_n 2, 1), (136, .invokevirtual 259, 3), (139, .laload, 1), (140, .invokevirtual 198, 3), (143, .goto 41, 3), (146, .aload_n 0, 1), (147, .dup, 1), (148, .getfield 53, 3), (151, .iconst 1, 1), (152, .isub, 1), (153, .putfield 53, 3), (156, .aload_n 0, 1), (157, .getfield 42, 3), (160, .getfield 256, 3), (163, .getfield 71, 3), (166, .aload_n 0, 1), (167, .getfield 117, 3), (170, .iload_n 2, 1), (171, .invokevirtual 259, 3), (174, .aload_n 0, 1), (175, .getfield 35, 3), (178, .aload_n 0, 1), (179, .getfield 53, 3), (182, .laload, 1), (183, .lastore, 1), (184, .return_, 1)]
theorem D_Machine_useNamed : ∀ q ∈ T_Machine_useNamed, decode b_Machine_useNamed q.1 = .ok (q.2.1, q.2.2) := by decide +kernel
def w_Machine_useNamed_L184 (Qr : xb_H → Prop) (h : xb_H) : Prop :=
    Qr h

def w_Machine_useNamed (x0 : Nat) (x1 : Int32) (h : xb_H) (Qr : xb_H → Prop) : Prop :=
    xb_k h x0 = 8 ∧ ∃ b2 : Nat, (xb_r h x0 14) = some b2 ∧ xb_k h b2 = 102 ∧ vp_in ((xb_i h x0 15) + 1) (xb_n h b2) ∧ ∀ v5 : Int32, v5 = (xb_i h b2 (Int32.toNatClampNeg ((xb_i h x0 15) + 1))) → ((x1 = 32 → ∃ b7 : Nat, (xb_r h x0 9) = some b7 ∧ xb_k h b7 = 103 ∧ vp_in ((xb_i h x0 16) + v5) (xb_n h b7) ∧ w_Machine_putValue x0 (xb_l h b7 (Int32.toNatClampNeg ((xb_i h x0 16) + v5))) h (fun (h10 : xb_H) => xb_ext h h10 → w_Machine_useNamed_L184 Qr h10)) ∧ (x1 = 33 → ∀ h13 : xb_H, h13 = xb_I h x0 10 ((xb_i h x0 10) - 1) → ∃ b14 : Nat, (xb_r h13 x0 9) = some b14 ∧ ∃ b15 : Nat, (xb_r h13 x0 9) = some b15 ∧ xb_k h13 b15 = 103 ∧ vp_in (xb_i h13 x0 10) (xb_n h13 b15) ∧ xb_k h13 b14 = 103 ∧ vp_in ((xb_i h13 x0 16) + v5) (xb_n h13 b14) ∧ ∀ h20 : xb_H, h20 = xb_L h13 b14 (Int32.toNatClampNeg ((xb_i h13 x0 16) + v5)) (xb_l h13 b15 (Int32.toNatClampNeg (xb_i h13 x0 10))) → w_Machine_useNamed_L184 Qr h20) ∧ (x1 = 34 → ∃ b22 : Nat, (xb_r h x0 9) = some b22 ∧ ∃ b23 : Nat, (xb_r h x0 9) = some b23 ∧ xb_k h b23 = 103 ∧ vp_in ((xb_i h x0 10) - 1) (xb_n h b23) ∧ xb_k h b22 = 103 ∧ vp_in ((xb_i h x0 16) + v5) (xb_n h b22) ∧ ∀ h28 : xb_H, h28 = xb_L h b22 (Int32.toNatClampNeg ((xb_i h x0 16) + v5)) (xb_l h b23 (Int32.toNatClampNeg ((xb_i h x0 10) - 1))) → w_Machine_useNamed_L184 Qr h28) ∧ (x1 = 35 → ∃ b30 : Nat, (xb_r h x0 0) = some b30 ∧ xb_k h b30 = 7 ∧ ∃ b32 : Nat, (xb_r h b30 3) = some b32 ∧ xb_k h b32 = 2 ∧ ∃ b34 : Nat, (xb_r h b32 0) = some b34 ∧ ∃ b35 : Nat, (xb_r h x0 12) = some b35 ∧ xb_k h b35 = 11 ∧ w_Instance_variableId b35 v5 h (fun (r38 : Int32) (h37 : xb_H) => xb_ext h h37 → xb_k h37 b34 = 103 ∧ vp_in r38 (xb_n h37 b34) ∧ w_Machine_putValue x0 (xb_l h37 b34 (Int32.toNatClampNeg r38)) h37 (fun (h41 : xb_H) => xb_ext h37 h41 → w_Machine_useNamed_L184 Qr h41))) ∧ (¬ x1 = 32 → ¬ x1 = 33 → ¬ x1 = 34 → ¬ x1 = 35 → ∀ h43 : xb_H, h43 = xb_I h x0 10 ((xb_i h x0 10) - 1) → ∃ b44 : Nat, (xb_r h43 x0 0) = some b44 ∧ xb_k h43 b44 = 7 ∧ ∃ b46 : Nat, (xb_r h43 b44 3) = some b46 ∧ xb_k h43 b46 = 2 ∧ ∃ b48 : Nat, (xb_r h43 b46 0) = some b48 ∧ ∃ b49 : Nat, (xb_r h43 x0 12) = some b49 ∧ xb_k h43 b49 = 11 ∧ w_Instance_variableId b49 v5 h43 (fun (r52 : Int32) (h51 : xb_H) => xb_ext h43 h51 → ∃ b53 : Nat, (xb_r h51 x0 9) = some b53 ∧ xb_k h51 b53 = 103 ∧ vp_in (xb_i h51 x0 10) (xb_n h51 b53) ∧ xb_k h51 b48 = 103 ∧ vp_in r52 (xb_n h51 b48) ∧ ∀ h58 : xb_H, h58 = xb_L h51 b48 (Int32.toNatClampNeg r52) (xb_l h51 b53 (Int32.toNatClampNeg (xb_i h51 x0 10))) → w_Machine_useNamed_L184 Qr h58)))

set_option maxHeartbeats 4000000 in
set_option maxRecDepth 100000 in
theorem am_Machine_useNamed_L184 (l : Launch) (hfl : l.flags = pinnedFlags ++ [noTraceFlag]) (D : va_G) (A : Nat → Prop) (σ MC MS : Nat) (h0 : xb_H) (Qr : xb_H → Prop) (h : xb_H) (hw : w_Machine_useNamed_L184 Qr h) : xb_am l D A σ 3 MC MS h0 (fun v h => v = none ∧ Qr h) (fun _ _ => False) y_Machine_useNamed.cls y_Machine_useNamed.name b_Machine_useNamed 3 ([] : List ExceptionTableEntry) none 184 [] [] h 0 0 := by
  unfold w_Machine_useNamed_L184 at hw
  intro p e s m args below meth c hC H locs ls k n hE hl hR hS hk hn
  obtain ⟨hx, hb, hown, hlocks, htab, hml, hr, hB, hA, hnm⟩ := id hC
  have hts := hB.1.1.at args
  exact xb_vret hx hb hr hlocks (show k ≤ MC by omega) (show n ≤ MS by omega) hE hR hS (xb_d D_Machine_useNamed 86 rfl) hw

set_option maxHeartbeats 4000000 in
set_option maxRecDepth 100000 in
theorem ok_Machine_useNamed (l : Launch) (hfl : l.flags = pinnedFlags ++ [noTraceFlag]) (D : va_G) (A : Nat → Prop) (σ : Nat) (x0 : Nat) (x1 : Int32) (h : xb_H) (Qr : xb_H → Prop) (hw : w_Machine_useNamed x0 x1 h Qr) : xt_Met l y_Machine_useNamed [.code y_Machine_useNamed b_Machine_useNamed 3 none] (xb_rm 3 0 0) (xb_Pc D A σ h [.ref x0, .int x1]) (xb_Qc D A h (fun v h => v = none ∧ Qr h) (fun _ _ => False)) 0 0 A := by
  refine xb_ofAm (cc := b_Machine_useNamed) (by decide) (Nat.le_of_ble_eq_true rfl) ?_
  unfold w_Machine_useNamed at hw
  show xb_am l D A σ 3 0 0 h (fun v h => v = none ∧ Qr h) (fun _ _ => False) y_Machine_useNamed.cls y_Machine_useNamed.name b_Machine_useNamed 3 ([] : List ExceptionTableEntry) none 0 [(0, .ref x0), (1, .int x1)] [] h 0 0
  obtain ⟨MC, hMC⟩ : ∃ x, x = 0 := ⟨_, rfl⟩
  obtain ⟨MS, hMS⟩ : ∃ x, x = 0 := ⟨_, rfl⟩
  rw [show xb_am l D A σ 3 0 0 = xb_am l D A σ 3 MC MS by rw [hMC, hMS]]
  obtain ⟨h0, hh0⟩ : ∃ x, x = h := ⟨_, rfl⟩
  rw [show xb_am l D A σ 3 MC MS h = xb_am l D A σ 3 MC MS h0 by rw [hh0]]
  intro p e s m args below meth c hC H locs ls k n hE hl hR hS hk hn
  obtain ⟨hx, hb, hown, hlocks, htab, hml, hr, hB, hA, hnm⟩ := id hC
  have hts := hB.1.1.at args
  refine lv_aload_n hx hb (xb_d D_Machine_useNamed 0 rfl) rfl (lv_at hl 0 rfl) ?_
  obtain ⟨hk1, hw⟩ := hw
  refine xb_getP (C := R_Machine) (T := F_Machine) (N := 18) hx hb 7 14 hts fin_Machine hown hR hk1 (by decide) rfl (by decide) rfl (hts _ m_8f763f86) (fun _ h9 => h9) (xb_d D_Machine_useNamed 1 rfl) ?_
  obtain ⟨b2, eb2, hw⟩ := hw
  refine xb_some eb2 ?_
  refine lv_aload_n hx hb (xb_d D_Machine_useNamed 2 rfl) rfl (lv_at hl 0 rfl) ?_
  refine xb_getI (C := R_Machine) (T := F_Machine) (N := 18) hx hb 7 15 hts fin_Machine hown hR hk1 (by decide) rfl (by decide) rfl (hts _ m_6a595805) (fun _ h9 => h9) (xb_d D_Machine_useNamed 3 rfl) ?_
  refine lv_iconst (v := 1) hx hb (xb_d D_Machine_useNamed 4 rfl) (by decide) ?_
  refine lv_iadd hx hb (xb_d D_Machine_useNamed 5 rfl) ?_
  obtain ⟨hk4, hw⟩ := hw
  obtain ⟨hi3, hw⟩ := hw
  refine xb_iald hx hb hR hk4 hi3 (xb_d D_Machine_useNamed 6 rfl) ?_
  obtain ⟨v5, ev5⟩ : ∃ x : Int32, x = (xb_i h b2 (Int32.toNatClampNeg ((xb_i h x0 15) + 1))) := ⟨_, rfl⟩
  have hw := hw v5 ev5
  refine xt_numi (y := v5) ev5.symm ?_
  refine lv_istore_n hx hb (xb_d D_Machine_useNamed 7 rfl) rfl hl (by decide) rfl (fun ls hl => ?_)
  have hl : lv_has ls 3 [(2, .int v5), (0, .ref x0), (1, .int x1)] := hl
  refine lv_iload_n hx hb (xb_d D_Machine_useNamed 8 rfl) rfl (lv_at hl 2 rfl) ?_
  by_cases hc6 : x1 = 32
  · have hw := hw.1 hc6
    refine xt_numi hc6 ?_
    refine lv_tableIn (off := 31) (tgt := 44) hx hb (xb_d D_Machine_useNamed 9 rfl) (by decide +kernel) (by decide +kernel) (by decide +kernel) (by decide) ?_
    refine lv_aload_n hx hb (xb_d D_Machine_useNamed 10 rfl) rfl (lv_at hl 1 rfl) ?_
    refine lv_aload_n hx hb (xb_d D_Machine_useNamed 11 rfl) rfl (lv_at hl 1 rfl) ?_
    refine xb_getP (C := R_Machine) (T := F_Machine) (N := 18) hx hb 7 9 hts fin_Machine hown hR hk1 (by decide) rfl (by decide) rfl (hts _ m_6904195b) (fun _ h9 => h9) (xb_d D_Machine_useNamed 12 rfl) ?_
    obtain ⟨b7, eb7, hw⟩ := hw
    refine xb_some eb7 ?_
    refine lv_aload_n hx hb (xb_d D_Machine_useNamed 13 rfl) rfl (lv_at hl 1 rfl) ?_
    refine xb_getI (C := R_Machine) (T := F_Machine) (N := 18) hx hb 7 16 hts fin_Machine hown hR hk1 (by decide) rfl (by decide) rfl (hts _ m_502dfafe) (fun _ h9 => h9) (xb_d D_Machine_useNamed 14 rfl) ?_
    refine lv_iload_n hx hb (xb_d D_Machine_useNamed 15 rfl) rfl (lv_at hl 0 rfl) ?_
    refine lv_iadd hx hb (xb_d D_Machine_useNamed 16 rfl) ?_
    obtain ⟨hk9, hw⟩ := hw
    obtain ⟨hi8, hw⟩ := hw
    refine xb_lald hx hb hR hk9 hi8 (xb_d D_Machine_useNamed 17 rfl) ?_
    refine xb_call (D := D) (A := A) (σ := σ) (h := h) (d := 2) (mc := 0) (ms := 0) (maxL := 3) (rest := []) (av := [.ref x0, .long (xb_l h b7 (Int32.toNatClampNeg ((xb_i h x0 16) + v5)))]) (fun T hT X => by obtain ⟨cb, r1, r2, r3⟩ := xb_recv (ci := 7) hR rfl hk1 (by decide); exact xt_invV X hx hown (hts _ m_b93b25cc) (hts _ m_5256b489) (hts _ m_b846adde) (xt_sigOf (hts _ m_ea231fcd)) nm_Machine_putValue (by rw [hT]; exact r1) r2 r3 (g := F0 m 56 ls [.long (xb_l h b7 (Int32.toNatClampNeg ((xb_i h x0 16) + v5))), .ref x0]) rfl (argsL := [.long (xb_l h b7 (Int32.toNatClampNeg ((xb_i h x0 16) + v5)))]) (rest := []) rfl rfl (by rw [hb]; exact (xb_d D_Machine_useNamed 18 rfl))) (ok_Machine_putValue l hfl D A σ x0 (xb_l h b7 (Int32.toNatClampNeg ((xb_i h x0 16) + v5))) h _ hw) (hml.trans hl.1.symm) (by rw [hb]; exact (xb_d D_Machine_useNamed 18 rfl)) (Nat.le_of_ble_eq_true rfl) (Nat.le_of_ble_eq_true rfl) (Nat.le_of_ble_eq_true rfl) (show k + 0 ≤ MC by omega) (show n + 0 ≤ MS by omega) (xt_w1 hB.1 m_ea231fcd) (xt_cdOf hB.1 m_ea231fcd) (hts _ m_73451f9b) hB hR hS hA (fun vv h10 H locs hq hEh10 hR hS => ?_) (fun XX ax h10 H locs hq hEh10 hex hR hS => ?_)
    · obtain ⟨rfl, hw⟩ := hq
      have hw := hw hEh10
      have hE := hE.tr hEh10
      refine W.eq (g2 := F0 m 59 ls []) rfl ?_
      refine lv_goto (tgt := 184) hx hb (xb_d D_Machine_useNamed 19 rfl) rfl ?_
      exact am_Machine_useNamed_L184 l hfl D A σ MC MS h0 Qr h10 hw p e s m args below meth c hC H locs ls k n hE (lv_sub hl [] rfl) hR hS (by omega) (by omega)
    · exact False.elim hq
  have hw := hw.2
  by_cases hc12 : x1 = 33
  · have hw := hw.1 hc12
    refine xt_numi hc12 ?_
    refine lv_tableIn (off := 49) (tgt := 62) hx hb (xb_d D_Machine_useNamed 9 rfl) (by decide +kernel) (by decide +kernel) (by decide +kernel) (by decide) ?_
    refine lv_aload_n hx hb (xb_d D_Machine_useNamed 20 rfl) rfl (lv_at hl 1 rfl) ?_
    refine lv_dup hx hb (xb_d D_Machine_useNamed 21 rfl) rfl ?_
    refine xb_getI (C := R_Machine) (T := F_Machine) (N := 18) hx hb 7 10 hts fin_Machine hown hR hk1 (by decide) rfl (by decide) rfl (hts _ m_79cf62f6) (fun _ h9 => h9) (xb_d D_Machine_useNamed 22 rfl) ?_
    refine lv_iconst (v := 1) hx hb (xb_d D_Machine_useNamed 23 rfl) (by decide) ?_
    refine lv_isub hx hb (xb_d D_Machine_useNamed 24 rfl) ?_
    refine xb_putI (C := R_Machine) (T := F_Machine) (N := 18) (ty := .int) (x := ((xb_i h x0 10) - 1)) hx hb 7 10 hts fin_Machine t_Machine t_Machine_ok n_Machine hown hR hS hk1 (by decide) rfl (by decide) rfl (hts _ m_79cf62f6) (fun _ h9 => h9) rfl (by decide +kernel) rfl rfl (xb_d D_Machine_useNamed 25 rfl) (fun H locs hR hS => ?_)
    obtain ⟨h13, eh13⟩ : ∃ x : xb_H, x = xb_I h x0 10 ((xb_i h x0 10) - 1) := ⟨_, rfl⟩
    rw [← eh13] at hR
    have hw := hw h13 eh13
    have hE : xb_ext h0 h13 := by rw [eh13]; exact hE
    refine lv_aload_n hx hb (xb_d D_Machine_useNamed 26 rfl) rfl (lv_at hl 1 rfl) ?_
    have hk1 : xb_k h13 x0 = 8 := by rw [eh13]; exact hk1
    refine xb_getP (C := R_Machine) (T := F_Machine) (N := 18) hx hb 7 9 hts fin_Machine hown hR hk1 (by decide) rfl (by decide) rfl (hts _ m_6904195b) (fun _ h9 => h9) (xb_d D_Machine_useNamed 27 rfl) ?_
    obtain ⟨b14, eb14, hw⟩ := hw
    refine xb_some eb14 ?_
    refine lv_aload_n hx hb (xb_d D_Machine_useNamed 28 rfl) rfl (lv_at hl 1 rfl) ?_
    refine xb_getI (C := R_Machine) (T := F_Machine) (N := 18) hx hb 7 16 hts fin_Machine hown hR hk1 (by decide) rfl (by decide) rfl (hts _ m_502dfafe) (fun _ h9 => h9) (xb_d D_Machine_useNamed 29 rfl) ?_
    refine lv_iload_n hx hb (xb_d D_Machine_useNamed 30 rfl) rfl (lv_at hl 0 rfl) ?_
    refine lv_iadd hx hb (xb_d D_Machine_useNamed 31 rfl) ?_
    refine lv_aload_n hx hb (xb_d D_Machine_useNamed 32 rfl) rfl (lv_at hl 1 rfl) ?_
    refine xb_getP (C := R_Machine) (T := F_Machine) (N := 18) hx hb 7 9 hts fin_Machine hown hR hk1 (by decide) rfl (by decide) rfl (hts _ m_6904195b) (fun _ h9 => h9) (xb_d D_Machine_useNamed 33 rfl) ?_
    obtain ⟨b15, eb15, hw⟩ := hw
    refine xb_some eb15 ?_
    refine lv_aload_n hx hb (xb_d D_Machine_useNamed 34 rfl) rfl (lv_at hl 1 rfl) ?_
    refine xb_getI (C := R_Machine) (T := F_Machine) (N := 18) hx hb 7 10 hts fin_Machine hown hR hk1 (by decide) rfl (by decide) rfl (hts _ m_79cf62f6) (fun _ h9 => h9) (xb_d D_Machine_useNamed 35 rfl) ?_
    obtain ⟨hk17, hw⟩ := hw
    obtain ⟨hi16, hw⟩ := hw
    refine xb_lald hx hb hR hk17 hi16 (xb_d D_Machine_useNamed 36 rfl) ?_
    obtain ⟨hk18, hw⟩ := hw
    obtain ⟨hi19, hw⟩ := hw
    refine xb_last hx hb hR hS hk18 hi19 (xb_d D_Machine_useNamed 37 rfl) (fun H locs hR hS => ?_)
    obtain ⟨h20, eh20⟩ : ∃ x : xb_H, x = xb_L h13 b14 (Int32.toNatClampNeg ((xb_i h13 x0 16) + v5)) (xb_l h13 b15 (Int32.toNatClampNeg (xb_i h13 x0 10))) := ⟨_, rfl⟩
    rw [← eh20] at hR
    have hw := hw h20 eh20
    have hE : xb_ext h0 h20 := by rw [eh20]; exact hE
    refine lv_goto (tgt := 184) hx hb (xb_d D_Machine_useNamed 38 rfl) rfl ?_
    exact am_Machine_useNamed_L184 l hfl D A σ MC MS h0 Qr h20 hw p e s m args below meth c hC H locs ls k n hE (lv_sub hl [] rfl) hR hS (by omega) (by omega)
  have hw := hw.2
  by_cases hc21 : x1 = 34
  · have hw := hw.1 hc21
    refine xt_numi hc21 ?_
    refine lv_tableIn (off := 82) (tgt := 95) hx hb (xb_d D_Machine_useNamed 9 rfl) (by decide +kernel) (by decide +kernel) (by decide +kernel) (by decide) ?_
    refine lv_aload_n hx hb (xb_d D_Machine_useNamed 39 rfl) rfl (lv_at hl 1 rfl) ?_
    refine xb_getP (C := R_Machine) (T := F_Machine) (N := 18) hx hb 7 9 hts fin_Machine hown hR hk1 (by decide) rfl (by decide) rfl (hts _ m_6904195b) (fun _ h9 => h9) (xb_d D_Machine_useNamed 40 rfl) ?_
    obtain ⟨b22, eb22, hw⟩ := hw
    refine xb_some eb22 ?_
    refine lv_aload_n hx hb (xb_d D_Machine_useNamed 41 rfl) rfl (lv_at hl 1 rfl) ?_
    refine xb_getI (C := R_Machine) (T := F_Machine) (N := 18) hx hb 7 16 hts fin_Machine hown hR hk1 (by decide) rfl (by decide) rfl (hts _ m_502dfafe) (fun _ h9 => h9) (xb_d D_Machine_useNamed 42 rfl) ?_
    refine lv_iload_n hx hb (xb_d D_Machine_useNamed 43 rfl) rfl (lv_at hl 0 rfl) ?_
    refine lv_iadd hx hb (xb_d D_Machine_useNamed 44 rfl) ?_
    refine lv_aload_n hx hb (xb_d D_Machine_useNamed 45 rfl) rfl (lv_at hl 1 rfl) ?_
    refine xb_getP (C := R_Machine) (T := F_Machine) (N := 18) hx hb 7 9 hts fin_Machine hown hR hk1 (by decide) rfl (by decide) rfl (hts _ m_6904195b) (fun _ h9 => h9) (xb_d D_Machine_useNamed 46 rfl) ?_
    obtain ⟨b23, eb23, hw⟩ := hw
    refine xb_some eb23 ?_
    refine lv_aload_n hx hb (xb_d D_Machine_useNamed 47 rfl) rfl (lv_at hl 1 rfl) ?_
    refine xb_getI (C := R_Machine) (T := F_Machine) (N := 18) hx hb 7 10 hts fin_Machine hown hR hk1 (by decide) rfl (by decide) rfl (hts _ m_79cf62f6) (fun _ h9 => h9) (xb_d D_Machine_useNamed 48 rfl) ?_
    refine lv_iconst (v := 1) hx hb (xb_d D_Machine_useNamed 49 rfl) (by decide) ?_
    refine lv_isub hx hb (xb_d D_Machine_useNamed 50 rfl) ?_
    obtain ⟨hk25, hw⟩ := hw
    obtain ⟨hi24, hw⟩ := hw
    refine xb_lald hx hb hR hk25 hi24 (xb_d D_Machine_useNamed 51 rfl) ?_
    obtain ⟨hk26, hw⟩ := hw
    obtain ⟨hi27, hw⟩ := hw
    refine xb_last hx hb hR hS hk26 hi27 (xb_d D_Machine_useNamed 52 rfl) (fun H locs hR hS => ?_)
    obtain ⟨h28, eh28⟩ : ∃ x : xb_H, x = xb_L h b22 (Int32.toNatClampNeg ((xb_i h x0 16) + v5)) (xb_l h b23 (Int32.toNatClampNeg ((xb_i h x0 10) - 1))) := ⟨_, rfl⟩
    rw [← eh28] at hR
    have hw := hw h28 eh28
    have hE : xb_ext h0 h28 := by rw [eh28]; exact hE
    refine lv_goto (tgt := 184) hx hb (xb_d D_Machine_useNamed 53 rfl) rfl ?_
    exact am_Machine_useNamed_L184 l hfl D A σ MC MS h0 Qr h28 hw p e s m args below meth c hC H locs ls k n hE (lv_sub hl [] rfl) hR hS (by omega) (by omega)
  have hw := hw.2
  by_cases hc29 : x1 = 35
  · have hw := hw.1 hc29
    refine xt_numi hc29 ?_
    refine lv_tableIn (off := 107) (tgt := 120) hx hb (xb_d D_Machine_useNamed 9 rfl) (by decide +kernel) (by decide +kernel) (by decide +kernel) (by decide) ?_
    refine lv_aload_n hx hb (xb_d D_Machine_useNamed 54 rfl) rfl (lv_at hl 1 rfl) ?_
    refine lv_aload_n hx hb (xb_d D_Machine_useNamed 55 rfl) rfl (lv_at hl 1 rfl) ?_
    refine xb_getP (C := R_Machine) (T := F_Machine) (N := 18) hx hb 7 0 hts fin_Machine hown hR hk1 (by decide) rfl (by decide) rfl (hts _ m_436e7c8c) (fun _ h9 => h9) (xb_d D_Machine_useNamed 56 rfl) ?_
    obtain ⟨b30, eb30, hw⟩ := hw
    refine xb_some eb30 ?_
    obtain ⟨hk31, hw⟩ := hw
    refine xb_getP (C := R_World) (T := F_World) (N := 16) hx hb 6 3 hts fin_World hown hR hk31 (by decide) rfl (by decide) rfl (hts _ m_b8379059) (fun _ h9 => h9) (xb_d D_Machine_useNamed 57 rfl) ?_
    obtain ⟨b32, eb32, hw⟩ := hw
    refine xb_some eb32 ?_
    obtain ⟨hk33, hw⟩ := hw
    refine xb_getP (C := R_Row) (T := F_Row) (N := 3) hx hb 1 0 hts fin_Row hown hR hk33 (by decide) rfl (by decide) rfl (hts _ m_04d8c73d) (fun _ h9 => h9) (xb_d D_Machine_useNamed 58 rfl) ?_
    obtain ⟨b34, eb34, hw⟩ := hw
    refine xb_some eb34 ?_
    refine lv_aload_n hx hb (xb_d D_Machine_useNamed 59 rfl) rfl (lv_at hl 1 rfl) ?_
    refine xb_getP (C := R_Machine) (T := F_Machine) (N := 18) hx hb 7 12 hts fin_Machine hown hR hk1 (by decide) rfl (by decide) rfl (hts _ m_a347cb26) (fun _ h9 => h9) (xb_d D_Machine_useNamed 60 rfl) ?_
    obtain ⟨b35, eb35, hw⟩ := hw
    refine xb_some eb35 ?_
    refine lv_iload_n hx hb (xb_d D_Machine_useNamed 61 rfl) rfl (lv_at hl 0 rfl) ?_
    obtain ⟨hk36, hw⟩ := hw
    refine xb_call (D := D) (A := A) (σ := σ) (h := h) (d := 2) (mc := 0) (ms := 0) (maxL := 3) (rest := [.ref b34, .ref x0]) (av := [.ref b35, .int v5]) (fun T hT X => by obtain ⟨cb, r1, r2, r3⟩ := xb_recv (ci := 10) hR rfl hk36 (by decide); exact xt_invV X hx hown (hts _ m_f040af52) (hts _ m_f0cc1dad) (hts _ m_2ed43dba) (xt_sigOf (hts _ m_806ee343)) nm_Instance_variableId (by rw [hT]; exact r1) r2 r3 (g := F0 m 136 ls [.int v5, .ref b35, .ref b34, .ref x0]) rfl (argsL := [.int v5]) (rest := [.ref b34, .ref x0]) rfl rfl (by rw [hb]; exact (xb_d D_Machine_useNamed 62 rfl))) (ok_Instance_variableId l hfl D A σ b35 v5 h _ hw) (hml.trans hl.1.symm) (by rw [hb]; exact (xb_d D_Machine_useNamed 62 rfl)) (Nat.le_of_ble_eq_true rfl) (Nat.le_of_ble_eq_true rfl) (Nat.le_of_ble_eq_true rfl) (show k + 0 ≤ MC by omega) (show n + 0 ≤ MS by omega) (xt_w1 hB.1 m_806ee343) (xt_cdOf hB.1 m_806ee343) (hts _ m_7a4e907b) hB hR hS hA (fun vv h37 H locs hq hEh37 hR hS => ?_) (fun XX ax h37 H locs hq hEh37 hex hR hS => ?_)
    · obtain ⟨r38, rfl, hw⟩ := hq
      have hw := hw hEh37
      have hE := hE.tr hEh37
      refine W.eq (g2 := F0 m 139 ls [.int r38, .ref b34, .ref x0]) rfl ?_
      obtain ⟨hk40, hw⟩ := hw
      obtain ⟨hi39, hw⟩ := hw
      refine xb_lald hx hb hR hk40 hi39 (xb_d D_Machine_useNamed 63 rfl) ?_
      have hk1 : xb_k h37 x0 = 8 := hEh37.k hk1
      refine xb_call (D := D) (A := A) (σ := σ) (h := h37) (d := 2) (mc := 0) (ms := 0) (maxL := 3) (rest := []) (av := [.ref x0, .long (xb_l h37 b34 (Int32.toNatClampNeg r38))]) (fun T hT X => by obtain ⟨cb, r1, r2, r3⟩ := xb_recv (ci := 7) hR rfl hk1 (by decide); exact xt_invV X hx hown (hts _ m_b93b25cc) (hts _ m_5256b489) (hts _ m_b846adde) (xt_sigOf (hts _ m_ea231fcd)) nm_Machine_putValue (by rw [hT]; exact r1) r2 r3 (g := F0 m 140 ls [.long (xb_l h37 b34 (Int32.toNatClampNeg r38)), .ref x0]) rfl (argsL := [.long (xb_l h37 b34 (Int32.toNatClampNeg r38))]) (rest := []) rfl rfl (by rw [hb]; exact (xb_d D_Machine_useNamed 64 rfl))) (ok_Machine_putValue l hfl D A σ x0 (xb_l h37 b34 (Int32.toNatClampNeg r38)) h37 _ hw) (hml.trans hl.1.symm) (by rw [hb]; exact (xb_d D_Machine_useNamed 64 rfl)) (Nat.le_of_ble_eq_true rfl) (Nat.le_of_ble_eq_true rfl) (Nat.le_of_ble_eq_true rfl) (show k + 0 ≤ MC by omega) (show n + 0 ≤ MS by omega) (xt_w1 hB.1 m_ea231fcd) (xt_cdOf hB.1 m_ea231fcd) (hts _ m_73451f9b) hB hR hS hA (fun vv h41 H locs hq hEh41 hR hS => ?_) (fun XX ax h41 H locs hq hEh41 hex hR hS => ?_)
      · obtain ⟨rfl, hw⟩ := hq
        have hw := hw hEh41
        have hE := hE.tr hEh41
        refine W.eq (g2 := F0 m 143 ls []) rfl ?_
        refine lv_goto (tgt := 184) hx hb (xb_d D_Machine_useNamed 65 rfl) rfl ?_
        exact am_Machine_useNamed_L184 l hfl D A σ MC MS h0 Qr h41 hw p e s m args below meth c hC H locs ls k n hE (lv_sub hl [] rfl) hR hS (by omega) (by omega)
      · exact False.elim hq
    · exact False.elim hq
  have hw := hw.2
  have hw := hw hc6 hc12 hc21 hc29
  refine lv_tableOut (tgt := 146) hx hb (xb_d D_Machine_useNamed 9 rfl) (by have a0 := xb_nl (32) 32 (by decide) hc6; have a1 := xb_nl (33) 33 (by decide) hc12; have a2 := xb_nl (34) 34 (by decide) hc21; have a3 := xb_nl (35) 35 (by decide) hc29; omega) (by decide) ?_
  refine lv_aload_n hx hb (xb_d D_Machine_useNamed 66 rfl) rfl (lv_at hl 1 rfl) ?_
  refine lv_dup hx hb (xb_d D_Machine_useNamed 67 rfl) rfl ?_
  refine xb_getI (C := R_Machine) (T := F_Machine) (N := 18) hx hb 7 10 hts fin_Machine hown hR hk1 (by decide) rfl (by decide) rfl (hts _ m_79cf62f6) (fun _ h9 => h9) (xb_d D_Machine_useNamed 68 rfl) ?_
  refine lv_iconst (v := 1) hx hb (xb_d D_Machine_useNamed 69 rfl) (by decide) ?_
  refine lv_isub hx hb (xb_d D_Machine_useNamed 70 rfl) ?_
  refine xb_putI (C := R_Machine) (T := F_Machine) (N := 18) (ty := .int) (x := ((xb_i h x0 10) - 1)) hx hb 7 10 hts fin_Machine t_Machine t_Machine_ok n_Machine hown hR hS hk1 (by decide) rfl (by decide) rfl (hts _ m_79cf62f6) (fun _ h9 => h9) rfl (by decide +kernel) rfl rfl (xb_d D_Machine_useNamed 71 rfl) (fun H locs hR hS => ?_)
  obtain ⟨h43, eh43⟩ : ∃ x : xb_H, x = xb_I h x0 10 ((xb_i h x0 10) - 1) := ⟨_, rfl⟩
  rw [← eh43] at hR
  have hw := hw h43 eh43
  have hE : xb_ext h0 h43 := by rw [eh43]; exact hE
  refine lv_aload_n hx hb (xb_d D_Machine_useNamed 72 rfl) rfl (lv_at hl 1 rfl) ?_
  have hk1 : xb_k h43 x0 = 8 := by rw [eh43]; exact hk1
  refine xb_getP (C := R_Machine) (T := F_Machine) (N := 18) hx hb 7 0 hts fin_Machine hown hR hk1 (by decide) rfl (by decide) rfl (hts _ m_436e7c8c) (fun _ h9 => h9) (xb_d D_Machine_useNamed 73 rfl) ?_
  obtain ⟨b44, eb44, hw⟩ := hw
  refine xb_some eb44 ?_
  obtain ⟨hk45, hw⟩ := hw
  refine xb_getP (C := R_World) (T := F_World) (N := 16) hx hb 6 3 hts fin_World hown hR hk45 (by decide) rfl (by decide) rfl (hts _ m_b8379059) (fun _ h9 => h9) (xb_d D_Machine_useNamed 74 rfl) ?_
  obtain ⟨b46, eb46, hw⟩ := hw
  refine xb_some eb46 ?_
  obtain ⟨hk47, hw⟩ := hw
  refine xb_getP (C := R_Row) (T := F_Row) (N := 3) hx hb 1 0 hts fin_Row hown hR hk47 (by decide) rfl (by decide) rfl (hts _ m_04d8c73d) (fun _ h9 => h9) (xb_d D_Machine_useNamed 75 rfl) ?_
  obtain ⟨b48, eb48, hw⟩ := hw
  refine xb_some eb48 ?_
  refine lv_aload_n hx hb (xb_d D_Machine_useNamed 76 rfl) rfl (lv_at hl 1 rfl) ?_
  refine xb_getP (C := R_Machine) (T := F_Machine) (N := 18) hx hb 7 12 hts fin_Machine hown hR hk1 (by decide) rfl (by decide) rfl (hts _ m_a347cb26) (fun _ h9 => h9) (xb_d D_Machine_useNamed 77 rfl) ?_
  obtain ⟨b49, eb49, hw⟩ := hw
  refine xb_some eb49 ?_
  refine lv_iload_n hx hb (xb_d D_Machine_useNamed 78 rfl) rfl (lv_at hl 0 rfl) ?_
  obtain ⟨hk50, hw⟩ := hw
  refine xb_call (D := D) (A := A) (σ := σ) (h := h43) (d := 2) (mc := 0) (ms := 0) (maxL := 3) (rest := [.ref b48]) (av := [.ref b49, .int v5]) (fun T hT X => by obtain ⟨cb, r1, r2, r3⟩ := xb_recv (ci := 10) hR rfl hk50 (by decide); exact xt_invV X hx hown (hts _ m_f040af52) (hts _ m_f0cc1dad) (hts _ m_2ed43dba) (xt_sigOf (hts _ m_806ee343)) nm_Instance_variableId (by rw [hT]; exact r1) r2 r3 (g := F0 m 171 ls [.int v5, .ref b49, .ref b48]) rfl (argsL := [.int v5]) (rest := [.ref b48]) rfl rfl (by rw [hb]; exact (xb_d D_Machine_useNamed 79 rfl))) (ok_Instance_variableId l hfl D A σ b49 v5 h43 _ hw) (hml.trans hl.1.symm) (by rw [hb]; exact (xb_d D_Machine_useNamed 79 rfl)) (Nat.le_of_ble_eq_true rfl) (Nat.le_of_ble_eq_true rfl) (Nat.le_of_ble_eq_true rfl) (show k + 0 ≤ MC by omega) (show n + 0 ≤ MS by omega) (xt_w1 hB.1 m_806ee343) (xt_cdOf hB.1 m_806ee343) (hts _ m_7a4e907b) hB hR hS hA (fun vv h51 H locs hq hEh51 hR hS => ?_) (fun XX ax h51 H locs hq hEh51 hex hR hS => ?_)
  · obtain ⟨r52, rfl, hw⟩ := hq
    have hw := hw hEh51
    have hE := hE.tr hEh51
    refine W.eq (g2 := F0 m 174 ls [.int r52, .ref b48]) rfl ?_
    refine lv_aload_n hx hb (xb_d D_Machine_useNamed 80 rfl) rfl (lv_at hl 1 rfl) ?_
    have hk1 : xb_k h51 x0 = 8 := hEh51.k hk1
    refine xb_getP (C := R_Machine) (T := F_Machine) (N := 18) hx hb 7 9 hts fin_Machine hown hR hk1 (by decide) rfl (by decide) rfl (hts _ m_6904195b) (fun _ h9 => h9) (xb_d D_Machine_useNamed 81 rfl) ?_
    obtain ⟨b53, eb53, hw⟩ := hw
    refine xb_some eb53 ?_
    refine lv_aload_n hx hb (xb_d D_Machine_useNamed 82 rfl) rfl (lv_at hl 1 rfl) ?_
    refine xb_getI (C := R_Machine) (T := F_Machine) (N := 18) hx hb 7 10 hts fin_Machine hown hR hk1 (by decide) rfl (by decide) rfl (hts _ m_79cf62f6) (fun _ h9 => h9) (xb_d D_Machine_useNamed 83 rfl) ?_
    obtain ⟨hk55, hw⟩ := hw
    obtain ⟨hi54, hw⟩ := hw
    refine xb_lald hx hb hR hk55 hi54 (xb_d D_Machine_useNamed 84 rfl) ?_
    obtain ⟨hk56, hw⟩ := hw
    obtain ⟨hi57, hw⟩ := hw
    refine xb_last hx hb hR hS hk56 hi57 (xb_d D_Machine_useNamed 85 rfl) (fun H locs hR hS => ?_)
    obtain ⟨h58, eh58⟩ : ∃ x : xb_H, x = xb_L h51 b48 (Int32.toNatClampNeg r52) (xb_l h51 b53 (Int32.toNatClampNeg (xb_i h51 x0 10))) := ⟨_, rfl⟩
    rw [← eh58] at hR
    have hw := hw h58 eh58
    have hE : xb_ext h0 h58 := by rw [eh58]; exact hE
    exact am_Machine_useNamed_L184 l hfl D A σ MC MS h0 Qr h58 hw p e s m args below meth c hC H locs ls k n hE (lv_sub hl [] rfl) hR hS (by omega) (by omega)
  · exact False.elim hq

