theorem m_62eb1e15 : (.methodLink "StackHostModel" 454 y_M_putResult : Cond) ∈ xt_tbl := xt_in (xt_t11 (List.mem_of_getElem? (i := 209) (by decide +kernel))) (by decide +kernel)
theorem m_3d82cebb : (.instanceMethod y_M_putResult : Cond) ∈ xt_tbl := xt_in (xt_t11 (List.mem_of_getElem? (i := 211) (by decide +kernel))) (by decide +kernel)
theorem m_d25c631d : (.selects "StackHostModel" y_M_putResult y_M_putResult : Cond) ∈ xt_tbl := xt_in (xt_v12 (q := (⟨"StackHostModel", "putResult", "(I)V"⟩, 97)) (List.mem_of_getElem? (i := 7) (by decide +kernel))) (by decide +kernel)
theorem m_4191cbea : (.code y_M_putResult b_M_putResult 2 none : Cond) ∈ xt_tbl := xt_in (xt_t11 (List.mem_of_getElem? (i := 212) (by decide +kernel))) (by decide +kernel)
theorem m_0edb37db : (.methodLink "StackHostModel" 418 y_M_begin : Cond) ∈ xt_tbl := xt_in (xt_t11 (List.mem_of_getElem? (i := 153) (by decide +kernel))) (by decide +kernel)
theorem m_fa0a7aa5 : (.instanceMethod y_M_begin : Cond) ∈ xt_tbl := xt_in (xt_t11 (List.mem_of_getElem? (i := 155) (by decide +kernel))) (by decide +kernel)
theorem m_543d90fc : (.selects "StackHostModel" y_M_begin y_M_begin : Cond) ∈ xt_tbl := xt_in (xt_v11 (q := (⟨"StackHostModel", "begin", "(III)V"⟩, 97)) (List.mem_of_getElem? (i := 14) (by decide +kernel))) (by decide +kernel)
theorem m_1218889d : (.code y_M_begin b_M_begin 4 none : Cond) ∈ xt_tbl := xt_in (xt_t11 (List.mem_of_getElem? (i := 156) (by decide +kernel))) (by decide +kernel)
theorem m_0e76dfec : (.methodLink "StackHostModel" 460 y_M_closeOne : Cond) ∈ xt_tbl := xt_in (xt_t11 (List.mem_of_getElem? (i := 221) (by decide +kernel))) (by decide +kernel)
theorem m_46f1e6d7 : (.instanceMethod y_M_closeOne : Cond) ∈ xt_tbl := xt_in (xt_t11 (List.mem_of_getElem? (i := 223) (by decide +kernel))) (by decide +kernel)
theorem m_a78ebb3d : (.selects "StackHostModel" y_M_closeOne y_M_closeOne : Cond) ∈ xt_tbl := xt_in (xt_v12 (q := (⟨"StackHostModel", "closeOne", "()V"⟩, 97)) (List.mem_of_getElem? (i := 10) (by decide +kernel))) (by decide +kernel)
theorem m_c752359e : (.code y_M_closeOne b_M_closeOne 1 none : Cond) ∈ xt_tbl := xt_in (xt_t11 (List.mem_of_getElem? (i := 224) (by decide +kernel))) (by decide +kernel)
theorem m_4f8ea9bb : (.methodLink "StackHostModel" 470 y_M_checkTable : Cond) ∈ xt_tbl := xt_in (xt_t11 (List.mem_of_getElem? (i := 233) (by decide +kernel))) (by decide +kernel)
theorem m_17b048cc : (.instanceMethod y_M_checkTable : Cond) ∈ xt_tbl := xt_in (xt_t11 (List.mem_of_getElem? (i := 235) (by decide +kernel))) (by decide +kernel)
theorem m_534bcd1e : (.selects "StackHostModel" y_M_checkTable y_M_checkTable : Cond) ∈ xt_tbl := xt_in (xt_v12 (q := (⟨"StackHostModel", "checkTable", "()V"⟩, 97)) (List.mem_of_getElem? (i := 13) (by decide +kernel))) (by decide +kernel)
theorem m_f237215a : (.code y_M_checkTable b_M_checkTable 8 none : Cond) ∈ xt_tbl := xt_in (xt_t11 (List.mem_of_getElem? (i := 236) (by decide +kernel))) (by decide +kernel)
theorem nm_M_putResult : xt_nm y_M_putResult 1 := ⟨by decide +kernel, by decide +kernel⟩
theorem nm_M_begin : xt_nm y_M_begin 3 := ⟨by decide +kernel, by decide +kernel⟩
theorem nm_M_closeOne : xt_nm y_M_closeOne 0 := ⟨by decide +kernel, by decide +kernel⟩
theorem nm_M_checkTable : xt_nm y_M_checkTable 0 := ⟨by decide +kernel, by decide +kernel⟩
set_option maxRecDepth 100000 in
def T_M_checkFlow : List (Nat × Instr × Nat) := [(0, .iload_n 1, 1), (1, .tableswitch 287 0 15 #[79, 287, 86, 86, 86, 123, 287, 287, 287, 287, 287, 149, 212, 231, 263, 270], 79), (80, .aload_n 0, 1), (81, .invokevirtual 457, 3), (84, .goto 204, 3), (87, .iload_n 1, 1), (88, .iconst 4, 1), (89, .if_icmp .ne 10, 3), (92, .aload_n 0, 1), (93, .bipush 127, 2), (95, .invokevirtual 402, 3), (98, .pop, 1), (99, .aload_n 0, 1), (100, .invokevirtual 212, 3), (103, .istore_n 2, 1), (104, .aload_n 0, 1), (105, .iload_n 1, 1), (106, .iload_n 1, 1), (107, .iconst 3, 1), (108, .if_icmp .ne 8, 3), (111, .bipush 64, 2), (113, .goto 4, 3), (116, .iload_n 2, 1), (117, .iload_n 2, 1), (118, .invokevirtual 418, 3), (121, .goto 167, 3), (124, .aload_n 0, 1), (125, .getfield 52, 3), (128, .aload_n 0, 1), (129, .getfield 396, 3), (132, .iconst 1, 1), (133, .isub, 1), (134, .iaload, 1), (135, .istore_n 3, 1), (136, .aload_n 0, 1), (137, .invokevirtual 460, 3), (140, .aload_n 0, 1), (141, .iconst 5, 1), (142, .iload_n 3, 1), (143, .iload_n 3, 1), (144, .invokevirtual 418, 3), (147, .goto 141, 3), (150, .aload_n 0, 1), (151, .getfield 46, 3), (154, .aload_n 0, 1), (155, .getfield 396, 3), (158, .iconst 1, 1), (159, .isub, 1), (160, .iaload, 1), (161, .istore 4, 2), (163, .aload_n 0, 1), (164, .getfield 52, 3), (167, .aload_n 0, 1), (168, .getfield 396, 3), (171, .iconst 1, 1), (172, .isub, 1), (173, .iaload, 1), (174, .istore 5, 2), (176, .aload_n 0, 1), (177, .invokevirtual 460, 3), (180, .aload_n 0, 1), (181, .iload 4, 2), (183, .iconst 4, 1), (184, .if_icmp .ne 10, 3), (187, .iload 5, 2), (189, .bipush 64, 2), (191, .if_icmp .ne 7, 3), (194, .iconst 1, 1), (195, .goto 4, 3), (198, .iconst 0, 1), (199, .bipush 21, 2), (201, .invokevirtual 408, 3), (204, .aload_n 0, 1), (205, .iload 5, 2), (207, .invokevirtual 454, 3), (210, .goto 78, 3), (213, .aload_n 0, 1), (214, .aload_n 0, 1), (215, .aload_n 0, 1), (216, .invokevirtual 218, 3), (219, .invokevirtual 463, 3), (222, .invokevirtual 467, 3), (225, .aload_n 0, 1), (226, .invokevirtual 457, 3), (229, .goto 59, 3), (232, .aload_n 0, 1), (233, .aload_n 0, 1), (234, .invokevirtual 218, 3), (237, .invokevirtual 463, 3), (240, .istore 6, 2), (242, .aload_n 0, 1), (243, .bipush 127, 2), (245, .invokevirtual 402, 3), (248, .pop, 1), (249, .aload_n 0, 1), (250, .iload 6, 2), (252, .invokevirtual 467, 3), (255, .aload_n 0, 1), (256, .iload 6, 2), (258, .invokevirtual 454, 3), (261, .goto 27, 3), (264, .aload_n 0, 1), (265, .invokevirtual 470, 3), (268, .goto 20, 3), (271, .aload_n 0, 1), (272, .aload_n 0, 1), (273, .getfield 49, 3), (276, .iconst 0, 1), (277, .iaload, 1), (278, .invokevirtual 467, 3), (281, .aload_n 0, 1), (282, .invokevirtual 457, 3), (285, .goto 3, 3), (288, .return_, 1)]
theorem D_M_checkFlow : ∀ q ∈ T_M_checkFlow, decode b_M_checkFlow q.1 = .ok (q.2.1, q.2.2) := by decide +kernel
def w_M_checkFlow_L288 (Qr : xb_H → Prop) (h : xb_H) : Prop :=
    Qr h

def w_M_checkFlow_L199 (Qr : xb_H → Prop) (x0 : Nat) (x5 : Int32) (y0 : Int32) (y1 : Nat) (h : xb_H) : Prop :=
    xb_k h y1 = 9 ∧ w_M_need y1 y0 21 h (fun (h2 : xb_H) => xb_ext h h2 → xb_k h2 x0 = 9 ∧ w_M_putResult x0 x5 h2 (fun (h5 : xb_H) => xb_ext h2 h5 → w_M_checkFlow_L288 Qr h5))

def w_M_checkFlow_L194 (Qr : xb_H → Prop) (x0 : Nat) (x5 : Int32) (y0 : Nat) (h : xb_H) : Prop :=
    w_M_checkFlow_L199 Qr x0 x5 1 y0 h

def w_M_checkFlow_L117 (Qr : xb_H → Prop) (x2 : Int32) (y0 : Int32) (y1 : Int32) (y2 : Nat) (h : xb_H) : Prop :=
    xb_k h y2 = 9 ∧ w_M_begin y2 y1 y0 x2 h (fun (h2 : xb_H) => xb_ext h h2 → w_M_checkFlow_L288 Qr h2)

def w_M_checkFlow_L99 (Qr : xb_H → Prop) (x0 : Nat) (x1 : Int32) (h : xb_H) : Prop :=
    xb_k h x0 = 9 ∧ w_M_next x0 h (fun (r3 : Int32) (h2 : xb_H) => xb_ext h h2 → ((¬ x1 = (3 : Int32) → w_M_checkFlow_L117 Qr r3 r3 x1 x0 h2) ∧ (x1 = (3 : Int32) → w_M_checkFlow_L117 Qr r3 64 x1 x0 h2)))

def w_M_checkFlow_L87 (Qr : xb_H → Prop) (x0 : Nat) (x1 : Int32) (h : xb_H) : Prop :=
    ((¬ x1 = (4 : Int32) → w_M_checkFlow_L99 Qr x0 x1 h) ∧ (x1 = (4 : Int32) → xb_k h x0 = 9 ∧ w_M_take x0 127 h (fun (r4 : Int32) (h3 : xb_H) => xb_ext h h3 → w_M_checkFlow_L99 Qr x0 x1 h3)))

def w_M_checkFlow (x0 : Nat) (x1 : Int32) (h : xb_H) (Qr : xb_H → Prop) : Prop :=
    ((x1 = 0 → xb_k h x0 = 9 ∧ w_M_dead x0 h (fun (h3 : xb_H) => xb_ext h h3 → w_M_checkFlow_L288 Qr h3)) ∧ (x1 = 1 → w_M_checkFlow_L288 Qr h) ∧ (x1 = 2 → w_M_checkFlow_L87 Qr x0 x1 h) ∧ (x1 = 3 → w_M_checkFlow_L87 Qr x0 x1 h) ∧ (x1 = 4 → w_M_checkFlow_L87 Qr x0 x1 h) ∧ (x1 = 5 → xb_k h x0 = 9 ∧ ∃ b11 : Nat, (xb_r h x0 26) = some b11 ∧ xb_k h b11 = 102 ∧ vp_in ((xb_i h x0 29) - 1) (xb_n h b11) ∧ ∀ v14 : Int32, v14 = (xb_i h b11 (Int32.toNatClampNeg ((xb_i h x0 29) - 1))) → w_M_closeOne x0 h (fun (h15 : xb_H) => xb_ext h h15 → w_M_begin x0 5 v14 v14 h15 (fun (h17 : xb_H) => xb_ext h15 h17 → w_M_checkFlow_L288 Qr h17))) ∧ (x1 = 6 → w_M_checkFlow_L288 Qr h) ∧ (x1 = 7 → w_M_checkFlow_L288 Qr h) ∧ (x1 = 8 → w_M_checkFlow_L288 Qr h) ∧ (x1 = 9 → w_M_checkFlow_L288 Qr h) ∧ (x1 = 10 → w_M_checkFlow_L288 Qr h) ∧ (x1 = 11 → xb_k h x0 = 9 ∧ ∃ b26 : Nat, (xb_r h x0 24) = some b26 ∧ xb_k h b26 = 102 ∧ vp_in ((xb_i h x0 29) - 1) (xb_n h b26) ∧ ∀ v29 : Int32, v29 = (xb_i h b26 (Int32.toNatClampNeg ((xb_i h x0 29) - 1))) → ∃ b30 : Nat, (xb_r h x0 26) = some b30 ∧ xb_k h b30 = 102 ∧ vp_in ((xb_i h x0 29) - 1) (xb_n h b30) ∧ ∀ v33 : Int32, v33 = (xb_i h b30 (Int32.toNatClampNeg ((xb_i h x0 29) - 1))) → w_M_closeOne x0 h (fun (h34 : xb_H) => xb_ext h h34 → ((¬ v29 = (4 : Int32) → w_M_checkFlow_L194 Qr x0 v33 x0 h34) ∧ (v29 = (4 : Int32) → ((¬ v33 = (64 : Int32) → w_M_checkFlow_L199 Qr x0 v33 0 x0 h34) ∧ (v33 = (64 : Int32) → w_M_checkFlow_L194 Qr x0 v33 x0 h34)))))) ∧ (x1 = 12 → xb_k h x0 = 9 ∧ w_M_count x0 h (fun (r41 : Int64) (h40 : xb_H) => xb_ext h h40 → w_M_label x0 r41 h40 (fun (r43 : Int32) (h42 : xb_H) => xb_ext h40 h42 → w_M_takeResult x0 r43 h42 (fun (h44 : xb_H) => xb_ext h42 h44 → w_M_dead x0 h44 (fun (h46 : xb_H) => xb_ext h44 h46 → w_M_checkFlow_L288 Qr h46))))) ∧ (x1 = 13 → xb_k h x0 = 9 ∧ w_M_count x0 h (fun (r51 : Int64) (h50 : xb_H) => xb_ext h h50 → w_M_label x0 r51 h50 (fun (r53 : Int32) (h52 : xb_H) => xb_ext h50 h52 → w_M_take x0 127 h52 (fun (r55 : Int32) (h54 : xb_H) => xb_ext h52 h54 → w_M_takeResult x0 r53 h54 (fun (h56 : xb_H) => xb_ext h54 h56 → w_M_putResult x0 r53 h56 (fun (h58 : xb_H) => xb_ext h56 h58 → w_M_checkFlow_L288 Qr h58)))))) ∧ (x1 = 14 → xb_k h x0 = 9 ∧ w_M_checkTable x0 h (fun (h62 : xb_H) => xb_ext h h62 → w_M_checkFlow_L288 Qr h62)) ∧ (x1 = 15 → xb_k h x0 = 9 ∧ ∃ b66 : Nat, (xb_r h x0 25) = some b66 ∧ xb_k h b66 = 102 ∧ vp_in 0 (xb_n h b66) ∧ w_M_takeResult x0 (xb_i h b66 0) h (fun (h69 : xb_H) => xb_ext h h69 → w_M_dead x0 h69 (fun (h71 : xb_H) => xb_ext h69 h71 → w_M_checkFlow_L288 Qr h71))) ∧ (¬ x1 = 0 → ¬ x1 = 1 → ¬ x1 = 2 → ¬ x1 = 3 → ¬ x1 = 4 → ¬ x1 = 5 → ¬ x1 = 6 → ¬ x1 = 7 → ¬ x1 = 8 → ¬ x1 = 9 → ¬ x1 = 10 → ¬ x1 = 11 → ¬ x1 = 12 → ¬ x1 = 13 → ¬ x1 = 14 → ¬ x1 = 15 → w_M_checkFlow_L288 Qr h))

set_option maxHeartbeats 4000000 in
set_option maxRecDepth 100000 in
theorem am_M_checkFlow_L288 (l : Launch) (hfl : l.flags = pinnedFlags ++ [noTraceFlag]) (D : va_G) (A : Nat → Prop) (σ MC MS : Nat) (h0 : xb_H) (Qr : xb_H → Prop) (h : xb_H) (hw : w_M_checkFlow_L288 Qr h) : xb_am l D A σ 6 MC MS h0 (fun v h => v = none ∧ Qr h) (fun _ _ => False) y_M_checkFlow.cls y_M_checkFlow.name b_M_checkFlow 7 ([] : List ExceptionTableEntry) none 288 [] [] h 0 0 := by
  unfold w_M_checkFlow_L288 at hw
  intro p e s m args below meth c hC H locs ls k n hE hl hR hS hk hn
  obtain ⟨hx, hb, hown, hlocks, htab, hml, hr, hB, hA, hnm⟩ := id hC
  have hts := hB.1.1.at args
  exact xb_vret hx hb hr hlocks (show k ≤ MC by omega) (show n ≤ MS by omega) hE hR hS (xb_d D_M_checkFlow 113 rfl) hw

set_option maxHeartbeats 4000000 in
set_option maxRecDepth 100000 in
theorem am_M_checkFlow_L199 (l : Launch) (hfl : l.flags = pinnedFlags ++ [noTraceFlag]) (D : va_G) (A : Nat → Prop) (σ MC MS : Nat) (h0 : xb_H) (Qr : xb_H → Prop) (x0 : Nat) (x5 : Int32) (y0 : Int32) (y1 : Nat) (h : xb_H) (hw : w_M_checkFlow_L199 Qr x0 x5 y0 y1 h) : xb_am l D A σ 6 MC MS h0 (fun v h => v = none ∧ Qr h) (fun _ _ => False) y_M_checkFlow.cls y_M_checkFlow.name b_M_checkFlow 7 ([] : List ExceptionTableEntry) none 199 [(0, .ref x0), (5, .int x5)] [.int y0, .ref y1] h 0 0 := by
  unfold w_M_checkFlow_L199 at hw
  intro p e s m args below meth c hC H locs ls k n hE hl hR hS hk hn
  obtain ⟨hx, hb, hown, hlocks, htab, hml, hr, hB, hA, hnm⟩ := id hC
  have hts := hB.1.1.at args
  refine lv_bipush (v := 21) hx hb (xb_d D_M_checkFlow 70 rfl) (by decide) ?_
  obtain ⟨hk1, hw⟩ := hw
  refine xb_call (D := D) (A := A) (σ := σ) (h := h) (d := 3) (mc := 0) (ms := 0) (maxL := 3) (rest := []) (av := [.ref y1, .int y0, .int 21]) (fun T hT X => by obtain ⟨cb, r1, r2, r3⟩ := xb_recv (ci := 8) hR rfl hk1 (by decide); exact xt_invV X hx hown (hts _ m_3b351fe6) (hts _ m_c9ff1909) (hts _ m_4d34701a) (xt_sigOf (hts _ m_c5aab6b8)) nm_M_need (by rw [hT]; exact r1) r2 r3 (g := F0 m 201 ls [.int 21, .int y0, .ref y1]) rfl (argsL := [.int y0, .int 21]) (rest := []) rfl rfl (by rw [hb]; exact (xb_d D_M_checkFlow 71 rfl))) (ok_M_need l hfl D A σ y1 y0 21 h _ hw) (hml.trans hl.1.symm) (by rw [hb]; exact (xb_d D_M_checkFlow 71 rfl)) (Nat.le_of_ble_eq_true rfl) (Nat.le_of_ble_eq_true rfl) (Nat.le_of_ble_eq_true rfl) (show k + 0 ≤ MC by omega) (show n + 0 ≤ MS by omega) (xt_w1 hB.1 m_c5aab6b8) (xt_cdOf hB.1 m_c5aab6b8) (hts _ m_d5ed7bed) hB hR hS hA (fun vv h2 H locs hq hEh2 hR hS => ?_) (fun XX ax h2 H locs hq hEh2 hex hR hS => ?_)
  · obtain ⟨rfl, hw⟩ := hq
    have hw := hw hEh2
    have hE := hE.tr hEh2
    refine W.eq (g2 := F0 m 204 ls []) rfl ?_
    refine lv_aload_n hx hb (xb_d D_M_checkFlow 72 rfl) rfl (lv_at hl 0 rfl) ?_
    refine lv_iload hx hb (xb_d D_M_checkFlow 73 rfl) (lv_at hl 1 rfl) ?_
    obtain ⟨hk4, hw⟩ := hw
    refine xb_call (D := D) (A := A) (σ := σ) (h := h2) (d := 3) (mc := 0) (ms := 0) (maxL := 2) (rest := []) (av := [.ref x0, .int x5]) (fun T hT X => by obtain ⟨cb, r1, r2, r3⟩ := xb_recv (ci := 8) hR rfl hk4 (by decide); exact xt_invV X hx hown (hts _ m_62eb1e15) (hts _ m_3d82cebb) (hts _ m_d25c631d) (xt_sigOf (hts _ m_4191cbea)) nm_M_putResult (by rw [hT]; exact r1) r2 r3 (g := F0 m 207 ls [.int x5, .ref x0]) rfl (argsL := [.int x5]) (rest := []) rfl rfl (by rw [hb]; exact (xb_d D_M_checkFlow 74 rfl))) (ok_M_putResult l hfl D A σ x0 x5 h2 _ hw) (hml.trans hl.1.symm) (by rw [hb]; exact (xb_d D_M_checkFlow 74 rfl)) (Nat.le_of_ble_eq_true rfl) (Nat.le_of_ble_eq_true rfl) (Nat.le_of_ble_eq_true rfl) (show k + 0 ≤ MC by omega) (show n + 0 ≤ MS by omega) (xt_w1 hB.1 m_4191cbea) (xt_cdOf hB.1 m_4191cbea) (hts _ m_d5ed7bed) hB hR hS hA (fun vv h5 H locs hq hEh5 hR hS => ?_) (fun XX ax h5 H locs hq hEh5 hex hR hS => ?_)
    · obtain ⟨rfl, hw⟩ := hq
      have hw := hw hEh5
      have hE := hE.tr hEh5
      refine W.eq (g2 := F0 m 210 ls []) rfl ?_
      refine lv_goto (tgt := 288) hx hb (xb_d D_M_checkFlow 75 rfl) rfl ?_
      exact am_M_checkFlow_L288 l hfl D A σ MC MS h0 Qr h5 hw p e s m args below meth c hC H locs ls k n hE (lv_sub hl [] rfl) hR hS (by omega) (by omega)
    · exact False.elim hq
  · exact False.elim hq

set_option maxHeartbeats 4000000 in
set_option maxRecDepth 100000 in
theorem am_M_checkFlow_L194 (l : Launch) (hfl : l.flags = pinnedFlags ++ [noTraceFlag]) (D : va_G) (A : Nat → Prop) (σ MC MS : Nat) (h0 : xb_H) (Qr : xb_H → Prop) (x0 : Nat) (x5 : Int32) (y0 : Nat) (h : xb_H) (hw : w_M_checkFlow_L194 Qr x0 x5 y0 h) : xb_am l D A σ 6 MC MS h0 (fun v h => v = none ∧ Qr h) (fun _ _ => False) y_M_checkFlow.cls y_M_checkFlow.name b_M_checkFlow 7 ([] : List ExceptionTableEntry) none 194 [(0, .ref x0), (5, .int x5)] [.ref y0] h 0 0 := by
  unfold w_M_checkFlow_L194 at hw
  intro p e s m args below meth c hC H locs ls k n hE hl hR hS hk hn
  obtain ⟨hx, hb, hown, hlocks, htab, hml, hr, hB, hA, hnm⟩ := id hC
  have hts := hB.1.1.at args
  refine lv_iconst (v := 1) hx hb (xb_d D_M_checkFlow 67 rfl) (by decide) ?_
  refine lv_goto (tgt := 199) hx hb (xb_d D_M_checkFlow 68 rfl) rfl ?_
  exact am_M_checkFlow_L199 l hfl D A σ MC MS h0 Qr x0 x5 1 y0 h hw p e s m args below meth c hC H locs ls k n hE (lv_sub hl [0, 1] rfl) hR hS (by omega) (by omega)

set_option maxHeartbeats 4000000 in
set_option maxRecDepth 100000 in
theorem am_M_checkFlow_L117 (l : Launch) (hfl : l.flags = pinnedFlags ++ [noTraceFlag]) (D : va_G) (A : Nat → Prop) (σ MC MS : Nat) (h0 : xb_H) (Qr : xb_H → Prop) (x2 : Int32) (y0 : Int32) (y1 : Int32) (y2 : Nat) (h : xb_H) (hw : w_M_checkFlow_L117 Qr x2 y0 y1 y2 h) : xb_am l D A σ 6 MC MS h0 (fun v h => v = none ∧ Qr h) (fun _ _ => False) y_M_checkFlow.cls y_M_checkFlow.name b_M_checkFlow 7 ([] : List ExceptionTableEntry) none 117 [(2, .int x2)] [.int y0, .int y1, .ref y2] h 0 0 := by
  unfold w_M_checkFlow_L117 at hw
  intro p e s m args below meth c hC H locs ls k n hE hl hR hS hk hn
  obtain ⟨hx, hb, hown, hlocks, htab, hml, hr, hB, hA, hnm⟩ := id hC
  have hts := hB.1.1.at args
  refine lv_iload_n hx hb (xb_d D_M_checkFlow 23 rfl) rfl (lv_at hl 0 rfl) ?_
  obtain ⟨hk1, hw⟩ := hw
  refine xb_call (D := D) (A := A) (σ := σ) (h := h) (d := 2) (mc := 0) (ms := 0) (maxL := 4) (rest := []) (av := [.ref y2, .int y1, .int y0, .int x2]) (fun T hT X => by obtain ⟨cb, r1, r2, r3⟩ := xb_recv (ci := 8) hR rfl hk1 (by decide); exact xt_invV X hx hown (hts _ m_0edb37db) (hts _ m_fa0a7aa5) (hts _ m_543d90fc) (xt_sigOf (hts _ m_1218889d)) nm_M_begin (by rw [hT]; exact r1) r2 r3 (g := F0 m 118 ls [.int x2, .int y0, .int y1, .ref y2]) rfl (argsL := [.int y1, .int y0, .int x2]) (rest := []) rfl rfl (by rw [hb]; exact (xb_d D_M_checkFlow 24 rfl))) (ok_M_begin l hfl D A σ y2 y1 y0 x2 h _ hw) (hml.trans hl.1.symm) (by rw [hb]; exact (xb_d D_M_checkFlow 24 rfl)) (Nat.le_of_ble_eq_true rfl) (Nat.le_of_ble_eq_true rfl) (Nat.le_of_ble_eq_true rfl) (show k + 0 ≤ MC by omega) (show n + 0 ≤ MS by omega) (xt_w1 hB.1 m_1218889d) (xt_cdOf hB.1 m_1218889d) (hts _ m_d5ed7bed) hB hR hS hA (fun vv h2 H locs hq hEh2 hR hS => ?_) (fun XX ax h2 H locs hq hEh2 hex hR hS => ?_)
  · obtain ⟨rfl, hw⟩ := hq
    have hw := hw hEh2
    have hE := hE.tr hEh2
    refine W.eq (g2 := F0 m 121 ls []) rfl ?_
    refine lv_goto (tgt := 288) hx hb (xb_d D_M_checkFlow 25 rfl) rfl ?_
    exact am_M_checkFlow_L288 l hfl D A σ MC MS h0 Qr h2 hw p e s m args below meth c hC H locs ls k n hE (lv_sub hl [] rfl) hR hS (by omega) (by omega)
  · exact False.elim hq

set_option maxHeartbeats 4000000 in
set_option maxRecDepth 100000 in
theorem am_M_checkFlow_L99 (l : Launch) (hfl : l.flags = pinnedFlags ++ [noTraceFlag]) (D : va_G) (A : Nat → Prop) (σ MC MS : Nat) (h0 : xb_H) (Qr : xb_H → Prop) (x0 : Nat) (x1 : Int32) (h : xb_H) (hw : w_M_checkFlow_L99 Qr x0 x1 h) : xb_am l D A σ 6 MC MS h0 (fun v h => v = none ∧ Qr h) (fun _ _ => False) y_M_checkFlow.cls y_M_checkFlow.name b_M_checkFlow 7 ([] : List ExceptionTableEntry) none 99 [(0, .ref x0), (1, .int x1)] [] h 0 0 := by
  unfold w_M_checkFlow_L99 at hw
  intro p e s m args below meth c hC H locs ls k n hE hl hR hS hk hn
  obtain ⟨hx, hb, hown, hlocks, htab, hml, hr, hB, hA, hnm⟩ := id hC
  have hts := hB.1.1.at args
  refine lv_aload_n hx hb (xb_d D_M_checkFlow 12 rfl) rfl (lv_at hl 0 rfl) ?_
  obtain ⟨hk1, hw⟩ := hw
  refine xb_call (D := D) (A := A) (σ := σ) (h := h) (d := 3) (mc := 0) (ms := 0) (maxL := 2) (rest := []) (av := [.ref x0]) (fun T hT X => by obtain ⟨cb, r1, r2, r3⟩ := xb_recv (ci := 8) hR rfl hk1 (by decide); exact xt_invV X hx hown (hts _ m_0e978570) (hts _ m_40099f98) (hts _ m_a7dbfd07) (xt_sigOf (hts _ m_0af1ec6a)) nm_M_next (by rw [hT]; exact r1) r2 r3 (g := F0 m 100 ls [.ref x0]) rfl (argsL := []) (rest := []) rfl rfl (by rw [hb]; exact (xb_d D_M_checkFlow 13 rfl))) (ok_M_next l hfl D A σ x0 h _ hw) (hml.trans hl.1.symm) (by rw [hb]; exact (xb_d D_M_checkFlow 13 rfl)) (Nat.le_of_ble_eq_true rfl) (Nat.le_of_ble_eq_true rfl) (Nat.le_of_ble_eq_true rfl) (show k + 0 ≤ MC by omega) (show n + 0 ≤ MS by omega) (xt_w1 hB.1 m_0af1ec6a) (xt_cdOf hB.1 m_0af1ec6a) (hts _ m_d5ed7bed) hB hR hS hA (fun vv h2 H locs hq hEh2 hR hS => ?_) (fun XX ax h2 H locs hq hEh2 hex hR hS => ?_)
  · obtain ⟨r3, rfl, hw⟩ := hq
    have hw := hw hEh2
    have hE := hE.tr hEh2
    refine W.eq (g2 := F0 m 103 ls [.int r3]) rfl ?_
    refine lv_istore_n hx hb (xb_d D_M_checkFlow 14 rfl) rfl hl (by decide) rfl (fun ls hl => ?_)
    have hl : lv_has ls 7 [(2, .int r3), (0, .ref x0), (1, .int x1)] := hl
    refine lv_aload_n hx hb (xb_d D_M_checkFlow 15 rfl) rfl (lv_at hl 1 rfl) ?_
    refine lv_iload_n hx hb (xb_d D_M_checkFlow 16 rfl) rfl (lv_at hl 2 rfl) ?_
    refine lv_iload_n hx hb (xb_d D_M_checkFlow 17 rfl) rfl (lv_at hl 2 rfl) ?_
    refine lv_iconst (v := 3) hx hb (xb_d D_M_checkFlow 18 rfl) (by decide) ?_
    refine lv_icmp_ne (tgt := 116) hx hb (xb_d D_M_checkFlow 19 rfl) rfl (fun hc4 => ?_) (fun hc4 => ?_)
    · have hw := hw.1 hc4
      refine lv_iload_n hx hb (xb_d D_M_checkFlow 22 rfl) rfl (lv_at hl 0 rfl) ?_
      exact am_M_checkFlow_L117 l hfl D A σ MC MS h0 Qr r3 r3 x1 x0 h2 hw p e s m args below meth c hC H locs ls k n hE (lv_sub hl [0] rfl) hR hS (by omega) (by omega)
    · have hw := hw.2 hc4
      refine lv_bipush (v := 64) hx hb (xb_d D_M_checkFlow 20 rfl) (by decide) ?_
      refine lv_goto (tgt := 117) hx hb (xb_d D_M_checkFlow 21 rfl) rfl ?_
      exact am_M_checkFlow_L117 l hfl D A σ MC MS h0 Qr r3 64 x1 x0 h2 hw p e s m args below meth c hC H locs ls k n hE (lv_sub hl [0] rfl) hR hS (by omega) (by omega)
  · exact False.elim hq

set_option maxHeartbeats 4000000 in
set_option maxRecDepth 100000 in
theorem am_M_checkFlow_L87 (l : Launch) (hfl : l.flags = pinnedFlags ++ [noTraceFlag]) (D : va_G) (A : Nat → Prop) (σ MC MS : Nat) (h0 : xb_H) (Qr : xb_H → Prop) (x0 : Nat) (x1 : Int32) (h : xb_H) (hw : w_M_checkFlow_L87 Qr x0 x1 h) : xb_am l D A σ 6 MC MS h0 (fun v h => v = none ∧ Qr h) (fun _ _ => False) y_M_checkFlow.cls y_M_checkFlow.name b_M_checkFlow 7 ([] : List ExceptionTableEntry) none 87 [(0, .ref x0), (1, .int x1)] [] h 0 0 := by
  unfold w_M_checkFlow_L87 at hw
  intro p e s m args below meth c hC H locs ls k n hE hl hR hS hk hn
  obtain ⟨hx, hb, hown, hlocks, htab, hml, hr, hB, hA, hnm⟩ := id hC
  have hts := hB.1.1.at args
  refine lv_iload_n hx hb (xb_d D_M_checkFlow 5 rfl) rfl (lv_at hl 1 rfl) ?_
  refine lv_iconst (v := 4) hx hb (xb_d D_M_checkFlow 6 rfl) (by decide) ?_
  refine lv_icmp_ne (tgt := 99) hx hb (xb_d D_M_checkFlow 7 rfl) rfl (fun hc1 => ?_) (fun hc1 => ?_)
  · have hw := hw.1 hc1
    exact am_M_checkFlow_L99 l hfl D A σ MC MS h0 Qr x0 x1 h hw p e s m args below meth c hC H locs ls k n hE (lv_sub hl [0, 1] rfl) hR hS (by omega) (by omega)
  · have hw := hw.2 hc1
    refine lv_aload_n hx hb (xb_d D_M_checkFlow 8 rfl) rfl (lv_at hl 0 rfl) ?_
    refine lv_bipush (v := 127) hx hb (xb_d D_M_checkFlow 9 rfl) (by decide) ?_
    obtain ⟨hk2, hw⟩ := hw
    refine xb_call (D := D) (A := A) (σ := σ) (h := h) (d := 3) (mc := 0) (ms := 0) (maxL := 3) (rest := []) (av := [.ref x0, .int 127]) (fun T hT X => by obtain ⟨cb, r1, r2, r3⟩ := xb_recv (ci := 8) hR rfl hk2 (by decide); exact xt_invV X hx hown (hts _ m_4290bf91) (hts _ m_641dba55) (hts _ m_286bb193) (xt_sigOf (hts _ m_8ef3c792)) nm_M_take (by rw [hT]; exact r1) r2 r3 (g := F0 m 95 ls [.int 127, .ref x0]) rfl (argsL := [.int 127]) (rest := []) rfl rfl (by rw [hb]; exact (xb_d D_M_checkFlow 10 rfl))) (ok_M_take l hfl D A σ x0 127 h _ hw) (hml.trans hl.1.symm) (by rw [hb]; exact (xb_d D_M_checkFlow 10 rfl)) (Nat.le_of_ble_eq_true rfl) (Nat.le_of_ble_eq_true rfl) (Nat.le_of_ble_eq_true rfl) (show k + 0 ≤ MC by omega) (show n + 0 ≤ MS by omega) (xt_w1 hB.1 m_8ef3c792) (xt_cdOf hB.1 m_8ef3c792) (hts _ m_d5ed7bed) hB hR hS hA (fun vv h3 H locs hq hEh3 hR hS => ?_) (fun XX ax h3 H locs hq hEh3 hex hR hS => ?_)
    · obtain ⟨r4, rfl, hw⟩ := hq
      have hw := hw hEh3
      have hE := hE.tr hEh3
      refine W.eq (g2 := F0 m 98 ls [.int r4]) rfl ?_
      refine lv_pop hx hb (xb_d D_M_checkFlow 11 rfl) rfl ?_
      exact am_M_checkFlow_L99 l hfl D A σ MC MS h0 Qr x0 x1 h3 hw p e s m args below meth c hC H locs ls k n hE (lv_sub hl [0, 1] rfl) hR hS (by omega) (by omega)
    · exact False.elim hq

set_option maxHeartbeats 4000000 in
set_option maxRecDepth 100000 in
theorem ok_M_checkFlow (l : Launch) (hfl : l.flags = pinnedFlags ++ [noTraceFlag]) (D : va_G) (A : Nat → Prop) (σ : Nat) (x0 : Nat) (x1 : Int32) (h : xb_H) (Qr : xb_H → Prop) (hw : w_M_checkFlow x0 x1 h Qr) : xt_Met l y_M_checkFlow [.code y_M_checkFlow b_M_checkFlow 7 none] (xb_rm 6 0 0) (xb_Pc D A σ h [.ref x0, .int x1]) (xb_Qc D A h (fun v h => v = none ∧ Qr h) (fun _ _ => False)) 0 0 A := by
  refine xb_ofAm (cc := b_M_checkFlow) (by decide) (Nat.le_of_ble_eq_true rfl) ?_
  unfold w_M_checkFlow at hw
  show xb_am l D A σ 6 0 0 h (fun v h => v = none ∧ Qr h) (fun _ _ => False) y_M_checkFlow.cls y_M_checkFlow.name b_M_checkFlow 7 ([] : List ExceptionTableEntry) none 0 [(0, .ref x0), (1, .int x1)] [] h 0 0
  obtain ⟨MC, hMC⟩ : ∃ x, x = 0 := ⟨_, rfl⟩
  obtain ⟨MS, hMS⟩ : ∃ x, x = 0 := ⟨_, rfl⟩
  rw [show xb_am l D A σ 6 0 0 = xb_am l D A σ 6 MC MS by rw [hMC, hMS]]
  obtain ⟨h0, hh0⟩ : ∃ x, x = h := ⟨_, rfl⟩
  rw [show xb_am l D A σ 6 MC MS h = xb_am l D A σ 6 MC MS h0 by rw [hh0]]
  intro p e s m args below meth c hC H locs ls k n hE hl hR hS hk hn
  obtain ⟨hx, hb, hown, hlocks, htab, hml, hr, hB, hA, hnm⟩ := id hC
  have hts := hB.1.1.at args
  refine lv_iload_n hx hb (xb_d D_M_checkFlow 0 rfl) rfl (lv_at hl 1 rfl) ?_
  by_cases hc1 : x1 = 0
  · have hw := hw.1 hc1
    refine xt_numi hc1 ?_
    refine lv_tableIn (off := 79) (tgt := 80) hx hb (xb_d D_M_checkFlow 1 rfl) (by decide +kernel) (by decide +kernel) (by decide +kernel) (by decide) ?_
    refine lv_aload_n hx hb (xb_d D_M_checkFlow 2 rfl) rfl (lv_at hl 0 rfl) ?_
    obtain ⟨hk2, hw⟩ := hw
    refine xb_call (D := D) (A := A) (σ := σ) (h := h) (d := 2) (mc := 0) (ms := 0) (maxL := 1) (rest := []) (av := [.ref x0]) (fun T hT X => by obtain ⟨cb, r1, r2, r3⟩ := xb_recv (ci := 8) hR rfl hk2 (by decide); exact xt_invV X hx hown (hts _ m_3f9bfaa5) (hts _ m_825f0c22) (hts _ m_e55d52e9) (xt_sigOf (hts _ m_e7fd7be8)) nm_M_dead (by rw [hT]; exact r1) r2 r3 (g := F0 m 81 ls [.ref x0]) rfl (argsL := []) (rest := []) rfl rfl (by rw [hb]; exact (xb_d D_M_checkFlow 3 rfl))) (ok_M_dead l hfl D A σ x0 h _ hw) (hml.trans hl.1.symm) (by rw [hb]; exact (xb_d D_M_checkFlow 3 rfl)) (Nat.le_of_ble_eq_true rfl) (Nat.le_of_ble_eq_true rfl) (Nat.le_of_ble_eq_true rfl) (show k + 0 ≤ MC by omega) (show n + 0 ≤ MS by omega) (xt_w1 hB.1 m_e7fd7be8) (xt_cdOf hB.1 m_e7fd7be8) (hts _ m_d5ed7bed) hB hR hS hA (fun vv h3 H locs hq hEh3 hR hS => ?_) (fun XX ax h3 H locs hq hEh3 hex hR hS => ?_)
    · obtain ⟨rfl, hw⟩ := hq
      have hw := hw hEh3
      have hE := hE.tr hEh3
      refine W.eq (g2 := F0 m 84 ls []) rfl ?_
      refine lv_goto (tgt := 288) hx hb (xb_d D_M_checkFlow 4 rfl) rfl ?_
      exact am_M_checkFlow_L288 l hfl D A σ MC MS h0 Qr h3 hw p e s m args below meth c hC H locs ls k n hE (lv_sub hl [] rfl) hR hS (by omega) (by omega)
    · exact False.elim hq
  have hw := hw.2
  by_cases hc5 : x1 = 1
  · have hw := hw.1 hc5
    refine xt_numi hc5 ?_
    refine lv_tableIn (off := 287) (tgt := 288) hx hb (xb_d D_M_checkFlow 1 rfl) (by decide +kernel) (by decide +kernel) (by decide +kernel) (by decide) ?_
    exact am_M_checkFlow_L288 l hfl D A σ MC MS h0 Qr h hw p e s m args below meth c hC H locs ls k n hE (lv_sub hl [] rfl) hR hS (by omega) (by omega)
  have hw := hw.2
  by_cases hc6 : x1 = 2
  · have hw := hw.1 hc6
    refine xt_numi hc6 ?_
    refine lv_tableIn (off := 86) (tgt := 87) hx hb (xb_d D_M_checkFlow 1 rfl) (by decide +kernel) (by decide +kernel) (by decide +kernel) (by decide) ?_
    exact am_M_checkFlow_L87 l hfl D A σ MC MS h0 Qr x0 x1 h hw p e s m args below meth c hC H locs ls k n hE (lv_sub hl [0, 1] rfl) hR hS (by omega) (by omega)
  have hw := hw.2
  by_cases hc7 : x1 = 3
  · have hw := hw.1 hc7
    refine xt_numi hc7 ?_
    refine lv_tableIn (off := 86) (tgt := 87) hx hb (xb_d D_M_checkFlow 1 rfl) (by decide +kernel) (by decide +kernel) (by decide +kernel) (by decide) ?_
    exact am_M_checkFlow_L87 l hfl D A σ MC MS h0 Qr x0 x1 h hw p e s m args below meth c hC H locs ls k n hE (lv_sub hl [0, 1] rfl) hR hS (by omega) (by omega)
  have hw := hw.2
  by_cases hc8 : x1 = 4
  · have hw := hw.1 hc8
    refine xt_numi hc8 ?_
    refine lv_tableIn (off := 86) (tgt := 87) hx hb (xb_d D_M_checkFlow 1 rfl) (by decide +kernel) (by decide +kernel) (by decide +kernel) (by decide) ?_
    exact am_M_checkFlow_L87 l hfl D A σ MC MS h0 Qr x0 x1 h hw p e s m args below meth c hC H locs ls k n hE (lv_sub hl [0, 1] rfl) hR hS (by omega) (by omega)
  have hw := hw.2
  by_cases hc9 : x1 = 5
  · have hw := hw.1 hc9
    refine xt_numi hc9 ?_
    refine lv_tableIn (off := 123) (tgt := 124) hx hb (xb_d D_M_checkFlow 1 rfl) (by decide +kernel) (by decide +kernel) (by decide +kernel) (by decide) ?_
    refine lv_aload_n hx hb (xb_d D_M_checkFlow 26 rfl) rfl (lv_at hl 0 rfl) ?_
    obtain ⟨hk10, hw⟩ := hw
    refine xb_getP (C := R_M) (T := F_M) (N := 97) hx hb 8 26 hts fin_M hown hR hk10 (by decide) rfl (by decide) rfl (hts _ m_b041879a) (fun _ h9 => h9) (xb_d D_M_checkFlow 27 rfl) ?_
    obtain ⟨b11, eb11, hw⟩ := hw
    refine xb_some eb11 ?_
    refine lv_aload_n hx hb (xb_d D_M_checkFlow 28 rfl) rfl (lv_at hl 0 rfl) ?_
    refine xb_getI (C := R_M) (T := F_M) (N := 97) hx hb 8 29 hts fin_M hown hR hk10 (by decide) rfl (by decide) rfl (hts _ m_1024c20b) (fun _ h9 => h9) (xb_d D_M_checkFlow 29 rfl) ?_
    refine lv_iconst (v := 1) hx hb (xb_d D_M_checkFlow 30 rfl) (by decide) ?_
    refine lv_isub hx hb (xb_d D_M_checkFlow 31 rfl) ?_
    obtain ⟨hk13, hw⟩ := hw
    obtain ⟨hi12, hw⟩ := hw
    refine xb_iald hx hb hR hk13 hi12 (xb_d D_M_checkFlow 32 rfl) ?_
    obtain ⟨v14, ev14⟩ : ∃ x : Int32, x = (xb_i h b11 (Int32.toNatClampNeg ((xb_i h x0 29) - 1))) := ⟨_, rfl⟩
    have hw := hw v14 ev14
    refine xt_numi (y := v14) ev14.symm ?_
    refine lv_istore_n hx hb (xb_d D_M_checkFlow 33 rfl) rfl hl (by decide) rfl (fun ls hl => ?_)
    have hl : lv_has ls 7 [(3, .int v14), (0, .ref x0), (1, .int x1)] := hl
    refine lv_aload_n hx hb (xb_d D_M_checkFlow 34 rfl) rfl (lv_at hl 1 rfl) ?_
    refine xb_call (D := D) (A := A) (σ := σ) (h := h) (d := 5) (mc := 0) (ms := 0) (maxL := 1) (rest := []) (av := [.ref x0]) (fun T hT X => by obtain ⟨cb, r1, r2, r3⟩ := xb_recv (ci := 8) hR rfl hk10 (by decide); exact xt_invV X hx hown (hts _ m_0e76dfec) (hts _ m_46f1e6d7) (hts _ m_a78ebb3d) (xt_sigOf (hts _ m_c752359e)) nm_M_closeOne (by rw [hT]; exact r1) r2 r3 (g := F0 m 137 ls [.ref x0]) rfl (argsL := []) (rest := []) rfl rfl (by rw [hb]; exact (xb_d D_M_checkFlow 35 rfl))) (ok_M_closeOne l hfl D A σ x0 h _ hw) (hml.trans hl.1.symm) (by rw [hb]; exact (xb_d D_M_checkFlow 35 rfl)) (Nat.le_of_ble_eq_true rfl) (Nat.le_of_ble_eq_true rfl) (Nat.le_of_ble_eq_true rfl) (show k + 0 ≤ MC by omega) (show n + 0 ≤ MS by omega) (xt_w1 hB.1 m_c752359e) (xt_cdOf hB.1 m_c752359e) (hts _ m_d5ed7bed) hB hR hS hA (fun vv h15 H locs hq hEh15 hR hS => ?_) (fun XX ax h15 H locs hq hEh15 hex hR hS => ?_)
    · obtain ⟨rfl, hw⟩ := hq
      have hw := hw hEh15
      have hE := hE.tr hEh15
      refine W.eq (g2 := F0 m 140 ls []) rfl ?_
      refine lv_aload_n hx hb (xb_d D_M_checkFlow 36 rfl) rfl (lv_at hl 1 rfl) ?_
      refine lv_iconst (v := 5) hx hb (xb_d D_M_checkFlow 37 rfl) (by decide) ?_
      refine lv_iload_n hx hb (xb_d D_M_checkFlow 38 rfl) rfl (lv_at hl 0 rfl) ?_
      refine lv_iload_n hx hb (xb_d D_M_checkFlow 39 rfl) rfl (lv_at hl 0 rfl) ?_
      have hk10 : xb_k h15 x0 = 9 := hEh15.k hk10
      refine xb_call (D := D) (A := A) (σ := σ) (h := h15) (d := 2) (mc := 0) (ms := 0) (maxL := 4) (rest := []) (av := [.ref x0, .int 5, .int v14, .int v14]) (fun T hT X => by obtain ⟨cb, r1, r2, r3⟩ := xb_recv (ci := 8) hR rfl hk10 (by decide); exact xt_invV X hx hown (hts _ m_0edb37db) (hts _ m_fa0a7aa5) (hts _ m_543d90fc) (xt_sigOf (hts _ m_1218889d)) nm_M_begin (by rw [hT]; exact r1) r2 r3 (g := F0 m 144 ls [.int v14, .int v14, .int 5, .ref x0]) rfl (argsL := [.int 5, .int v14, .int v14]) (rest := []) rfl rfl (by rw [hb]; exact (xb_d D_M_checkFlow 40 rfl))) (ok_M_begin l hfl D A σ x0 5 v14 v14 h15 _ hw) (hml.trans hl.1.symm) (by rw [hb]; exact (xb_d D_M_checkFlow 40 rfl)) (Nat.le_of_ble_eq_true rfl) (Nat.le_of_ble_eq_true rfl) (Nat.le_of_ble_eq_true rfl) (show k + 0 ≤ MC by omega) (show n + 0 ≤ MS by omega) (xt_w1 hB.1 m_1218889d) (xt_cdOf hB.1 m_1218889d) (hts _ m_d5ed7bed) hB hR hS hA (fun vv h17 H locs hq hEh17 hR hS => ?_) (fun XX ax h17 H locs hq hEh17 hex hR hS => ?_)
      · obtain ⟨rfl, hw⟩ := hq
        have hw := hw hEh17
        have hE := hE.tr hEh17
        refine W.eq (g2 := F0 m 147 ls []) rfl ?_
        refine lv_goto (tgt := 288) hx hb (xb_d D_M_checkFlow 41 rfl) rfl ?_
        exact am_M_checkFlow_L288 l hfl D A σ MC MS h0 Qr h17 hw p e s m args below meth c hC H locs ls k n hE (lv_sub hl [] rfl) hR hS (by omega) (by omega)
      · exact False.elim hq
    · exact False.elim hq
  have hw := hw.2
  by_cases hc19 : x1 = 6
  · have hw := hw.1 hc19
    refine xt_numi hc19 ?_
    refine lv_tableIn (off := 287) (tgt := 288) hx hb (xb_d D_M_checkFlow 1 rfl) (by decide +kernel) (by decide +kernel) (by decide +kernel) (by decide) ?_
    exact am_M_checkFlow_L288 l hfl D A σ MC MS h0 Qr h hw p e s m args below meth c hC H locs ls k n hE (lv_sub hl [] rfl) hR hS (by omega) (by omega)
  have hw := hw.2
  by_cases hc20 : x1 = 7
  · have hw := hw.1 hc20
    refine xt_numi hc20 ?_
    refine lv_tableIn (off := 287) (tgt := 288) hx hb (xb_d D_M_checkFlow 1 rfl) (by decide +kernel) (by decide +kernel) (by decide +kernel) (by decide) ?_
    exact am_M_checkFlow_L288 l hfl D A σ MC MS h0 Qr h hw p e s m args below meth c hC H locs ls k n hE (lv_sub hl [] rfl) hR hS (by omega) (by omega)
  have hw := hw.2
  by_cases hc21 : x1 = 8
  · have hw := hw.1 hc21
    refine xt_numi hc21 ?_
    refine lv_tableIn (off := 287) (tgt := 288) hx hb (xb_d D_M_checkFlow 1 rfl) (by decide +kernel) (by decide +kernel) (by decide +kernel) (by decide) ?_
    exact am_M_checkFlow_L288 l hfl D A σ MC MS h0 Qr h hw p e s m args below meth c hC H locs ls k n hE (lv_sub hl [] rfl) hR hS (by omega) (by omega)
  have hw := hw.2
  by_cases hc22 : x1 = 9
  · have hw := hw.1 hc22
    refine xt_numi hc22 ?_
    refine lv_tableIn (off := 287) (tgt := 288) hx hb (xb_d D_M_checkFlow 1 rfl) (by decide +kernel) (by decide +kernel) (by decide +kernel) (by decide) ?_
    exact am_M_checkFlow_L288 l hfl D A σ MC MS h0 Qr h hw p e s m args below meth c hC H locs ls k n hE (lv_sub hl [] rfl) hR hS (by omega) (by omega)
  have hw := hw.2
  by_cases hc23 : x1 = 10
  · have hw := hw.1 hc23
    refine xt_numi hc23 ?_
    refine lv_tableIn (off := 287) (tgt := 288) hx hb (xb_d D_M_checkFlow 1 rfl) (by decide +kernel) (by decide +kernel) (by decide +kernel) (by decide) ?_
    exact am_M_checkFlow_L288 l hfl D A σ MC MS h0 Qr h hw p e s m args below meth c hC H locs ls k n hE (lv_sub hl [] rfl) hR hS (by omega) (by omega)
  have hw := hw.2
  by_cases hc24 : x1 = 11
  · have hw := hw.1 hc24
    refine xt_numi hc24 ?_
    refine lv_tableIn (off := 149) (tgt := 150) hx hb (xb_d D_M_checkFlow 1 rfl) (by decide +kernel) (by decide +kernel) (by decide +kernel) (by decide) ?_
    refine lv_aload_n hx hb (xb_d D_M_checkFlow 42 rfl) rfl (lv_at hl 0 rfl) ?_
    obtain ⟨hk25, hw⟩ := hw
    refine xb_getP (C := R_M) (T := F_M) (N := 97) hx hb 8 24 hts fin_M hown hR hk25 (by decide) rfl (by decide) rfl (hts _ m_6889d050) (fun _ h9 => h9) (xb_d D_M_checkFlow 43 rfl) ?_
    obtain ⟨b26, eb26, hw⟩ := hw
    refine xb_some eb26 ?_
    refine lv_aload_n hx hb (xb_d D_M_checkFlow 44 rfl) rfl (lv_at hl 0 rfl) ?_
    refine xb_getI (C := R_M) (T := F_M) (N := 97) hx hb 8 29 hts fin_M hown hR hk25 (by decide) rfl (by decide) rfl (hts _ m_1024c20b) (fun _ h9 => h9) (xb_d D_M_checkFlow 45 rfl) ?_
    refine lv_iconst (v := 1) hx hb (xb_d D_M_checkFlow 46 rfl) (by decide) ?_
    refine lv_isub hx hb (xb_d D_M_checkFlow 47 rfl) ?_
    obtain ⟨hk28, hw⟩ := hw
    obtain ⟨hi27, hw⟩ := hw
    refine xb_iald hx hb hR hk28 hi27 (xb_d D_M_checkFlow 48 rfl) ?_
    obtain ⟨v29, ev29⟩ : ∃ x : Int32, x = (xb_i h b26 (Int32.toNatClampNeg ((xb_i h x0 29) - 1))) := ⟨_, rfl⟩
    have hw := hw v29 ev29
    refine xt_numi (y := v29) ev29.symm ?_
    refine lv_istore hx hb (xb_d D_M_checkFlow 49 rfl) hl (by decide) rfl (fun ls hl => ?_)
    have hl : lv_has ls 7 [(4, .int v29), (0, .ref x0), (1, .int x1)] := hl
    refine lv_aload_n hx hb (xb_d D_M_checkFlow 50 rfl) rfl (lv_at hl 1 rfl) ?_
    refine xb_getP (C := R_M) (T := F_M) (N := 97) hx hb 8 26 hts fin_M hown hR hk25 (by decide) rfl (by decide) rfl (hts _ m_b041879a) (fun _ h9 => h9) (xb_d D_M_checkFlow 51 rfl) ?_
    obtain ⟨b30, eb30, hw⟩ := hw
    refine xb_some eb30 ?_
    refine lv_aload_n hx hb (xb_d D_M_checkFlow 52 rfl) rfl (lv_at hl 1 rfl) ?_
    refine xb_getI (C := R_M) (T := F_M) (N := 97) hx hb 8 29 hts fin_M hown hR hk25 (by decide) rfl (by decide) rfl (hts _ m_1024c20b) (fun _ h9 => h9) (xb_d D_M_checkFlow 53 rfl) ?_
    refine lv_iconst (v := 1) hx hb (xb_d D_M_checkFlow 54 rfl) (by decide) ?_
    refine lv_isub hx hb (xb_d D_M_checkFlow 55 rfl) ?_
    obtain ⟨hk32, hw⟩ := hw
    obtain ⟨hi31, hw⟩ := hw
    refine xb_iald hx hb hR hk32 hi31 (xb_d D_M_checkFlow 56 rfl) ?_
    obtain ⟨v33, ev33⟩ : ∃ x : Int32, x = (xb_i h b30 (Int32.toNatClampNeg ((xb_i h x0 29) - 1))) := ⟨_, rfl⟩
    have hw := hw v33 ev33
    refine xt_numi (y := v33) ev33.symm ?_
    refine lv_istore hx hb (xb_d D_M_checkFlow 57 rfl) hl (by decide) rfl (fun ls hl => ?_)
    have hl : lv_has ls 7 [(5, .int v33), (4, .int v29), (0, .ref x0), (1, .int x1)] := hl
    refine lv_aload_n hx hb (xb_d D_M_checkFlow 58 rfl) rfl (lv_at hl 2 rfl) ?_
    refine xb_call (D := D) (A := A) (σ := σ) (h := h) (d := 5) (mc := 0) (ms := 0) (maxL := 1) (rest := []) (av := [.ref x0]) (fun T hT X => by obtain ⟨cb, r1, r2, r3⟩ := xb_recv (ci := 8) hR rfl hk25 (by decide); exact xt_invV X hx hown (hts _ m_0e76dfec) (hts _ m_46f1e6d7) (hts _ m_a78ebb3d) (xt_sigOf (hts _ m_c752359e)) nm_M_closeOne (by rw [hT]; exact r1) r2 r3 (g := F0 m 177 ls [.ref x0]) rfl (argsL := []) (rest := []) rfl rfl (by rw [hb]; exact (xb_d D_M_checkFlow 59 rfl))) (ok_M_closeOne l hfl D A σ x0 h _ hw) (hml.trans hl.1.symm) (by rw [hb]; exact (xb_d D_M_checkFlow 59 rfl)) (Nat.le_of_ble_eq_true rfl) (Nat.le_of_ble_eq_true rfl) (Nat.le_of_ble_eq_true rfl) (show k + 0 ≤ MC by omega) (show n + 0 ≤ MS by omega) (xt_w1 hB.1 m_c752359e) (xt_cdOf hB.1 m_c752359e) (hts _ m_d5ed7bed) hB hR hS hA (fun vv h34 H locs hq hEh34 hR hS => ?_) (fun XX ax h34 H locs hq hEh34 hex hR hS => ?_)
    · obtain ⟨rfl, hw⟩ := hq
      have hw := hw hEh34
      have hE := hE.tr hEh34
      refine W.eq (g2 := F0 m 180 ls []) rfl ?_
      refine lv_aload_n hx hb (xb_d D_M_checkFlow 60 rfl) rfl (lv_at hl 2 rfl) ?_
      refine lv_iload hx hb (xb_d D_M_checkFlow 61 rfl) (lv_at hl 1 rfl) ?_
      refine lv_iconst (v := 4) hx hb (xb_d D_M_checkFlow 62 rfl) (by decide) ?_
      refine lv_icmp_ne (tgt := 194) hx hb (xb_d D_M_checkFlow 63 rfl) rfl (fun hc36 => ?_) (fun hc36 => ?_)
      · have hw := hw.1 hc36
        exact am_M_checkFlow_L194 l hfl D A σ MC MS h0 Qr x0 v33 x0 h34 hw p e s m args below meth c hC H locs ls k n hE (lv_sub hl [2, 0] rfl) hR hS (by omega) (by omega)
      · have hw := hw.2 hc36
        refine lv_iload hx hb (xb_d D_M_checkFlow 64 rfl) (lv_at hl 0 rfl) ?_
        refine lv_bipush (v := 64) hx hb (xb_d D_M_checkFlow 65 rfl) (by decide) ?_
        refine lv_icmp_ne (tgt := 198) hx hb (xb_d D_M_checkFlow 66 rfl) rfl (fun hc37 => ?_) (fun hc37 => ?_)
        · have hw := hw.1 hc37
          refine lv_iconst (v := 0) hx hb (xb_d D_M_checkFlow 69 rfl) (by decide) ?_
          exact am_M_checkFlow_L199 l hfl D A σ MC MS h0 Qr x0 v33 0 x0 h34 hw p e s m args below meth c hC H locs ls k n hE (lv_sub hl [2, 0] rfl) hR hS (by omega) (by omega)
        · have hw := hw.2 hc37
          exact am_M_checkFlow_L194 l hfl D A σ MC MS h0 Qr x0 v33 x0 h34 hw p e s m args below meth c hC H locs ls k n hE (lv_sub hl [2, 0] rfl) hR hS (by omega) (by omega)
    · exact False.elim hq
  have hw := hw.2
  by_cases hc38 : x1 = 12
  · have hw := hw.1 hc38
    refine xt_numi hc38 ?_
    refine lv_tableIn (off := 212) (tgt := 213) hx hb (xb_d D_M_checkFlow 1 rfl) (by decide +kernel) (by decide +kernel) (by decide +kernel) (by decide) ?_
    refine lv_aload_n hx hb (xb_d D_M_checkFlow 76 rfl) rfl (lv_at hl 0 rfl) ?_
    refine lv_aload_n hx hb (xb_d D_M_checkFlow 77 rfl) rfl (lv_at hl 0 rfl) ?_
    refine lv_aload_n hx hb (xb_d D_M_checkFlow 78 rfl) rfl (lv_at hl 0 rfl) ?_
    obtain ⟨hk39, hw⟩ := hw
    refine xb_call (D := D) (A := A) (σ := σ) (h := h) (d := 4) (mc := 0) (ms := 0) (maxL := 5) (rest := [.ref x0, .ref x0]) (av := [.ref x0]) (fun T hT X => by obtain ⟨cb, r1, r2, r3⟩ := xb_recv (ci := 8) hR rfl hk39 (by decide); exact xt_invV X hx hown (hts _ m_e991293f) (hts _ m_385a74b3) (hts _ m_c9fbcd02) (xt_sigOf (hts _ m_1f53f210)) nm_M_count (by rw [hT]; exact r1) r2 r3 (g := F0 m 216 ls [.ref x0, .ref x0, .ref x0]) rfl (argsL := []) (rest := [.ref x0, .ref x0]) rfl rfl (by rw [hb]; exact (xb_d D_M_checkFlow 79 rfl))) (ok_M_count l hfl D A σ x0 h _ hw) (hml.trans hl.1.symm) (by rw [hb]; exact (xb_d D_M_checkFlow 79 rfl)) (Nat.le_of_ble_eq_true rfl) (Nat.le_of_ble_eq_true rfl) (Nat.le_of_ble_eq_true rfl) (show k + 0 ≤ MC by omega) (show n + 0 ≤ MS by omega) (xt_w1 hB.1 m_1f53f210) (xt_cdOf hB.1 m_1f53f210) (hts _ m_d5ed7bed) hB hR hS hA (fun vv h40 H locs hq hEh40 hR hS => ?_) (fun XX ax h40 H locs hq hEh40 hex hR hS => ?_)
    · obtain ⟨r41, rfl, hw⟩ := hq
      have hw := hw hEh40
      have hE := hE.tr hEh40
      refine W.eq (g2 := F0 m 219 ls [.long r41, .ref x0, .ref x0]) rfl ?_
      have hk39 : xb_k h40 x0 = 9 := hEh40.k hk39
      refine xb_call (D := D) (A := A) (σ := σ) (h := h40) (d := 4) (mc := 0) (ms := 0) (maxL := 3) (rest := [.ref x0]) (av := [.ref x0, .long r41]) (fun T hT X => by obtain ⟨cb, r1, r2, r3⟩ := xb_recv (ci := 8) hR rfl hk39 (by decide); exact xt_invV X hx hown (hts _ m_c6d30415) (hts _ m_54d56332) (hts _ m_47c4a841) (xt_sigOf (hts _ m_088f6d43)) nm_M_label (by rw [hT]; exact r1) r2 r3 (g := F0 m 219 ls [.long r41, .ref x0, .ref x0]) rfl (argsL := [.long r41]) (rest := [.ref x0]) rfl rfl (by rw [hb]; exact (xb_d D_M_checkFlow 80 rfl))) (ok_M_label l hfl D A σ x0 r41 h40 _ hw) (hml.trans hl.1.symm) (by rw [hb]; exact (xb_d D_M_checkFlow 80 rfl)) (Nat.le_of_ble_eq_true rfl) (Nat.le_of_ble_eq_true rfl) (Nat.le_of_ble_eq_true rfl) (show k + 0 ≤ MC by omega) (show n + 0 ≤ MS by omega) (xt_w1 hB.1 m_088f6d43) (xt_cdOf hB.1 m_088f6d43) (hts _ m_d5ed7bed) hB hR hS hA (fun vv h42 H locs hq hEh42 hR hS => ?_) (fun XX ax h42 H locs hq hEh42 hex hR hS => ?_)
      · obtain ⟨r43, rfl, hw⟩ := hq
        have hw := hw hEh42
        have hE := hE.tr hEh42
        refine W.eq (g2 := F0 m 222 ls [.int r43, .ref x0]) rfl ?_
        have hk39 : xb_k h42 x0 = 9 := hEh42.k hk39
        refine xb_call (D := D) (A := A) (σ := σ) (h := h42) (d := 4) (mc := 0) (ms := 0) (maxL := 2) (rest := []) (av := [.ref x0, .int r43]) (fun T hT X => by obtain ⟨cb, r1, r2, r3⟩ := xb_recv (ci := 8) hR rfl hk39 (by decide); exact xt_invV X hx hown (hts _ m_a3ac02d9) (hts _ m_a1be1a1a) (hts _ m_fd259a5b) (xt_sigOf (hts _ m_f2cfd56a)) nm_M_takeResult (by rw [hT]; exact r1) r2 r3 (g := F0 m 222 ls [.int r43, .ref x0]) rfl (argsL := [.int r43]) (rest := []) rfl rfl (by rw [hb]; exact (xb_d D_M_checkFlow 81 rfl))) (ok_M_takeResult l hfl D A σ x0 r43 h42 _ hw) (hml.trans hl.1.symm) (by rw [hb]; exact (xb_d D_M_checkFlow 81 rfl)) (Nat.le_of_ble_eq_true rfl) (Nat.le_of_ble_eq_true rfl) (Nat.le_of_ble_eq_true rfl) (show k + 0 ≤ MC by omega) (show n + 0 ≤ MS by omega) (xt_w1 hB.1 m_f2cfd56a) (xt_cdOf hB.1 m_f2cfd56a) (hts _ m_d5ed7bed) hB hR hS hA (fun vv h44 H locs hq hEh44 hR hS => ?_) (fun XX ax h44 H locs hq hEh44 hex hR hS => ?_)
        · obtain ⟨rfl, hw⟩ := hq
          have hw := hw hEh44
          have hE := hE.tr hEh44
          refine W.eq (g2 := F0 m 225 ls []) rfl ?_
          refine lv_aload_n hx hb (xb_d D_M_checkFlow 82 rfl) rfl (lv_at hl 0 rfl) ?_
          have hk39 : xb_k h44 x0 = 9 := hEh44.k hk39
          refine xb_call (D := D) (A := A) (σ := σ) (h := h44) (d := 2) (mc := 0) (ms := 0) (maxL := 1) (rest := []) (av := [.ref x0]) (fun T hT X => by obtain ⟨cb, r1, r2, r3⟩ := xb_recv (ci := 8) hR rfl hk39 (by decide); exact xt_invV X hx hown (hts _ m_3f9bfaa5) (hts _ m_825f0c22) (hts _ m_e55d52e9) (xt_sigOf (hts _ m_e7fd7be8)) nm_M_dead (by rw [hT]; exact r1) r2 r3 (g := F0 m 226 ls [.ref x0]) rfl (argsL := []) (rest := []) rfl rfl (by rw [hb]; exact (xb_d D_M_checkFlow 83 rfl))) (ok_M_dead l hfl D A σ x0 h44 _ hw) (hml.trans hl.1.symm) (by rw [hb]; exact (xb_d D_M_checkFlow 83 rfl)) (Nat.le_of_ble_eq_true rfl) (Nat.le_of_ble_eq_true rfl) (Nat.le_of_ble_eq_true rfl) (show k + 0 ≤ MC by omega) (show n + 0 ≤ MS by omega) (xt_w1 hB.1 m_e7fd7be8) (xt_cdOf hB.1 m_e7fd7be8) (hts _ m_d5ed7bed) hB hR hS hA (fun vv h46 H locs hq hEh46 hR hS => ?_) (fun XX ax h46 H locs hq hEh46 hex hR hS => ?_)
          · obtain ⟨rfl, hw⟩ := hq
            have hw := hw hEh46
            have hE := hE.tr hEh46
            refine W.eq (g2 := F0 m 229 ls []) rfl ?_
            refine lv_goto (tgt := 288) hx hb (xb_d D_M_checkFlow 84 rfl) rfl ?_
            exact am_M_checkFlow_L288 l hfl D A σ MC MS h0 Qr h46 hw p e s m args below meth c hC H locs ls k n hE (lv_sub hl [] rfl) hR hS (by omega) (by omega)
          · exact False.elim hq
        · exact False.elim hq
      · exact False.elim hq
    · exact False.elim hq
  have hw := hw.2
  by_cases hc48 : x1 = 13
  · have hw := hw.1 hc48
    refine xt_numi hc48 ?_
    refine lv_tableIn (off := 231) (tgt := 232) hx hb (xb_d D_M_checkFlow 1 rfl) (by decide +kernel) (by decide +kernel) (by decide +kernel) (by decide) ?_
    refine lv_aload_n hx hb (xb_d D_M_checkFlow 85 rfl) rfl (lv_at hl 0 rfl) ?_
    refine lv_aload_n hx hb (xb_d D_M_checkFlow 86 rfl) rfl (lv_at hl 0 rfl) ?_
    obtain ⟨hk49, hw⟩ := hw
    refine xb_call (D := D) (A := A) (σ := σ) (h := h) (d := 4) (mc := 0) (ms := 0) (maxL := 5) (rest := [.ref x0]) (av := [.ref x0]) (fun T hT X => by obtain ⟨cb, r1, r2, r3⟩ := xb_recv (ci := 8) hR rfl hk49 (by decide); exact xt_invV X hx hown (hts _ m_e991293f) (hts _ m_385a74b3) (hts _ m_c9fbcd02) (xt_sigOf (hts _ m_1f53f210)) nm_M_count (by rw [hT]; exact r1) r2 r3 (g := F0 m 234 ls [.ref x0, .ref x0]) rfl (argsL := []) (rest := [.ref x0]) rfl rfl (by rw [hb]; exact (xb_d D_M_checkFlow 87 rfl))) (ok_M_count l hfl D A σ x0 h _ hw) (hml.trans hl.1.symm) (by rw [hb]; exact (xb_d D_M_checkFlow 87 rfl)) (Nat.le_of_ble_eq_true rfl) (Nat.le_of_ble_eq_true rfl) (Nat.le_of_ble_eq_true rfl) (show k + 0 ≤ MC by omega) (show n + 0 ≤ MS by omega) (xt_w1 hB.1 m_1f53f210) (xt_cdOf hB.1 m_1f53f210) (hts _ m_d5ed7bed) hB hR hS hA (fun vv h50 H locs hq hEh50 hR hS => ?_) (fun XX ax h50 H locs hq hEh50 hex hR hS => ?_)
    · obtain ⟨r51, rfl, hw⟩ := hq
      have hw := hw hEh50
      have hE := hE.tr hEh50
      refine W.eq (g2 := F0 m 237 ls [.long r51, .ref x0]) rfl ?_
      have hk49 : xb_k h50 x0 = 9 := hEh50.k hk49
      refine xb_call (D := D) (A := A) (σ := σ) (h := h50) (d := 4) (mc := 0) (ms := 0) (maxL := 3) (rest := []) (av := [.ref x0, .long r51]) (fun T hT X => by obtain ⟨cb, r1, r2, r3⟩ := xb_recv (ci := 8) hR rfl hk49 (by decide); exact xt_invV X hx hown (hts _ m_c6d30415) (hts _ m_54d56332) (hts _ m_47c4a841) (xt_sigOf (hts _ m_088f6d43)) nm_M_label (by rw [hT]; exact r1) r2 r3 (g := F0 m 237 ls [.long r51, .ref x0]) rfl (argsL := [.long r51]) (rest := []) rfl rfl (by rw [hb]; exact (xb_d D_M_checkFlow 88 rfl))) (ok_M_label l hfl D A σ x0 r51 h50 _ hw) (hml.trans hl.1.symm) (by rw [hb]; exact (xb_d D_M_checkFlow 88 rfl)) (Nat.le_of_ble_eq_true rfl) (Nat.le_of_ble_eq_true rfl) (Nat.le_of_ble_eq_true rfl) (show k + 0 ≤ MC by omega) (show n + 0 ≤ MS by omega) (xt_w1 hB.1 m_088f6d43) (xt_cdOf hB.1 m_088f6d43) (hts _ m_d5ed7bed) hB hR hS hA (fun vv h52 H locs hq hEh52 hR hS => ?_) (fun XX ax h52 H locs hq hEh52 hex hR hS => ?_)
      · obtain ⟨r53, rfl, hw⟩ := hq
        have hw := hw hEh52
        have hE := hE.tr hEh52
        refine W.eq (g2 := F0 m 240 ls [.int r53]) rfl ?_
        refine lv_istore hx hb (xb_d D_M_checkFlow 89 rfl) hl (by decide) rfl (fun ls hl => ?_)
        have hl : lv_has ls 7 [(6, .int r53), (0, .ref x0), (1, .int x1)] := hl
        refine lv_aload_n hx hb (xb_d D_M_checkFlow 90 rfl) rfl (lv_at hl 1 rfl) ?_
        refine lv_bipush (v := 127) hx hb (xb_d D_M_checkFlow 91 rfl) (by decide) ?_
        have hk49 : xb_k h52 x0 = 9 := hEh52.k hk49
        refine xb_call (D := D) (A := A) (σ := σ) (h := h52) (d := 3) (mc := 0) (ms := 0) (maxL := 3) (rest := []) (av := [.ref x0, .int 127]) (fun T hT X => by obtain ⟨cb, r1, r2, r3⟩ := xb_recv (ci := 8) hR rfl hk49 (by decide); exact xt_invV X hx hown (hts _ m_4290bf91) (hts _ m_641dba55) (hts _ m_286bb193) (xt_sigOf (hts _ m_8ef3c792)) nm_M_take (by rw [hT]; exact r1) r2 r3 (g := F0 m 245 ls [.int 127, .ref x0]) rfl (argsL := [.int 127]) (rest := []) rfl rfl (by rw [hb]; exact (xb_d D_M_checkFlow 92 rfl))) (ok_M_take l hfl D A σ x0 127 h52 _ hw) (hml.trans hl.1.symm) (by rw [hb]; exact (xb_d D_M_checkFlow 92 rfl)) (Nat.le_of_ble_eq_true rfl) (Nat.le_of_ble_eq_true rfl) (Nat.le_of_ble_eq_true rfl) (show k + 0 ≤ MC by omega) (show n + 0 ≤ MS by omega) (xt_w1 hB.1 m_8ef3c792) (xt_cdOf hB.1 m_8ef3c792) (hts _ m_d5ed7bed) hB hR hS hA (fun vv h54 H locs hq hEh54 hR hS => ?_) (fun XX ax h54 H locs hq hEh54 hex hR hS => ?_)
        · obtain ⟨r55, rfl, hw⟩ := hq
          have hw := hw hEh54
          have hE := hE.tr hEh54
          refine W.eq (g2 := F0 m 248 ls [.int r55]) rfl ?_
          refine lv_pop hx hb (xb_d D_M_checkFlow 93 rfl) rfl ?_
          refine lv_aload_n hx hb (xb_d D_M_checkFlow 94 rfl) rfl (lv_at hl 1 rfl) ?_
          refine lv_iload hx hb (xb_d D_M_checkFlow 95 rfl) (lv_at hl 0 rfl) ?_
          have hk49 : xb_k h54 x0 = 9 := hEh54.k hk49
          refine xb_call (D := D) (A := A) (σ := σ) (h := h54) (d := 4) (mc := 0) (ms := 0) (maxL := 2) (rest := []) (av := [.ref x0, .int r53]) (fun T hT X => by obtain ⟨cb, r1, r2, r3⟩ := xb_recv (ci := 8) hR rfl hk49 (by decide); exact xt_invV X hx hown (hts _ m_a3ac02d9) (hts _ m_a1be1a1a) (hts _ m_fd259a5b) (xt_sigOf (hts _ m_f2cfd56a)) nm_M_takeResult (by rw [hT]; exact r1) r2 r3 (g := F0 m 252 ls [.int r53, .ref x0]) rfl (argsL := [.int r53]) (rest := []) rfl rfl (by rw [hb]; exact (xb_d D_M_checkFlow 96 rfl))) (ok_M_takeResult l hfl D A σ x0 r53 h54 _ hw) (hml.trans hl.1.symm) (by rw [hb]; exact (xb_d D_M_checkFlow 96 rfl)) (Nat.le_of_ble_eq_true rfl) (Nat.le_of_ble_eq_true rfl) (Nat.le_of_ble_eq_true rfl) (show k + 0 ≤ MC by omega) (show n + 0 ≤ MS by omega) (xt_w1 hB.1 m_f2cfd56a) (xt_cdOf hB.1 m_f2cfd56a) (hts _ m_d5ed7bed) hB hR hS hA (fun vv h56 H locs hq hEh56 hR hS => ?_) (fun XX ax h56 H locs hq hEh56 hex hR hS => ?_)
          · obtain ⟨rfl, hw⟩ := hq
            have hw := hw hEh56
            have hE := hE.tr hEh56
            refine W.eq (g2 := F0 m 255 ls []) rfl ?_
            refine lv_aload_n hx hb (xb_d D_M_checkFlow 97 rfl) rfl (lv_at hl 1 rfl) ?_
            refine lv_iload hx hb (xb_d D_M_checkFlow 98 rfl) (lv_at hl 0 rfl) ?_
            have hk49 : xb_k h56 x0 = 9 := hEh56.k hk49
            refine xb_call (D := D) (A := A) (σ := σ) (h := h56) (d := 3) (mc := 0) (ms := 0) (maxL := 2) (rest := []) (av := [.ref x0, .int r53]) (fun T hT X => by obtain ⟨cb, r1, r2, r3⟩ := xb_recv (ci := 8) hR rfl hk49 (by decide); exact xt_invV X hx hown (hts _ m_62eb1e15) (hts _ m_3d82cebb) (hts _ m_d25c631d) (xt_sigOf (hts _ m_4191cbea)) nm_M_putResult (by rw [hT]; exact r1) r2 r3 (g := F0 m 258 ls [.int r53, .ref x0]) rfl (argsL := [.int r53]) (rest := []) rfl rfl (by rw [hb]; exact (xb_d D_M_checkFlow 99 rfl))) (ok_M_putResult l hfl D A σ x0 r53 h56 _ hw) (hml.trans hl.1.symm) (by rw [hb]; exact (xb_d D_M_checkFlow 99 rfl)) (Nat.le_of_ble_eq_true rfl) (Nat.le_of_ble_eq_true rfl) (Nat.le_of_ble_eq_true rfl) (show k + 0 ≤ MC by omega) (show n + 0 ≤ MS by omega) (xt_w1 hB.1 m_4191cbea) (xt_cdOf hB.1 m_4191cbea) (hts _ m_d5ed7bed) hB hR hS hA (fun vv h58 H locs hq hEh58 hR hS => ?_) (fun XX ax h58 H locs hq hEh58 hex hR hS => ?_)
            · obtain ⟨rfl, hw⟩ := hq
              have hw := hw hEh58
              have hE := hE.tr hEh58
              refine W.eq (g2 := F0 m 261 ls []) rfl ?_
              refine lv_goto (tgt := 288) hx hb (xb_d D_M_checkFlow 100 rfl) rfl ?_
              exact am_M_checkFlow_L288 l hfl D A σ MC MS h0 Qr h58 hw p e s m args below meth c hC H locs ls k n hE (lv_sub hl [] rfl) hR hS (by omega) (by omega)
            · exact False.elim hq
          · exact False.elim hq
        · exact False.elim hq
      · exact False.elim hq
    · exact False.elim hq
  have hw := hw.2
  by_cases hc60 : x1 = 14
  · have hw := hw.1 hc60
    refine xt_numi hc60 ?_
    refine lv_tableIn (off := 263) (tgt := 264) hx hb (xb_d D_M_checkFlow 1 rfl) (by decide +kernel) (by decide +kernel) (by decide +kernel) (by decide) ?_
    refine lv_aload_n hx hb (xb_d D_M_checkFlow 101 rfl) rfl (lv_at hl 0 rfl) ?_
    obtain ⟨hk61, hw⟩ := hw
    refine xb_call (D := D) (A := A) (σ := σ) (h := h) (d := 5) (mc := 0) (ms := 0) (maxL := 8) (rest := []) (av := [.ref x0]) (fun T hT X => by obtain ⟨cb, r1, r2, r3⟩ := xb_recv (ci := 8) hR rfl hk61 (by decide); exact xt_invV X hx hown (hts _ m_4f8ea9bb) (hts _ m_17b048cc) (hts _ m_534bcd1e) (xt_sigOf (hts _ m_f237215a)) nm_M_checkTable (by rw [hT]; exact r1) r2 r3 (g := F0 m 265 ls [.ref x0]) rfl (argsL := []) (rest := []) rfl rfl (by rw [hb]; exact (xb_d D_M_checkFlow 102 rfl))) (ok_M_checkTable l hfl D A σ x0 h _ hw) (hml.trans hl.1.symm) (by rw [hb]; exact (xb_d D_M_checkFlow 102 rfl)) (Nat.le_of_ble_eq_true rfl) (Nat.le_of_ble_eq_true rfl) (Nat.le_of_ble_eq_true rfl) (show k + 0 ≤ MC by omega) (show n + 0 ≤ MS by omega) (xt_w1 hB.1 m_f237215a) (xt_cdOf hB.1 m_f237215a) (hts _ m_d5ed7bed) hB hR hS hA (fun vv h62 H locs hq hEh62 hR hS => ?_) (fun XX ax h62 H locs hq hEh62 hex hR hS => ?_)
    · obtain ⟨rfl, hw⟩ := hq
      have hw := hw hEh62
      have hE := hE.tr hEh62
      refine W.eq (g2 := F0 m 268 ls []) rfl ?_
      refine lv_goto (tgt := 288) hx hb (xb_d D_M_checkFlow 103 rfl) rfl ?_
      exact am_M_checkFlow_L288 l hfl D A σ MC MS h0 Qr h62 hw p e s m args below meth c hC H locs ls k n hE (lv_sub hl [] rfl) hR hS (by omega) (by omega)
    · exact False.elim hq
  have hw := hw.2
  by_cases hc64 : x1 = 15
  · have hw := hw.1 hc64
    refine xt_numi hc64 ?_
    refine lv_tableIn (off := 270) (tgt := 271) hx hb (xb_d D_M_checkFlow 1 rfl) (by decide +kernel) (by decide +kernel) (by decide +kernel) (by decide) ?_
    refine lv_aload_n hx hb (xb_d D_M_checkFlow 104 rfl) rfl (lv_at hl 0 rfl) ?_
    refine lv_aload_n hx hb (xb_d D_M_checkFlow 105 rfl) rfl (lv_at hl 0 rfl) ?_
    obtain ⟨hk65, hw⟩ := hw
    refine xb_getP (C := R_M) (T := F_M) (N := 97) hx hb 8 25 hts fin_M hown hR hk65 (by decide) rfl (by decide) rfl (hts _ m_9d087e33) (fun _ h9 => h9) (xb_d D_M_checkFlow 106 rfl) ?_
    obtain ⟨b66, eb66, hw⟩ := hw
    refine xb_some eb66 ?_
    refine lv_iconst (v := 0) hx hb (xb_d D_M_checkFlow 107 rfl) (by decide) ?_
    obtain ⟨hk68, hw⟩ := hw
    obtain ⟨hi67, hw⟩ := hw
    refine xb_iald hx hb hR hk68 hi67 (xb_d D_M_checkFlow 108 rfl) ?_
    refine xt_numi (y := (xb_i h b66 0)) (congrArg (xb_i h b66) (by decide : (0 : Int32).toNatClampNeg = 0)) ?_
    refine xb_call (D := D) (A := A) (σ := σ) (h := h) (d := 4) (mc := 0) (ms := 0) (maxL := 2) (rest := []) (av := [.ref x0, .int (xb_i h b66 0)]) (fun T hT X => by obtain ⟨cb, r1, r2, r3⟩ := xb_recv (ci := 8) hR rfl hk65 (by decide); exact xt_invV X hx hown (hts _ m_a3ac02d9) (hts _ m_a1be1a1a) (hts _ m_fd259a5b) (xt_sigOf (hts _ m_f2cfd56a)) nm_M_takeResult (by rw [hT]; exact r1) r2 r3 (g := F0 m 278 ls [.int (xb_i h b66 0), .ref x0]) rfl (argsL := [.int (xb_i h b66 0)]) (rest := []) rfl rfl (by rw [hb]; exact (xb_d D_M_checkFlow 109 rfl))) (ok_M_takeResult l hfl D A σ x0 (xb_i h b66 0) h _ hw) (hml.trans hl.1.symm) (by rw [hb]; exact (xb_d D_M_checkFlow 109 rfl)) (Nat.le_of_ble_eq_true rfl) (Nat.le_of_ble_eq_true rfl) (Nat.le_of_ble_eq_true rfl) (show k + 0 ≤ MC by omega) (show n + 0 ≤ MS by omega) (xt_w1 hB.1 m_f2cfd56a) (xt_cdOf hB.1 m_f2cfd56a) (hts _ m_d5ed7bed) hB hR hS hA (fun vv h69 H locs hq hEh69 hR hS => ?_) (fun XX ax h69 H locs hq hEh69 hex hR hS => ?_)
    · obtain ⟨rfl, hw⟩ := hq
      have hw := hw hEh69
      have hE := hE.tr hEh69
      refine W.eq (g2 := F0 m 281 ls []) rfl ?_
      refine lv_aload_n hx hb (xb_d D_M_checkFlow 110 rfl) rfl (lv_at hl 0 rfl) ?_
      have hk65 : xb_k h69 x0 = 9 := hEh69.k hk65
      refine xb_call (D := D) (A := A) (σ := σ) (h := h69) (d := 2) (mc := 0) (ms := 0) (maxL := 1) (rest := []) (av := [.ref x0]) (fun T hT X => by obtain ⟨cb, r1, r2, r3⟩ := xb_recv (ci := 8) hR rfl hk65 (by decide); exact xt_invV X hx hown (hts _ m_3f9bfaa5) (hts _ m_825f0c22) (hts _ m_e55d52e9) (xt_sigOf (hts _ m_e7fd7be8)) nm_M_dead (by rw [hT]; exact r1) r2 r3 (g := F0 m 282 ls [.ref x0]) rfl (argsL := []) (rest := []) rfl rfl (by rw [hb]; exact (xb_d D_M_checkFlow 111 rfl))) (ok_M_dead l hfl D A σ x0 h69 _ hw) (hml.trans hl.1.symm) (by rw [hb]; exact (xb_d D_M_checkFlow 111 rfl)) (Nat.le_of_ble_eq_true rfl) (Nat.le_of_ble_eq_true rfl) (Nat.le_of_ble_eq_true rfl) (show k + 0 ≤ MC by omega) (show n + 0 ≤ MS by omega) (xt_w1 hB.1 m_e7fd7be8) (xt_cdOf hB.1 m_e7fd7be8) (hts _ m_d5ed7bed) hB hR hS hA (fun vv h71 H locs hq hEh71 hR hS => ?_) (fun XX ax h71 H locs hq hEh71 hex hR hS => ?_)
      · obtain ⟨rfl, hw⟩ := hq
        have hw := hw hEh71
        have hE := hE.tr hEh71
        refine W.eq (g2 := F0 m 285 ls []) rfl ?_
        refine lv_goto (tgt := 288) hx hb (xb_d D_M_checkFlow 112 rfl) rfl ?_
        exact am_M_checkFlow_L288 l hfl D A σ MC MS h0 Qr h71 hw p e s m args below meth c hC H locs ls k n hE (lv_sub hl [] rfl) hR hS (by omega) (by omega)
      · exact False.elim hq
    · exact False.elim hq
  have hw := hw.2
  have hw := hw hc1 hc5 hc6 hc7 hc8 hc9 hc19 hc20 hc21 hc22 hc23 hc24 hc38 hc48 hc60 hc64
  refine lv_tableOut (tgt := 288) hx hb (xb_d D_M_checkFlow 1 rfl) (by have a0 := xb_nl (0) 0 (by decide) hc1; have a1 := xb_nl (1) 1 (by decide) hc5; have a2 := xb_nl (2) 2 (by decide) hc6; have a3 := xb_nl (3) 3 (by decide) hc7; have a4 := xb_nl (4) 4 (by decide) hc8; have a5 := xb_nl (5) 5 (by decide) hc9; have a6 := xb_nl (6) 6 (by decide) hc19; have a7 := xb_nl (7) 7 (by decide) hc20; have a8 := xb_nl (8) 8 (by decide) hc21; have a9 := xb_nl (9) 9 (by decide) hc22; have a10 := xb_nl (10) 10 (by decide) hc23; have a11 := xb_nl (11) 11 (by decide) hc24; have a12 := xb_nl (12) 12 (by decide) hc38; have a13 := xb_nl (13) 13 (by decide) hc48; have a14 := xb_nl (14) 14 (by decide) hc60; have a15 := xb_nl (15) 15 (by decide) hc64; omega) (by decide) ?_
  exact am_M_checkFlow_L288 l hfl D A σ MC MS h0 Qr h hw p e s m args below meth c hC H locs ls k n hE (lv_sub hl [] rfl) hR hS (by omega) (by omega)

set_option maxRecDepth 100000 in
def T_M_exportKind : List (Nat × Instr × Nat) := [(0, .aload_n 0, 1), (1, .iload_n 1, 1), (2, .aload_n 0, 1), (3, .iload_n 1, 1), (4, .bipush 7, 2), (6, .iload_n 2, 1), (7, .invokevirtual 320, 3), (10, .invokevirtual 324, 3), (13, .aload_n 0, 1), (14, .invokevirtual 293, 3), (17, .aload_n 0, 1), (18, .invokevirtual 212, 3), (21, .ireturn, 1)]
theorem D_M_exportKind : ∀ q ∈ T_M_exportKind, decode b_M_exportKind q.1 = .ok (q.2.1, q.2.2) := by decide +kernel
def w_M_exportKind (x0 : Nat) (x1 : Int32) (x2 : Int32) (h : xb_H) (Qr : Int32 → xb_H → Prop) : Prop :=
    xb_k h x0 = 9 ∧ w_M_placeOf x0 x1 7 x2 h (fun (r3 : Int32) (h2 : xb_H) => xb_ext h h2 → w_M_go x0 x1 r3 h2 (fun (h4 : xb_H) => xb_ext h2 h4 → w_M_name0 x0 h4 (fun (h6 : xb_H) => xb_ext h4 h6 → w_M_next x0 h6 (fun (r9 : Int32) (h8 : xb_H) => xb_ext h6 h8 → Qr r9 h8))))

set_option maxHeartbeats 4000000 in
set_option maxRecDepth 100000 in
theorem ok_M_exportKind (l : Launch) (hfl : l.flags = pinnedFlags ++ [noTraceFlag]) (D : va_G) (A : Nat → Prop) (σ : Nat) (x0 : Nat) (x1 : Int32) (x2 : Int32) (h : xb_H) (Qr : Int32 → xb_H → Prop) (hw : w_M_exportKind x0 x1 x2 h Qr) : xt_Met l y_M_exportKind [.code y_M_exportKind b_M_exportKind 3 (some .int)] (xb_rm 6 0 0) (xb_Pc D A σ h [.ref x0, .int x1, .int x2]) (xb_Qc D A h (fun v h => ∃ r, v = some (.int r) ∧ Qr r h) (fun _ _ => False)) 0 0 A := by
  refine xb_ofAm (cc := b_M_exportKind) (by decide) (Nat.le_of_ble_eq_true rfl) ?_
  unfold w_M_exportKind at hw
  show xb_am l D A σ 6 0 0 h (fun v h => ∃ r, v = some (.int r) ∧ Qr r h) (fun _ _ => False) y_M_exportKind.cls y_M_exportKind.name b_M_exportKind 3 ([] : List ExceptionTableEntry) (some .int) 0 [(0, .ref x0), (1, .int x1), (2, .int x2)] [] h 0 0
  obtain ⟨MC, hMC⟩ : ∃ x, x = 0 := ⟨_, rfl⟩
  obtain ⟨MS, hMS⟩ : ∃ x, x = 0 := ⟨_, rfl⟩
  rw [show xb_am l D A σ 6 0 0 = xb_am l D A σ 6 MC MS by rw [hMC, hMS]]
  obtain ⟨h0, hh0⟩ : ∃ x, x = h := ⟨_, rfl⟩
  rw [show xb_am l D A σ 6 MC MS h = xb_am l D A σ 6 MC MS h0 by rw [hh0]]
  intro p e s m args below meth c hC H locs ls k n hE hl hR hS hk hn
  obtain ⟨hx, hb, hown, hlocks, htab, hml, hr, hB, hA, hnm⟩ := id hC
  have hts := hB.1.1.at args
  refine lv_aload_n hx hb (xb_d D_M_exportKind 0 rfl) rfl (lv_at hl 0 rfl) ?_
  refine lv_iload_n hx hb (xb_d D_M_exportKind 1 rfl) rfl (lv_at hl 1 rfl) ?_
  refine lv_aload_n hx hb (xb_d D_M_exportKind 2 rfl) rfl (lv_at hl 0 rfl) ?_
  refine lv_iload_n hx hb (xb_d D_M_exportKind 3 rfl) rfl (lv_at hl 1 rfl) ?_
  refine lv_bipush (v := 7) hx hb (xb_d D_M_exportKind 4 rfl) (by decide) ?_
  refine lv_iload_n hx hb (xb_d D_M_exportKind 5 rfl) rfl (lv_at hl 2 rfl) ?_
  obtain ⟨hk1, hw⟩ := hw
  refine xb_call (D := D) (A := A) (σ := σ) (h := h) (d := 2) (mc := 0) (ms := 0) (maxL := 4) (rest := [.int x1, .ref x0]) (av := [.ref x0, .int x1, .int 7, .int x2]) (fun T hT X => by obtain ⟨cb, r1, r2, r3⟩ := xb_recv (ci := 8) hR rfl hk1 (by decide); exact xt_invV X hx hown (hts _ m_7f41753e) (hts _ m_8cdd7108) (hts _ m_e228318f) (xt_sigOf (hts _ m_89667ad5)) nm_M_placeOf (by rw [hT]; exact r1) r2 r3 (g := F0 m 7 ls [.int x2, .int 7, .int x1, .ref x0, .int x1, .ref x0]) rfl (argsL := [.int x1, .int 7, .int x2]) (rest := [.int x1, .ref x0]) rfl rfl (by rw [hb]; exact (xb_d D_M_exportKind 6 rfl))) (ok_M_placeOf l hfl D A σ x0 x1 7 x2 h _ hw) (hml.trans hl.1.symm) (by rw [hb]; exact (xb_d D_M_exportKind 6 rfl)) (Nat.le_of_ble_eq_true rfl) (Nat.le_of_ble_eq_true rfl) (Nat.le_of_ble_eq_true rfl) (show k + 0 ≤ MC by omega) (show n + 0 ≤ MS by omega) (xt_w1 hB.1 m_89667ad5) (xt_cdOf hB.1 m_89667ad5) (hts _ m_d5ed7bed) hB hR hS hA (fun vv h2 H locs hq hEh2 hR hS => ?_) (fun XX ax h2 H locs hq hEh2 hex hR hS => ?_)
  · obtain ⟨r3, rfl, hw⟩ := hq
    have hw := hw hEh2
    have hE := hE.tr hEh2
    refine W.eq (g2 := F0 m 10 ls [.int r3, .int x1, .ref x0]) rfl ?_
    have hk1 : xb_k h2 x0 = 9 := hEh2.k hk1
    refine xb_call (D := D) (A := A) (σ := σ) (h := h2) (d := 2) (mc := 0) (ms := 0) (maxL := 3) (rest := []) (av := [.ref x0, .int x1, .int r3]) (fun T hT X => by obtain ⟨cb, r1, r2, r3⟩ := xb_recv (ci := 8) hR rfl hk1 (by decide); exact xt_invV X hx hown (hts _ m_bb531879) (hts _ m_4a6cd4a0) (hts _ m_d1c31e3c) (xt_sigOf (hts _ m_48217fba)) nm_M_go (by rw [hT]; exact r1) r2 r3 (g := F0 m 10 ls [.int r3, .int x1, .ref x0]) rfl (argsL := [.int x1, .int r3]) (rest := []) rfl rfl (by rw [hb]; exact (xb_d D_M_exportKind 7 rfl))) (ok_M_go l hfl D A σ x0 x1 r3 h2 _ hw) (hml.trans hl.1.symm) (by rw [hb]; exact (xb_d D_M_exportKind 7 rfl)) (Nat.le_of_ble_eq_true rfl) (Nat.le_of_ble_eq_true rfl) (Nat.le_of_ble_eq_true rfl) (show k + 0 ≤ MC by omega) (show n + 0 ≤ MS by omega) (xt_w1 hB.1 m_48217fba) (xt_cdOf hB.1 m_48217fba) (hts _ m_d5ed7bed) hB hR hS hA (fun vv h4 H locs hq hEh4 hR hS => ?_) (fun XX ax h4 H locs hq hEh4 hex hR hS => ?_)
    · obtain ⟨rfl, hw⟩ := hq
      have hw := hw hEh4
      have hE := hE.tr hEh4
      refine W.eq (g2 := F0 m 13 ls []) rfl ?_
      refine lv_aload_n hx hb (xb_d D_M_exportKind 8 rfl) rfl (lv_at hl 0 rfl) ?_
      have hk1 : xb_k h4 x0 = 9 := hEh4.k hk1
      refine xb_call (D := D) (A := A) (σ := σ) (h := h4) (d := 5) (mc := 0) (ms := 0) (maxL := 5) (rest := []) (av := [.ref x0]) (fun T hT X => by obtain ⟨cb, r1, r2, r3⟩ := xb_recv (ci := 8) hR rfl hk1 (by decide); exact xt_invV X hx hown (hts _ m_32411888) (hts _ m_1909bcad) (hts _ m_471efb70) (xt_sigOf (hts _ m_06b9cb5d)) nm_M_name0 (by rw [hT]; exact r1) r2 r3 (g := F0 m 14 ls [.ref x0]) rfl (argsL := []) (rest := []) rfl rfl (by rw [hb]; exact (xb_d D_M_exportKind 9 rfl))) (ok_M_name0 l hfl D A σ x0 h4 _ hw) (hml.trans hl.1.symm) (by rw [hb]; exact (xb_d D_M_exportKind 9 rfl)) (Nat.le_of_ble_eq_true rfl) (Nat.le_of_ble_eq_true rfl) (Nat.le_of_ble_eq_true rfl) (show k + 0 ≤ MC by omega) (show n + 0 ≤ MS by omega) (xt_w1 hB.1 m_06b9cb5d) (xt_cdOf hB.1 m_06b9cb5d) (hts _ m_d5ed7bed) hB hR hS hA (fun vv h6 H locs hq hEh6 hR hS => ?_) (fun XX ax h6 H locs hq hEh6 hex hR hS => ?_)
      · obtain ⟨rfl, hw⟩ := hq
        have hw := hw hEh6
        have hE := hE.tr hEh6
        refine W.eq (g2 := F0 m 17 ls []) rfl ?_
        refine lv_aload_n hx hb (xb_d D_M_exportKind 10 rfl) rfl (lv_at hl 0 rfl) ?_
        have hk1 : xb_k h6 x0 = 9 := hEh6.k hk1
        refine xb_call (D := D) (A := A) (σ := σ) (h := h6) (d := 3) (mc := 0) (ms := 0) (maxL := 2) (rest := []) (av := [.ref x0]) (fun T hT X => by obtain ⟨cb, r1, r2, r3⟩ := xb_recv (ci := 8) hR rfl hk1 (by decide); exact xt_invV X hx hown (hts _ m_0e978570) (hts _ m_40099f98) (hts _ m_a7dbfd07) (xt_sigOf (hts _ m_0af1ec6a)) nm_M_next (by rw [hT]; exact r1) r2 r3 (g := F0 m 18 ls [.ref x0]) rfl (argsL := []) (rest := []) rfl rfl (by rw [hb]; exact (xb_d D_M_exportKind 11 rfl))) (ok_M_next l hfl D A σ x0 h6 _ hw) (hml.trans hl.1.symm) (by rw [hb]; exact (xb_d D_M_exportKind 11 rfl)) (Nat.le_of_ble_eq_true rfl) (Nat.le_of_ble_eq_true rfl) (Nat.le_of_ble_eq_true rfl) (show k + 0 ≤ MC by omega) (show n + 0 ≤ MS by omega) (xt_w1 hB.1 m_0af1ec6a) (xt_cdOf hB.1 m_0af1ec6a) (hts _ m_d5ed7bed) hB hR hS hA (fun vv h8 H locs hq hEh8 hR hS => ?_) (fun XX ax h8 H locs hq hEh8 hex hR hS => ?_)
        · obtain ⟨r9, rfl, hw⟩ := hq
          have hw := hw hEh8
          have hE := hE.tr hEh8
          refine W.eq (g2 := F0 m 21 ls [.int r9]) rfl ?_
          exact xb_iret hx hb hr hlocks (show k ≤ MC by omega) (show n ≤ MS by omega) hE hR hS (xb_d D_M_exportKind 12 rfl) hw
        · exact False.elim hq
      · exact False.elim hq
    · exact False.elim hq
  · exact False.elim hq

theorem m_e4ead298 : (.methodLink "StackHostModel" 482 y_M_isNamed : Cond) ∈ xt_tbl := xt_in (xt_t12 (List.mem_of_getElem? (i := 50) (by decide +kernel))) (by decide +kernel)
theorem m_cc2816ed : (.instanceMethod y_M_isNamed : Cond) ∈ xt_tbl := xt_in (xt_t12 (List.mem_of_getElem? (i := 52) (by decide +kernel))) (by decide +kernel)
theorem m_2133ace4 : (.selects "StackHostModel" y_M_isNamed y_M_isNamed : Cond) ∈ xt_tbl := xt_in (xt_v13 (q := (⟨"StackHostModel", "isNamed", "(IIII)Z"⟩, 97)) (List.mem_of_getElem? (i := 5) (by decide +kernel))) (by decide +kernel)
theorem m_af24a865 : (.code y_M_isNamed b_M_isNamed 7 (some .boolean) : Cond) ∈ xt_tbl := xt_in (xt_t12 (List.mem_of_getElem? (i := 53) (by decide +kernel))) (by decide +kernel)
theorem nm_M_isNamed : xt_nm y_M_isNamed 4 := ⟨by decide +kernel, by decide +kernel⟩
set_option maxRecDepth 100000 in
def T_M_exportNamed : List (Nat × Instr × Nat) := [(0, .aload_n 0, 1), (1, .getfield 62, 3), (4, .iload_n 1, 1), (5, .iaload, 1), (6, .istore 4, 2), (8, .iconst 0, 1), (9, .istore 5, 2), (11, .iload 5, 2), (13, .aload_n 0, 1), (14, .iload 4, 2), (16, .bipush 7, 2), (18, .invokevirtual 316, 3), (21, .if_icmp .ge 33, 3), (24, .aload_n 0, 1), (25, .iload 4, 2), (27, .aload_n 0, 1), (28, .iload 4, 2), (30, .bipush 7, 2), (32, .iload 5, 2), (34, .invokevirtual 320, 3), (37, .iload_n 2, 1), (38, .iload_n 3, 1), (39, .invokevirtual 482, 3), (42, .ifCond .eq 6, 3), (45, .iload 5, 2), (47, .ireturn, 1), (48, .iinc 5 1, 3), (51, .goto (-40), 3), (54, .iconst (-1), 1), (55, .ireturn, 1)]
theorem D_M_exportNamed : ∀ q ∈ T_M_exportNamed, decode b_M_exportNamed q.1 = .ok (q.2.1, q.2.2) := by decide +kernel
def w_M_exportNamed_L11 (Qr : Int32 → xb_H → Prop) : Nat → Nat → Int32 → Int32 → Int32 → Int32 → xb_H → Prop
  | 0, _, _, _, _, _, _ => False
  | n9 + 1, x0, x2, x3, x4, x5, h =>
    xb_k h x0 = 9 ∧ w_M_manyOf x0 x4 7 h (fun (r3 : Int32) (h2 : xb_H) => xb_ext h h2 → ((r3 ≤ x5 → Qr (-1) h2) ∧ (¬ r3 ≤ x5 → w_M_placeOf x0 x4 7 x5 h2 (fun (r6 : Int32) (h5 : xb_H) => xb_ext h2 h5 → w_M_isNamed x0 x4 r6 x2 x3 h5 (fun (r8 : Int32) (h7 : xb_H) => xb_ext h5 h7 → ((r8 = (0 : Int32) → w_M_exportNamed_L11 Qr n9 x0 x2 x3 x4 (x5 + 1) h7) ∧ (¬ r8 = (0 : Int32) → Qr x5 h7)))))))

def w_M_exportNamed (x0 : Nat) (x1 : Int32) (x2 : Int32) (x3 : Int32) (h : xb_H) (Qr : Int32 → xb_H → Prop) : Prop :=
    xb_k h x0 = 9 ∧ ∃ b2 : Nat, (xb_r h x0 31) = some b2 ∧ xb_k h b2 = 102 ∧ vp_in x1 (xb_n h b2) ∧ ∀ v5 : Int32, v5 = (xb_i h b2 (Int32.toNatClampNeg x1)) → (∃ n8 : Nat, w_M_exportNamed_L11 Qr n8 x0 x2 x3 v5 0 h)

set_option maxHeartbeats 4000000 in
set_option maxRecDepth 100000 in
theorem am_M_exportNamed_L11 (l : Launch) (hfl : l.flags = pinnedFlags ++ [noTraceFlag]) (D : va_G) (A : Nat → Prop) (σ MC MS : Nat) (h0 : xb_H) (Qr : Int32 → xb_H → Prop) (n9 : Nat) : ∀ (x0 : Nat) (x2 : Int32) (x3 : Int32) (x4 : Int32) (x5 : Int32) (h : xb_H), w_M_exportNamed_L11 Qr n9 x0 x2 x3 x4 x5 h → xb_am l D A σ 6 MC MS h0 (fun v h => ∃ r, v = some (.int r) ∧ Qr r h) (fun _ _ => False) y_M_exportNamed.cls y_M_exportNamed.name b_M_exportNamed 6 ([] : List ExceptionTableEntry) (some .int) 11 [(0, .ref x0), (2, .int x2), (3, .int x3), (4, .int x4), (5, .int x5)] [] h 0 0 := by
  induction n9 with
  | zero => intro x0 x2 x3 x4 x5 h hw; exact False.elim hw
  | succ n9 ih =>
    intro x0 x2 x3 x4 x5 h hw
    unfold w_M_exportNamed_L11 at hw
    intro p e s m args below meth c hC H locs ls k n hE hl hR hS hk hn
    obtain ⟨hx, hb, hown, hlocks, htab, hml, hr, hB, hA, hnm⟩ := id hC
    have hts := hB.1.1.at args
    refine lv_iload hx hb (xb_d D_M_exportNamed 7 rfl) (lv_at hl 4 rfl) ?_
    refine lv_aload_n hx hb (xb_d D_M_exportNamed 8 rfl) rfl (lv_at hl 0 rfl) ?_
    refine lv_iload hx hb (xb_d D_M_exportNamed 9 rfl) (lv_at hl 3 rfl) ?_
    refine lv_bipush (v := 7) hx hb (xb_d D_M_exportNamed 10 rfl) (by decide) ?_
    obtain ⟨hk1, hw⟩ := hw
    refine xb_call (D := D) (A := A) (σ := σ) (h := h) (d := 2) (mc := 0) (ms := 0) (maxL := 3) (rest := [.int x5]) (av := [.ref x0, .int x4, .int 7]) (fun T hT X => by obtain ⟨cb, r1, r2, r3⟩ := xb_recv (ci := 8) hR rfl hk1 (by decide); exact xt_invV X hx hown (hts _ m_b47f62c2) (hts _ m_9f071faf) (hts _ m_e1bb5c84) (xt_sigOf (hts _ m_3a6212d6)) nm_M_manyOf (by rw [hT]; exact r1) r2 r3 (g := F0 m 18 ls [.int 7, .int x4, .ref x0, .int x5]) rfl (argsL := [.int x4, .int 7]) (rest := [.int x5]) rfl rfl (by rw [hb]; exact (xb_d D_M_exportNamed 11 rfl))) (ok_M_manyOf l hfl D A σ x0 x4 7 h _ hw) (hml.trans hl.1.symm) (by rw [hb]; exact (xb_d D_M_exportNamed 11 rfl)) (Nat.le_of_ble_eq_true rfl) (Nat.le_of_ble_eq_true rfl) (Nat.le_of_ble_eq_true rfl) (show k + 0 ≤ MC by omega) (show n + 0 ≤ MS by omega) (xt_w1 hB.1 m_3a6212d6) (xt_cdOf hB.1 m_3a6212d6) (hts _ m_d5ed7bed) hB hR hS hA (fun vv h2 H locs hq hEh2 hR hS => ?_) (fun XX ax h2 H locs hq hEh2 hex hR hS => ?_)
    · obtain ⟨r3, rfl, hw⟩ := hq
      have hw := hw hEh2
      have hE := hE.tr hEh2
      refine W.eq (g2 := F0 m 21 ls [.int r3, .int x5]) rfl ?_
      refine lv_icmp_ge (tgt := 54) hx hb (xb_d D_M_exportNamed 12 rfl) rfl (fun hc4 => ?_) (fun hc4 => ?_)
      · have hw := hw.1 hc4
        refine lv_iconst (v := (-1)) hx hb (xb_d D_M_exportNamed 28 rfl) (by decide) ?_
        exact xb_iret hx hb hr hlocks (show k ≤ MC by omega) (show n ≤ MS by omega) hE hR hS (xb_d D_M_exportNamed 29 rfl) hw
      · have hw := hw.2 hc4
        refine lv_aload_n hx hb (xb_d D_M_exportNamed 13 rfl) rfl (lv_at hl 0 rfl) ?_
        refine lv_iload hx hb (xb_d D_M_exportNamed 14 rfl) (lv_at hl 3 rfl) ?_
        refine lv_aload_n hx hb (xb_d D_M_exportNamed 15 rfl) rfl (lv_at hl 0 rfl) ?_
        refine lv_iload hx hb (xb_d D_M_exportNamed 16 rfl) (lv_at hl 3 rfl) ?_
        refine lv_bipush (v := 7) hx hb (xb_d D_M_exportNamed 17 rfl) (by decide) ?_
        refine lv_iload hx hb (xb_d D_M_exportNamed 18 rfl) (lv_at hl 4 rfl) ?_
        have hk1 : xb_k h2 x0 = 9 := hEh2.k hk1
        refine xb_call (D := D) (A := A) (σ := σ) (h := h2) (d := 2) (mc := 0) (ms := 0) (maxL := 4) (rest := [.int x4, .ref x0]) (av := [.ref x0, .int x4, .int 7, .int x5]) (fun T hT X => by obtain ⟨cb, r1, r2, r3⟩ := xb_recv (ci := 8) hR rfl hk1 (by decide); exact xt_invV X hx hown (hts _ m_7f41753e) (hts _ m_8cdd7108) (hts _ m_e228318f) (xt_sigOf (hts _ m_89667ad5)) nm_M_placeOf (by rw [hT]; exact r1) r2 r3 (g := F0 m 34 ls [.int x5, .int 7, .int x4, .ref x0, .int x4, .ref x0]) rfl (argsL := [.int x4, .int 7, .int x5]) (rest := [.int x4, .ref x0]) rfl rfl (by rw [hb]; exact (xb_d D_M_exportNamed 19 rfl))) (ok_M_placeOf l hfl D A σ x0 x4 7 x5 h2 _ hw) (hml.trans hl.1.symm) (by rw [hb]; exact (xb_d D_M_exportNamed 19 rfl)) (Nat.le_of_ble_eq_true rfl) (Nat.le_of_ble_eq_true rfl) (Nat.le_of_ble_eq_true rfl) (show k + 0 ≤ MC by omega) (show n + 0 ≤ MS by omega) (xt_w1 hB.1 m_89667ad5) (xt_cdOf hB.1 m_89667ad5) (hts _ m_d5ed7bed) hB hR hS hA (fun vv h5 H locs hq hEh5 hR hS => ?_) (fun XX ax h5 H locs hq hEh5 hex hR hS => ?_)
        · obtain ⟨r6, rfl, hw⟩ := hq
          have hw := hw hEh5
          have hE := hE.tr hEh5
          refine W.eq (g2 := F0 m 37 ls [.int r6, .int x4, .ref x0]) rfl ?_
          refine lv_iload_n hx hb (xb_d D_M_exportNamed 20 rfl) rfl (lv_at hl 1 rfl) ?_
          refine lv_iload_n hx hb (xb_d D_M_exportNamed 21 rfl) rfl (lv_at hl 2 rfl) ?_
          have hk1 : xb_k h5 x0 = 9 := hEh5.k hk1
          refine xb_call (D := D) (A := A) (σ := σ) (h := h5) (d := 5) (mc := 0) (ms := 0) (maxL := 7) (rest := []) (av := [.ref x0, .int x4, .int r6, .int x2, .int x3]) (fun T hT X => by obtain ⟨cb, r1, r2, r3⟩ := xb_recv (ci := 8) hR rfl hk1 (by decide); exact xt_invV X hx hown (hts _ m_e4ead298) (hts _ m_cc2816ed) (hts _ m_2133ace4) (xt_sigOf (hts _ m_af24a865)) nm_M_isNamed (by rw [hT]; exact r1) r2 r3 (g := F0 m 39 ls [.int x3, .int x2, .int r6, .int x4, .ref x0]) rfl (argsL := [.int x4, .int r6, .int x2, .int x3]) (rest := []) rfl rfl (by rw [hb]; exact (xb_d D_M_exportNamed 22 rfl))) (ok_M_isNamed l hfl D A σ x0 x4 r6 x2 x3 h5 _ hw) (hml.trans hl.1.symm) (by rw [hb]; exact (xb_d D_M_exportNamed 22 rfl)) (Nat.le_of_ble_eq_true rfl) (Nat.le_of_ble_eq_true rfl) (Nat.le_of_ble_eq_true rfl) (show k + 0 ≤ MC by omega) (show n + 0 ≤ MS by omega) (xt_w1 hB.1 m_af24a865) (xt_cdOf hB.1 m_af24a865) (hts _ m_d5ed7bed) hB hR hS hA (fun vv h7 H locs hq hEh7 hR hS => ?_) (fun XX ax h7 H locs hq hEh7 hex hR hS => ?_)
          · obtain ⟨r8, rfl, hw⟩ := hq
            have hw := hw hEh7
            have hE := hE.tr hEh7
            refine W.eq (g2 := F0 m 42 ls [.int r8]) rfl ?_
            refine lv_if_eq (tgt := 48) hx hb (xb_d D_M_exportNamed 23 rfl) rfl (fun hc9 => ?_) (fun hc9 => ?_)
            · have hw := hw.1 hc9
              refine lv_iinc (v := (x5 + 1)) (k := 4) hx hb (xb_d D_M_exportNamed 26 rfl) hl rfl (by first | rfl | decide) (by decide) rfl (fun ls hl => ?_)
              have hl : lv_has ls 6 [(5, .int (x5 + 1)), (0, .ref x0), (2, .int x2), (3, .int x3), (4, .int x4)] := hl
              refine lv_goto (tgt := 11) hx hb (xb_d D_M_exportNamed 27 rfl) rfl ?_
              exact ih x0 x2 x3 x4 (x5 + 1) h7 hw p e s m args below meth c hC H locs ls k n hE (lv_sub hl [1, 2, 3, 4, 0] rfl) hR hS (by omega) (by omega)
            · have hw := hw.2 hc9
              refine lv_iload hx hb (xb_d D_M_exportNamed 24 rfl) (lv_at hl 4 rfl) ?_
              exact xb_iret hx hb hr hlocks (show k ≤ MC by omega) (show n ≤ MS by omega) hE hR hS (xb_d D_M_exportNamed 25 rfl) hw
          · exact False.elim hq
        · exact False.elim hq
    · exact False.elim hq

set_option maxHeartbeats 4000000 in
set_option maxRecDepth 100000 in
theorem ok_M_exportNamed (l : Launch) (hfl : l.flags = pinnedFlags ++ [noTraceFlag]) (D : va_G) (A : Nat → Prop) (σ : Nat) (x0 : Nat) (x1 : Int32) (x2 : Int32) (x3 : Int32) (h : xb_H) (Qr : Int32 → xb_H → Prop) (hw : w_M_exportNamed x0 x1 x2 x3 h Qr) : xt_Met l y_M_exportNamed [.code y_M_exportNamed b_M_exportNamed 6 (some .int)] (xb_rm 6 0 0) (xb_Pc D A σ h [.ref x0, .int x1, .int x2, .int x3]) (xb_Qc D A h (fun v h => ∃ r, v = some (.int r) ∧ Qr r h) (fun _ _ => False)) 0 0 A := by
  refine xb_ofAm (cc := b_M_exportNamed) (by decide) (Nat.le_of_ble_eq_true rfl) ?_
  unfold w_M_exportNamed at hw
  show xb_am l D A σ 6 0 0 h (fun v h => ∃ r, v = some (.int r) ∧ Qr r h) (fun _ _ => False) y_M_exportNamed.cls y_M_exportNamed.name b_M_exportNamed 6 ([] : List ExceptionTableEntry) (some .int) 0 [(0, .ref x0), (1, .int x1), (2, .int x2), (3, .int x3)] [] h 0 0
  obtain ⟨MC, hMC⟩ : ∃ x, x = 0 := ⟨_, rfl⟩
  obtain ⟨MS, hMS⟩ : ∃ x, x = 0 := ⟨_, rfl⟩
  rw [show xb_am l D A σ 6 0 0 = xb_am l D A σ 6 MC MS by rw [hMC, hMS]]
  obtain ⟨h0, hh0⟩ : ∃ x, x = h := ⟨_, rfl⟩
  rw [show xb_am l D A σ 6 MC MS h = xb_am l D A σ 6 MC MS h0 by rw [hh0]]
  intro p e s m args below meth c hC H locs ls k n hE hl hR hS hk hn
  obtain ⟨hx, hb, hown, hlocks, htab, hml, hr, hB, hA, hnm⟩ := id hC
  have hts := hB.1.1.at args
  refine lv_aload_n hx hb (xb_d D_M_exportNamed 0 rfl) rfl (lv_at hl 0 rfl) ?_
  obtain ⟨hk1, hw⟩ := hw
  refine xb_getP (C := R_M) (T := F_M) (N := 97) hx hb 8 31 hts fin_M hown hR hk1 (by decide) rfl (by decide) rfl (hts _ m_691d5f47) (fun _ h9 => h9) (xb_d D_M_exportNamed 1 rfl) ?_
  obtain ⟨b2, eb2, hw⟩ := hw
  refine xb_some eb2 ?_
  refine lv_iload_n hx hb (xb_d D_M_exportNamed 2 rfl) rfl (lv_at hl 1 rfl) ?_
  obtain ⟨hk4, hw⟩ := hw
  obtain ⟨hi3, hw⟩ := hw
  refine xb_iald hx hb hR hk4 hi3 (xb_d D_M_exportNamed 3 rfl) ?_
  obtain ⟨v5, ev5⟩ : ∃ x : Int32, x = (xb_i h b2 (Int32.toNatClampNeg x1)) := ⟨_, rfl⟩
  have hw := hw v5 ev5
  refine xt_numi (y := v5) ev5.symm ?_
  refine lv_istore hx hb (xb_d D_M_exportNamed 4 rfl) hl (by decide) rfl (fun ls hl => ?_)
  have hl : lv_has ls 6 [(4, .int v5), (0, .ref x0), (1, .int x1), (2, .int x2), (3, .int x3)] := hl
  refine lv_iconst (v := 0) hx hb (xb_d D_M_exportNamed 5 rfl) (by decide) ?_
  refine lv_istore hx hb (xb_d D_M_exportNamed 6 rfl) hl (by decide) rfl (fun ls hl => ?_)
  have hl : lv_has ls 6 [(5, .int 0), (4, .int v5), (0, .ref x0), (1, .int x1), (2, .int x2), (3, .int x3)] := hl
  obtain ⟨n8, hw⟩ := hw
  exact am_M_exportNamed_L11 l hfl D A σ MC MS h0 Qr n8 x0 x2 x3 v5 0 h hw p e s m args below meth c hC H locs ls k n hE (lv_sub hl [2, 4, 5, 1, 0] rfl) hR hS (by omega) (by omega)

set_option maxRecDepth 100000 in
def T_M_importAt : List (Nat × Instr × Nat) := [(0, .aload_n 0, 1), (1, .iload_n 1, 1), (2, .aload_n 0, 1), (3, .iload_n 1, 1), (4, .iconst 2, 1), (5, .iload_n 2, 1), (6, .invokevirtual 320, 3), (9, .invokevirtual 324, 3), (12, .aload_n 0, 1), (13, .invokevirtual 293, 3), (16, .aload_n 0, 1), (17, .invokevirtual 293, 3), (20, .aload_n 0, 1), (21, .invokevirtual 212, 3), (24, .ireturn, 1)]
theorem D_M_importAt : ∀ q ∈ T_M_importAt, decode b_M_importAt q.1 = .ok (q.2.1, q.2.2) := by decide +kernel
def w_M_importAt (x0 : Nat) (x1 : Int32) (x2 : Int32) (h : xb_H) (Qr : Int32 → xb_H → Prop) : Prop :=
    xb_k h x0 = 9 ∧ w_M_placeOf x0 x1 2 x2 h (fun (r3 : Int32) (h2 : xb_H) => xb_ext h h2 → w_M_go x0 x1 r3 h2 (fun (h4 : xb_H) => xb_ext h2 h4 → w_M_name0 x0 h4 (fun (h6 : xb_H) => xb_ext h4 h6 → w_M_name0 x0 h6 (fun (h8 : xb_H) => xb_ext h6 h8 → w_M_next x0 h8 (fun (r11 : Int32) (h10 : xb_H) => xb_ext h8 h10 → Qr r11 h10)))))

set_option maxHeartbeats 4000000 in
set_option maxRecDepth 100000 in
theorem ok_M_importAt (l : Launch) (hfl : l.flags = pinnedFlags ++ [noTraceFlag]) (D : va_G) (A : Nat → Prop) (σ : Nat) (x0 : Nat) (x1 : Int32) (x2 : Int32) (h : xb_H) (Qr : Int32 → xb_H → Prop) (hw : w_M_importAt x0 x1 x2 h Qr) : xt_Met l y_M_importAt [.code y_M_importAt b_M_importAt 3 (some .int)] (xb_rm 6 0 0) (xb_Pc D A σ h [.ref x0, .int x1, .int x2]) (xb_Qc D A h (fun v h => ∃ r, v = some (.int r) ∧ Qr r h) (fun _ _ => False)) 0 0 A := by
  refine xb_ofAm (cc := b_M_importAt) (by decide) (Nat.le_of_ble_eq_true rfl) ?_
  unfold w_M_importAt at hw
  show xb_am l D A σ 6 0 0 h (fun v h => ∃ r, v = some (.int r) ∧ Qr r h) (fun _ _ => False) y_M_importAt.cls y_M_importAt.name b_M_importAt 3 ([] : List ExceptionTableEntry) (some .int) 0 [(0, .ref x0), (1, .int x1), (2, .int x2)] [] h 0 0
  obtain ⟨MC, hMC⟩ : ∃ x, x = 0 := ⟨_, rfl⟩
  obtain ⟨MS, hMS⟩ : ∃ x, x = 0 := ⟨_, rfl⟩
  rw [show xb_am l D A σ 6 0 0 = xb_am l D A σ 6 MC MS by rw [hMC, hMS]]
  obtain ⟨h0, hh0⟩ : ∃ x, x = h := ⟨_, rfl⟩
  rw [show xb_am l D A σ 6 MC MS h = xb_am l D A σ 6 MC MS h0 by rw [hh0]]
  intro p e s m args below meth c hC H locs ls k n hE hl hR hS hk hn
  obtain ⟨hx, hb, hown, hlocks, htab, hml, hr, hB, hA, hnm⟩ := id hC
  have hts := hB.1.1.at args
  refine lv_aload_n hx hb (xb_d D_M_importAt 0 rfl) rfl (lv_at hl 0 rfl) ?_
  refine lv_iload_n hx hb (xb_d D_M_importAt 1 rfl) rfl (lv_at hl 1 rfl) ?_
  refine lv_aload_n hx hb (xb_d D_M_importAt 2 rfl) rfl (lv_at hl 0 rfl) ?_
  refine lv_iload_n hx hb (xb_d D_M_importAt 3 rfl) rfl (lv_at hl 1 rfl) ?_
  refine lv_iconst (v := 2) hx hb (xb_d D_M_importAt 4 rfl) (by decide) ?_
  refine lv_iload_n hx hb (xb_d D_M_importAt 5 rfl) rfl (lv_at hl 2 rfl) ?_
  obtain ⟨hk1, hw⟩ := hw
  refine xb_call (D := D) (A := A) (σ := σ) (h := h) (d := 2) (mc := 0) (ms := 0) (maxL := 4) (rest := [.int x1, .ref x0]) (av := [.ref x0, .int x1, .int 2, .int x2]) (fun T hT X => by obtain ⟨cb, r1, r2, r3⟩ := xb_recv (ci := 8) hR rfl hk1 (by decide); exact xt_invV X hx hown (hts _ m_7f41753e) (hts _ m_8cdd7108) (hts _ m_e228318f) (xt_sigOf (hts _ m_89667ad5)) nm_M_placeOf (by rw [hT]; exact r1) r2 r3 (g := F0 m 6 ls [.int x2, .int 2, .int x1, .ref x0, .int x1, .ref x0]) rfl (argsL := [.int x1, .int 2, .int x2]) (rest := [.int x1, .ref x0]) rfl rfl (by rw [hb]; exact (xb_d D_M_importAt 6 rfl))) (ok_M_placeOf l hfl D A σ x0 x1 2 x2 h _ hw) (hml.trans hl.1.symm) (by rw [hb]; exact (xb_d D_M_importAt 6 rfl)) (Nat.le_of_ble_eq_true rfl) (Nat.le_of_ble_eq_true rfl) (Nat.le_of_ble_eq_true rfl) (show k + 0 ≤ MC by omega) (show n + 0 ≤ MS by omega) (xt_w1 hB.1 m_89667ad5) (xt_cdOf hB.1 m_89667ad5) (hts _ m_d5ed7bed) hB hR hS hA (fun vv h2 H locs hq hEh2 hR hS => ?_) (fun XX ax h2 H locs hq hEh2 hex hR hS => ?_)
  · obtain ⟨r3, rfl, hw⟩ := hq
    have hw := hw hEh2
    have hE := hE.tr hEh2
    refine W.eq (g2 := F0 m 9 ls [.int r3, .int x1, .ref x0]) rfl ?_
    have hk1 : xb_k h2 x0 = 9 := hEh2.k hk1
    refine xb_call (D := D) (A := A) (σ := σ) (h := h2) (d := 2) (mc := 0) (ms := 0) (maxL := 3) (rest := []) (av := [.ref x0, .int x1, .int r3]) (fun T hT X => by obtain ⟨cb, r1, r2, r3⟩ := xb_recv (ci := 8) hR rfl hk1 (by decide); exact xt_invV X hx hown (hts _ m_bb531879) (hts _ m_4a6cd4a0) (hts _ m_d1c31e3c) (xt_sigOf (hts _ m_48217fba)) nm_M_go (by rw [hT]; exact r1) r2 r3 (g := F0 m 9 ls [.int r3, .int x1, .ref x0]) rfl (argsL := [.int x1, .int r3]) (rest := []) rfl rfl (by rw [hb]; exact (xb_d D_M_importAt 7 rfl))) (ok_M_go l hfl D A σ x0 x1 r3 h2 _ hw) (hml.trans hl.1.symm) (by rw [hb]; exact (xb_d D_M_importAt 7 rfl)) (Nat.le_of_ble_eq_true rfl) (Nat.le_of_ble_eq_true rfl) (Nat.le_of_ble_eq_true rfl) (show k + 0 ≤ MC by omega) (show n + 0 ≤ MS by omega) (xt_w1 hB.1 m_48217fba) (xt_cdOf hB.1 m_48217fba) (hts _ m_d5ed7bed) hB hR hS hA (fun vv h4 H locs hq hEh4 hR hS => ?_) (fun XX ax h4 H locs hq hEh4 hex hR hS => ?_)
    · obtain ⟨rfl, hw⟩ := hq
      have hw := hw hEh4
      have hE := hE.tr hEh4
      refine W.eq (g2 := F0 m 12 ls []) rfl ?_
      refine lv_aload_n hx hb (xb_d D_M_importAt 8 rfl) rfl (lv_at hl 0 rfl) ?_
      have hk1 : xb_k h4 x0 = 9 := hEh4.k hk1
      refine xb_call (D := D) (A := A) (σ := σ) (h := h4) (d := 5) (mc := 0) (ms := 0) (maxL := 5) (rest := []) (av := [.ref x0]) (fun T hT X => by obtain ⟨cb, r1, r2, r3⟩ := xb_recv (ci := 8) hR rfl hk1 (by decide); exact xt_invV X hx hown (hts _ m_32411888) (hts _ m_1909bcad) (hts _ m_471efb70) (xt_sigOf (hts _ m_06b9cb5d)) nm_M_name0 (by rw [hT]; exact r1) r2 r3 (g := F0 m 13 ls [.ref x0]) rfl (argsL := []) (rest := []) rfl rfl (by rw [hb]; exact (xb_d D_M_importAt 9 rfl))) (ok_M_name0 l hfl D A σ x0 h4 _ hw) (hml.trans hl.1.symm) (by rw [hb]; exact (xb_d D_M_importAt 9 rfl)) (Nat.le_of_ble_eq_true rfl) (Nat.le_of_ble_eq_true rfl) (Nat.le_of_ble_eq_true rfl) (show k + 0 ≤ MC by omega) (show n + 0 ≤ MS by omega) (xt_w1 hB.1 m_06b9cb5d) (xt_cdOf hB.1 m_06b9cb5d) (hts _ m_d5ed7bed) hB hR hS hA (fun vv h6 H locs hq hEh6 hR hS => ?_) (fun XX ax h6 H locs hq hEh6 hex hR hS => ?_)
      · obtain ⟨rfl, hw⟩ := hq
        have hw := hw hEh6
        have hE := hE.tr hEh6
        refine W.eq (g2 := F0 m 16 ls []) rfl ?_
        refine lv_aload_n hx hb (xb_d D_M_importAt 10 rfl) rfl (lv_at hl 0 rfl) ?_
        have hk1 : xb_k h6 x0 = 9 := hEh6.k hk1
        refine xb_call (D := D) (A := A) (σ := σ) (h := h6) (d := 5) (mc := 0) (ms := 0) (maxL := 5) (rest := []) (av := [.ref x0]) (fun T hT X => by obtain ⟨cb, r1, r2, r3⟩ := xb_recv (ci := 8) hR rfl hk1 (by decide); exact xt_invV X hx hown (hts _ m_32411888) (hts _ m_1909bcad) (hts _ m_471efb70) (xt_sigOf (hts _ m_06b9cb5d)) nm_M_name0 (by rw [hT]; exact r1) r2 r3 (g := F0 m 17 ls [.ref x0]) rfl (argsL := []) (rest := []) rfl rfl (by rw [hb]; exact (xb_d D_M_importAt 11 rfl))) (ok_M_name0 l hfl D A σ x0 h6 _ hw) (hml.trans hl.1.symm) (by rw [hb]; exact (xb_d D_M_importAt 11 rfl)) (Nat.le_of_ble_eq_true rfl) (Nat.le_of_ble_eq_true rfl) (Nat.le_of_ble_eq_true rfl) (show k + 0 ≤ MC by omega) (show n + 0 ≤ MS by omega) (xt_w1 hB.1 m_06b9cb5d) (xt_cdOf hB.1 m_06b9cb5d) (hts _ m_d5ed7bed) hB hR hS hA (fun vv h8 H locs hq hEh8 hR hS => ?_) (fun XX ax h8 H locs hq hEh8 hex hR hS => ?_)
        · obtain ⟨rfl, hw⟩ := hq
          have hw := hw hEh8
          have hE := hE.tr hEh8
          refine W.eq (g2 := F0 m 20 ls []) rfl ?_
          refine lv_aload_n hx hb (xb_d D_M_importAt 12 rfl) rfl (lv_at hl 0 rfl) ?_
          have hk1 : xb_k h8 x0 = 9 := hEh8.k hk1
          refine xb_call (D := D) (A := A) (σ := σ) (h := h8) (d := 3) (mc := 0) (ms := 0) (maxL := 2) (rest := []) (av := [.ref x0]) (fun T hT X => by obtain ⟨cb, r1, r2, r3⟩ := xb_recv (ci := 8) hR rfl hk1 (by decide); exact xt_invV X hx hown (hts _ m_0e978570) (hts _ m_40099f98) (hts _ m_a7dbfd07) (xt_sigOf (hts _ m_0af1ec6a)) nm_M_next (by rw [hT]; exact r1) r2 r3 (g := F0 m 21 ls [.ref x0]) rfl (argsL := []) (rest := []) rfl rfl (by rw [hb]; exact (xb_d D_M_importAt 13 rfl))) (ok_M_next l hfl D A σ x0 h8 _ hw) (hml.trans hl.1.symm) (by rw [hb]; exact (xb_d D_M_importAt 13 rfl)) (Nat.le_of_ble_eq_true rfl) (Nat.le_of_ble_eq_true rfl) (Nat.le_of_ble_eq_true rfl) (show k + 0 ≤ MC by omega) (show n + 0 ≤ MS by omega) (xt_w1 hB.1 m_0af1ec6a) (xt_cdOf hB.1 m_0af1ec6a) (hts _ m_d5ed7bed) hB hR hS hA (fun vv h10 H locs hq hEh10 hR hS => ?_) (fun XX ax h10 H locs hq hEh10 hex hR hS => ?_)
          · obtain ⟨r11, rfl, hw⟩ := hq
            have hw := hw hEh10
            have hE := hE.tr hEh10
            refine W.eq (g2 := F0 m 24 ls [.int r11]) rfl ?_
            exact xb_iret hx hb hr hlocks (show k ≤ MC by omega) (show n ≤ MS by omega) hE hR hS (xb_d D_M_importAt 14 rfl) hw
          · exact False.elim hq
        · exact False.elim hq
      · exact False.elim hq
    · exact False.elim hq
  · exact False.elim hq

theorem m_b67ad769 : (.methodLink "StackHostModel" 349 y_M_leastRead : Cond) ∈ xt_tbl := xt_in (xt_t11 (List.mem_of_getElem? (i := 92) (by decide +kernel))) (by decide +kernel)
theorem m_de6782a6 : (.instanceMethod y_M_leastRead : Cond) ∈ xt_tbl := xt_in (xt_t11 (List.mem_of_getElem? (i := 94) (by decide +kernel))) (by decide +kernel)
theorem m_a7360540 : (.selects "StackHostModel" y_M_leastRead y_M_leastRead : Cond) ∈ xt_tbl := xt_in (xt_v10 (q := (⟨"StackHostModel", "leastRead", "()J"⟩, 97)) (List.mem_of_getElem? (i := 15) (by decide +kernel))) (by decide +kernel)
theorem m_348c2fd1 : (.code y_M_leastRead b_M_leastRead 4 (some .long) : Cond) ∈ xt_tbl := xt_in (xt_t11 (List.mem_of_getElem? (i := 95) (by decide +kernel))) (by decide +kernel)
theorem nm_M_leastRead : xt_nm y_M_leastRead 0 := ⟨by decide +kernel, by decide +kernel⟩
set_option maxRecDepth 100000 in
def T_M_limitsFault : List (Nat × Instr × Nat) := [(0, .aload_n 0, 1), (1, .invokevirtual 349, 3), (4, .lstore 4, 2), (6, .aload_n 0, 1), (7, .getfield 345, 3), (10, .lconst 0, 1), (11, .lcmp, 1), (12, .ifCond .lt 13, 3), (15, .aload_n 0, 1), (16, .getfield 345, 3), (19, .lload 4, 2), (21, .lcmp, 1), (22, .ifCond .lt 27, 3), (25, .iload_n 1, 1), (26, .ifCond .eq 27, 3), (29, .lload 4, 2), (31, .ldc2_w 352, 3), (34, .lcmp, 1), (35, .ifCond .gt 14, 3), (38, .aload_n 0, 1), (39, .getfield 345, 3), (42, .ldc2_w 352, 3), (45, .lcmp, 1), (46, .ifCond .le 7, 3), (49, .iconst 1, 1), (50, .goto 4, 3), (53, .iconst 0, 1), (54, .istore 6, 2), (56, .iload 6, 2), (58, .ifCond .eq 13, 3), (61, .aload_n 0, 1), (62, .bipush 25, 2), (64, .iload_n 2, 1), (65, .invokevirtual 208, 3), (68, .goto 14, 3), (71, .iload_n 3, 1), (72, .ifCond .eq 10, 3), (75, .aload_n 0, 1), (76, .bipush 27, 2), (78, .iload_n 2, 1), (79, .invokevirtual 208, 3), (82, .return_, 1)]
theorem D_M_limitsFault : ∀ q ∈ T_M_limitsFault, decode b_M_limitsFault q.1 = .ok (q.2.1, q.2.2) := by decide +kernel
def w_M_limitsFault_L82 (Qr : xb_H → Prop) (h : xb_H) : Prop :=
    Qr h

def w_M_limitsFault_L54 (Qr : xb_H → Prop) (x0 : Nat) (x2 : Int32) (x3 : Int32) (y0 : Int32) (h : xb_H) : Prop :=
    ((y0 = (0 : Int32) → ((x3 = (0 : Int32) → w_M_limitsFault_L82 Qr h) ∧ (¬ x3 = (0 : Int32) → xb_k h x0 = 9 ∧ w_M_fail x0 27 x2 h (fun (h4 : xb_H) => xb_ext h h4 → w_M_limitsFault_L82 Qr h4)))) ∧ (¬ y0 = (0 : Int32) → xb_k h x0 = 9 ∧ w_M_fail x0 25 x2 h (fun (h7 : xb_H) => xb_ext h h7 → w_M_limitsFault_L82 Qr h7)))

def w_M_limitsFault_L53 (Qr : xb_H → Prop) (x0 : Nat) (x2 : Int32) (x3 : Int32) (h : xb_H) : Prop :=
    w_M_limitsFault_L54 Qr x0 x2 x3 0 h

def w_M_limitsFault_L49 (Qr : xb_H → Prop) (x0 : Nat) (x2 : Int32) (x3 : Int32) (h : xb_H) : Prop :=
    w_M_limitsFault_L54 Qr x0 x2 x3 1 h

def w_M_limitsFault_L25 (Qr : xb_H → Prop) (x0 : Nat) (x1 : Int32) (x2 : Int32) (x3 : Int32) (x4 : Int64) (h : xb_H) : Prop :=
    ((x1 = (0 : Int32) → w_M_limitsFault_L53 Qr x0 x2 x3 h) ∧ (¬ x1 = (0 : Int32) → (((65536 : Int64) < x4 → w_M_limitsFault_L49 Qr x0 x2 x3 h) ∧ (¬ (65536 : Int64) < x4 → xb_k h x0 = 9 ∧ (((xb_l h x0 91) ≤ (65536 : Int64) → w_M_limitsFault_L53 Qr x0 x2 x3 h) ∧ (¬ (xb_l h x0 91) ≤ (65536 : Int64) → w_M_limitsFault_L49 Qr x0 x2 x3 h))))))

def w_M_limitsFault (x0 : Nat) (x1 : Int32) (x2 : Int32) (x3 : Int32) (h : xb_H) (Qr : xb_H → Prop) : Prop :=
    xb_k h x0 = 9 ∧ w_M_leastRead x0 h (fun (r3 : Int64) (h2 : xb_H) => xb_ext h h2 → (((xb_l h2 x0 91) < (0 : Int64) → w_M_limitsFault_L25 Qr x0 x1 x2 x3 r3 h2) ∧ (¬ (xb_l h2 x0 91) < (0 : Int64) → (((xb_l h2 x0 91) < r3 → w_M_limitsFault_L49 Qr x0 x2 x3 h2) ∧ (¬ (xb_l h2 x0 91) < r3 → w_M_limitsFault_L25 Qr x0 x1 x2 x3 r3 h2)))))

set_option maxHeartbeats 4000000 in
set_option maxRecDepth 100000 in
theorem am_M_limitsFault_L82 (l : Launch) (hfl : l.flags = pinnedFlags ++ [noTraceFlag]) (D : va_G) (A : Nat → Prop) (σ MC MS : Nat) (h0 : xb_H) (Qr : xb_H → Prop) (h : xb_H) (hw : w_M_limitsFault_L82 Qr h) : xb_am l D A σ 6 MC MS h0 (fun v h => v = none ∧ Qr h) (fun _ _ => False) y_M_limitsFault.cls y_M_limitsFault.name b_M_limitsFault 7 ([] : List ExceptionTableEntry) none 82 [] [] h 0 0 := by
  unfold w_M_limitsFault_L82 at hw
  intro p e s m args below meth c hC H locs ls k n hE hl hR hS hk hn
  obtain ⟨hx, hb, hown, hlocks, htab, hml, hr, hB, hA, hnm⟩ := id hC
  have hts := hB.1.1.at args
  exact xb_vret hx hb hr hlocks (show k ≤ MC by omega) (show n ≤ MS by omega) hE hR hS (xb_d D_M_limitsFault 41 rfl) hw

set_option maxHeartbeats 4000000 in
set_option maxRecDepth 100000 in
theorem am_M_limitsFault_L54 (l : Launch) (hfl : l.flags = pinnedFlags ++ [noTraceFlag]) (D : va_G) (A : Nat → Prop) (σ MC MS : Nat) (h0 : xb_H) (Qr : xb_H → Prop) (x0 : Nat) (x2 : Int32) (x3 : Int32) (y0 : Int32) (h : xb_H) (hw : w_M_limitsFault_L54 Qr x0 x2 x3 y0 h) : xb_am l D A σ 6 MC MS h0 (fun v h => v = none ∧ Qr h) (fun _ _ => False) y_M_limitsFault.cls y_M_limitsFault.name b_M_limitsFault 7 ([] : List ExceptionTableEntry) none 54 [(0, .ref x0), (2, .int x2), (3, .int x3)] [.int y0] h 0 0 := by
  unfold w_M_limitsFault_L54 at hw
  intro p e s m args below meth c hC H locs ls k n hE hl hR hS hk hn
  obtain ⟨hx, hb, hown, hlocks, htab, hml, hr, hB, hA, hnm⟩ := id hC
  have hts := hB.1.1.at args
  refine lv_istore hx hb (xb_d D_M_limitsFault 27 rfl) hl (by decide) rfl (fun ls hl => ?_)
  have hl : lv_has ls 7 [(6, .int y0), (0, .ref x0), (2, .int x2), (3, .int x3)] := hl
  refine lv_iload hx hb (xb_d D_M_limitsFault 28 rfl) (lv_at hl 0 rfl) ?_
  refine lv_if_eq (tgt := 71) hx hb (xb_d D_M_limitsFault 29 rfl) rfl (fun hc1 => ?_) (fun hc1 => ?_)
  · have hw := hw.1 hc1
    refine lv_iload_n hx hb (xb_d D_M_limitsFault 35 rfl) rfl (lv_at hl 3 rfl) ?_
    refine lv_if_eq (tgt := 82) hx hb (xb_d D_M_limitsFault 36 rfl) rfl (fun hc2 => ?_) (fun hc2 => ?_)
    · have hw := hw.1 hc2
      exact am_M_limitsFault_L82 l hfl D A σ MC MS h0 Qr h hw p e s m args below meth c hC H locs ls k n hE (lv_sub hl [] rfl) hR hS (by omega) (by omega)
    · have hw := hw.2 hc2
      refine lv_aload_n hx hb (xb_d D_M_limitsFault 37 rfl) rfl (lv_at hl 1 rfl) ?_
      refine lv_bipush (v := 27) hx hb (xb_d D_M_limitsFault 38 rfl) (by decide) ?_
      refine lv_iload_n hx hb (xb_d D_M_limitsFault 39 rfl) rfl (lv_at hl 2 rfl) ?_
      obtain ⟨hk3, hw⟩ := hw
      refine xb_call (D := D) (A := A) (σ := σ) (h := h) (d := 2) (mc := 0) (ms := 0) (maxL := 3) (rest := []) (av := [.ref x0, .int 27, .int x2]) (fun T hT X => by obtain ⟨cb, r1, r2, r3⟩ := xb_recv (ci := 8) hR rfl hk3 (by decide); exact xt_invV X hx hown (hts _ m_939052ad) (hts _ m_29cc8c73) (hts _ m_3b1ac7ab) (xt_sigOf (hts _ m_8f062ecd)) nm_M_fail (by rw [hT]; exact r1) r2 r3 (g := F0 m 79 ls [.int x2, .int 27, .ref x0]) rfl (argsL := [.int 27, .int x2]) (rest := []) rfl rfl (by rw [hb]; exact (xb_d D_M_limitsFault 40 rfl))) (ok_M_fail l hfl D A σ x0 27 x2 h _ hw) (hml.trans hl.1.symm) (by rw [hb]; exact (xb_d D_M_limitsFault 40 rfl)) (Nat.le_of_ble_eq_true rfl) (Nat.le_of_ble_eq_true rfl) (Nat.le_of_ble_eq_true rfl) (show k + 0 ≤ MC by omega) (show n + 0 ≤ MS by omega) (xt_w1 hB.1 m_8f062ecd) (xt_cdOf hB.1 m_8f062ecd) (hts _ m_d5ed7bed) hB hR hS hA (fun vv h4 H locs hq hEh4 hR hS => ?_) (fun XX ax h4 H locs hq hEh4 hex hR hS => ?_)
      · obtain ⟨rfl, hw⟩ := hq
        have hw := hw hEh4
        have hE := hE.tr hEh4
        refine W.eq (g2 := F0 m 82 ls []) rfl ?_
        exact am_M_limitsFault_L82 l hfl D A σ MC MS h0 Qr h4 hw p e s m args below meth c hC H locs ls k n hE (lv_sub hl [] rfl) hR hS (by omega) (by omega)
      · exact False.elim hq
  · have hw := hw.2 hc1
    refine lv_aload_n hx hb (xb_d D_M_limitsFault 30 rfl) rfl (lv_at hl 1 rfl) ?_
    refine lv_bipush (v := 25) hx hb (xb_d D_M_limitsFault 31 rfl) (by decide) ?_
    refine lv_iload_n hx hb (xb_d D_M_limitsFault 32 rfl) rfl (lv_at hl 2 rfl) ?_
    obtain ⟨hk6, hw⟩ := hw
    refine xb_call (D := D) (A := A) (σ := σ) (h := h) (d := 2) (mc := 0) (ms := 0) (maxL := 3) (rest := []) (av := [.ref x0, .int 25, .int x2]) (fun T hT X => by obtain ⟨cb, r1, r2, r3⟩ := xb_recv (ci := 8) hR rfl hk6 (by decide); exact xt_invV X hx hown (hts _ m_939052ad) (hts _ m_29cc8c73) (hts _ m_3b1ac7ab) (xt_sigOf (hts _ m_8f062ecd)) nm_M_fail (by rw [hT]; exact r1) r2 r3 (g := F0 m 65 ls [.int x2, .int 25, .ref x0]) rfl (argsL := [.int 25, .int x2]) (rest := []) rfl rfl (by rw [hb]; exact (xb_d D_M_limitsFault 33 rfl))) (ok_M_fail l hfl D A σ x0 25 x2 h _ hw) (hml.trans hl.1.symm) (by rw [hb]; exact (xb_d D_M_limitsFault 33 rfl)) (Nat.le_of_ble_eq_true rfl) (Nat.le_of_ble_eq_true rfl) (Nat.le_of_ble_eq_true rfl) (show k + 0 ≤ MC by omega) (show n + 0 ≤ MS by omega) (xt_w1 hB.1 m_8f062ecd) (xt_cdOf hB.1 m_8f062ecd) (hts _ m_d5ed7bed) hB hR hS hA (fun vv h7 H locs hq hEh7 hR hS => ?_) (fun XX ax h7 H locs hq hEh7 hex hR hS => ?_)
    · obtain ⟨rfl, hw⟩ := hq
      have hw := hw hEh7
      have hE := hE.tr hEh7
      refine W.eq (g2 := F0 m 68 ls []) rfl ?_
      refine lv_goto (tgt := 82) hx hb (xb_d D_M_limitsFault 34 rfl) rfl ?_
      exact am_M_limitsFault_L82 l hfl D A σ MC MS h0 Qr h7 hw p e s m args below meth c hC H locs ls k n hE (lv_sub hl [] rfl) hR hS (by omega) (by omega)
    · exact False.elim hq

set_option maxHeartbeats 4000000 in
set_option maxRecDepth 100000 in
theorem am_M_limitsFault_L53 (l : Launch) (hfl : l.flags = pinnedFlags ++ [noTraceFlag]) (D : va_G) (A : Nat → Prop) (σ MC MS : Nat) (h0 : xb_H) (Qr : xb_H → Prop) (x0 : Nat) (x2 : Int32) (x3 : Int32) (h : xb_H) (hw : w_M_limitsFault_L53 Qr x0 x2 x3 h) : xb_am l D A σ 6 MC MS h0 (fun v h => v = none ∧ Qr h) (fun _ _ => False) y_M_limitsFault.cls y_M_limitsFault.name b_M_limitsFault 7 ([] : List ExceptionTableEntry) none 53 [(0, .ref x0), (2, .int x2), (3, .int x3)] [] h 0 0 := by
  unfold w_M_limitsFault_L53 at hw
  intro p e s m args below meth c hC H locs ls k n hE hl hR hS hk hn
  obtain ⟨hx, hb, hown, hlocks, htab, hml, hr, hB, hA, hnm⟩ := id hC
  have hts := hB.1.1.at args
  refine lv_iconst (v := 0) hx hb (xb_d D_M_limitsFault 26 rfl) (by decide) ?_
  exact am_M_limitsFault_L54 l hfl D A σ MC MS h0 Qr x0 x2 x3 0 h hw p e s m args below meth c hC H locs ls k n hE (lv_sub hl [0, 1, 2] rfl) hR hS (by omega) (by omega)

set_option maxHeartbeats 4000000 in
set_option maxRecDepth 100000 in
theorem am_M_limitsFault_L49 (l : Launch) (hfl : l.flags = pinnedFlags ++ [noTraceFlag]) (D : va_G) (A : Nat → Prop) (σ MC MS : Nat) (h0 : xb_H) (Qr : xb_H → Prop) (x0 : Nat) (x2 : Int32) (x3 : Int32) (h : xb_H) (hw : w_M_limitsFault_L49 Qr x0 x2 x3 h) : xb_am l D A σ 6 MC MS h0 (fun v h => v = none ∧ Qr h) (fun _ _ => False) y_M_limitsFault.cls y_M_limitsFault.name b_M_limitsFault 7 ([] : List ExceptionTableEntry) none 49 [(0, .ref x0), (2, .int x2), (3, .int x3)] [] h 0 0 := by
  unfold w_M_limitsFault_L49 at hw
  intro p e s m args below meth c hC H locs ls k n hE hl hR hS hk hn
  obtain ⟨hx, hb, hown, hlocks, htab, hml, hr, hB, hA, hnm⟩ := id hC
  have hts := hB.1.1.at args
  refine lv_iconst (v := 1) hx hb (xb_d D_M_limitsFault 24 rfl) (by decide) ?_
  refine lv_goto (tgt := 54) hx hb (xb_d D_M_limitsFault 25 rfl) rfl ?_
  exact am_M_limitsFault_L54 l hfl D A σ MC MS h0 Qr x0 x2 x3 1 h hw p e s m args below meth c hC H locs ls k n hE (lv_sub hl [0, 1, 2] rfl) hR hS (by omega) (by omega)

set_option maxHeartbeats 4000000 in
set_option maxRecDepth 100000 in
theorem am_M_limitsFault_L25 (l : Launch) (hfl : l.flags = pinnedFlags ++ [noTraceFlag]) (D : va_G) (A : Nat → Prop) (σ MC MS : Nat) (h0 : xb_H) (Qr : xb_H → Prop) (x0 : Nat) (x1 : Int32) (x2 : Int32) (x3 : Int32) (x4 : Int64) (h : xb_H) (hw : w_M_limitsFault_L25 Qr x0 x1 x2 x3 x4 h) : xb_am l D A σ 6 MC MS h0 (fun v h => v = none ∧ Qr h) (fun _ _ => False) y_M_limitsFault.cls y_M_limitsFault.name b_M_limitsFault 7 ([] : List ExceptionTableEntry) none 25 [(0, .ref x0), (1, .int x1), (2, .int x2), (3, .int x3), (4, .long x4)] [] h 0 0 := by
  unfold w_M_limitsFault_L25 at hw
  intro p e s m args below meth c hC H locs ls k n hE hl hR hS hk hn
  obtain ⟨hx, hb, hown, hlocks, htab, hml, hr, hB, hA, hnm⟩ := id hC
  have hts := hB.1.1.at args
  refine lv_iload_n hx hb (xb_d D_M_limitsFault 13 rfl) rfl (lv_at hl 1 rfl) ?_
  refine lv_if_eq (tgt := 53) hx hb (xb_d D_M_limitsFault 14 rfl) rfl (fun hc1 => ?_) (fun hc1 => ?_)
  · have hw := hw.1 hc1
    exact am_M_limitsFault_L53 l hfl D A σ MC MS h0 Qr x0 x2 x3 h hw p e s m args below meth c hC H locs ls k n hE (lv_sub hl [0, 2, 3] rfl) hR hS (by omega) (by omega)
  · have hw := hw.2 hc1
    refine lv_lload hx hb (xb_d D_M_limitsFault 15 rfl) (lv_at hl 4 rfl) ?_
    refine lv_ldc2 (v := 65536) hx hb hown (hts _ m_4fda1f04) (xb_d D_M_limitsFault 16 rfl) ?_
    refine xb_lc_gt (tgt := 49) hx hb (xb_d D_M_limitsFault 17 rfl) (xb_d D_M_limitsFault 18 rfl) rfl (fun hc2 => ?_) (fun hc2 => ?_)
    · have hw := hw.1 hc2
      exact am_M_limitsFault_L49 l hfl D A σ MC MS h0 Qr x0 x2 x3 h hw p e s m args below meth c hC H locs ls k n hE (lv_sub hl [0, 2, 3] rfl) hR hS (by omega) (by omega)
    · have hw := hw.2 hc2
      refine lv_aload_n hx hb (xb_d D_M_limitsFault 19 rfl) rfl (lv_at hl 0 rfl) ?_
      obtain ⟨hk3, hw⟩ := hw
      refine xb_getL (C := R_M) (T := F_M) (N := 97) hx hb 8 91 hts fin_M hown hR hk3 (by decide) rfl (by decide) rfl (hts _ m_6aa0a8b9) (fun _ h9 => h9) (xb_d D_M_limitsFault 20 rfl) ?_
      refine lv_ldc2 (v := 65536) hx hb hown (hts _ m_4fda1f04) (xb_d D_M_limitsFault 21 rfl) ?_
      refine xb_lc_le (tgt := 53) hx hb (xb_d D_M_limitsFault 22 rfl) (xb_d D_M_limitsFault 23 rfl) rfl (fun hc4 => ?_) (fun hc4 => ?_)
      · have hw := hw.1 hc4
        exact am_M_limitsFault_L53 l hfl D A σ MC MS h0 Qr x0 x2 x3 h hw p e s m args below meth c hC H locs ls k n hE (lv_sub hl [0, 2, 3] rfl) hR hS (by omega) (by omega)
      · have hw := hw.2 hc4
        exact am_M_limitsFault_L49 l hfl D A σ MC MS h0 Qr x0 x2 x3 h hw p e s m args below meth c hC H locs ls k n hE (lv_sub hl [0, 2, 3] rfl) hR hS (by omega) (by omega)

set_option maxHeartbeats 4000000 in
set_option maxRecDepth 100000 in
theorem ok_M_limitsFault (l : Launch) (hfl : l.flags = pinnedFlags ++ [noTraceFlag]) (D : va_G) (A : Nat → Prop) (σ : Nat) (x0 : Nat) (x1 : Int32) (x2 : Int32) (x3 : Int32) (h : xb_H) (Qr : xb_H → Prop) (hw : w_M_limitsFault x0 x1 x2 x3 h Qr) : xt_Met l y_M_limitsFault [.code y_M_limitsFault b_M_limitsFault 7 none] (xb_rm 6 0 0) (xb_Pc D A σ h [.ref x0, .int x1, .int x2, .int x3]) (xb_Qc D A h (fun v h => v = none ∧ Qr h) (fun _ _ => False)) 0 0 A := by
  refine xb_ofAm (cc := b_M_limitsFault) (by decide) (Nat.le_of_ble_eq_true rfl) ?_
  unfold w_M_limitsFault at hw
  show xb_am l D A σ 6 0 0 h (fun v h => v = none ∧ Qr h) (fun _ _ => False) y_M_limitsFault.cls y_M_limitsFault.name b_M_limitsFault 7 ([] : List ExceptionTableEntry) none 0 [(0, .ref x0), (1, .int x1), (2, .int x2), (3, .int x3)] [] h 0 0
  obtain ⟨MC, hMC⟩ : ∃ x, x = 0 := ⟨_, rfl⟩
  obtain ⟨MS, hMS⟩ : ∃ x, x = 0 := ⟨_, rfl⟩
  rw [show xb_am l D A σ 6 0 0 = xb_am l D A σ 6 MC MS by rw [hMC, hMS]]
  obtain ⟨h0, hh0⟩ : ∃ x, x = h := ⟨_, rfl⟩
  rw [show xb_am l D A σ 6 MC MS h = xb_am l D A σ 6 MC MS h0 by rw [hh0]]
  intro p e s m args below meth c hC H locs ls k n hE hl hR hS hk hn
  obtain ⟨hx, hb, hown, hlocks, htab, hml, hr, hB, hA, hnm⟩ := id hC
  have hts := hB.1.1.at args
  refine lv_aload_n hx hb (xb_d D_M_limitsFault 0 rfl) rfl (lv_at hl 0 rfl) ?_
  obtain ⟨hk1, hw⟩ := hw
  refine xb_call (D := D) (A := A) (σ := σ) (h := h) (d := 5) (mc := 0) (ms := 0) (maxL := 4) (rest := []) (av := [.ref x0]) (fun T hT X => by obtain ⟨cb, r1, r2, r3⟩ := xb_recv (ci := 8) hR rfl hk1 (by decide); exact xt_invV X hx hown (hts _ m_b67ad769) (hts _ m_de6782a6) (hts _ m_a7360540) (xt_sigOf (hts _ m_348c2fd1)) nm_M_leastRead (by rw [hT]; exact r1) r2 r3 (g := F0 m 1 ls [.ref x0]) rfl (argsL := []) (rest := []) rfl rfl (by rw [hb]; exact (xb_d D_M_limitsFault 1 rfl))) (ok_M_leastRead l hfl D A σ x0 h _ hw) (hml.trans hl.1.symm) (by rw [hb]; exact (xb_d D_M_limitsFault 1 rfl)) (Nat.le_of_ble_eq_true rfl) (Nat.le_of_ble_eq_true rfl) (Nat.le_of_ble_eq_true rfl) (show k + 0 ≤ MC by omega) (show n + 0 ≤ MS by omega) (xt_w1 hB.1 m_348c2fd1) (xt_cdOf hB.1 m_348c2fd1) (hts _ m_d5ed7bed) hB hR hS hA (fun vv h2 H locs hq hEh2 hR hS => ?_) (fun XX ax h2 H locs hq hEh2 hex hR hS => ?_)
  · obtain ⟨r3, rfl, hw⟩ := hq
    have hw := hw hEh2
    have hE := hE.tr hEh2
    refine W.eq (g2 := F0 m 4 ls [.long r3]) rfl ?_
    refine lv_lstore hx hb (xb_d D_M_limitsFault 2 rfl) hl (by decide) rfl (fun ls hl => ?_)
    have hl : lv_has ls 7 [(4, .long r3), (0, .ref x0), (1, .int x1), (2, .int x2), (3, .int x3)] := hl
    refine lv_aload_n hx hb (xb_d D_M_limitsFault 3 rfl) rfl (lv_at hl 1 rfl) ?_
    have hk1 : xb_k h2 x0 = 9 := hEh2.k hk1
    refine xb_getL (C := R_M) (T := F_M) (N := 97) hx hb 8 91 hts fin_M hown hR hk1 (by decide) rfl (by decide) rfl (hts _ m_6aa0a8b9) (fun _ h9 => h9) (xb_d D_M_limitsFault 4 rfl) ?_
    refine lv_lconst (v := 0) hx hb (xb_d D_M_limitsFault 5 rfl) (by decide) ?_
    refine xb_lc_lt (tgt := 25) hx hb (xb_d D_M_limitsFault 6 rfl) (xb_d D_M_limitsFault 7 rfl) rfl (fun hc4 => ?_) (fun hc4 => ?_)
    · have hw := hw.1 hc4
      exact am_M_limitsFault_L25 l hfl D A σ MC MS h0 Qr x0 x1 x2 x3 r3 h2 hw p e s m args below meth c hC H locs ls k n hE (lv_sub hl [1, 2, 3, 4, 0] rfl) hR hS (by omega) (by omega)
    · have hw := hw.2 hc4
      refine lv_aload_n hx hb (xb_d D_M_limitsFault 8 rfl) rfl (lv_at hl 1 rfl) ?_
      refine xb_getL (C := R_M) (T := F_M) (N := 97) hx hb 8 91 hts fin_M hown hR hk1 (by decide) rfl (by decide) rfl (hts _ m_6aa0a8b9) (fun _ h9 => h9) (xb_d D_M_limitsFault 9 rfl) ?_
      refine lv_lload hx hb (xb_d D_M_limitsFault 10 rfl) (lv_at hl 0 rfl) ?_
      refine xb_lc_lt (tgt := 49) hx hb (xb_d D_M_limitsFault 11 rfl) (xb_d D_M_limitsFault 12 rfl) rfl (fun hc5 => ?_) (fun hc5 => ?_)
      · have hw := hw.1 hc5
        exact am_M_limitsFault_L49 l hfl D A σ MC MS h0 Qr x0 x2 x3 h2 hw p e s m args below meth c hC H locs ls k n hE (lv_sub hl [1, 3, 4] rfl) hR hS (by omega) (by omega)
      · have hw := hw.2 hc5
        exact am_M_limitsFault_L25 l hfl D A σ MC MS h0 Qr x0 x1 x2 x3 r3 h2 hw p e s m args below meth c hC H locs ls k n hE (lv_sub hl [1, 2, 3, 4, 0] rfl) hR hS (by omega) (by omega)
  · exact False.elim hq

set_option maxRecDepth 100000 in
def T_M_ownLeast : List (Nat × Instr × Nat) := [(0, .aload_n 0, 1), (1, .iload_n 1, 1), (2, .iload_n 2, 1), (3, .invokevirtual 316, 3), (6, .ifCond .ne 12, 3), (9, .aload_n 0, 1), (10, .ldc2_w 216, 3), (13, .putfield 345, 3), (16, .lconst 0, 1), (17, .lreturn, 1), (18, .aload_n 0, 1), (19, .iload_n 1, 1), (20, .aload_n 0, 1), (21, .iload_n 1, 1), (22, .iload_n 2, 1), (23, .iconst 0, 1), (24, .invokevirtual 320, 3), (27, .iload_n 2, 1), (28, .iconst 4, 1), (29, .if_icmp .ne 7, 3), (32, .iconst 1, 1), (33, .goto 4, 3), (36, .iconst 0, 1), (37, .iadd, 1), (38, .invokevirtual 324, 3), (41, .aload_n 0, 1), (42, .invokevirtual 349, 3), (45, .lreturn, 1)]
theorem D_M_ownLeast : ∀ q ∈ T_M_ownLeast, decode b_M_ownLeast q.1 = .ok (q.2.1, q.2.2) := by decide +kernel
def w_M_ownLeast_L37 (Qr : Int64 → xb_H → Prop) (x0 : Nat) (y0 : Int32) (y1 : Int32) (y2 : Int32) (y3 : Nat) (h : xb_H) : Prop :=
    xb_k h y3 = 9 ∧ w_M_go y3 y2 (y1 + y0) h (fun (h2 : xb_H) => xb_ext h h2 → xb_k h2 x0 = 9 ∧ w_M_leastRead x0 h2 (fun (r6 : Int64) (h5 : xb_H) => xb_ext h2 h5 → Qr r6 h5))

def w_M_ownLeast (x0 : Nat) (x1 : Int32) (x2 : Int32) (h : xb_H) (Qr : Int64 → xb_H → Prop) : Prop :=
    xb_k h x0 = 9 ∧ w_M_manyOf x0 x1 x2 h (fun (r3 : Int32) (h2 : xb_H) => xb_ext h h2 → ((¬ r3 = (0 : Int32) → w_M_placeOf x0 x1 x2 0 h2 (fun (r6 : Int32) (h5 : xb_H) => xb_ext h2 h5 → ((¬ x2 = (4 : Int32) → w_M_ownLeast_L37 Qr x0 0 r6 x1 x0 h5) ∧ (x2 = (4 : Int32) → w_M_ownLeast_L37 Qr x0 1 r6 x1 x0 h5)))) ∧ (r3 = (0 : Int32) → ∀ h8 : xb_H, h8 = xb_L h2 x0 91 (-1) → Qr 0 h8)))

set_option maxHeartbeats 4000000 in
set_option maxRecDepth 100000 in
theorem am_M_ownLeast_L37 (l : Launch) (hfl : l.flags = pinnedFlags ++ [noTraceFlag]) (D : va_G) (A : Nat → Prop) (σ MC MS : Nat) (h0 : xb_H) (Qr : Int64 → xb_H → Prop) (x0 : Nat) (y0 : Int32) (y1 : Int32) (y2 : Int32) (y3 : Nat) (h : xb_H) (hw : w_M_ownLeast_L37 Qr x0 y0 y1 y2 y3 h) : xb_am l D A σ 6 MC MS h0 (fun v h => ∃ r, v = some (.long r) ∧ Qr r h) (fun _ _ => False) y_M_ownLeast.cls y_M_ownLeast.name b_M_ownLeast 3 ([] : List ExceptionTableEntry) (some .long) 37 [(0, .ref x0)] [.int y0, .int y1, .int y2, .ref y3] h 0 0 := by
  unfold w_M_ownLeast_L37 at hw
  intro p e s m args below meth c hC H locs ls k n hE hl hR hS hk hn
  obtain ⟨hx, hb, hown, hlocks, htab, hml, hr, hB, hA, hnm⟩ := id hC
  have hts := hB.1.1.at args
  refine lv_iadd hx hb (xb_d D_M_ownLeast 23 rfl) ?_
  obtain ⟨hk1, hw⟩ := hw
  refine xb_call (D := D) (A := A) (σ := σ) (h := h) (d := 2) (mc := 0) (ms := 0) (maxL := 3) (rest := []) (av := [.ref y3, .int y2, .int (y1 + y0)]) (fun T hT X => by obtain ⟨cb, r1, r2, r3⟩ := xb_recv (ci := 8) hR rfl hk1 (by decide); exact xt_invV X hx hown (hts _ m_bb531879) (hts _ m_4a6cd4a0) (hts _ m_d1c31e3c) (xt_sigOf (hts _ m_48217fba)) nm_M_go (by rw [hT]; exact r1) r2 r3 (g := F0 m 38 ls [.int (y1 + y0), .int y2, .ref y3]) rfl (argsL := [.int y2, .int (y1 + y0)]) (rest := []) rfl rfl (by rw [hb]; exact (xb_d D_M_ownLeast 24 rfl))) (ok_M_go l hfl D A σ y3 y2 (y1 + y0) h _ hw) (hml.trans hl.1.symm) (by rw [hb]; exact (xb_d D_M_ownLeast 24 rfl)) (Nat.le_of_ble_eq_true rfl) (Nat.le_of_ble_eq_true rfl) (Nat.le_of_ble_eq_true rfl) (show k + 0 ≤ MC by omega) (show n + 0 ≤ MS by omega) (xt_w1 hB.1 m_48217fba) (xt_cdOf hB.1 m_48217fba) (hts _ m_d5ed7bed) hB hR hS hA (fun vv h2 H locs hq hEh2 hR hS => ?_) (fun XX ax h2 H locs hq hEh2 hex hR hS => ?_)
  · obtain ⟨rfl, hw⟩ := hq
    have hw := hw hEh2
    have hE := hE.tr hEh2
    refine W.eq (g2 := F0 m 41 ls []) rfl ?_
    refine lv_aload_n hx hb (xb_d D_M_ownLeast 25 rfl) rfl (lv_at hl 0 rfl) ?_
    obtain ⟨hk4, hw⟩ := hw
    refine xb_call (D := D) (A := A) (σ := σ) (h := h2) (d := 5) (mc := 0) (ms := 0) (maxL := 4) (rest := []) (av := [.ref x0]) (fun T hT X => by obtain ⟨cb, r1, r2, r3⟩ := xb_recv (ci := 8) hR rfl hk4 (by decide); exact xt_invV X hx hown (hts _ m_b67ad769) (hts _ m_de6782a6) (hts _ m_a7360540) (xt_sigOf (hts _ m_348c2fd1)) nm_M_leastRead (by rw [hT]; exact r1) r2 r3 (g := F0 m 42 ls [.ref x0]) rfl (argsL := []) (rest := []) rfl rfl (by rw [hb]; exact (xb_d D_M_ownLeast 26 rfl))) (ok_M_leastRead l hfl D A σ x0 h2 _ hw) (hml.trans hl.1.symm) (by rw [hb]; exact (xb_d D_M_ownLeast 26 rfl)) (Nat.le_of_ble_eq_true rfl) (Nat.le_of_ble_eq_true rfl) (Nat.le_of_ble_eq_true rfl) (show k + 0 ≤ MC by omega) (show n + 0 ≤ MS by omega) (xt_w1 hB.1 m_348c2fd1) (xt_cdOf hB.1 m_348c2fd1) (hts _ m_d5ed7bed) hB hR hS hA (fun vv h5 H locs hq hEh5 hR hS => ?_) (fun XX ax h5 H locs hq hEh5 hex hR hS => ?_)
    · obtain ⟨r6, rfl, hw⟩ := hq
      have hw := hw hEh5
      have hE := hE.tr hEh5
      refine W.eq (g2 := F0 m 45 ls [.long r6]) rfl ?_
      exact xb_lret hx hb hr hlocks (show k ≤ MC by omega) (show n ≤ MS by omega) hE hR hS (xb_d D_M_ownLeast 27 rfl) hw
    · exact False.elim hq
  · exact False.elim hq

set_option maxHeartbeats 4000000 in
set_option maxRecDepth 100000 in
theorem ok_M_ownLeast (l : Launch) (hfl : l.flags = pinnedFlags ++ [noTraceFlag]) (D : va_G) (A : Nat → Prop) (σ : Nat) (x0 : Nat) (x1 : Int32) (x2 : Int32) (h : xb_H) (Qr : Int64 → xb_H → Prop) (hw : w_M_ownLeast x0 x1 x2 h Qr) : xt_Met l y_M_ownLeast [.code y_M_ownLeast b_M_ownLeast 3 (some .long)] (xb_rm 6 0 0) (xb_Pc D A σ h [.ref x0, .int x1, .int x2]) (xb_Qc D A h (fun v h => ∃ r, v = some (.long r) ∧ Qr r h) (fun _ _ => False)) 0 0 A := by
  refine xb_ofAm (cc := b_M_ownLeast) (by decide) (Nat.le_of_ble_eq_true rfl) ?_
  unfold w_M_ownLeast at hw
  show xb_am l D A σ 6 0 0 h (fun v h => ∃ r, v = some (.long r) ∧ Qr r h) (fun _ _ => False) y_M_ownLeast.cls y_M_ownLeast.name b_M_ownLeast 3 ([] : List ExceptionTableEntry) (some .long) 0 [(0, .ref x0), (1, .int x1), (2, .int x2)] [] h 0 0
  obtain ⟨MC, hMC⟩ : ∃ x, x = 0 := ⟨_, rfl⟩
  obtain ⟨MS, hMS⟩ : ∃ x, x = 0 := ⟨_, rfl⟩
  rw [show xb_am l D A σ 6 0 0 = xb_am l D A σ 6 MC MS by rw [hMC, hMS]]
  obtain ⟨h0, hh0⟩ : ∃ x, x = h := ⟨_, rfl⟩
  rw [show xb_am l D A σ 6 MC MS h = xb_am l D A σ 6 MC MS h0 by rw [hh0]]
  intro p e s m args below meth c hC H locs ls k n hE hl hR hS hk hn
  obtain ⟨hx, hb, hown, hlocks, htab, hml, hr, hB, hA, hnm⟩ := id hC
  have hts := hB.1.1.at args
  refine lv_aload_n hx hb (xb_d D_M_ownLeast 0 rfl) rfl (lv_at hl 0 rfl) ?_
  refine lv_iload_n hx hb (xb_d D_M_ownLeast 1 rfl) rfl (lv_at hl 1 rfl) ?_
  refine lv_iload_n hx hb (xb_d D_M_ownLeast 2 rfl) rfl (lv_at hl 2 rfl) ?_
  obtain ⟨hk1, hw⟩ := hw
  refine xb_call (D := D) (A := A) (σ := σ) (h := h) (d := 2) (mc := 0) (ms := 0) (maxL := 3) (rest := []) (av := [.ref x0, .int x1, .int x2]) (fun T hT X => by obtain ⟨cb, r1, r2, r3⟩ := xb_recv (ci := 8) hR rfl hk1 (by decide); exact xt_invV X hx hown (hts _ m_b47f62c2) (hts _ m_9f071faf) (hts _ m_e1bb5c84) (xt_sigOf (hts _ m_3a6212d6)) nm_M_manyOf (by rw [hT]; exact r1) r2 r3 (g := F0 m 3 ls [.int x2, .int x1, .ref x0]) rfl (argsL := [.int x1, .int x2]) (rest := []) rfl rfl (by rw [hb]; exact (xb_d D_M_ownLeast 3 rfl))) (ok_M_manyOf l hfl D A σ x0 x1 x2 h _ hw) (hml.trans hl.1.symm) (by rw [hb]; exact (xb_d D_M_ownLeast 3 rfl)) (Nat.le_of_ble_eq_true rfl) (Nat.le_of_ble_eq_true rfl) (Nat.le_of_ble_eq_true rfl) (show k + 0 ≤ MC by omega) (show n + 0 ≤ MS by omega) (xt_w1 hB.1 m_3a6212d6) (xt_cdOf hB.1 m_3a6212d6) (hts _ m_d5ed7bed) hB hR hS hA (fun vv h2 H locs hq hEh2 hR hS => ?_) (fun XX ax h2 H locs hq hEh2 hex hR hS => ?_)
  · obtain ⟨r3, rfl, hw⟩ := hq
    have hw := hw hEh2
    have hE := hE.tr hEh2
    refine W.eq (g2 := F0 m 6 ls [.int r3]) rfl ?_
    refine lv_if_ne (tgt := 18) hx hb (xb_d D_M_ownLeast 4 rfl) rfl (fun hc4 => ?_) (fun hc4 => ?_)
    · have hw := hw.1 hc4
      refine lv_aload_n hx hb (xb_d D_M_ownLeast 10 rfl) rfl (lv_at hl 0 rfl) ?_
      refine lv_iload_n hx hb (xb_d D_M_ownLeast 11 rfl) rfl (lv_at hl 1 rfl) ?_
      refine lv_aload_n hx hb (xb_d D_M_ownLeast 12 rfl) rfl (lv_at hl 0 rfl) ?_
      refine lv_iload_n hx hb (xb_d D_M_ownLeast 13 rfl) rfl (lv_at hl 1 rfl) ?_
      refine lv_iload_n hx hb (xb_d D_M_ownLeast 14 rfl) rfl (lv_at hl 2 rfl) ?_
      refine lv_iconst (v := 0) hx hb (xb_d D_M_ownLeast 15 rfl) (by decide) ?_
      have hk1 : xb_k h2 x0 = 9 := hEh2.k hk1
      refine xb_call (D := D) (A := A) (σ := σ) (h := h2) (d := 2) (mc := 0) (ms := 0) (maxL := 4) (rest := [.int x1, .ref x0]) (av := [.ref x0, .int x1, .int x2, .int 0]) (fun T hT X => by obtain ⟨cb, r1, r2, r3⟩ := xb_recv (ci := 8) hR rfl hk1 (by decide); exact xt_invV X hx hown (hts _ m_7f41753e) (hts _ m_8cdd7108) (hts _ m_e228318f) (xt_sigOf (hts _ m_89667ad5)) nm_M_placeOf (by rw [hT]; exact r1) r2 r3 (g := F0 m 24 ls [.int 0, .int x2, .int x1, .ref x0, .int x1, .ref x0]) rfl (argsL := [.int x1, .int x2, .int 0]) (rest := [.int x1, .ref x0]) rfl rfl (by rw [hb]; exact (xb_d D_M_ownLeast 16 rfl))) (ok_M_placeOf l hfl D A σ x0 x1 x2 0 h2 _ hw) (hml.trans hl.1.symm) (by rw [hb]; exact (xb_d D_M_ownLeast 16 rfl)) (Nat.le_of_ble_eq_true rfl) (Nat.le_of_ble_eq_true rfl) (Nat.le_of_ble_eq_true rfl) (show k + 0 ≤ MC by omega) (show n + 0 ≤ MS by omega) (xt_w1 hB.1 m_89667ad5) (xt_cdOf hB.1 m_89667ad5) (hts _ m_d5ed7bed) hB hR hS hA (fun vv h5 H locs hq hEh5 hR hS => ?_) (fun XX ax h5 H locs hq hEh5 hex hR hS => ?_)
      · obtain ⟨r6, rfl, hw⟩ := hq
        have hw := hw hEh5
        have hE := hE.tr hEh5
        refine W.eq (g2 := F0 m 27 ls [.int r6, .int x1, .ref x0]) rfl ?_
        refine lv_iload_n hx hb (xb_d D_M_ownLeast 17 rfl) rfl (lv_at hl 2 rfl) ?_
        refine lv_iconst (v := 4) hx hb (xb_d D_M_ownLeast 18 rfl) (by decide) ?_
        refine lv_icmp_ne (tgt := 36) hx hb (xb_d D_M_ownLeast 19 rfl) rfl (fun hc7 => ?_) (fun hc7 => ?_)
        · have hw := hw.1 hc7
          refine lv_iconst (v := 0) hx hb (xb_d D_M_ownLeast 22 rfl) (by decide) ?_
          exact am_M_ownLeast_L37 l hfl D A σ MC MS h0 Qr x0 0 r6 x1 x0 h5 hw p e s m args below meth c hC H locs ls k n hE (lv_sub hl [0] rfl) hR hS (by omega) (by omega)
        · have hw := hw.2 hc7
          refine lv_iconst (v := 1) hx hb (xb_d D_M_ownLeast 20 rfl) (by decide) ?_
          refine lv_goto (tgt := 37) hx hb (xb_d D_M_ownLeast 21 rfl) rfl ?_
          exact am_M_ownLeast_L37 l hfl D A σ MC MS h0 Qr x0 1 r6 x1 x0 h5 hw p e s m args below meth c hC H locs ls k n hE (lv_sub hl [0] rfl) hR hS (by omega) (by omega)
      · exact False.elim hq
    · have hw := hw.2 hc4
      refine lv_aload_n hx hb (xb_d D_M_ownLeast 5 rfl) rfl (lv_at hl 0 rfl) ?_
      refine lv_ldc2 (v := (-1)) hx hb hown (hts _ m_a1d4f677) (xb_d D_M_ownLeast 6 rfl) ?_
      have hk1 : xb_k h2 x0 = 9 := hEh2.k hk1
      refine xb_putL (C := R_M) (T := F_M) (N := 97) (ty := .long) (x := (-1)) hx hb 8 91 hts fin_M t_M t_M_ok n_M hown hR hS hk1 (by decide) rfl (by decide) rfl (hts _ m_6aa0a8b9) (fun _ h9 => h9) rfl (by decide +kernel) rfl rfl (xb_d D_M_ownLeast 7 rfl) (fun H locs hR hS => ?_)
      obtain ⟨h8, eh8⟩ : ∃ x : xb_H, x = xb_L h2 x0 91 (-1) := ⟨_, rfl⟩
      rw [← eh8] at hR
      have hw := hw h8 eh8
      have hE : xb_ext h0 h8 := by rw [eh8]; exact hE
      refine lv_lconst (v := 0) hx hb (xb_d D_M_ownLeast 8 rfl) (by decide) ?_
      exact xb_lret hx hb hr hlocks (show k ≤ MC by omega) (show n ≤ MS by omega) hE hR hS (xb_d D_M_ownLeast 9 rfl) hw
  · exact False.elim hq

theorem m_4fd64ef0 : (.methodLink "StackHostModel" 333 y_M_parameters : Cond) ∈ xt_tbl := xt_in (xt_t11 (List.mem_of_getElem? (i := 68) (by decide +kernel))) (by decide +kernel)
theorem m_2eb48211 : (.instanceMethod y_M_parameters : Cond) ∈ xt_tbl := xt_in (xt_t11 (List.mem_of_getElem? (i := 70) (by decide +kernel))) (by decide +kernel)
theorem m_ff1f4a94 : (.selects "StackHostModel" y_M_parameters y_M_parameters : Cond) ∈ xt_tbl := xt_in (xt_v10 (q := (⟨"StackHostModel", "parameters", "(II)I"⟩, 97)) (List.mem_of_getElem? (i := 9) (by decide +kernel))) (by decide +kernel)
theorem m_2faa0c5c : (.code y_M_parameters b_M_parameters 3 (some .int) : Cond) ∈ xt_tbl := xt_in (xt_t11 (List.mem_of_getElem? (i := 71) (by decide +kernel))) (by decide +kernel)
theorem nm_M_parameters : xt_nm y_M_parameters 2 := ⟨by decide +kernel, by decide +kernel⟩
set_option maxRecDepth 100000 in
def T_M_parameter : List (Nat × Instr × Nat) := [(0, .aload_n 0, 1), (1, .iload_n 1, 1), (2, .iload_n 2, 1), (3, .invokevirtual 333, 3), (6, .istore 4, 2), (8, .iload_n 3, 1), (9, .iload 4, 2), (11, .if_icmp .ge 21, 3), (14, .aload_n 0, 1), (15, .getfield 14, 3), (18, .aload_n 0, 1), (19, .getfield 202, 3), (22, .iload_n 3, 1), (23, .iadd, 1), (24, .baload, 1), (25, .sipush 255, 3), (28, .iand, 1), (29, .goto 5, 3), (32, .bipush 64, 2), (34, .ireturn, 1)]
theorem D_M_parameter : ∀ q ∈ T_M_parameter, decode b_M_parameter q.1 = .ok (q.2.1, q.2.2) := by decide +kernel
def w_M_parameter_L34 (Qr : Int32 → xb_H → Prop) (y0 : Int32) (h : xb_H) : Prop :=
    Qr y0 h

def w_M_parameter (x0 : Nat) (x1 : Int32) (x2 : Int32) (x3 : Int32) (h : xb_H) (Qr : Int32 → xb_H → Prop) : Prop :=
    xb_k h x0 = 9 ∧ w_M_parameters x0 x1 x2 h (fun (r3 : Int32) (h2 : xb_H) => xb_ext h h2 → ((r3 ≤ x3 → w_M_parameter_L34 Qr 64 h2) ∧ (¬ r3 ≤ x3 → ∃ b5 : Nat, (xb_r h2 x0 3) = some b5 ∧ xb_k h2 b5 = 100 ∧ vp_in ((xb_i h2 x0 15) + x3) (xb_n h2 b5) ∧ w_M_parameter_L34 Qr ((xb_i h2 b5 (Int32.toNatClampNeg ((xb_i h2 x0 15) + x3))) &&& 255) h2)))

set_option maxHeartbeats 4000000 in
set_option maxRecDepth 100000 in
theorem am_M_parameter_L34 (l : Launch) (hfl : l.flags = pinnedFlags ++ [noTraceFlag]) (D : va_G) (A : Nat → Prop) (σ MC MS : Nat) (h0 : xb_H) (Qr : Int32 → xb_H → Prop) (y0 : Int32) (h : xb_H) (hw : w_M_parameter_L34 Qr y0 h) : xb_am l D A σ 6 MC MS h0 (fun v h => ∃ r, v = some (.int r) ∧ Qr r h) (fun _ _ => False) y_M_parameter.cls y_M_parameter.name b_M_parameter 5 ([] : List ExceptionTableEntry) (some .int) 34 [] [.int y0] h 0 0 := by
  unfold w_M_parameter_L34 at hw
  intro p e s m args below meth c hC H locs ls k n hE hl hR hS hk hn
  obtain ⟨hx, hb, hown, hlocks, htab, hml, hr, hB, hA, hnm⟩ := id hC
  have hts := hB.1.1.at args
  exact xb_iret hx hb hr hlocks (show k ≤ MC by omega) (show n ≤ MS by omega) hE hR hS (xb_d D_M_parameter 19 rfl) hw

set_option maxHeartbeats 4000000 in
set_option maxRecDepth 100000 in
theorem ok_M_parameter (l : Launch) (hfl : l.flags = pinnedFlags ++ [noTraceFlag]) (D : va_G) (A : Nat → Prop) (σ : Nat) (x0 : Nat) (x1 : Int32) (x2 : Int32) (x3 : Int32) (h : xb_H) (Qr : Int32 → xb_H → Prop) (hw : w_M_parameter x0 x1 x2 x3 h Qr) : xt_Met l y_M_parameter [.code y_M_parameter b_M_parameter 5 (some .int)] (xb_rm 6 0 0) (xb_Pc D A σ h [.ref x0, .int x1, .int x2, .int x3]) (xb_Qc D A h (fun v h => ∃ r, v = some (.int r) ∧ Qr r h) (fun _ _ => False)) 0 0 A := by
  refine xb_ofAm (cc := b_M_parameter) (by decide) (Nat.le_of_ble_eq_true rfl) ?_
  unfold w_M_parameter at hw
  show xb_am l D A σ 6 0 0 h (fun v h => ∃ r, v = some (.int r) ∧ Qr r h) (fun _ _ => False) y_M_parameter.cls y_M_parameter.name b_M_parameter 5 ([] : List ExceptionTableEntry) (some .int) 0 [(0, .ref x0), (1, .int x1), (2, .int x2), (3, .int x3)] [] h 0 0
  obtain ⟨MC, hMC⟩ : ∃ x, x = 0 := ⟨_, rfl⟩
  obtain ⟨MS, hMS⟩ : ∃ x, x = 0 := ⟨_, rfl⟩
  rw [show xb_am l D A σ 6 0 0 = xb_am l D A σ 6 MC MS by rw [hMC, hMS]]
  obtain ⟨h0, hh0⟩ : ∃ x, x = h := ⟨_, rfl⟩
  rw [show xb_am l D A σ 6 MC MS h = xb_am l D A σ 6 MC MS h0 by rw [hh0]]
  intro p e s m args below meth c hC H locs ls k n hE hl hR hS hk hn
  obtain ⟨hx, hb, hown, hlocks, htab, hml, hr, hB, hA, hnm⟩ := id hC
  have hts := hB.1.1.at args
  refine lv_aload_n hx hb (xb_d D_M_parameter 0 rfl) rfl (lv_at hl 0 rfl) ?_
  refine lv_iload_n hx hb (xb_d D_M_parameter 1 rfl) rfl (lv_at hl 1 rfl) ?_
  refine lv_iload_n hx hb (xb_d D_M_parameter 2 rfl) rfl (lv_at hl 2 rfl) ?_
  obtain ⟨hk1, hw⟩ := hw
  refine xb_call (D := D) (A := A) (σ := σ) (h := h) (d := 5) (mc := 0) (ms := 0) (maxL := 3) (rest := []) (av := [.ref x0, .int x1, .int x2]) (fun T hT X => by obtain ⟨cb, r1, r2, r3⟩ := xb_recv (ci := 8) hR rfl hk1 (by decide); exact xt_invV X hx hown (hts _ m_4fd64ef0) (hts _ m_2eb48211) (hts _ m_ff1f4a94) (xt_sigOf (hts _ m_2faa0c5c)) nm_M_parameters (by rw [hT]; exact r1) r2 r3 (g := F0 m 3 ls [.int x2, .int x1, .ref x0]) rfl (argsL := [.int x1, .int x2]) (rest := []) rfl rfl (by rw [hb]; exact (xb_d D_M_parameter 3 rfl))) (ok_M_parameters l hfl D A σ x0 x1 x2 h _ hw) (hml.trans hl.1.symm) (by rw [hb]; exact (xb_d D_M_parameter 3 rfl)) (Nat.le_of_ble_eq_true rfl) (Nat.le_of_ble_eq_true rfl) (Nat.le_of_ble_eq_true rfl) (show k + 0 ≤ MC by omega) (show n + 0 ≤ MS by omega) (xt_w1 hB.1 m_2faa0c5c) (xt_cdOf hB.1 m_2faa0c5c) (hts _ m_d5ed7bed) hB hR hS hA (fun vv h2 H locs hq hEh2 hR hS => ?_) (fun XX ax h2 H locs hq hEh2 hex hR hS => ?_)
  · obtain ⟨r3, rfl, hw⟩ := hq
    have hw := hw hEh2
    have hE := hE.tr hEh2
    refine W.eq (g2 := F0 m 6 ls [.int r3]) rfl ?_
    refine lv_istore hx hb (xb_d D_M_parameter 4 rfl) hl (by decide) rfl (fun ls hl => ?_)
    have hl : lv_has ls 5 [(4, .int r3), (0, .ref x0), (1, .int x1), (2, .int x2), (3, .int x3)] := hl
    refine lv_iload_n hx hb (xb_d D_M_parameter 5 rfl) rfl (lv_at hl 4 rfl) ?_
    refine lv_iload hx hb (xb_d D_M_parameter 6 rfl) (lv_at hl 0 rfl) ?_
    refine lv_icmp_ge (tgt := 32) hx hb (xb_d D_M_parameter 7 rfl) rfl (fun hc4 => ?_) (fun hc4 => ?_)
    · have hw := hw.1 hc4
      refine lv_bipush (v := 64) hx hb (xb_d D_M_parameter 18 rfl) (by decide) ?_
      exact am_M_parameter_L34 l hfl D A σ MC MS h0 Qr 64 h2 hw p e s m args below meth c hC H locs ls k n hE (lv_sub hl [] rfl) hR hS (by omega) (by omega)
    · have hw := hw.2 hc4
      refine lv_aload_n hx hb (xb_d D_M_parameter 8 rfl) rfl (lv_at hl 1 rfl) ?_
      have hk1 : xb_k h2 x0 = 9 := hEh2.k hk1
      refine xb_getP (C := R_M) (T := F_M) (N := 97) hx hb 8 3 hts fin_M hown hR hk1 (by decide) rfl (by decide) rfl (hts _ m_4f0568af) (fun _ h9 => h9) (xb_d D_M_parameter 9 rfl) ?_
      obtain ⟨b5, eb5, hw⟩ := hw
      refine xb_some eb5 ?_
      refine lv_aload_n hx hb (xb_d D_M_parameter 10 rfl) rfl (lv_at hl 1 rfl) ?_
      refine xb_getI (C := R_M) (T := F_M) (N := 97) hx hb 8 15 hts fin_M hown hR hk1 (by decide) rfl (by decide) rfl (hts _ m_6c2d27ad) (fun _ h9 => h9) (xb_d D_M_parameter 11 rfl) ?_
      refine lv_iload_n hx hb (xb_d D_M_parameter 12 rfl) rfl (lv_at hl 4 rfl) ?_
      refine lv_iadd hx hb (xb_d D_M_parameter 13 rfl) ?_
      obtain ⟨hk7, hw⟩ := hw
      obtain ⟨hi6, hw⟩ := hw
      refine xb_bald hx hb hR hk7 hi6 (xb_d D_M_parameter 14 rfl) ?_
      refine lv_sipush (v := 255) hx hb (xb_d D_M_parameter 15 rfl) (by decide) ?_
      refine lv_iand hx hb (xb_d D_M_parameter 16 rfl) ?_
      refine lv_goto (tgt := 34) hx hb (xb_d D_M_parameter 17 rfl) rfl ?_
      exact am_M_parameter_L34 l hfl D A σ MC MS h0 Qr ((xb_i h2 b5 (Int32.toNatClampNeg ((xb_i h2 x0 15) + x3))) &&& 255) h2 hw p e s m args below meth c hC H locs ls k n hE (lv_sub hl [] rfl) hR hS (by omega) (by omega)
  · exact False.elim hq

set_option maxRecDepth 100000 in
def T_M_resultOf : List (Nat × Instr × Nat) := [(0, .aload_n 0, 1), (1, .iload_n 1, 1), (2, .iload_n 2, 1), (3, .invokevirtual 333, 3), (6, .istore_n 3, 1), (7, .aload_n 0, 1), (8, .aload_n 0, 1), (9, .getfield 202, 3), (12, .iload_n 3, 1), (13, .iadd, 1), (14, .putfield 202, 3), (17, .aload_n 0, 1), (18, .invokevirtual 218, 3), (21, .lconst 0, 1), (22, .lcmp, 1), (23, .ifCond .ne 8, 3), (26, .bipush 64, 2), (28, .goto 16, 3), (31, .aload_n 0, 1), (32, .getfield 14, 3), (35, .aload_n 0, 1), (36, .getfield 202, 3), (39, .baload, 1), (40, .sipush 255, 3), (43, .iand, 1), (44, .ireturn, 1)]
theorem D_M_resultOf : ∀ q ∈ T_M_resultOf, decode b_M_resultOf q.1 = .ok (q.2.1, q.2.2) := by decide +kernel
def w_M_resultOf_L44 (Qr : Int32 → xb_H → Prop) (y0 : Int32) (h : xb_H) : Prop :=
    Qr y0 h

def w_M_resultOf (x0 : Nat) (x1 : Int32) (x2 : Int32) (h : xb_H) (Qr : Int32 → xb_H → Prop) : Prop :=
    xb_k h x0 = 9 ∧ w_M_parameters x0 x1 x2 h (fun (r3 : Int32) (h2 : xb_H) => xb_ext h h2 → ∀ h4 : xb_H, h4 = xb_I h2 x0 15 ((xb_i h2 x0 15) + r3) → w_M_count x0 h4 (fun (r6 : Int64) (h5 : xb_H) => xb_ext h4 h5 → ((¬ r6 = (0 : Int64) → ∃ b8 : Nat, (xb_r h5 x0 3) = some b8 ∧ xb_k h5 b8 = 100 ∧ vp_in (xb_i h5 x0 15) (xb_n h5 b8) ∧ w_M_resultOf_L44 Qr ((xb_i h5 b8 (Int32.toNatClampNeg (xb_i h5 x0 15))) &&& 255) h5) ∧ (r6 = (0 : Int64) → w_M_resultOf_L44 Qr 64 h5))))

set_option maxHeartbeats 4000000 in
set_option maxRecDepth 100000 in
theorem am_M_resultOf_L44 (l : Launch) (hfl : l.flags = pinnedFlags ++ [noTraceFlag]) (D : va_G) (A : Nat → Prop) (σ MC MS : Nat) (h0 : xb_H) (Qr : Int32 → xb_H → Prop) (y0 : Int32) (h : xb_H) (hw : w_M_resultOf_L44 Qr y0 h) : xb_am l D A σ 6 MC MS h0 (fun v h => ∃ r, v = some (.int r) ∧ Qr r h) (fun _ _ => False) y_M_resultOf.cls y_M_resultOf.name b_M_resultOf 4 ([] : List ExceptionTableEntry) (some .int) 44 [] [.int y0] h 0 0 := by
  unfold w_M_resultOf_L44 at hw
  intro p e s m args below meth c hC H locs ls k n hE hl hR hS hk hn
  obtain ⟨hx, hb, hown, hlocks, htab, hml, hr, hB, hA, hnm⟩ := id hC
  have hts := hB.1.1.at args
  exact xb_iret hx hb hr hlocks (show k ≤ MC by omega) (show n ≤ MS by omega) hE hR hS (xb_d D_M_resultOf 25 rfl) hw

set_option maxHeartbeats 4000000 in
set_option maxRecDepth 100000 in
theorem ok_M_resultOf (l : Launch) (hfl : l.flags = pinnedFlags ++ [noTraceFlag]) (D : va_G) (A : Nat → Prop) (σ : Nat) (x0 : Nat) (x1 : Int32) (x2 : Int32) (h : xb_H) (Qr : Int32 → xb_H → Prop) (hw : w_M_resultOf x0 x1 x2 h Qr) : xt_Met l y_M_resultOf [.code y_M_resultOf b_M_resultOf 4 (some .int)] (xb_rm 6 0 0) (xb_Pc D A σ h [.ref x0, .int x1, .int x2]) (xb_Qc D A h (fun v h => ∃ r, v = some (.int r) ∧ Qr r h) (fun _ _ => False)) 0 0 A := by
  refine xb_ofAm (cc := b_M_resultOf) (by decide) (Nat.le_of_ble_eq_true rfl) ?_
  unfold w_M_resultOf at hw
  show xb_am l D A σ 6 0 0 h (fun v h => ∃ r, v = some (.int r) ∧ Qr r h) (fun _ _ => False) y_M_resultOf.cls y_M_resultOf.name b_M_resultOf 4 ([] : List ExceptionTableEntry) (some .int) 0 [(0, .ref x0), (1, .int x1), (2, .int x2)] [] h 0 0
  obtain ⟨MC, hMC⟩ : ∃ x, x = 0 := ⟨_, rfl⟩
  obtain ⟨MS, hMS⟩ : ∃ x, x = 0 := ⟨_, rfl⟩
  rw [show xb_am l D A σ 6 0 0 = xb_am l D A σ 6 MC MS by rw [hMC, hMS]]
  obtain ⟨h0, hh0⟩ : ∃ x, x = h := ⟨_, rfl⟩
  rw [show xb_am l D A σ 6 MC MS h = xb_am l D A σ 6 MC MS h0 by rw [hh0]]
  intro p e s m args below meth c hC H locs ls k n hE hl hR hS hk hn
  obtain ⟨hx, hb, hown, hlocks, htab, hml, hr, hB, hA, hnm⟩ := id hC
  have hts := hB.1.1.at args
  refine lv_aload_n hx hb (xb_d D_M_resultOf 0 rfl) rfl (lv_at hl 0 rfl) ?_
  refine lv_iload_n hx hb (xb_d D_M_resultOf 1 rfl) rfl (lv_at hl 1 rfl) ?_
  refine lv_iload_n hx hb (xb_d D_M_resultOf 2 rfl) rfl (lv_at hl 2 rfl) ?_
  obtain ⟨hk1, hw⟩ := hw
  refine xb_call (D := D) (A := A) (σ := σ) (h := h) (d := 5) (mc := 0) (ms := 0) (maxL := 3) (rest := []) (av := [.ref x0, .int x1, .int x2]) (fun T hT X => by obtain ⟨cb, r1, r2, r3⟩ := xb_recv (ci := 8) hR rfl hk1 (by decide); exact xt_invV X hx hown (hts _ m_4fd64ef0) (hts _ m_2eb48211) (hts _ m_ff1f4a94) (xt_sigOf (hts _ m_2faa0c5c)) nm_M_parameters (by rw [hT]; exact r1) r2 r3 (g := F0 m 3 ls [.int x2, .int x1, .ref x0]) rfl (argsL := [.int x1, .int x2]) (rest := []) rfl rfl (by rw [hb]; exact (xb_d D_M_resultOf 3 rfl))) (ok_M_parameters l hfl D A σ x0 x1 x2 h _ hw) (hml.trans hl.1.symm) (by rw [hb]; exact (xb_d D_M_resultOf 3 rfl)) (Nat.le_of_ble_eq_true rfl) (Nat.le_of_ble_eq_true rfl) (Nat.le_of_ble_eq_true rfl) (show k + 0 ≤ MC by omega) (show n + 0 ≤ MS by omega) (xt_w1 hB.1 m_2faa0c5c) (xt_cdOf hB.1 m_2faa0c5c) (hts _ m_d5ed7bed) hB hR hS hA (fun vv h2 H locs hq hEh2 hR hS => ?_) (fun XX ax h2 H locs hq hEh2 hex hR hS => ?_)
  · obtain ⟨r3, rfl, hw⟩ := hq
    have hw := hw hEh2
    have hE := hE.tr hEh2
    refine W.eq (g2 := F0 m 6 ls [.int r3]) rfl ?_
    refine lv_istore_n hx hb (xb_d D_M_resultOf 4 rfl) rfl hl (by decide) rfl (fun ls hl => ?_)
    have hl : lv_has ls 4 [(3, .int r3), (0, .ref x0), (1, .int x1), (2, .int x2)] := hl
    refine lv_aload_n hx hb (xb_d D_M_resultOf 5 rfl) rfl (lv_at hl 1 rfl) ?_
    refine lv_aload_n hx hb (xb_d D_M_resultOf 6 rfl) rfl (lv_at hl 1 rfl) ?_
    have hk1 : xb_k h2 x0 = 9 := hEh2.k hk1
    refine xb_getI (C := R_M) (T := F_M) (N := 97) hx hb 8 15 hts fin_M hown hR hk1 (by decide) rfl (by decide) rfl (hts _ m_6c2d27ad) (fun _ h9 => h9) (xb_d D_M_resultOf 7 rfl) ?_
    refine lv_iload_n hx hb (xb_d D_M_resultOf 8 rfl) rfl (lv_at hl 0 rfl) ?_
    refine lv_iadd hx hb (xb_d D_M_resultOf 9 rfl) ?_
    refine xb_putI (C := R_M) (T := F_M) (N := 97) (ty := .int) (x := ((xb_i h2 x0 15) + r3)) hx hb 8 15 hts fin_M t_M t_M_ok n_M hown hR hS hk1 (by decide) rfl (by decide) rfl (hts _ m_6c2d27ad) (fun _ h9 => h9) rfl (by decide +kernel) rfl rfl (xb_d D_M_resultOf 10 rfl) (fun H locs hR hS => ?_)
    obtain ⟨h4, eh4⟩ : ∃ x : xb_H, x = xb_I h2 x0 15 ((xb_i h2 x0 15) + r3) := ⟨_, rfl⟩
    rw [← eh4] at hR
    have hw := hw h4 eh4
    have hE : xb_ext h0 h4 := by rw [eh4]; exact hE
    refine lv_aload_n hx hb (xb_d D_M_resultOf 11 rfl) rfl (lv_at hl 1 rfl) ?_
    have hk1 : xb_k h4 x0 = 9 := by rw [eh4]; exact hk1
    refine xb_call (D := D) (A := A) (σ := σ) (h := h4) (d := 4) (mc := 0) (ms := 0) (maxL := 5) (rest := []) (av := [.ref x0]) (fun T hT X => by obtain ⟨cb, r1, r2, r3⟩ := xb_recv (ci := 8) hR rfl hk1 (by decide); exact xt_invV X hx hown (hts _ m_e991293f) (hts _ m_385a74b3) (hts _ m_c9fbcd02) (xt_sigOf (hts _ m_1f53f210)) nm_M_count (by rw [hT]; exact r1) r2 r3 (g := F0 m 18 ls [.ref x0]) rfl (argsL := []) (rest := []) rfl rfl (by rw [hb]; exact (xb_d D_M_resultOf 12 rfl))) (ok_M_count l hfl D A σ x0 h4 _ hw) (hml.trans hl.1.symm) (by rw [hb]; exact (xb_d D_M_resultOf 12 rfl)) (Nat.le_of_ble_eq_true rfl) (Nat.le_of_ble_eq_true rfl) (Nat.le_of_ble_eq_true rfl) (show k + 0 ≤ MC by omega) (show n + 0 ≤ MS by omega) (xt_w1 hB.1 m_1f53f210) (xt_cdOf hB.1 m_1f53f210) (hts _ m_d5ed7bed) hB hR hS hA (fun vv h5 H locs hq hEh5 hR hS => ?_) (fun XX ax h5 H locs hq hEh5 hex hR hS => ?_)
    · obtain ⟨r6, rfl, hw⟩ := hq
      have hw := hw hEh5
      have hE := hE.tr hEh5
      refine W.eq (g2 := F0 m 21 ls [.long r6]) rfl ?_
      refine lv_lconst (v := 0) hx hb (xb_d D_M_resultOf 13 rfl) (by decide) ?_
      refine xb_lc_ne (tgt := 31) hx hb (xb_d D_M_resultOf 14 rfl) (xb_d D_M_resultOf 15 rfl) rfl (fun hc7 => ?_) (fun hc7 => ?_)
      · have hw := hw.1 hc7
        refine lv_aload_n hx hb (xb_d D_M_resultOf 18 rfl) rfl (lv_at hl 1 rfl) ?_
        have hk1 : xb_k h5 x0 = 9 := hEh5.k hk1
        refine xb_getP (C := R_M) (T := F_M) (N := 97) hx hb 8 3 hts fin_M hown hR hk1 (by decide) rfl (by decide) rfl (hts _ m_4f0568af) (fun _ h9 => h9) (xb_d D_M_resultOf 19 rfl) ?_
        obtain ⟨b8, eb8, hw⟩ := hw
        refine xb_some eb8 ?_
        refine lv_aload_n hx hb (xb_d D_M_resultOf 20 rfl) rfl (lv_at hl 1 rfl) ?_
        refine xb_getI (C := R_M) (T := F_M) (N := 97) hx hb 8 15 hts fin_M hown hR hk1 (by decide) rfl (by decide) rfl (hts _ m_6c2d27ad) (fun _ h9 => h9) (xb_d D_M_resultOf 21 rfl) ?_
        obtain ⟨hk10, hw⟩ := hw
        obtain ⟨hi9, hw⟩ := hw
        refine xb_bald hx hb hR hk10 hi9 (xb_d D_M_resultOf 22 rfl) ?_
        refine lv_sipush (v := 255) hx hb (xb_d D_M_resultOf 23 rfl) (by decide) ?_
        refine lv_iand hx hb (xb_d D_M_resultOf 24 rfl) ?_
        exact am_M_resultOf_L44 l hfl D A σ MC MS h0 Qr ((xb_i h5 b8 (Int32.toNatClampNeg (xb_i h5 x0 15))) &&& 255) h5 hw p e s m args below meth c hC H locs ls k n hE (lv_sub hl [] rfl) hR hS (by omega) (by omega)
      · have hw := hw.2 hc7
        refine lv_bipush (v := 64) hx hb (xb_d D_M_resultOf 16 rfl) (by decide) ?_
        refine lv_goto (tgt := 44) hx hb (xb_d D_M_resultOf 17 rfl) rfl ?_
        exact am_M_resultOf_L44 l hfl D A σ MC MS h0 Qr 64 h5 hw p e s m args below meth c hC H locs ls k n hE (lv_sub hl [] rfl) hR hS (by omega) (by omega)
    · exact False.elim hq
  · exact False.elim hq

theorem m_27918af5 : (.methodLink "StackHostModel" 237 y_M_limits : Cond) ∈ xt_tbl := xt_in (xt_t11 (List.mem_of_getElem? (i := 28) (by decide +kernel))) (by decide +kernel)
theorem m_8f0ce704 : (.instanceMethod y_M_limits : Cond) ∈ xt_tbl := xt_in (xt_t11 (List.mem_of_getElem? (i := 30) (by decide +kernel))) (by decide +kernel)
theorem m_1c9ac27d : (.selects "StackHostModel" y_M_limits y_M_limits : Cond) ∈ xt_tbl := xt_in (xt_v10 (q := (⟨"StackHostModel", "limits", "()V"⟩, 97)) (List.mem_of_getElem? (i := 0) (by decide +kernel))) (by decide +kernel)
theorem m_c998ef6e : (.code y_M_limits b_M_limits 3 none : Cond) ∈ xt_tbl := xt_in (xt_t11 (List.mem_of_getElem? (i := 31) (by decide +kernel))) (by decide +kernel)
theorem nm_M_limits : xt_nm y_M_limits 0 := ⟨by decide +kernel, by decide +kernel⟩
set_option maxRecDepth 100000 in
def T_M_tableType : List (Nat × Instr × Nat) := [(0, .aload_n 0, 1), (1, .bipush 112, 2), (3, .bipush 112, 2), (5, .invokevirtual 234, 3), (8, .aload_n 0, 1), (9, .invokevirtual 237, 3), (12, .return_, 1)]
theorem D_M_tableType : ∀ q ∈ T_M_tableType, decode b_M_tableType q.1 = .ok (q.2.1, q.2.2) := by decide +kernel
def w_M_tableType (x0 : Nat) (h : xb_H) (Qr : xb_H → Prop) : Prop :=
    xb_k h x0 = 9 ∧ w_M_wanted x0 112 112 h (fun (h2 : xb_H) => xb_ext h h2 → w_M_limits x0 h2 (fun (h4 : xb_H) => xb_ext h2 h4 → Qr h4))

set_option maxHeartbeats 4000000 in
set_option maxRecDepth 100000 in
theorem ok_M_tableType (l : Launch) (hfl : l.flags = pinnedFlags ++ [noTraceFlag]) (D : va_G) (A : Nat → Prop) (σ : Nat) (x0 : Nat) (h : xb_H) (Qr : xb_H → Prop) (hw : w_M_tableType x0 h Qr) : xt_Met l y_M_tableType [.code y_M_tableType b_M_tableType 1 none] (xb_rm 6 0 0) (xb_Pc D A σ h [.ref x0]) (xb_Qc D A h (fun v h => v = none ∧ Qr h) (fun _ _ => False)) 0 0 A := by
  refine xb_ofAm (cc := b_M_tableType) (by decide) (Nat.le_of_ble_eq_true rfl) ?_
  unfold w_M_tableType at hw
  show xb_am l D A σ 6 0 0 h (fun v h => v = none ∧ Qr h) (fun _ _ => False) y_M_tableType.cls y_M_tableType.name b_M_tableType 1 ([] : List ExceptionTableEntry) none 0 [(0, .ref x0)] [] h 0 0
  obtain ⟨MC, hMC⟩ : ∃ x, x = 0 := ⟨_, rfl⟩
  obtain ⟨MS, hMS⟩ : ∃ x, x = 0 := ⟨_, rfl⟩
  rw [show xb_am l D A σ 6 0 0 = xb_am l D A σ 6 MC MS by rw [hMC, hMS]]
  obtain ⟨h0, hh0⟩ : ∃ x, x = h := ⟨_, rfl⟩
  rw [show xb_am l D A σ 6 MC MS h = xb_am l D A σ 6 MC MS h0 by rw [hh0]]
  intro p e s m args below meth c hC H locs ls k n hE hl hR hS hk hn
  obtain ⟨hx, hb, hown, hlocks, htab, hml, hr, hB, hA, hnm⟩ := id hC
  have hts := hB.1.1.at args
  refine lv_aload_n hx hb (xb_d D_M_tableType 0 rfl) rfl (lv_at hl 0 rfl) ?_
  refine lv_bipush (v := 112) hx hb (xb_d D_M_tableType 1 rfl) (by decide) ?_
  refine lv_bipush (v := 112) hx hb (xb_d D_M_tableType 2 rfl) (by decide) ?_
  obtain ⟨hk1, hw⟩ := hw
  refine xb_call (D := D) (A := A) (σ := σ) (h := h) (d := 4) (mc := 0) (ms := 0) (maxL := 4) (rest := []) (av := [.ref x0, .int 112, .int 112]) (fun T hT X => by obtain ⟨cb, r1, r2, r3⟩ := xb_recv (ci := 8) hR rfl hk1 (by decide); exact xt_invV X hx hown (hts _ m_8f6f4626) (hts _ m_01caba2f) (hts _ m_4616b4d4) (xt_sigOf (hts _ m_6db7f9f9)) nm_M_wanted (by rw [hT]; exact r1) r2 r3 (g := F0 m 5 ls [.int 112, .int 112, .ref x0]) rfl (argsL := [.int 112, .int 112]) (rest := []) rfl rfl (by rw [hb]; exact (xb_d D_M_tableType 3 rfl))) (ok_M_wanted l hfl D A σ x0 112 112 h _ hw) (hml.trans hl.1.symm) (by rw [hb]; exact (xb_d D_M_tableType 3 rfl)) (Nat.le_of_ble_eq_true rfl) (Nat.le_of_ble_eq_true rfl) (Nat.le_of_ble_eq_true rfl) (show k + 0 ≤ MC by omega) (show n + 0 ≤ MS by omega) (xt_w1 hB.1 m_6db7f9f9) (xt_cdOf hB.1 m_6db7f9f9) (hts _ m_d5ed7bed) hB hR hS hA (fun vv h2 H locs hq hEh2 hR hS => ?_) (fun XX ax h2 H locs hq hEh2 hex hR hS => ?_)
  · obtain ⟨rfl, hw⟩ := hq
    have hw := hw hEh2
    have hE := hE.tr hEh2
    refine W.eq (g2 := F0 m 8 ls []) rfl ?_
    refine lv_aload_n hx hb (xb_d D_M_tableType 4 rfl) rfl (lv_at hl 0 rfl) ?_
    have hk1 : xb_k h2 x0 = 9 := hEh2.k hk1
    refine xb_call (D := D) (A := A) (σ := σ) (h := h2) (d := 5) (mc := 0) (ms := 0) (maxL := 3) (rest := []) (av := [.ref x0]) (fun T hT X => by obtain ⟨cb, r1, r2, r3⟩ := xb_recv (ci := 8) hR rfl hk1 (by decide); exact xt_invV X hx hown (hts _ m_27918af5) (hts _ m_8f0ce704) (hts _ m_1c9ac27d) (xt_sigOf (hts _ m_c998ef6e)) nm_M_limits (by rw [hT]; exact r1) r2 r3 (g := F0 m 9 ls [.ref x0]) rfl (argsL := []) (rest := []) rfl rfl (by rw [hb]; exact (xb_d D_M_tableType 5 rfl))) (ok_M_limits l hfl D A σ x0 h2 _ hw) (hml.trans hl.1.symm) (by rw [hb]; exact (xb_d D_M_tableType 5 rfl)) (Nat.le_of_ble_eq_true rfl) (Nat.le_of_ble_eq_true rfl) (Nat.le_of_ble_eq_true rfl) (show k + 0 ≤ MC by omega) (show n + 0 ≤ MS by omega) (xt_w1 hB.1 m_c998ef6e) (xt_cdOf hB.1 m_c998ef6e) (hts _ m_d5ed7bed) hB hR hS hA (fun vv h4 H locs hq hEh4 hR hS => ?_) (fun XX ax h4 H locs hq hEh4 hex hR hS => ?_)
    · obtain ⟨rfl, hw⟩ := hq
      have hw := hw hEh4
      have hE := hE.tr hEh4
      refine W.eq (g2 := F0 m 12 ls []) rfl ?_
      exact xb_vret hx hb hr hlocks (show k ≤ MC by omega) (show n ≤ MS by omega) hE hR hS (xb_d D_M_tableType 6 rfl) hw
    · exact False.elim hq
  · exact False.elim hq

