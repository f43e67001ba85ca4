theorem m_dbba3a05 : (.methodLink "StackHostModel" 255 y_M_skip : Cond) ∈ xt_tbl := xt_in (xt_t11 (List.mem_of_getElem? (i := 51) (by decide +kernel))) (by decide +kernel)
theorem m_5f0e3dde : (.instanceMethod y_M_skip : Cond) ∈ xt_tbl := xt_in (xt_t11 (List.mem_of_getElem? (i := 53) (by decide +kernel))) (by decide +kernel)
theorem m_3b85804e : (.selects "StackHostModel" y_M_skip y_M_skip : Cond) ∈ xt_tbl := xt_in (xt_v10 (q := (⟨"StackHostModel", "skip", "(J)V"⟩, 97)) (List.mem_of_getElem? (i := 5) (by decide +kernel))) (by decide +kernel)
theorem m_d537edcb : (.code y_M_skip b_M_skip 3 none : Cond) ∈ xt_tbl := xt_in (xt_t11 (List.mem_of_getElem? (i := 54) (by decide +kernel))) (by decide +kernel)
theorem m_ce01fc01 : (.constantLong "StackHostModel" 253 8 : Cond) ∈ xt_tbl := xt_in (xt_t11 (List.mem_of_getElem? (i := 50) (by decide +kernel))) (by decide +kernel)
theorem m_065c51a0 : (.methodLink "StackHostModel" 243 y_M_row : Cond) ∈ xt_tbl := xt_in (xt_t11 (List.mem_of_getElem? (i := 9) (by decide +kernel))) (by decide +kernel)
theorem m_29bd5f42 : (.instanceMethod y_M_row : Cond) ∈ xt_tbl := xt_in (xt_t11 (List.mem_of_getElem? (i := 11) (by decide +kernel))) (by decide +kernel)
theorem m_39b260c0 : (.selects "StackHostModel" y_M_row y_M_row : Cond) ∈ xt_tbl := xt_in (xt_v9 (q := (⟨"StackHostModel", "row", "(Z)V"⟩, 97)) (List.mem_of_getElem? (i := 12) (by decide +kernel))) (by decide +kernel)
theorem m_f669d6ca : (.code y_M_row b_M_row 6 none : Cond) ∈ xt_tbl := xt_in (xt_t11 (List.mem_of_getElem? (i := 12) (by decide +kernel))) (by decide +kernel)
theorem nm_M_skip : xt_nm y_M_skip 1 := ⟨by decide +kernel, by decide +kernel⟩
theorem nm_M_row : xt_nm y_M_row 1 := ⟨by decide +kernel, by decide +kernel⟩
set_option maxRecDepth 100000 in
def T_M_written : List (Nat × Instr × Nat) := [(0, .iload_n 1, 1), (1, .iconst 2, 1), (2, .if_icmp .eq 13, 3), (5, .iload_n 1, 1), (6, .iconst 3, 1), (7, .if_icmp .eq 8, 3), (10, .iload_n 1, 1), (11, .iconst 4, 1), (12, .if_icmp .ne 42, 3), (15, .aload_n 0, 1), (16, .invokevirtual 212, 3), (19, .istore_n 3, 1), (20, .aload_n 0, 1), (21, .getfield 193, 3), (24, .ifCond .ne 27, 3), (27, .iload_n 3, 1), (28, .bipush 64, 2), (30, .if_icmp .eq 21, 3), (33, .iload_n 3, 1), (34, .invokestatic 230, 3), (37, .ifCond .ne 14, 3), (40, .aload_n 0, 1), (41, .iconst 5, 1), (42, .aload_n 0, 1), (43, .getfield 202, 3), (46, .iconst 1, 1), (47, .isub, 1), (48, .invokevirtual 208, 3), (51, .goto 250, 3), (54, .iload_n 1, 1), (55, .bipush 12, 2), (57, .if_icmp .eq 27, 3), (60, .iload_n 1, 1), (61, .bipush 13, 2), (63, .if_icmp .eq 21, 3), (66, .iload_n 1, 1), (67, .bipush 16, 2), (69, .if_icmp .eq 15, 3), (72, .iload_n 1, 1), (73, .bipush 32, 2), (75, .if_icmp .lt 17, 3), (78, .iload_n 1, 1), (79, .bipush 36, 2), (81, .if_icmp .gt 11, 3), (84, .aload_n 0, 1), (85, .invokevirtual 218, 3), (88, .pop2, 1), (89, .goto 212, 3), (92, .iload_n 1, 1), (93, .bipush 14, 2), (95, .if_icmp .ne 16, 3), (98, .aload_n 0, 1), (99, .iconst 0, 1), (100, .invokevirtual 243, 3), (103, .aload_n 0, 1), (104, .invokevirtual 218, 3), (107, .pop2, 1), (108, .goto 193, 3), (111, .iload_n 1, 1), (112, .bipush 17, 2), (114, .if_icmp .ne 17, 3), (117, .aload_n 0, 1), (118, .invokevirtual 218, 3), (121, .pop2, 1), (122, .aload_n 0, 1), (123, .iconst 0, 1), (124, .iconst 0, 1), (125, .invokevirtual 234, 3), (128, .goto 173, 3), (131, .iload_n 1, 1), (132, .bipush 40, 2), (134, .if_icmp .lt 22, 3), (137, .iload_n 1, 1), (138, .bipush 62, 2), (140, .if_icmp .gt 16, 3), (143, .aload_n 0, 1), (144, .invokevirtual 218, 3), (147, .pop2, 1), (148, .aload_n 0, 1), (149, .invokevirtual 218, 3), (152, .pop2, 1), (153, .goto 148, 3), (156, .iload_n 1, 1), (157, .bipush 63, 2), (159, .if_icmp .eq 9, 3), (162, .iload_n 1, 1), (163, .bipush 64, 2), (165, .if_icmp .ne 12, 3), (168, .aload_n 0, 1), (169, .iconst 0, 1), (170, .iconst 0, 1), (171, .invokevirtual 234, 3), (174, .goto 127, 3), (177, .iload_n 1, 1), (178, .bipush 65, 2), (180, .if_icmp .eq 9, 3), (183, .iload_n 1, 1), (184, .bipush 66, 2), (186, .if_icmp .ne 24, 3), (189, .aload_n 0, 1), (190, .iload_n 1, 1), (191, .bipush 65, 2), (193, .if_icmp .ne 8, 3), (196, .bipush 32, 2), (198, .goto 5, 3), (201, .bipush 64, 2), (203, .invokevirtual 247, 3), (206, .pop2, 1), (207, .goto 94, 3), (210, .iload_n 1, 1), (211, .bipush 67, 2), (213, .if_icmp .eq 9, 3), (216, .iload_n 1, 1), (217, .bipush 68, 2), (219, .if_icmp .ne 25, 3), (222, .aload_n 0, 1), (223, .iload_n 1, 1), (224, .bipush 67, 2), (226, .if_icmp .ne 9, 3), (229, .ldc2_w 251, 3), (232, .goto 6, 3), (235, .ldc2_w 253, 3), (238, .invokevirtual 255, 3), (241, .goto 60, 3), (244, .iload_n 1, 1), (245, .ifCond .eq 56, 3), (248, .iload_n 1, 1), (249, .iconst 1, 1), (250, .if_icmp .eq 51, 3), (253, .iload_n 1, 1), (254, .iconst 5, 1), (255, .if_icmp .eq 46, 3), (258, .iload_n 1, 1), (259, .bipush 11, 2), (261, .if_icmp .eq 40, 3), (264, .iload_n 1, 1), (265, .bipush 15, 2), (267, .if_icmp .eq 34, 3), (270, .iload_n 1, 1), (271, .bipush 26, 2), (273, .if_icmp .eq 28, 3), (276, .iload_n 1, 1), (277, .bipush 27, 2), (279, .if_icmp .eq 22, 3), (282, .iload_n 1, 1), (283, .bipush 69, 2), (285, .if_icmp .lt 10, 3), (288, .iload_n 1, 1), (289, .sipush 191, 3), (292, .if_icmp .le 9, 3), (295, .aload_n 0, 1), (296, .iconst 5, 1), (297, .iload_n 2, 1), (298, .invokevirtual 208, 3), (301, .return_, 1)]
theorem D_M_written : ∀ q ∈ T_M_written, decode b_M_written q.1 = .ok (q.2.1, q.2.2) := by decide +kernel
def w_M_written_L301 (Qr : xb_H → Prop) (h : xb_H) : Prop :=
    Qr h

def w_M_written_L295 (Qr : xb_H → Prop) (x0 : Nat) (x2 : Int32) (h : xb_H) : Prop :=
    xb_k h x0 = 9 ∧ w_M_fail x0 5 x2 h (fun (h2 : xb_H) => xb_ext h h2 → w_M_written_L301 Qr h2)

def w_M_written_L238 (Qr : xb_H → Prop) (y0 : Int64) (y1 : Nat) (h : xb_H) : Prop :=
    xb_k h y1 = 9 ∧ w_M_skip y1 y0 h (fun (h2 : xb_H) => xb_ext h h2 → w_M_written_L301 Qr h2)

def w_M_written_L222 (Qr : xb_H → Prop) (x0 : Nat) (x1 : Int32) (h : xb_H) : Prop :=
    ((¬ x1 = (67 : Int32) → w_M_written_L238 Qr 8 x0 h) ∧ (x1 = (67 : Int32) → w_M_written_L238 Qr 4 x0 h))

def w_M_written_L203 (Qr : xb_H → Prop) (y0 : Int32) (y1 : Nat) (h : xb_H) : Prop :=
    xb_k h y1 = 9 ∧ w_M_signed y1 y0 h (fun (r3 : Int64) (h2 : xb_H) => xb_ext h h2 → w_M_written_L301 Qr h2)

def w_M_written_L189 (Qr : xb_H → Prop) (x0 : Nat) (x1 : Int32) (h : xb_H) : Prop :=
    ((¬ x1 = (65 : Int32) → w_M_written_L203 Qr 64 x0 h) ∧ (x1 = (65 : Int32) → w_M_written_L203 Qr 32 x0 h))

def w_M_written_L168 (Qr : xb_H → Prop) (x0 : Nat) (h : xb_H) : Prop :=
    xb_k h x0 = 9 ∧ w_M_wanted x0 0 0 h (fun (h2 : xb_H) => xb_ext h h2 → w_M_written_L301 Qr h2)

def w_M_written_L156 (Qr : xb_H → Prop) (x0 : Nat) (x1 : Int32) (x2 : Int32) (h : xb_H) : Prop :=
    ((x1 = (63 : Int32) → w_M_written_L168 Qr x0 h) ∧ (¬ x1 = (63 : Int32) → ((¬ x1 = (64 : Int32) → ((x1 = (65 : Int32) → w_M_written_L189 Qr x0 x1 h) ∧ (¬ x1 = (65 : Int32) → ((¬ x1 = (66 : Int32) → ((x1 = (67 : Int32) → w_M_written_L222 Qr x0 x1 h) ∧ (¬ x1 = (67 : Int32) → ((¬ x1 = (68 : Int32) → ((x1 = (0 : Int32) → w_M_written_L301 Qr h) ∧ (¬ x1 = (0 : Int32) → ((x1 = (1 : Int32) → w_M_written_L301 Qr h) ∧ (¬ x1 = (1 : Int32) → ((x1 = (5 : Int32) → w_M_written_L301 Qr h) ∧ (¬ x1 = (5 : Int32) → ((x1 = (11 : Int32) → w_M_written_L301 Qr h) ∧ (¬ x1 = (11 : Int32) → ((x1 = (15 : Int32) → w_M_written_L301 Qr h) ∧ (¬ x1 = (15 : Int32) → ((x1 = (26 : Int32) → w_M_written_L301 Qr h) ∧ (¬ x1 = (26 : Int32) → ((x1 = (27 : Int32) → w_M_written_L301 Qr h) ∧ (¬ x1 = (27 : Int32) → ((x1 < (69 : Int32) → w_M_written_L295 Qr x0 x2 h) ∧ (¬ x1 < (69 : Int32) → ((x1 ≤ (191 : Int32) → w_M_written_L301 Qr h) ∧ (¬ x1 ≤ (191 : Int32) → w_M_written_L295 Qr x0 x2 h))))))))))))))))))) ∧ (x1 = (68 : Int32) → w_M_written_L222 Qr x0 x1 h))))) ∧ (x1 = (66 : Int32) → w_M_written_L189 Qr x0 x1 h))))) ∧ (x1 = (64 : Int32) → w_M_written_L168 Qr x0 h))))

def w_M_written_L92 (Qr : xb_H → Prop) (x0 : Nat) (x1 : Int32) (x2 : Int32) (h : xb_H) : Prop :=
    ((¬ x1 = (14 : Int32) → ((¬ x1 = (17 : Int32) → ((x1 < (40 : Int32) → w_M_written_L156 Qr x0 x1 x2 h) ∧ (¬ x1 < (40 : Int32) → (((62 : Int32) < x1 → w_M_written_L156 Qr x0 x1 x2 h) ∧ (¬ (62 : Int32) < x1 → xb_k h x0 = 9 ∧ w_M_count x0 h (fun (r7 : Int64) (h6 : xb_H) => xb_ext h h6 → w_M_count x0 h6 (fun (r9 : Int64) (h8 : xb_H) => xb_ext h6 h8 → w_M_written_L301 Qr h8))))))) ∧ (x1 = (17 : Int32) → xb_k h x0 = 9 ∧ w_M_count x0 h (fun (r12 : Int64) (h11 : xb_H) => xb_ext h h11 → w_M_wanted x0 0 0 h11 (fun (h13 : xb_H) => xb_ext h11 h13 → w_M_written_L301 Qr h13))))) ∧ (x1 = (14 : Int32) → xb_k h x0 = 9 ∧ w_M_row x0 0 h (fun (h16 : xb_H) => xb_ext h h16 → w_M_count x0 h16 (fun (r19 : Int64) (h18 : xb_H) => xb_ext h16 h18 → w_M_written_L301 Qr h18))))

def w_M_written_L84 (Qr : xb_H → Prop) (x0 : Nat) (h : xb_H) : Prop :=
    xb_k h x0 = 9 ∧ w_M_count x0 h (fun (r3 : Int64) (h2 : xb_H) => xb_ext h h2 → w_M_written_L301 Qr h2)

def w_M_written_L51 (Qr : xb_H → Prop) (h : xb_H) : Prop :=
    w_M_written_L301 Qr h

def w_M_written_L15 (Qr : xb_H → Prop) (x0 : Nat) (h : xb_H) : Prop :=
    xb_k h x0 = 9 ∧ w_M_next x0 h (fun (r3 : Int32) (h2 : xb_H) => xb_ext h h2 → ((¬ (xb_i h2 x0 17) = (0 : Int32) → w_M_written_L51 Qr h2) ∧ ((xb_i h2 x0 17) = (0 : Int32) → ((r3 = (64 : Int32) → w_M_written_L51 Qr h2) ∧ (¬ r3 = (64 : Int32) → w_M_isType r3 h2 (fun (r7 : Int32) (h6 : xb_H) => xb_ext h2 h6 → ((¬ r7 = (0 : Int32) → w_M_written_L51 Qr h6) ∧ (r7 = (0 : Int32) → w_M_fail x0 5 ((xb_i h6 x0 15) - 1) h6 (fun (h9 : xb_H) => xb_ext h6 h9 → w_M_written_L51 Qr h9)))))))))

def w_M_written (x0 : Nat) (x1 : Int32) (x2 : Int32) (h : xb_H) (Qr : xb_H → Prop) : Prop :=
    ((x1 = (2 : Int32) → w_M_written_L15 Qr x0 h) ∧ (¬ x1 = (2 : Int32) → ((x1 = (3 : Int32) → w_M_written_L15 Qr x0 h) ∧ (¬ x1 = (3 : Int32) → ((¬ x1 = (4 : Int32) → ((x1 = (12 : Int32) → w_M_written_L84 Qr x0 h) ∧ (¬ x1 = (12 : Int32) → ((x1 = (13 : Int32) → w_M_written_L84 Qr x0 h) ∧ (¬ x1 = (13 : Int32) → ((x1 = (16 : Int32) → w_M_written_L84 Qr x0 h) ∧ (¬ x1 = (16 : Int32) → ((x1 < (32 : Int32) → w_M_written_L92 Qr x0 x1 x2 h) ∧ (¬ x1 < (32 : Int32) → (((36 : Int32) < x1 → w_M_written_L92 Qr x0 x1 x2 h) ∧ (¬ (36 : Int32) < x1 → w_M_written_L84 Qr x0 h))))))))))) ∧ (x1 = (4 : Int32) → w_M_written_L15 Qr x0 h))))))

set_option maxHeartbeats 4000000 in
set_option maxRecDepth 100000 in
theorem am_M_written_L301 (l : Launch) (hfl : l.flags = pinnedFlags ++ [noTraceFlag]) (D : va_G) (A : Nat → Prop) (σ MC MS : Nat) (h0 : xb_H) (Qr : xb_H → Prop) (h : xb_H) (hw : w_M_written_L301 Qr h) : xb_am l D A σ 6 MC MS h0 (fun v h => v = none ∧ Qr h) (fun _ _ => False) y_M_written.cls y_M_written.name b_M_written 4 ([] : List ExceptionTableEntry) none 301 [] [] h 0 0 := by
  unfold w_M_written_L301 at hw
  intro p e s m args below meth c hC H locs ls k n hE hl hR hS hk hn
  obtain ⟨hx, hb, hown, hlocks, htab, hml, hr, hB, hA, hnm⟩ := id hC
  have hts := hB.1.1.at args
  exact xb_vret hx hb hr hlocks (show k ≤ MC by omega) (show n ≤ MS by omega) hE hR hS (xb_d D_M_written 154 rfl) hw

set_option maxHeartbeats 4000000 in
set_option maxRecDepth 100000 in
theorem am_M_written_L295 (l : Launch) (hfl : l.flags = pinnedFlags ++ [noTraceFlag]) (D : va_G) (A : Nat → Prop) (σ MC MS : Nat) (h0 : xb_H) (Qr : xb_H → Prop) (x0 : Nat) (x2 : Int32) (h : xb_H) (hw : w_M_written_L295 Qr x0 x2 h) : xb_am l D A σ 6 MC MS h0 (fun v h => v = none ∧ Qr h) (fun _ _ => False) y_M_written.cls y_M_written.name b_M_written 4 ([] : List ExceptionTableEntry) none 295 [(0, .ref x0), (2, .int x2)] [] h 0 0 := by
  unfold w_M_written_L295 at hw
  intro p e s m args below meth c hC H locs ls k n hE hl hR hS hk hn
  obtain ⟨hx, hb, hown, hlocks, htab, hml, hr, hB, hA, hnm⟩ := id hC
  have hts := hB.1.1.at args
  refine lv_aload_n hx hb (xb_d D_M_written 150 rfl) rfl (lv_at hl 0 rfl) ?_
  refine lv_iconst (v := 5) hx hb (xb_d D_M_written 151 rfl) (by decide) ?_
  refine lv_iload_n hx hb (xb_d D_M_written 152 rfl) rfl (lv_at hl 1 rfl) ?_
  obtain ⟨hk1, hw⟩ := hw
  refine xb_call (D := D) (A := A) (σ := σ) (h := h) (d := 2) (mc := 0) (ms := 0) (maxL := 3) (rest := []) (av := [.ref x0, .int 5, .int x2]) (fun T hT X => by obtain ⟨cb, r1, r2, r3⟩ := xb_recv (ci := 8) hR rfl hk1 (by decide); exact xt_invV X hx hown (hts _ m_939052ad) (hts _ m_29cc8c73) (hts _ m_3b1ac7ab) (xt_sigOf (hts _ m_8f062ecd)) nm_M_fail (by rw [hT]; exact r1) r2 r3 (g := F0 m 298 ls [.int x2, .int 5, .ref x0]) rfl (argsL := [.int 5, .int x2]) (rest := []) rfl rfl (by rw [hb]; exact (xb_d D_M_written 153 rfl))) (ok_M_fail l hfl D A σ x0 5 x2 h _ hw) (hml.trans hl.1.symm) (by rw [hb]; exact (xb_d D_M_written 153 rfl)) (Nat.le_of_ble_eq_true rfl) (Nat.le_of_ble_eq_true rfl) (Nat.le_of_ble_eq_true rfl) (show k + 0 ≤ MC by omega) (show n + 0 ≤ MS by omega) (xt_w1 hB.1 m_8f062ecd) (xt_cdOf hB.1 m_8f062ecd) (hts _ m_d5ed7bed) hB hR hS hA (fun vv h2 H locs hq hEh2 hR hS => ?_) (fun XX ax h2 H locs hq hEh2 hex hR hS => ?_)
  · obtain ⟨rfl, hw⟩ := hq
    have hw := hw hEh2
    have hE := hE.tr hEh2
    refine W.eq (g2 := F0 m 301 ls []) rfl ?_
    exact am_M_written_L301 l hfl D A σ MC MS h0 Qr h2 hw p e s m args below meth c hC H locs ls k n hE (lv_sub hl [] rfl) hR hS (by omega) (by omega)
  · exact False.elim hq

set_option maxHeartbeats 4000000 in
set_option maxRecDepth 100000 in
theorem am_M_written_L238 (l : Launch) (hfl : l.flags = pinnedFlags ++ [noTraceFlag]) (D : va_G) (A : Nat → Prop) (σ MC MS : Nat) (h0 : xb_H) (Qr : xb_H → Prop) (y0 : Int64) (y1 : Nat) (h : xb_H) (hw : w_M_written_L238 Qr y0 y1 h) : xb_am l D A σ 6 MC MS h0 (fun v h => v = none ∧ Qr h) (fun _ _ => False) y_M_written.cls y_M_written.name b_M_written 4 ([] : List ExceptionTableEntry) none 238 [] [.long y0, .ref y1] h 0 0 := by
  unfold w_M_written_L238 at hw
  intro p e s m args below meth c hC H locs ls k n hE hl hR hS hk hn
  obtain ⟨hx, hb, hown, hlocks, htab, hml, hr, hB, hA, hnm⟩ := id hC
  have hts := hB.1.1.at args
  obtain ⟨hk1, hw⟩ := hw
  refine xb_call (D := D) (A := A) (σ := σ) (h := h) (d := 3) (mc := 0) (ms := 0) (maxL := 3) (rest := []) (av := [.ref y1, .long y0]) (fun T hT X => by obtain ⟨cb, r1, r2, r3⟩ := xb_recv (ci := 8) hR rfl hk1 (by decide); exact xt_invV X hx hown (hts _ m_dbba3a05) (hts _ m_5f0e3dde) (hts _ m_3b85804e) (xt_sigOf (hts _ m_d537edcb)) nm_M_skip (by rw [hT]; exact r1) r2 r3 (g := F0 m 238 ls [.long y0, .ref y1]) rfl (argsL := [.long y0]) (rest := []) rfl rfl (by rw [hb]; exact (xb_d D_M_written 122 rfl))) (ok_M_skip l hfl D A σ y1 y0 h _ hw) (hml.trans hl.1.symm) (by rw [hb]; exact (xb_d D_M_written 122 rfl)) (Nat.le_of_ble_eq_true rfl) (Nat.le_of_ble_eq_true rfl) (Nat.le_of_ble_eq_true rfl) (show k + 0 ≤ MC by omega) (show n + 0 ≤ MS by omega) (xt_w1 hB.1 m_d537edcb) (xt_cdOf hB.1 m_d537edcb) (hts _ m_d5ed7bed) hB hR hS hA (fun vv h2 H locs hq hEh2 hR hS => ?_) (fun XX ax h2 H locs hq hEh2 hex hR hS => ?_)
  · obtain ⟨rfl, hw⟩ := hq
    have hw := hw hEh2
    have hE := hE.tr hEh2
    refine W.eq (g2 := F0 m 241 ls []) rfl ?_
    refine lv_goto (tgt := 301) hx hb (xb_d D_M_written 123 rfl) rfl ?_
    exact am_M_written_L301 l hfl D A σ MC MS h0 Qr h2 hw p e s m args below meth c hC H locs ls k n hE (lv_sub hl [] rfl) hR hS (by omega) (by omega)
  · exact False.elim hq

set_option maxHeartbeats 4000000 in
set_option maxRecDepth 100000 in
theorem am_M_written_L222 (l : Launch) (hfl : l.flags = pinnedFlags ++ [noTraceFlag]) (D : va_G) (A : Nat → Prop) (σ MC MS : Nat) (h0 : xb_H) (Qr : xb_H → Prop) (x0 : Nat) (x1 : Int32) (h : xb_H) (hw : w_M_written_L222 Qr x0 x1 h) : xb_am l D A σ 6 MC MS h0 (fun v h => v = none ∧ Qr h) (fun _ _ => False) y_M_written.cls y_M_written.name b_M_written 4 ([] : List ExceptionTableEntry) none 222 [(0, .ref x0), (1, .int x1)] [] h 0 0 := by
  unfold w_M_written_L222 at hw
  intro p e s m args below meth c hC H locs ls k n hE hl hR hS hk hn
  obtain ⟨hx, hb, hown, hlocks, htab, hml, hr, hB, hA, hnm⟩ := id hC
  have hts := hB.1.1.at args
  refine lv_aload_n hx hb (xb_d D_M_written 115 rfl) rfl (lv_at hl 0 rfl) ?_
  refine lv_iload_n hx hb (xb_d D_M_written 116 rfl) rfl (lv_at hl 1 rfl) ?_
  refine lv_bipush (v := 67) hx hb (xb_d D_M_written 117 rfl) (by decide) ?_
  refine lv_icmp_ne (tgt := 235) hx hb (xb_d D_M_written 118 rfl) rfl (fun hc1 => ?_) (fun hc1 => ?_)
  · have hw := hw.1 hc1
    refine lv_ldc2 (v := 8) hx hb hown (hts _ m_ce01fc01) (xb_d D_M_written 121 rfl) ?_
    exact am_M_written_L238 l hfl D A σ MC MS h0 Qr 8 x0 h hw p e s m args below meth c hC H locs ls k n hE (lv_sub hl [] rfl) hR hS (by omega) (by omega)
  · have hw := hw.2 hc1
    refine lv_ldc2 (v := 4) hx hb hown (hts _ m_24298691) (xb_d D_M_written 119 rfl) ?_
    refine lv_goto (tgt := 238) hx hb (xb_d D_M_written 120 rfl) rfl ?_
    exact am_M_written_L238 l hfl D A σ MC MS h0 Qr 4 x0 h hw p e s m args below meth c hC H locs ls k n hE (lv_sub hl [] rfl) hR hS (by omega) (by omega)

set_option maxHeartbeats 4000000 in
set_option maxRecDepth 100000 in
theorem am_M_written_L203 (l : Launch) (hfl : l.flags = pinnedFlags ++ [noTraceFlag]) (D : va_G) (A : Nat → Prop) (σ MC MS : Nat) (h0 : xb_H) (Qr : xb_H → Prop) (y0 : Int32) (y1 : Nat) (h : xb_H) (hw : w_M_written_L203 Qr y0 y1 h) : xb_am l D A σ 6 MC MS h0 (fun v h => v = none ∧ Qr h) (fun _ _ => False) y_M_written.cls y_M_written.name b_M_written 4 ([] : List ExceptionTableEntry) none 203 [] [.int y0, .ref y1] h 0 0 := by
  unfold w_M_written_L203 at hw
  intro p e s m args below meth c hC H locs ls k n hE hl hR hS hk hn
  obtain ⟨hx, hb, hown, hlocks, htab, hml, hr, hB, hA, hnm⟩ := id hC
  have hts := hB.1.1.at args
  obtain ⟨hk1, hw⟩ := hw
  refine xb_call (D := D) (A := A) (σ := σ) (h := h) (d := 4) (mc := 0) (ms := 0) (maxL := 9) (rest := []) (av := [.ref y1, .int y0]) (fun T hT X => by obtain ⟨cb, r1, r2, r3⟩ := xb_recv (ci := 8) hR rfl hk1 (by decide); exact xt_invV X hx hown (hts _ m_535a6d0d) (hts _ m_4743d60a) (hts _ m_7572e2cf) (xt_sigOf (hts _ m_5f545e80)) nm_M_signed (by rw [hT]; exact r1) r2 r3 (g := F0 m 203 ls [.int y0, .ref y1]) rfl (argsL := [.int y0]) (rest := []) rfl rfl (by rw [hb]; exact (xb_d D_M_written 106 rfl))) (ok_M_signed l hfl D A σ y1 y0 h _ hw) (hml.trans hl.1.symm) (by rw [hb]; exact (xb_d D_M_written 106 rfl)) (Nat.le_of_ble_eq_true rfl) (Nat.le_of_ble_eq_true rfl) (Nat.le_of_ble_eq_true rfl) (show k + 0 ≤ MC by omega) (show n + 0 ≤ MS by omega) (xt_w1 hB.1 m_5f545e80) (xt_cdOf hB.1 m_5f545e80) (hts _ m_d5ed7bed) hB hR hS hA (fun vv h2 H locs hq hEh2 hR hS => ?_) (fun XX ax h2 H locs hq hEh2 hex hR hS => ?_)
  · obtain ⟨r3, rfl, hw⟩ := hq
    have hw := hw hEh2
    have hE := hE.tr hEh2
    refine W.eq (g2 := F0 m 206 ls [.long r3]) rfl ?_
    refine lv_pop2_2 hx hb (xb_d D_M_written 107 rfl) rfl ?_
    refine lv_goto (tgt := 301) hx hb (xb_d D_M_written 108 rfl) rfl ?_
    exact am_M_written_L301 l hfl D A σ MC MS h0 Qr h2 hw p e s m args below meth c hC H locs ls k n hE (lv_sub hl [] rfl) hR hS (by omega) (by omega)
  · exact False.elim hq

set_option maxHeartbeats 4000000 in
set_option maxRecDepth 100000 in
theorem am_M_written_L189 (l : Launch) (hfl : l.flags = pinnedFlags ++ [noTraceFlag]) (D : va_G) (A : Nat → Prop) (σ MC MS : Nat) (h0 : xb_H) (Qr : xb_H → Prop) (x0 : Nat) (x1 : Int32) (h : xb_H) (hw : w_M_written_L189 Qr x0 x1 h) : xb_am l D A σ 6 MC MS h0 (fun v h => v = none ∧ Qr h) (fun _ _ => False) y_M_written.cls y_M_written.name b_M_written 4 ([] : List ExceptionTableEntry) none 189 [(0, .ref x0), (1, .int x1)] [] h 0 0 := by
  unfold w_M_written_L189 at hw
  intro p e s m args below meth c hC H locs ls k n hE hl hR hS hk hn
  obtain ⟨hx, hb, hown, hlocks, htab, hml, hr, hB, hA, hnm⟩ := id hC
  have hts := hB.1.1.at args
  refine lv_aload_n hx hb (xb_d D_M_written 99 rfl) rfl (lv_at hl 0 rfl) ?_
  refine lv_iload_n hx hb (xb_d D_M_written 100 rfl) rfl (lv_at hl 1 rfl) ?_
  refine lv_bipush (v := 65) hx hb (xb_d D_M_written 101 rfl) (by decide) ?_
  refine lv_icmp_ne (tgt := 201) hx hb (xb_d D_M_written 102 rfl) rfl (fun hc1 => ?_) (fun hc1 => ?_)
  · have hw := hw.1 hc1
    refine lv_bipush (v := 64) hx hb (xb_d D_M_written 105 rfl) (by decide) ?_
    exact am_M_written_L203 l hfl D A σ MC MS h0 Qr 64 x0 h hw p e s m args below meth c hC H locs ls k n hE (lv_sub hl [] rfl) hR hS (by omega) (by omega)
  · have hw := hw.2 hc1
    refine lv_bipush (v := 32) hx hb (xb_d D_M_written 103 rfl) (by decide) ?_
    refine lv_goto (tgt := 203) hx hb (xb_d D_M_written 104 rfl) rfl ?_
    exact am_M_written_L203 l hfl D A σ MC MS h0 Qr 32 x0 h hw p e s m args below meth c hC H locs ls k n hE (lv_sub hl [] rfl) hR hS (by omega) (by omega)

set_option maxHeartbeats 4000000 in
set_option maxRecDepth 100000 in
theorem am_M_written_L168 (l : Launch) (hfl : l.flags = pinnedFlags ++ [noTraceFlag]) (D : va_G) (A : Nat → Prop) (σ MC MS : Nat) (h0 : xb_H) (Qr : xb_H → Prop) (x0 : Nat) (h : xb_H) (hw : w_M_written_L168 Qr x0 h) : xb_am l D A σ 6 MC MS h0 (fun v h => v = none ∧ Qr h) (fun _ _ => False) y_M_written.cls y_M_written.name b_M_written 4 ([] : List ExceptionTableEntry) none 168 [(0, .ref x0)] [] h 0 0 := by
  unfold w_M_written_L168 at hw
  intro p e s m args below meth c hC H locs ls k n hE hl hR hS hk hn
  obtain ⟨hx, hb, hown, hlocks, htab, hml, hr, hB, hA, hnm⟩ := id hC
  have hts := hB.1.1.at args
  refine lv_aload_n hx hb (xb_d D_M_written 88 rfl) rfl (lv_at hl 0 rfl) ?_
  refine lv_iconst (v := 0) hx hb (xb_d D_M_written 89 rfl) (by decide) ?_
  refine lv_iconst (v := 0) hx hb (xb_d D_M_written 90 rfl) (by decide) ?_
  obtain ⟨hk1, hw⟩ := hw
  refine xb_call (D := D) (A := A) (σ := σ) (h := h) (d := 4) (mc := 0) (ms := 0) (maxL := 4) (rest := []) (av := [.ref x0, .int 0, .int 0]) (fun T hT X => by obtain ⟨cb, r1, r2, r3⟩ := xb_recv (ci := 8) hR rfl hk1 (by decide); exact xt_invV X hx hown (hts _ m_8f6f4626) (hts _ m_01caba2f) (hts _ m_4616b4d4) (xt_sigOf (hts _ m_6db7f9f9)) nm_M_wanted (by rw [hT]; exact r1) r2 r3 (g := F0 m 171 ls [.int 0, .int 0, .ref x0]) rfl (argsL := [.int 0, .int 0]) (rest := []) rfl rfl (by rw [hb]; exact (xb_d D_M_written 91 rfl))) (ok_M_wanted l hfl D A σ x0 0 0 h _ hw) (hml.trans hl.1.symm) (by rw [hb]; exact (xb_d D_M_written 91 rfl)) (Nat.le_of_ble_eq_true rfl) (Nat.le_of_ble_eq_true rfl) (Nat.le_of_ble_eq_true rfl) (show k + 0 ≤ MC by omega) (show n + 0 ≤ MS by omega) (xt_w1 hB.1 m_6db7f9f9) (xt_cdOf hB.1 m_6db7f9f9) (hts _ m_d5ed7bed) hB hR hS hA (fun vv h2 H locs hq hEh2 hR hS => ?_) (fun XX ax h2 H locs hq hEh2 hex hR hS => ?_)
  · obtain ⟨rfl, hw⟩ := hq
    have hw := hw hEh2
    have hE := hE.tr hEh2
    refine W.eq (g2 := F0 m 174 ls []) rfl ?_
    refine lv_goto (tgt := 301) hx hb (xb_d D_M_written 92 rfl) rfl ?_
    exact am_M_written_L301 l hfl D A σ MC MS h0 Qr h2 hw p e s m args below meth c hC H locs ls k n hE (lv_sub hl [] rfl) hR hS (by omega) (by omega)
  · exact False.elim hq

set_option maxHeartbeats 4000000 in
set_option maxRecDepth 100000 in
theorem am_M_written_L156 (l : Launch) (hfl : l.flags = pinnedFlags ++ [noTraceFlag]) (D : va_G) (A : Nat → Prop) (σ MC MS : Nat) (h0 : xb_H) (Qr : xb_H → Prop) (x0 : Nat) (x1 : Int32) (x2 : Int32) (h : xb_H) (hw : w_M_written_L156 Qr x0 x1 x2 h) : xb_am l D A σ 6 MC MS h0 (fun v h => v = none ∧ Qr h) (fun _ _ => False) y_M_written.cls y_M_written.name b_M_written 4 ([] : List ExceptionTableEntry) none 156 [(0, .ref x0), (1, .int x1), (2, .int x2)] [] h 0 0 := by
  unfold w_M_written_L156 at hw
  intro p e s m args below meth c hC H locs ls k n hE hl hR hS hk hn
  obtain ⟨hx, hb, hown, hlocks, htab, hml, hr, hB, hA, hnm⟩ := id hC
  have hts := hB.1.1.at args
  refine lv_iload_n hx hb (xb_d D_M_written 82 rfl) rfl (lv_at hl 1 rfl) ?_
  refine lv_bipush (v := 63) hx hb (xb_d D_M_written 83 rfl) (by decide) ?_
  refine lv_icmp_eq (tgt := 168) hx hb (xb_d D_M_written 84 rfl) rfl (fun hc1 => ?_) (fun hc1 => ?_)
  · have hw := hw.1 hc1
    exact am_M_written_L168 l hfl D A σ MC MS h0 Qr x0 h hw p e s m args below meth c hC H locs ls k n hE (lv_sub hl [0] rfl) hR hS (by omega) (by omega)
  · have hw := hw.2 hc1
    refine lv_iload_n hx hb (xb_d D_M_written 85 rfl) rfl (lv_at hl 1 rfl) ?_
    refine lv_bipush (v := 64) hx hb (xb_d D_M_written 86 rfl) (by decide) ?_
    refine lv_icmp_ne (tgt := 177) hx hb (xb_d D_M_written 87 rfl) rfl (fun hc2 => ?_) (fun hc2 => ?_)
    · have hw := hw.1 hc2
      refine lv_iload_n hx hb (xb_d D_M_written 93 rfl) rfl (lv_at hl 1 rfl) ?_
      refine lv_bipush (v := 65) hx hb (xb_d D_M_written 94 rfl) (by decide) ?_
      refine lv_icmp_eq (tgt := 189) hx hb (xb_d D_M_written 95 rfl) rfl (fun hc3 => ?_) (fun hc3 => ?_)
      · have hw := hw.1 hc3
        exact am_M_written_L189 l hfl D A σ MC MS h0 Qr x0 x1 h hw p e s m args below meth c hC H locs ls k n hE (lv_sub hl [0, 1] rfl) hR hS (by omega) (by omega)
      · have hw := hw.2 hc3
        refine lv_iload_n hx hb (xb_d D_M_written 96 rfl) rfl (lv_at hl 1 rfl) ?_
        refine lv_bipush (v := 66) hx hb (xb_d D_M_written 97 rfl) (by decide) ?_
        refine lv_icmp_ne (tgt := 210) hx hb (xb_d D_M_written 98 rfl) rfl (fun hc4 => ?_) (fun hc4 => ?_)
        · have hw := hw.1 hc4
          refine lv_iload_n hx hb (xb_d D_M_written 109 rfl) rfl (lv_at hl 1 rfl) ?_
          refine lv_bipush (v := 67) hx hb (xb_d D_M_written 110 rfl) (by decide) ?_
          refine lv_icmp_eq (tgt := 222) hx hb (xb_d D_M_written 111 rfl) rfl (fun hc5 => ?_) (fun hc5 => ?_)
          · have hw := hw.1 hc5
            exact am_M_written_L222 l hfl D A σ MC MS h0 Qr x0 x1 h hw p e s m args below meth c hC H locs ls k n hE (lv_sub hl [0, 1] rfl) hR hS (by omega) (by omega)
          · have hw := hw.2 hc5
            refine lv_iload_n hx hb (xb_d D_M_written 112 rfl) rfl (lv_at hl 1 rfl) ?_
            refine lv_bipush (v := 68) hx hb (xb_d D_M_written 113 rfl) (by decide) ?_
            refine lv_icmp_ne (tgt := 244) hx hb (xb_d D_M_written 114 rfl) rfl (fun hc6 => ?_) (fun hc6 => ?_)
            · have hw := hw.1 hc6
              refine lv_iload_n hx hb (xb_d D_M_written 124 rfl) rfl (lv_at hl 1 rfl) ?_
              refine lv_if_eq (tgt := 301) hx hb (xb_d D_M_written 125 rfl) rfl (fun hc7 => ?_) (fun hc7 => ?_)
              · have hw := hw.1 hc7
                exact am_M_written_L301 l hfl D A σ MC MS h0 Qr h hw p e s m args below meth c hC H locs ls k n hE (lv_sub hl [] rfl) hR hS (by omega) (by omega)
              · have hw := hw.2 hc7
                refine lv_iload_n hx hb (xb_d D_M_written 126 rfl) rfl (lv_at hl 1 rfl) ?_
                refine lv_iconst (v := 1) hx hb (xb_d D_M_written 127 rfl) (by decide) ?_
                refine lv_icmp_eq (tgt := 301) hx hb (xb_d D_M_written 128 rfl) rfl (fun hc8 => ?_) (fun hc8 => ?_)
                · have hw := hw.1 hc8
                  exact am_M_written_L301 l hfl D A σ MC MS h0 Qr h hw p e s m args below meth c hC H locs ls k n hE (lv_sub hl [] rfl) hR hS (by omega) (by omega)
                · have hw := hw.2 hc8
                  refine lv_iload_n hx hb (xb_d D_M_written 129 rfl) rfl (lv_at hl 1 rfl) ?_
                  refine lv_iconst (v := 5) hx hb (xb_d D_M_written 130 rfl) (by decide) ?_
                  refine lv_icmp_eq (tgt := 301) hx hb (xb_d D_M_written 131 rfl) rfl (fun hc9 => ?_) (fun hc9 => ?_)
                  · have hw := hw.1 hc9
                    exact am_M_written_L301 l hfl D A σ MC MS h0 Qr h hw p e s m args below meth c hC H locs ls k n hE (lv_sub hl [] rfl) hR hS (by omega) (by omega)
                  · have hw := hw.2 hc9
                    refine lv_iload_n hx hb (xb_d D_M_written 132 rfl) rfl (lv_at hl 1 rfl) ?_
                    refine lv_bipush (v := 11) hx hb (xb_d D_M_written 133 rfl) (by decide) ?_
                    refine lv_icmp_eq (tgt := 301) hx hb (xb_d D_M_written 134 rfl) rfl (fun hc10 => ?_) (fun hc10 => ?_)
                    · have hw := hw.1 hc10
                      exact am_M_written_L301 l hfl D A σ MC MS h0 Qr h hw p e s m args below meth c hC H locs ls k n hE (lv_sub hl [] rfl) hR hS (by omega) (by omega)
                    · have hw := hw.2 hc10
                      refine lv_iload_n hx hb (xb_d D_M_written 135 rfl) rfl (lv_at hl 1 rfl) ?_
                      refine lv_bipush (v := 15) hx hb (xb_d D_M_written 136 rfl) (by decide) ?_
                      refine lv_icmp_eq (tgt := 301) hx hb (xb_d D_M_written 137 rfl) rfl (fun hc11 => ?_) (fun hc11 => ?_)
                      · have hw := hw.1 hc11
                        exact am_M_written_L301 l hfl D A σ MC MS h0 Qr h hw p e s m args below meth c hC H locs ls k n hE (lv_sub hl [] rfl) hR hS (by omega) (by omega)
                      · have hw := hw.2 hc11
                        refine lv_iload_n hx hb (xb_d D_M_written 138 rfl) rfl (lv_at hl 1 rfl) ?_
                        refine lv_bipush (v := 26) hx hb (xb_d D_M_written 139 rfl) (by decide) ?_
                        refine lv_icmp_eq (tgt := 301) hx hb (xb_d D_M_written 140 rfl) rfl (fun hc12 => ?_) (fun hc12 => ?_)
                        · have hw := hw.1 hc12
                          exact am_M_written_L301 l hfl D A σ MC MS h0 Qr h hw p e s m args below meth c hC H locs ls k n hE (lv_sub hl [] rfl) hR hS (by omega) (by omega)
                        · have hw := hw.2 hc12
                          refine lv_iload_n hx hb (xb_d D_M_written 141 rfl) rfl (lv_at hl 1 rfl) ?_
                          refine lv_bipush (v := 27) hx hb (xb_d D_M_written 142 rfl) (by decide) ?_
                          refine lv_icmp_eq (tgt := 301) hx hb (xb_d D_M_written 143 rfl) rfl (fun hc13 => ?_) (fun hc13 => ?_)
                          · have hw := hw.1 hc13
                            exact am_M_written_L301 l hfl D A σ MC MS h0 Qr h hw p e s m args below meth c hC H locs ls k n hE (lv_sub hl [] rfl) hR hS (by omega) (by omega)
                          · have hw := hw.2 hc13
                            refine lv_iload_n hx hb (xb_d D_M_written 144 rfl) rfl (lv_at hl 1 rfl) ?_
                            refine lv_bipush (v := 69) hx hb (xb_d D_M_written 145 rfl) (by decide) ?_
                            refine lv_icmp_lt (tgt := 295) hx hb (xb_d D_M_written 146 rfl) rfl (fun hc14 => ?_) (fun hc14 => ?_)
                            · have hw := hw.1 hc14
                              exact am_M_written_L295 l hfl D A σ MC MS h0 Qr x0 x2 h hw p e s m args below meth c hC H locs ls k n hE (lv_sub hl [0, 2] rfl) hR hS (by omega) (by omega)
                            · have hw := hw.2 hc14
                              refine lv_iload_n hx hb (xb_d D_M_written 147 rfl) rfl (lv_at hl 1 rfl) ?_
                              refine lv_sipush (v := 191) hx hb (xb_d D_M_written 148 rfl) (by decide) ?_
                              refine lv_icmp_le (tgt := 301) hx hb (xb_d D_M_written 149 rfl) rfl (fun hc15 => ?_) (fun hc15 => ?_)
                              · have hw := hw.1 hc15
                                exact am_M_written_L301 l hfl D A σ MC MS h0 Qr h hw p e s m args below meth c hC H locs ls k n hE (lv_sub hl [] rfl) hR hS (by omega) (by omega)
                              · have hw := hw.2 hc15
                                exact am_M_written_L295 l hfl D A σ MC MS h0 Qr x0 x2 h hw p e s m args below meth c hC H locs ls k n hE (lv_sub hl [0, 2] rfl) hR hS (by omega) (by omega)
            · have hw := hw.2 hc6
              exact am_M_written_L222 l hfl D A σ MC MS h0 Qr x0 x1 h hw p e s m args below meth c hC H locs ls k n hE (lv_sub hl [0, 1] rfl) hR hS (by omega) (by omega)
        · have hw := hw.2 hc4
          exact am_M_written_L189 l hfl D A σ MC MS h0 Qr x0 x1 h hw p e s m args below meth c hC H locs ls k n hE (lv_sub hl [0, 1] rfl) hR hS (by omega) (by omega)
    · have hw := hw.2 hc2
      exact am_M_written_L168 l hfl D A σ MC MS h0 Qr x0 h hw p e s m args below meth c hC H locs ls k n hE (lv_sub hl [0] rfl) hR hS (by omega) (by omega)

set_option maxHeartbeats 4000000 in
set_option maxRecDepth 100000 in
theorem am_M_written_L92 (l : Launch) (hfl : l.flags = pinnedFlags ++ [noTraceFlag]) (D : va_G) (A : Nat → Prop) (σ MC MS : Nat) (h0 : xb_H) (Qr : xb_H → Prop) (x0 : Nat) (x1 : Int32) (x2 : Int32) (h : xb_H) (hw : w_M_written_L92 Qr x0 x1 x2 h) : xb_am l D A σ 6 MC MS h0 (fun v h => v = none ∧ Qr h) (fun _ _ => False) y_M_written.cls y_M_written.name b_M_written 4 ([] : List ExceptionTableEntry) none 92 [(0, .ref x0), (1, .int x1), (2, .int x2)] [] h 0 0 := by
  unfold w_M_written_L92 at hw
  intro p e s m args below meth c hC H locs ls k n hE hl hR hS hk hn
  obtain ⟨hx, hb, hown, hlocks, htab, hml, hr, hB, hA, hnm⟩ := id hC
  have hts := hB.1.1.at args
  refine lv_iload_n hx hb (xb_d D_M_written 48 rfl) rfl (lv_at hl 1 rfl) ?_
  refine lv_bipush (v := 14) hx hb (xb_d D_M_written 49 rfl) (by decide) ?_
  refine lv_icmp_ne (tgt := 111) hx hb (xb_d D_M_written 50 rfl) rfl (fun hc1 => ?_) (fun hc1 => ?_)
  · have hw := hw.1 hc1
    refine lv_iload_n hx hb (xb_d D_M_written 58 rfl) rfl (lv_at hl 1 rfl) ?_
    refine lv_bipush (v := 17) hx hb (xb_d D_M_written 59 rfl) (by decide) ?_
    refine lv_icmp_ne (tgt := 131) hx hb (xb_d D_M_written 60 rfl) rfl (fun hc2 => ?_) (fun hc2 => ?_)
    · have hw := hw.1 hc2
      refine lv_iload_n hx hb (xb_d D_M_written 69 rfl) rfl (lv_at hl 1 rfl) ?_
      refine lv_bipush (v := 40) hx hb (xb_d D_M_written 70 rfl) (by decide) ?_
      refine lv_icmp_lt (tgt := 156) hx hb (xb_d D_M_written 71 rfl) rfl (fun hc3 => ?_) (fun hc3 => ?_)
      · have hw := hw.1 hc3
        exact am_M_written_L156 l hfl D A σ MC MS h0 Qr x0 x1 x2 h hw p e s m args below meth c hC H locs ls k n hE (lv_sub hl [0, 1, 2] rfl) hR hS (by omega) (by omega)
      · have hw := hw.2 hc3
        refine lv_iload_n hx hb (xb_d D_M_written 72 rfl) rfl (lv_at hl 1 rfl) ?_
        refine lv_bipush (v := 62) hx hb (xb_d D_M_written 73 rfl) (by decide) ?_
        refine lv_icmp_gt (tgt := 156) hx hb (xb_d D_M_written 74 rfl) rfl (fun hc4 => ?_) (fun hc4 => ?_)
        · have hw := hw.1 hc4
          exact am_M_written_L156 l hfl D A σ MC MS h0 Qr x0 x1 x2 h hw p e s m args below meth c hC H locs ls k n hE (lv_sub hl [0, 1, 2] rfl) hR hS (by omega) (by omega)
        · have hw := hw.2 hc4
          refine lv_aload_n hx hb (xb_d D_M_written 75 rfl) rfl (lv_at hl 0 rfl) ?_
          obtain ⟨hk5, hw⟩ := hw
          refine xb_call (D := D) (A := A) (σ := σ) (h := h) (d := 4) (mc := 0) (ms := 0) (maxL := 5) (rest := []) (av := [.ref x0]) (fun T hT X => by obtain ⟨cb, r1, r2, r3⟩ := xb_recv (ci := 8) hR rfl hk5 (by decide); exact xt_invV X hx hown (hts _ m_e991293f) (hts _ m_385a74b3) (hts _ m_c9fbcd02) (xt_sigOf (hts _ m_1f53f210)) nm_M_count (by rw [hT]; exact r1) r2 r3 (g := F0 m 144 ls [.ref x0]) rfl (argsL := []) (rest := []) rfl rfl (by rw [hb]; exact (xb_d D_M_written 76 rfl))) (ok_M_count l hfl D A σ x0 h _ hw) (hml.trans hl.1.symm) (by rw [hb]; exact (xb_d D_M_written 76 rfl)) (Nat.le_of_ble_eq_true rfl) (Nat.le_of_ble_eq_true rfl) (Nat.le_of_ble_eq_true rfl) (show k + 0 ≤ MC by omega) (show n + 0 ≤ MS by omega) (xt_w1 hB.1 m_1f53f210) (xt_cdOf hB.1 m_1f53f210) (hts _ m_d5ed7bed) hB hR hS hA (fun vv h6 H locs hq hEh6 hR hS => ?_) (fun XX ax h6 H locs hq hEh6 hex hR hS => ?_)
          · obtain ⟨r7, rfl, hw⟩ := hq
            have hw := hw hEh6
            have hE := hE.tr hEh6
            refine W.eq (g2 := F0 m 147 ls [.long r7]) rfl ?_
            refine lv_pop2_2 hx hb (xb_d D_M_written 77 rfl) rfl ?_
            refine lv_aload_n hx hb (xb_d D_M_written 78 rfl) rfl (lv_at hl 0 rfl) ?_
            have hk5 : xb_k h6 x0 = 9 := hEh6.k hk5
            refine xb_call (D := D) (A := A) (σ := σ) (h := h6) (d := 4) (mc := 0) (ms := 0) (maxL := 5) (rest := []) (av := [.ref x0]) (fun T hT X => by obtain ⟨cb, r1, r2, r3⟩ := xb_recv (ci := 8) hR rfl hk5 (by decide); exact xt_invV X hx hown (hts _ m_e991293f) (hts _ m_385a74b3) (hts _ m_c9fbcd02) (xt_sigOf (hts _ m_1f53f210)) nm_M_count (by rw [hT]; exact r1) r2 r3 (g := F0 m 149 ls [.ref x0]) rfl (argsL := []) (rest := []) rfl rfl (by rw [hb]; exact (xb_d D_M_written 79 rfl))) (ok_M_count l hfl D A σ x0 h6 _ hw) (hml.trans hl.1.symm) (by rw [hb]; exact (xb_d D_M_written 79 rfl)) (Nat.le_of_ble_eq_true rfl) (Nat.le_of_ble_eq_true rfl) (Nat.le_of_ble_eq_true rfl) (show k + 0 ≤ MC by omega) (show n + 0 ≤ MS by omega) (xt_w1 hB.1 m_1f53f210) (xt_cdOf hB.1 m_1f53f210) (hts _ m_d5ed7bed) hB hR hS hA (fun vv h8 H locs hq hEh8 hR hS => ?_) (fun XX ax h8 H locs hq hEh8 hex hR hS => ?_)
            · obtain ⟨r9, rfl, hw⟩ := hq
              have hw := hw hEh8
              have hE := hE.tr hEh8
              refine W.eq (g2 := F0 m 152 ls [.long r9]) rfl ?_
              refine lv_pop2_2 hx hb (xb_d D_M_written 80 rfl) rfl ?_
              refine lv_goto (tgt := 301) hx hb (xb_d D_M_written 81 rfl) rfl ?_
              exact am_M_written_L301 l hfl D A σ MC MS h0 Qr h8 hw p e s m args below meth c hC H locs ls k n hE (lv_sub hl [] rfl) hR hS (by omega) (by omega)
            · exact False.elim hq
          · exact False.elim hq
    · have hw := hw.2 hc2
      refine lv_aload_n hx hb (xb_d D_M_written 61 rfl) rfl (lv_at hl 0 rfl) ?_
      obtain ⟨hk10, hw⟩ := hw
      refine xb_call (D := D) (A := A) (σ := σ) (h := h) (d := 4) (mc := 0) (ms := 0) (maxL := 5) (rest := []) (av := [.ref x0]) (fun T hT X => by obtain ⟨cb, r1, r2, r3⟩ := xb_recv (ci := 8) hR rfl hk10 (by decide); exact xt_invV X hx hown (hts _ m_e991293f) (hts _ m_385a74b3) (hts _ m_c9fbcd02) (xt_sigOf (hts _ m_1f53f210)) nm_M_count (by rw [hT]; exact r1) r2 r3 (g := F0 m 118 ls [.ref x0]) rfl (argsL := []) (rest := []) rfl rfl (by rw [hb]; exact (xb_d D_M_written 62 rfl))) (ok_M_count l hfl D A σ x0 h _ hw) (hml.trans hl.1.symm) (by rw [hb]; exact (xb_d D_M_written 62 rfl)) (Nat.le_of_ble_eq_true rfl) (Nat.le_of_ble_eq_true rfl) (Nat.le_of_ble_eq_true rfl) (show k + 0 ≤ MC by omega) (show n + 0 ≤ MS by omega) (xt_w1 hB.1 m_1f53f210) (xt_cdOf hB.1 m_1f53f210) (hts _ m_d5ed7bed) hB hR hS hA (fun vv h11 H locs hq hEh11 hR hS => ?_) (fun XX ax h11 H locs hq hEh11 hex hR hS => ?_)
      · obtain ⟨r12, rfl, hw⟩ := hq
        have hw := hw hEh11
        have hE := hE.tr hEh11
        refine W.eq (g2 := F0 m 121 ls [.long r12]) rfl ?_
        refine lv_pop2_2 hx hb (xb_d D_M_written 63 rfl) rfl ?_
        refine lv_aload_n hx hb (xb_d D_M_written 64 rfl) rfl (lv_at hl 0 rfl) ?_
        refine lv_iconst (v := 0) hx hb (xb_d D_M_written 65 rfl) (by decide) ?_
        refine lv_iconst (v := 0) hx hb (xb_d D_M_written 66 rfl) (by decide) ?_
        have hk10 : xb_k h11 x0 = 9 := hEh11.k hk10
        refine xb_call (D := D) (A := A) (σ := σ) (h := h11) (d := 4) (mc := 0) (ms := 0) (maxL := 4) (rest := []) (av := [.ref x0, .int 0, .int 0]) (fun T hT X => by obtain ⟨cb, r1, r2, r3⟩ := xb_recv (ci := 8) hR rfl hk10 (by decide); exact xt_invV X hx hown (hts _ m_8f6f4626) (hts _ m_01caba2f) (hts _ m_4616b4d4) (xt_sigOf (hts _ m_6db7f9f9)) nm_M_wanted (by rw [hT]; exact r1) r2 r3 (g := F0 m 125 ls [.int 0, .int 0, .ref x0]) rfl (argsL := [.int 0, .int 0]) (rest := []) rfl rfl (by rw [hb]; exact (xb_d D_M_written 67 rfl))) (ok_M_wanted l hfl D A σ x0 0 0 h11 _ hw) (hml.trans hl.1.symm) (by rw [hb]; exact (xb_d D_M_written 67 rfl)) (Nat.le_of_ble_eq_true rfl) (Nat.le_of_ble_eq_true rfl) (Nat.le_of_ble_eq_true rfl) (show k + 0 ≤ MC by omega) (show n + 0 ≤ MS by omega) (xt_w1 hB.1 m_6db7f9f9) (xt_cdOf hB.1 m_6db7f9f9) (hts _ m_d5ed7bed) hB hR hS hA (fun vv h13 H locs hq hEh13 hR hS => ?_) (fun XX ax h13 H locs hq hEh13 hex hR hS => ?_)
        · obtain ⟨rfl, hw⟩ := hq
          have hw := hw hEh13
          have hE := hE.tr hEh13
          refine W.eq (g2 := F0 m 128 ls []) rfl ?_
          refine lv_goto (tgt := 301) hx hb (xb_d D_M_written 68 rfl) rfl ?_
          exact am_M_written_L301 l hfl D A σ MC MS h0 Qr h13 hw p e s m args below meth c hC H locs ls k n hE (lv_sub hl [] rfl) hR hS (by omega) (by omega)
        · exact False.elim hq
      · exact False.elim hq
  · have hw := hw.2 hc1
    refine lv_aload_n hx hb (xb_d D_M_written 51 rfl) rfl (lv_at hl 0 rfl) ?_
    refine lv_iconst (v := 0) hx hb (xb_d D_M_written 52 rfl) (by decide) ?_
    obtain ⟨hk15, hw⟩ := hw
    refine xb_call (D := D) (A := A) (σ := σ) (h := h) (d := 5) (mc := 0) (ms := 0) (maxL := 6) (rest := []) (av := [.ref x0, .int 0]) (fun T hT X => by obtain ⟨cb, r1, r2, r3⟩ := xb_recv (ci := 8) hR rfl hk15 (by decide); exact xt_invV X hx hown (hts _ m_065c51a0) (hts _ m_29bd5f42) (hts _ m_39b260c0) (xt_sigOf (hts _ m_f669d6ca)) nm_M_row (by rw [hT]; exact r1) r2 r3 (g := F0 m 100 ls [.int 0, .ref x0]) rfl (argsL := [.int 0]) (rest := []) rfl rfl (by rw [hb]; exact (xb_d D_M_written 53 rfl))) (ok_M_row l hfl D A σ x0 0 h _ hw) (hml.trans hl.1.symm) (by rw [hb]; exact (xb_d D_M_written 53 rfl)) (Nat.le_of_ble_eq_true rfl) (Nat.le_of_ble_eq_true rfl) (Nat.le_of_ble_eq_true rfl) (show k + 0 ≤ MC by omega) (show n + 0 ≤ MS by omega) (xt_w1 hB.1 m_f669d6ca) (xt_cdOf hB.1 m_f669d6ca) (hts _ m_d5ed7bed) hB hR hS hA (fun vv h16 H locs hq hEh16 hR hS => ?_) (fun XX ax h16 H locs hq hEh16 hex hR hS => ?_)
    · obtain ⟨rfl, hw⟩ := hq
      have hw := hw hEh16
      have hE := hE.tr hEh16
      refine W.eq (g2 := F0 m 103 ls []) rfl ?_
      refine lv_aload_n hx hb (xb_d D_M_written 54 rfl) rfl (lv_at hl 0 rfl) ?_
      have hk15 : xb_k h16 x0 = 9 := hEh16.k hk15
      refine xb_call (D := D) (A := A) (σ := σ) (h := h16) (d := 4) (mc := 0) (ms := 0) (maxL := 5) (rest := []) (av := [.ref x0]) (fun T hT X => by obtain ⟨cb, r1, r2, r3⟩ := xb_recv (ci := 8) hR rfl hk15 (by decide); exact xt_invV X hx hown (hts _ m_e991293f) (hts _ m_385a74b3) (hts _ m_c9fbcd02) (xt_sigOf (hts _ m_1f53f210)) nm_M_count (by rw [hT]; exact r1) r2 r3 (g := F0 m 104 ls [.ref x0]) rfl (argsL := []) (rest := []) rfl rfl (by rw [hb]; exact (xb_d D_M_written 55 rfl))) (ok_M_count l hfl D A σ x0 h16 _ hw) (hml.trans hl.1.symm) (by rw [hb]; exact (xb_d D_M_written 55 rfl)) (Nat.le_of_ble_eq_true rfl) (Nat.le_of_ble_eq_true rfl) (Nat.le_of_ble_eq_true rfl) (show k + 0 ≤ MC by omega) (show n + 0 ≤ MS by omega) (xt_w1 hB.1 m_1f53f210) (xt_cdOf hB.1 m_1f53f210) (hts _ m_d5ed7bed) hB hR hS hA (fun vv h18 H locs hq hEh18 hR hS => ?_) (fun XX ax h18 H locs hq hEh18 hex hR hS => ?_)
      · obtain ⟨r19, rfl, hw⟩ := hq
        have hw := hw hEh18
        have hE := hE.tr hEh18
        refine W.eq (g2 := F0 m 107 ls [.long r19]) rfl ?_
        refine lv_pop2_2 hx hb (xb_d D_M_written 56 rfl) rfl ?_
        refine lv_goto (tgt := 301) hx hb (xb_d D_M_written 57 rfl) rfl ?_
        exact am_M_written_L301 l hfl D A σ MC MS h0 Qr h18 hw p e s m args below meth c hC H locs ls k n hE (lv_sub hl [] rfl) hR hS (by omega) (by omega)
      · exact False.elim hq
    · exact False.elim hq

set_option maxHeartbeats 4000000 in
set_option maxRecDepth 100000 in
theorem am_M_written_L84 (l : Launch) (hfl : l.flags = pinnedFlags ++ [noTraceFlag]) (D : va_G) (A : Nat → Prop) (σ MC MS : Nat) (h0 : xb_H) (Qr : xb_H → Prop) (x0 : Nat) (h : xb_H) (hw : w_M_written_L84 Qr x0 h) : xb_am l D A σ 6 MC MS h0 (fun v h => v = none ∧ Qr h) (fun _ _ => False) y_M_written.cls y_M_written.name b_M_written 4 ([] : List ExceptionTableEntry) none 84 [(0, .ref x0)] [] h 0 0 := by
  unfold w_M_written_L84 at hw
  intro p e s m args below meth c hC H locs ls k n hE hl hR hS hk hn
  obtain ⟨hx, hb, hown, hlocks, htab, hml, hr, hB, hA, hnm⟩ := id hC
  have hts := hB.1.1.at args
  refine lv_aload_n hx hb (xb_d D_M_written 44 rfl) rfl (lv_at hl 0 rfl) ?_
  obtain ⟨hk1, hw⟩ := hw
  refine xb_call (D := D) (A := A) (σ := σ) (h := h) (d := 4) (mc := 0) (ms := 0) (maxL := 5) (rest := []) (av := [.ref x0]) (fun T hT X => by obtain ⟨cb, r1, r2, r3⟩ := xb_recv (ci := 8) hR rfl hk1 (by decide); exact xt_invV X hx hown (hts _ m_e991293f) (hts _ m_385a74b3) (hts _ m_c9fbcd02) (xt_sigOf (hts _ m_1f53f210)) nm_M_count (by rw [hT]; exact r1) r2 r3 (g := F0 m 85 ls [.ref x0]) rfl (argsL := []) (rest := []) rfl rfl (by rw [hb]; exact (xb_d D_M_written 45 rfl))) (ok_M_count l hfl D A σ x0 h _ hw) (hml.trans hl.1.symm) (by rw [hb]; exact (xb_d D_M_written 45 rfl)) (Nat.le_of_ble_eq_true rfl) (Nat.le_of_ble_eq_true rfl) (Nat.le_of_ble_eq_true rfl) (show k + 0 ≤ MC by omega) (show n + 0 ≤ MS by omega) (xt_w1 hB.1 m_1f53f210) (xt_cdOf hB.1 m_1f53f210) (hts _ m_d5ed7bed) hB hR hS hA (fun vv h2 H locs hq hEh2 hR hS => ?_) (fun XX ax h2 H locs hq hEh2 hex hR hS => ?_)
  · obtain ⟨r3, rfl, hw⟩ := hq
    have hw := hw hEh2
    have hE := hE.tr hEh2
    refine W.eq (g2 := F0 m 88 ls [.long r3]) rfl ?_
    refine lv_pop2_2 hx hb (xb_d D_M_written 46 rfl) rfl ?_
    refine lv_goto (tgt := 301) hx hb (xb_d D_M_written 47 rfl) rfl ?_
    exact am_M_written_L301 l hfl D A σ MC MS h0 Qr h2 hw p e s m args below meth c hC H locs ls k n hE (lv_sub hl [] rfl) hR hS (by omega) (by omega)
  · exact False.elim hq

set_option maxHeartbeats 4000000 in
set_option maxRecDepth 100000 in
theorem am_M_written_L51 (l : Launch) (hfl : l.flags = pinnedFlags ++ [noTraceFlag]) (D : va_G) (A : Nat → Prop) (σ MC MS : Nat) (h0 : xb_H) (Qr : xb_H → Prop) (h : xb_H) (hw : w_M_written_L51 Qr h) : xb_am l D A σ 6 MC MS h0 (fun v h => v = none ∧ Qr h) (fun _ _ => False) y_M_written.cls y_M_written.name b_M_written 4 ([] : List ExceptionTableEntry) none 51 [] [] h 0 0 := by
  unfold w_M_written_L51 at hw
  intro p e s m args below meth c hC H locs ls k n hE hl hR hS hk hn
  obtain ⟨hx, hb, hown, hlocks, htab, hml, hr, hB, hA, hnm⟩ := id hC
  have hts := hB.1.1.at args
  refine lv_goto (tgt := 301) hx hb (xb_d D_M_written 28 rfl) rfl ?_
  exact am_M_written_L301 l hfl D A σ MC MS h0 Qr h hw p e s m args below meth c hC H locs ls k n hE (lv_sub hl [] rfl) hR hS (by omega) (by omega)

set_option maxHeartbeats 4000000 in
set_option maxRecDepth 100000 in
theorem am_M_written_L15 (l : Launch) (hfl : l.flags = pinnedFlags ++ [noTraceFlag]) (D : va_G) (A : Nat → Prop) (σ MC MS : Nat) (h0 : xb_H) (Qr : xb_H → Prop) (x0 : Nat) (h : xb_H) (hw : w_M_written_L15 Qr x0 h) : xb_am l D A σ 6 MC MS h0 (fun v h => v = none ∧ Qr h) (fun _ _ => False) y_M_written.cls y_M_written.name b_M_written 4 ([] : List ExceptionTableEntry) none 15 [(0, .ref x0)] [] h 0 0 := by
  unfold w_M_written_L15 at hw
  intro p e s m args below meth c hC H locs ls k n hE hl hR hS hk hn
  obtain ⟨hx, hb, hown, hlocks, htab, hml, hr, hB, hA, hnm⟩ := id hC
  have hts := hB.1.1.at args
  refine lv_aload_n hx hb (xb_d D_M_written 9 rfl) rfl (lv_at hl 0 rfl) ?_
  obtain ⟨hk1, hw⟩ := hw
  refine xb_call (D := D) (A := A) (σ := σ) (h := h) (d := 3) (mc := 0) (ms := 0) (maxL := 2) (rest := []) (av := [.ref x0]) (fun T hT X => by obtain ⟨cb, r1, r2, r3⟩ := xb_recv (ci := 8) hR rfl hk1 (by decide); exact xt_invV X hx hown (hts _ m_0e978570) (hts _ m_40099f98) (hts _ m_a7dbfd07) (xt_sigOf (hts _ m_0af1ec6a)) nm_M_next (by rw [hT]; exact r1) r2 r3 (g := F0 m 16 ls [.ref x0]) rfl (argsL := []) (rest := []) rfl rfl (by rw [hb]; exact (xb_d D_M_written 10 rfl))) (ok_M_next l hfl D A σ x0 h _ hw) (hml.trans hl.1.symm) (by rw [hb]; exact (xb_d D_M_written 10 rfl)) (Nat.le_of_ble_eq_true rfl) (Nat.le_of_ble_eq_true rfl) (Nat.le_of_ble_eq_true rfl) (show k + 0 ≤ MC by omega) (show n + 0 ≤ MS by omega) (xt_w1 hB.1 m_0af1ec6a) (xt_cdOf hB.1 m_0af1ec6a) (hts _ m_d5ed7bed) hB hR hS hA (fun vv h2 H locs hq hEh2 hR hS => ?_) (fun XX ax h2 H locs hq hEh2 hex hR hS => ?_)
  · obtain ⟨r3, rfl, hw⟩ := hq
    have hw := hw hEh2
    have hE := hE.tr hEh2
    refine W.eq (g2 := F0 m 19 ls [.int r3]) rfl ?_
    refine lv_istore_n hx hb (xb_d D_M_written 11 rfl) rfl hl (by decide) rfl (fun ls hl => ?_)
    have hl : lv_has ls 4 [(3, .int r3), (0, .ref x0)] := hl
    refine lv_aload_n hx hb (xb_d D_M_written 12 rfl) rfl (lv_at hl 1 rfl) ?_
    have hk1 : xb_k h2 x0 = 9 := hEh2.k hk1
    refine xb_getI (C := R_M) (T := F_M) (N := 97) hx hb 8 17 hts fin_M hown hR hk1 (by decide) rfl (by decide) rfl (hts _ m_ff69da61) (fun _ h9 => h9) (xb_d D_M_written 13 rfl) ?_
    refine lv_if_ne (tgt := 51) hx hb (xb_d D_M_written 14 rfl) rfl (fun hc4 => ?_) (fun hc4 => ?_)
    · have hw := hw.1 hc4
      exact am_M_written_L51 l hfl D A σ MC MS h0 Qr h2 hw p e s m args below meth c hC H locs ls k n hE (lv_sub hl [] rfl) hR hS (by omega) (by omega)
    · have hw := hw.2 hc4
      refine lv_iload_n hx hb (xb_d D_M_written 15 rfl) rfl (lv_at hl 0 rfl) ?_
      refine lv_bipush (v := 64) hx hb (xb_d D_M_written 16 rfl) (by decide) ?_
      refine lv_icmp_eq (tgt := 51) hx hb (xb_d D_M_written 17 rfl) rfl (fun hc5 => ?_) (fun hc5 => ?_)
      · have hw := hw.1 hc5
        exact am_M_written_L51 l hfl D A σ MC MS h0 Qr h2 hw p e s m args below meth c hC H locs ls k n hE (lv_sub hl [] rfl) hR hS (by omega) (by omega)
      · have hw := hw.2 hc5
        refine lv_iload_n hx hb (xb_d D_M_written 18 rfl) rfl (lv_at hl 0 rfl) ?_
        refine xb_call (D := D) (A := A) (σ := σ) (h := h2) (d := 2) (mc := 0) (ms := 0) (maxL := 1) (rest := []) (av := [.int r3]) (fun T hT X => xt_invS X hx hown (hts _ m_7755cbcf) (hts _ m_f0ea648f) (hts _ m_d5ed7bed) (xt_sgS (hts _ m_3354b7ba)).1 (xt_sgS (hts _ m_3354b7ba)).2 nm_M_isType (g := F0 m 34 ls [.int r3]) rfl (argsL := [.int r3]) (rest := []) rfl rfl (by rw [hb]; exact (xb_d D_M_written 19 rfl))) (ok_M_isType l hfl D A σ r3 h2 _ hw) (hml.trans hl.1.symm) (by rw [hb]; exact (xb_d D_M_written 19 rfl)) (Nat.le_of_ble_eq_true rfl) (Nat.le_of_ble_eq_true rfl) (Nat.le_of_ble_eq_true rfl) (show k + 0 ≤ MC by omega) (show n + 0 ≤ MS by omega) (xt_w1 hB.1 m_3354b7ba) (xt_cdOf hB.1 m_3354b7ba) (hts _ m_d5ed7bed) hB hR hS hA (fun vv h6 H locs hq hEh6 hR hS => ?_) (fun XX ax h6 H locs hq hEh6 hex hR hS => ?_)
        · obtain ⟨r7, rfl, hw⟩ := hq
          have hw := hw hEh6
          have hE := hE.tr hEh6
          refine W.eq (g2 := F0 m 37 ls [.int r7]) rfl ?_
          refine lv_if_ne (tgt := 51) hx hb (xb_d D_M_written 20 rfl) rfl (fun hc8 => ?_) (fun hc8 => ?_)
          · have hw := hw.1 hc8
            exact am_M_written_L51 l hfl D A σ MC MS h0 Qr h6 hw p e s m args below meth c hC H locs ls k n hE (lv_sub hl [] rfl) hR hS (by omega) (by omega)
          · have hw := hw.2 hc8
            refine lv_aload_n hx hb (xb_d D_M_written 21 rfl) rfl (lv_at hl 1 rfl) ?_
            refine lv_iconst (v := 5) hx hb (xb_d D_M_written 22 rfl) (by decide) ?_
            refine lv_aload_n hx hb (xb_d D_M_written 23 rfl) rfl (lv_at hl 1 rfl) ?_
            have hk1 : xb_k h6 x0 = 9 := hEh6.k hk1
            refine xb_getI (C := R_M) (T := F_M) (N := 97) hx hb 8 15 hts fin_M hown hR hk1 (by decide) rfl (by decide) rfl (hts _ m_6c2d27ad) (fun _ h9 => h9) (xb_d D_M_written 24 rfl) ?_
            refine lv_iconst (v := 1) hx hb (xb_d D_M_written 25 rfl) (by decide) ?_
            refine lv_isub hx hb (xb_d D_M_written 26 rfl) ?_
            refine xb_call (D := D) (A := A) (σ := σ) (h := h6) (d := 2) (mc := 0) (ms := 0) (maxL := 3) (rest := []) (av := [.ref x0, .int 5, .int ((xb_i h6 x0 15) - 1)]) (fun T hT X => by obtain ⟨cb, r1, r2, r3⟩ := xb_recv (ci := 8) hR rfl hk1 (by decide); exact xt_invV X hx hown (hts _ m_939052ad) (hts _ m_29cc8c73) (hts _ m_3b1ac7ab) (xt_sigOf (hts _ m_8f062ecd)) nm_M_fail (by rw [hT]; exact r1) r2 r3 (g := F0 m 48 ls [.int ((xb_i h6 x0 15) - 1), .int 5, .ref x0]) rfl (argsL := [.int 5, .int ((xb_i h6 x0 15) - 1)]) (rest := []) rfl rfl (by rw [hb]; exact (xb_d D_M_written 27 rfl))) (ok_M_fail l hfl D A σ x0 5 ((xb_i h6 x0 15) - 1) h6 _ hw) (hml.trans hl.1.symm) (by rw [hb]; exact (xb_d D_M_written 27 rfl)) (Nat.le_of_ble_eq_true rfl) (Nat.le_of_ble_eq_true rfl) (Nat.le_of_ble_eq_true rfl) (show k + 0 ≤ MC by omega) (show n + 0 ≤ MS by omega) (xt_w1 hB.1 m_8f062ecd) (xt_cdOf hB.1 m_8f062ecd) (hts _ m_d5ed7bed) hB hR hS hA (fun vv h9 H locs hq hEh9 hR hS => ?_) (fun XX ax h9 H locs hq hEh9 hex hR hS => ?_)
            · obtain ⟨rfl, hw⟩ := hq
              have hw := hw hEh9
              have hE := hE.tr hEh9
              refine W.eq (g2 := F0 m 51 ls []) rfl ?_
              exact am_M_written_L51 l hfl D A σ MC MS h0 Qr h9 hw p e s m args below meth c hC H locs ls k n hE (lv_sub hl [] rfl) hR hS (by omega) (by omega)
            · exact False.elim hq
        · exact False.elim hq
  · exact False.elim hq

set_option maxHeartbeats 4000000 in
set_option maxRecDepth 100000 in
theorem ok_M_written (l : Launch) (hfl : l.flags = pinnedFlags ++ [noTraceFlag]) (D : va_G) (A : Nat → Prop) (σ : Nat) (x0 : Nat) (x1 : Int32) (x2 : Int32) (h : xb_H) (Qr : xb_H → Prop) (hw : w_M_written x0 x1 x2 h Qr) : xt_Met l y_M_written [.code y_M_written b_M_written 4 none] (xb_rm 6 0 0) (xb_Pc D A σ h [.ref x0, .int x1, .int x2]) (xb_Qc D A h (fun v h => v = none ∧ Qr h) (fun _ _ => False)) 0 0 A := by
  refine xb_ofAm (cc := b_M_written) (by decide) (Nat.le_of_ble_eq_true rfl) ?_
  unfold w_M_written at hw
  show xb_am l D A σ 6 0 0 h (fun v h => v = none ∧ Qr h) (fun _ _ => False) y_M_written.cls y_M_written.name b_M_written 4 ([] : List ExceptionTableEntry) none 0 [(0, .ref x0), (1, .int x1), (2, .int x2)] [] h 0 0
  obtain ⟨MC, hMC⟩ : ∃ x, x = 0 := ⟨_, rfl⟩
  obtain ⟨MS, hMS⟩ : ∃ x, x = 0 := ⟨_, rfl⟩
  rw [show xb_am l D A σ 6 0 0 = xb_am l D A σ 6 MC MS by rw [hMC, hMS]]
  obtain ⟨h0, hh0⟩ : ∃ x, x = h := ⟨_, rfl⟩
  rw [show xb_am l D A σ 6 MC MS h = xb_am l D A σ 6 MC MS h0 by rw [hh0]]
  intro p e s m args below meth c hC H locs ls k n hE hl hR hS hk hn
  obtain ⟨hx, hb, hown, hlocks, htab, hml, hr, hB, hA, hnm⟩ := id hC
  have hts := hB.1.1.at args
  refine lv_iload_n hx hb (xb_d D_M_written 0 rfl) rfl (lv_at hl 1 rfl) ?_
  refine lv_iconst (v := 2) hx hb (xb_d D_M_written 1 rfl) (by decide) ?_
  refine lv_icmp_eq (tgt := 15) hx hb (xb_d D_M_written 2 rfl) rfl (fun hc1 => ?_) (fun hc1 => ?_)
  · have hw := hw.1 hc1
    exact am_M_written_L15 l hfl D A σ MC MS h0 Qr x0 h hw p e s m args below meth c hC H locs ls k n hE (lv_sub hl [0] rfl) hR hS (by omega) (by omega)
  · have hw := hw.2 hc1
    refine lv_iload_n hx hb (xb_d D_M_written 3 rfl) rfl (lv_at hl 1 rfl) ?_
    refine lv_iconst (v := 3) hx hb (xb_d D_M_written 4 rfl) (by decide) ?_
    refine lv_icmp_eq (tgt := 15) hx hb (xb_d D_M_written 5 rfl) rfl (fun hc2 => ?_) (fun hc2 => ?_)
    · have hw := hw.1 hc2
      exact am_M_written_L15 l hfl D A σ MC MS h0 Qr x0 h hw p e s m args below meth c hC H locs ls k n hE (lv_sub hl [0] rfl) hR hS (by omega) (by omega)
    · have hw := hw.2 hc2
      refine lv_iload_n hx hb (xb_d D_M_written 6 rfl) rfl (lv_at hl 1 rfl) ?_
      refine lv_iconst (v := 4) hx hb (xb_d D_M_written 7 rfl) (by decide) ?_
      refine lv_icmp_ne (tgt := 54) hx hb (xb_d D_M_written 8 rfl) rfl (fun hc3 => ?_) (fun hc3 => ?_)
      · have hw := hw.1 hc3
        refine lv_iload_n hx hb (xb_d D_M_written 29 rfl) rfl (lv_at hl 1 rfl) ?_
        refine lv_bipush (v := 12) hx hb (xb_d D_M_written 30 rfl) (by decide) ?_
        refine lv_icmp_eq (tgt := 84) hx hb (xb_d D_M_written 31 rfl) rfl (fun hc4 => ?_) (fun hc4 => ?_)
        · have hw := hw.1 hc4
          exact am_M_written_L84 l hfl D A σ MC MS h0 Qr x0 h hw p e s m args below meth c hC H locs ls k n hE (lv_sub hl [0] rfl) hR hS (by omega) (by omega)
        · have hw := hw.2 hc4
          refine lv_iload_n hx hb (xb_d D_M_written 32 rfl) rfl (lv_at hl 1 rfl) ?_
          refine lv_bipush (v := 13) hx hb (xb_d D_M_written 33 rfl) (by decide) ?_
          refine lv_icmp_eq (tgt := 84) hx hb (xb_d D_M_written 34 rfl) rfl (fun hc5 => ?_) (fun hc5 => ?_)
          · have hw := hw.1 hc5
            exact am_M_written_L84 l hfl D A σ MC MS h0 Qr x0 h hw p e s m args below meth c hC H locs ls k n hE (lv_sub hl [0] rfl) hR hS (by omega) (by omega)
          · have hw := hw.2 hc5
            refine lv_iload_n hx hb (xb_d D_M_written 35 rfl) rfl (lv_at hl 1 rfl) ?_
            refine lv_bipush (v := 16) hx hb (xb_d D_M_written 36 rfl) (by decide) ?_
            refine lv_icmp_eq (tgt := 84) hx hb (xb_d D_M_written 37 rfl) rfl (fun hc6 => ?_) (fun hc6 => ?_)
            · have hw := hw.1 hc6
              exact am_M_written_L84 l hfl D A σ MC MS h0 Qr x0 h hw p e s m args below meth c hC H locs ls k n hE (lv_sub hl [0] rfl) hR hS (by omega) (by omega)
            · have hw := hw.2 hc6
              refine lv_iload_n hx hb (xb_d D_M_written 38 rfl) rfl (lv_at hl 1 rfl) ?_
              refine lv_bipush (v := 32) hx hb (xb_d D_M_written 39 rfl) (by decide) ?_
              refine lv_icmp_lt (tgt := 92) hx hb (xb_d D_M_written 40 rfl) rfl (fun hc7 => ?_) (fun hc7 => ?_)
              · have hw := hw.1 hc7
                exact am_M_written_L92 l hfl D A σ MC MS h0 Qr x0 x1 x2 h hw p e s m args below meth c hC H locs ls k n hE (lv_sub hl [0, 1, 2] rfl) hR hS (by omega) (by omega)
              · have hw := hw.2 hc7
                refine lv_iload_n hx hb (xb_d D_M_written 41 rfl) rfl (lv_at hl 1 rfl) ?_
                refine lv_bipush (v := 36) hx hb (xb_d D_M_written 42 rfl) (by decide) ?_
                refine lv_icmp_gt (tgt := 92) hx hb (xb_d D_M_written 43 rfl) rfl (fun hc8 => ?_) (fun hc8 => ?_)
                · have hw := hw.1 hc8
                  exact am_M_written_L92 l hfl D A σ MC MS h0 Qr x0 x1 x2 h hw p e s m args below meth c hC H locs ls k n hE (lv_sub hl [0, 1, 2] rfl) hR hS (by omega) (by omega)
                · have hw := hw.2 hc8
                  exact am_M_written_L84 l hfl D A σ MC MS h0 Qr x0 h hw p e s m args below meth c hC H locs ls k n hE (lv_sub hl [0] rfl) hR hS (by omega) (by omega)
      · have hw := hw.2 hc3
        exact am_M_written_L15 l hfl D A σ MC MS h0 Qr x0 h hw p e s m args below meth c hC H locs ls k n hE (lv_sub hl [0] rfl) hR hS (by omega) (by omega)

theorem m_0cd6cac2 : (.methodLink "StackHostModel$Exact" 145 y_Exact_lesser : Cond) ∈ xt_tbl := xt_in (xt_t13 (List.mem_of_getElem? (i := 83) (by decide +kernel))) (by decide +kernel)
theorem m_021a8f14 : (.instanceMethod y_Exact_lesser : Cond) ∈ xt_tbl := xt_in (xt_t13 (List.mem_of_getElem? (i := 85) (by decide +kernel))) (by decide +kernel)
theorem m_49c0ac42 : (.selects "StackHostModel$Exact" y_Exact_lesser y_Exact_lesser : Cond) ∈ xt_tbl := xt_in (xt_v16 (q := (⟨"StackHostModel$Exact", "lesser", "(ZJJ)J"⟩, 11)) (List.mem_of_getElem? (i := 13) (by decide +kernel))) (by decide +kernel)
theorem m_b97738bf : (.code y_Exact_lesser b_Exact_lesser 6 (some .long) : Cond) ∈ xt_tbl := xt_in (xt_t13 (List.mem_of_getElem? (i := 86) (by decide +kernel))) (by decide +kernel)
theorem m_c7492856 : (.methodLink "StackHostModel$Exact" 128 y_Exact_whole : Cond) ∈ xt_tbl := xt_in (xt_t13 (List.mem_of_getElem? (i := 57) (by decide +kernel))) (by decide +kernel)
theorem m_3ecf0ada : (.instanceMethod y_Exact_whole : Cond) ∈ xt_tbl := xt_in (xt_t13 (List.mem_of_getElem? (i := 59) (by decide +kernel))) (by decide +kernel)
theorem m_c590a018 : (.selects "StackHostModel$Exact" y_Exact_whole y_Exact_whole : Cond) ∈ xt_tbl := xt_in (xt_v16 (q := (⟨"StackHostModel$Exact", "whole", "(IJ)J"⟩, 11)) (List.mem_of_getElem? (i := 7) (by decide +kernel))) (by decide +kernel)
theorem m_f81a71ea : (.code y_Exact_whole b_Exact_whole 11 (some .long) : Cond) ∈ xt_tbl := xt_in (xt_t13 (List.mem_of_getElem? (i := 60) (by decide +kernel))) (by decide +kernel)
theorem m_d320a9bc : (.methodLink "StackHostModel$Exact" 132 y_Exact_root : Cond) ∈ xt_tbl := xt_in (xt_t13 (List.mem_of_getElem? (i := 61) (by decide +kernel))) (by decide +kernel)
theorem m_dc3f9b3d : (.instanceMethod y_Exact_root : Cond) ∈ xt_tbl := xt_in (xt_t13 (List.mem_of_getElem? (i := 63) (by decide +kernel))) (by decide +kernel)
theorem m_db3c8401 : (.selects "StackHostModel$Exact" y_Exact_root y_Exact_root : Cond) ∈ xt_tbl := xt_in (xt_v16 (q := (⟨"StackHostModel$Exact", "root", "(J)J"⟩, 11)) (List.mem_of_getElem? (i := 8) (by decide +kernel))) (by decide +kernel)
theorem m_e2b508b5 : (.code y_Exact_root b_Exact_root 10 (some .long) : Cond) ∈ xt_tbl := xt_in (xt_t13 (List.mem_of_getElem? (i := 64) (by decide +kernel))) (by decide +kernel)
theorem m_08a4a9a4 : (.methodLink "StackHostModel$Exact" 135 y_Exact_sum : Cond) ∈ xt_tbl := xt_in (xt_t13 (List.mem_of_getElem? (i := 67) (by decide +kernel))) (by decide +kernel)
theorem m_1a175cfd : (.instanceMethod y_Exact_sum : Cond) ∈ xt_tbl := xt_in (xt_t13 (List.mem_of_getElem? (i := 69) (by decide +kernel))) (by decide +kernel)
theorem m_c8b0175c : (.selects "StackHostModel$Exact" y_Exact_sum y_Exact_sum : Cond) ∈ xt_tbl := xt_in (xt_v16 (q := (⟨"StackHostModel$Exact", "sum", "(JJ)J"⟩, 11)) (List.mem_of_getElem? (i := 9) (by decide +kernel))) (by decide +kernel)
theorem m_74e5bfdd : (.code y_Exact_sum b_Exact_sum 12 (some .long) : Cond) ∈ xt_tbl := xt_in (xt_t13 (List.mem_of_getElem? (i := 70) (by decide +kernel))) (by decide +kernel)
theorem m_884c8582 : (.methodLink "StackHostModel$Exact" 139 y_Exact_product : Cond) ∈ xt_tbl := xt_in (xt_t13 (List.mem_of_getElem? (i := 75) (by decide +kernel))) (by decide +kernel)
theorem m_e2dd6a52 : (.instanceMethod y_Exact_product : Cond) ∈ xt_tbl := xt_in (xt_t13 (List.mem_of_getElem? (i := 77) (by decide +kernel))) (by decide +kernel)
theorem m_21590c82 : (.selects "StackHostModel$Exact" y_Exact_product y_Exact_product : Cond) ∈ xt_tbl := xt_in (xt_v16 (q := (⟨"StackHostModel$Exact", "product", "(JJ)J"⟩, 11)) (List.mem_of_getElem? (i := 11) (by decide +kernel))) (by decide +kernel)
theorem m_3d45fc93 : (.code y_Exact_product b_Exact_product 10 (some .long) : Cond) ∈ xt_tbl := xt_in (xt_t13 (List.mem_of_getElem? (i := 78) (by decide +kernel))) (by decide +kernel)
theorem m_8658db1c : (.methodLink "StackHostModel$Exact" 142 y_Exact_quotient : Cond) ∈ xt_tbl := xt_in (xt_t13 (List.mem_of_getElem? (i := 79) (by decide +kernel))) (by decide +kernel)
theorem m_72c1259d : (.instanceMethod y_Exact_quotient : Cond) ∈ xt_tbl := xt_in (xt_t13 (List.mem_of_getElem? (i := 81) (by decide +kernel))) (by decide +kernel)
theorem m_1727c3e7 : (.selects "StackHostModel$Exact" y_Exact_quotient y_Exact_quotient : Cond) ∈ xt_tbl := xt_in (xt_v16 (q := (⟨"StackHostModel$Exact", "quotient", "(JJ)J"⟩, 11)) (List.mem_of_getElem? (i := 12) (by decide +kernel))) (by decide +kernel)
theorem m_df22da4d : (.code y_Exact_quotient b_Exact_quotient 12 (some .long) : Cond) ∈ xt_tbl := xt_in (xt_t13 (List.mem_of_getElem? (i := 82) (by decide +kernel))) (by decide +kernel)
theorem nm_Exact_lesser : xt_nm y_Exact_lesser 3 := ⟨by decide +kernel, by decide +kernel⟩
theorem nm_Exact_whole : xt_nm y_Exact_whole 2 := ⟨by decide +kernel, by decide +kernel⟩
theorem nm_Exact_root : xt_nm y_Exact_root 1 := ⟨by decide +kernel, by decide +kernel⟩
theorem nm_Exact_sum : xt_nm y_Exact_sum 2 := ⟨by decide +kernel, by decide +kernel⟩
theorem nm_Exact_product : xt_nm y_Exact_product 2 := ⟨by decide +kernel, by decide +kernel⟩
theorem nm_Exact_quotient : xt_nm y_Exact_quotient 2 := ⟨by decide +kernel, by decide +kernel⟩
set_option maxRecDepth 100000 in
def T_Exact_floated : List (Nat × Instr × Nat) := [(0, .iload_n 1, 1), (1, .lookupswitch 68 #[(0, 35), (1, 41), (13, 52)], 35), (36, .aload_n 0, 1), (37, .lload_n 2, 1), (38, .invokevirtual 72, 3), (41, .lreturn, 1), (42, .lload_n 2, 1), (43, .lconst 1, 1), (44, .aload_n 0, 1), (45, .getfield 41, 3), (48, .iconst 1, 1), (49, .isub, 1), (50, .lshl, 1), (51, .lxor, 1), (52, .lreturn, 1), (53, .aload_n 0, 1), (54, .aload_n 0, 1), (55, .lload_n 2, 1), (56, .invokevirtual 72, 3), (59, .aload_n 0, 1), (60, .lload 4, 2), (62, .invokevirtual 76, 3), (65, .invokevirtual 52, 3), (68, .lreturn, 1), (69, .aload_n 0, 1), (70, .lload_n 2, 1), (71, .invokevirtual 90, 3), (74, .ifCond .ne 18, 3), (77, .iload_n 1, 1), (78, .bipush 6, 2), (80, .if_icmp .le 17, 3), (83, .aload_n 0, 1), (84, .lload 4, 2), (86, .invokevirtual 90, 3), (89, .ifCond .eq 8, 3), (92, .aload_n 0, 1), (93, .invokevirtual 100, 3), (96, .lreturn, 1), (97, .iload_n 1, 1), (98, .tableswitch 126 2 10 #[50, 57, 64, 71, 79, 85, 93, 110, 118], 50), (148, .aload_n 0, 1), (149, .iconst 3, 1), (150, .lload_n 2, 1), (151, .invokevirtual 128, 3), (154, .lreturn, 1), (155, .aload_n 0, 1), (156, .iconst 4, 1), (157, .lload_n 2, 1), (158, .invokevirtual 128, 3), (161, .lreturn, 1), (162, .aload_n 0, 1), (163, .iconst 5, 1), (164, .lload_n 2, 1), (165, .invokevirtual 128, 3), (168, .lreturn, 1), (169, .aload_n 0, 1), (170, .bipush 6, 2), (172, .lload_n 2, 1), (173, .invokevirtual 128, 3), (176, .lreturn, 1), (177, .aload_n 0, 1), (178, .lload_n 2, 1), (179, .invokevirtual 132, 3), (182, .lreturn, 1), (183, .aload_n 0, 1), (184, .lload_n 2, 1), (185, .lload 4, 2), (187, .invokevirtual 135, 3), (190, .lreturn, 1), (191, .aload_n 0, 1), (192, .lload_n 2, 1), (193, .lload 4, 2), (195, .lconst 1, 1), (196, .aload_n 0, 1), (197, .getfield 41, 3), (200, .iconst 1, 1), (201, .isub, 1), (202, .lshl, 1), (203, .lxor, 1), (204, .invokevirtual 135, 3), (207, .lreturn, 1), (208, .aload_n 0, 1), (209, .lload_n 2, 1), (210, .lload 4, 2), (212, .invokevirtual 139, 3), (215, .lreturn, 1), (216, .aload_n 0, 1), (217, .lload_n 2, 1), (218, .lload 4, 2), (220, .invokevirtual 142, 3), (223, .lreturn, 1), (224, .aload_n 0, 1), (225, .iload_n 1, 1), (226, .bipush 12, 2), (228, .if_icmp .ne 7, 3), (231, .iconst 1, 1), (232, .goto 4, 3), (235, .iconst 0, 1), (236, .lload_n 2, 1), (237, .lload 4, 2), (239, .invokevirtual 145, 3), (242, .lreturn, 1)]
theorem D_Exact_floated : ∀ q ∈ T_Exact_floated, decode b_Exact_floated q.1 = .ok (q.2.1, q.2.2) := by decide +kernel
def w_Exact_floated_L236 (Qr : Int64 → xb_H → Prop) (x2 : Int64) (x4 : Int64) (y0 : Int32) (y1 : Nat) (h : xb_H) : Prop :=
    xb_k h y1 = 10 ∧ w_Exact_lesser y1 y0 x2 x4 h (fun (r3 : Int64) (h2 : xb_H) => xb_ext h h2 → Qr r3 h2)

def w_Exact_floated_L97 (Qr : Int64 → xb_H → Prop) (x0 : Nat) (x1 : Int32) (x2 : Int64) (x4 : Int64) (h : xb_H) : Prop :=
    ((x1 = 2 → xb_k h x0 = 10 ∧ w_Exact_whole x0 3 x2 h (fun (r4 : Int64) (h3 : xb_H) => xb_ext h h3 → Qr r4 h3)) ∧ (x1 = 3 → xb_k h x0 = 10 ∧ w_Exact_whole x0 4 x2 h (fun (r8 : Int64) (h7 : xb_H) => xb_ext h h7 → Qr r8 h7)) ∧ (x1 = 4 → xb_k h x0 = 10 ∧ w_Exact_whole x0 5 x2 h (fun (r12 : Int64) (h11 : xb_H) => xb_ext h h11 → Qr r12 h11)) ∧ (x1 = 5 → xb_k h x0 = 10 ∧ w_Exact_whole x0 6 x2 h (fun (r16 : Int64) (h15 : xb_H) => xb_ext h h15 → Qr r16 h15)) ∧ (x1 = 6 → xb_k h x0 = 10 ∧ w_Exact_root x0 x2 h (fun (r20 : Int64) (h19 : xb_H) => xb_ext h h19 → Qr r20 h19)) ∧ (x1 = 7 → xb_k h x0 = 10 ∧ w_Exact_sum x0 x2 x4 h (fun (r24 : Int64) (h23 : xb_H) => xb_ext h h23 → Qr r24 h23)) ∧ (x1 = 8 → xb_k h x0 = 10 ∧ w_Exact_sum x0 x2 (x4 ^^^ (xb_lshl 1 ((xb_i h x0 5) - 1))) h (fun (r28 : Int64) (h27 : xb_H) => xb_ext h h27 → Qr r28 h27)) ∧ (x1 = 9 → xb_k h x0 = 10 ∧ w_Exact_product x0 x2 x4 h (fun (r32 : Int64) (h31 : xb_H) => xb_ext h h31 → Qr r32 h31)) ∧ (x1 = 10 → xb_k h x0 = 10 ∧ w_Exact_quotient x0 x2 x4 h (fun (r36 : Int64) (h35 : xb_H) => xb_ext h h35 → Qr r36 h35)) ∧ (¬ x1 = 2 → ¬ x1 = 3 → ¬ x1 = 4 → ¬ x1 = 5 → ¬ x1 = 6 → ¬ x1 = 7 → ¬ x1 = 8 → ¬ x1 = 9 → ¬ x1 = 10 → ((¬ x1 = (12 : Int32) → w_Exact_floated_L236 Qr x2 x4 0 x0 h) ∧ (x1 = (12 : Int32) → w_Exact_floated_L236 Qr x2 x4 1 x0 h))))

def w_Exact_floated_L92 (Qr : Int64 → xb_H → Prop) (x0 : Nat) (h : xb_H) : Prop :=
    xb_k h x0 = 10 ∧ w_Exact_noNumber x0 h (fun (r3 : Int64) (h2 : xb_H) => xb_ext h h2 → Qr r3 h2)

def w_Exact_floated (x0 : Nat) (x1 : Int32) (x2 : Int64) (x4 : Int64) (h : xb_H) (Qr : Int64 → xb_H → Prop) : Prop :=
    ((x1 = 0 → xb_k h x0 = 10 ∧ w_Exact_size x0 x2 h (fun (r4 : Int64) (h3 : xb_H) => xb_ext h h3 → Qr r4 h3)) ∧ (x1 = 1 → xb_k h x0 = 10 ∧ Qr (x2 ^^^ (xb_lshl 1 ((xb_i h x0 5) - 1))) h) ∧ (x1 = 13 → xb_k h x0 = 10 ∧ w_Exact_size x0 x2 h (fun (r10 : Int64) (h9 : xb_H) => xb_ext h h9 → w_Exact_isMinus x0 x4 h9 (fun (r12 : Int32) (h11 : xb_H) => xb_ext h9 h11 → w_Exact_signed x0 r10 r12 h11 (fun (r14 : Int64) (h13 : xb_H) => xb_ext h11 h13 → Qr r14 h13)))) ∧ (¬ x1 = 0 → ¬ x1 = 1 → ¬ x1 = 13 → xb_k h x0 = 10 ∧ w_Exact_isNone x0 x2 h (fun (r17 : Int32) (h16 : xb_H) => xb_ext h h16 → ((¬ r17 = (0 : Int32) → w_Exact_floated_L92 Qr x0 h16) ∧ (r17 = (0 : Int32) → ((x1 ≤ (6 : Int32) → w_Exact_floated_L97 Qr x0 x1 x2 x4 h16) ∧ (¬ x1 ≤ (6 : Int32) → w_Exact_isNone x0 x4 h16 (fun (r21 : Int32) (h20 : xb_H) => xb_ext h16 h20 → ((r21 = (0 : Int32) → w_Exact_floated_L97 Qr x0 x1 x2 x4 h20) ∧ (¬ r21 = (0 : Int32) → w_Exact_floated_L92 Qr x0 h20))))))))))

set_option maxHeartbeats 4000000 in
set_option maxRecDepth 100000 in
theorem am_Exact_floated_L236 (l : Launch) (hfl : l.flags = pinnedFlags ++ [noTraceFlag]) (D : va_G) (A : Nat → Prop) (σ MC MS : Nat) (h0 : xb_H) (Qr : Int64 → xb_H → Prop) (x2 : Int64) (x4 : Int64) (y0 : Int32) (y1 : Nat) (h : xb_H) (hw : w_Exact_floated_L236 Qr x2 x4 y0 y1 h) : xb_am l D A σ 6 MC MS h0 (fun v h => ∃ r, v = some (.long r) ∧ Qr r h) (fun _ _ => False) y_Exact_floated.cls y_Exact_floated.name b_Exact_floated 6 ([] : List ExceptionTableEntry) (some .long) 236 [(2, .long x2), (4, .long x4)] [.int y0, .ref y1] h 0 0 := by
  unfold w_Exact_floated_L236 at hw
  intro p e s m args below meth c hC H locs ls k n hE hl hR hS hk hn
  obtain ⟨hx, hb, hown, hlocks, htab, hml, hr, hB, hA, hnm⟩ := id hC
  have hts := hB.1.1.at args
  refine lv_lload_n hx hb (xb_d D_Exact_floated 98 rfl) rfl (lv_at hl 0 rfl) ?_
  refine lv_lload hx hb (xb_d D_Exact_floated 99 rfl) (lv_at hl 1 rfl) ?_
  obtain ⟨hk1, hw⟩ := hw
  refine xb_call (D := D) (A := A) (σ := σ) (h := h) (d := 4) (mc := 0) (ms := 0) (maxL := 6) (rest := []) (av := [.ref y1, .int y0, .long x2, .long x4]) (fun T hT X => by obtain ⟨cb, r1, r2, r3⟩ := xb_recv (ci := 9) hR rfl hk1 (by decide); exact xt_invV X hx hown (hts _ m_0cd6cac2) (hts _ m_021a8f14) (hts _ m_49c0ac42) (xt_sigOf (hts _ m_b97738bf)) nm_Exact_lesser (by rw [hT]; exact r1) r2 r3 (g := F0 m 239 ls [.long x4, .long x2, .int y0, .ref y1]) rfl (argsL := [.int y0, .long x2, .long x4]) (rest := []) rfl rfl (by rw [hb]; exact (xb_d D_Exact_floated 100 rfl))) (ok_Exact_lesser l hfl D A σ y1 y0 x2 x4 h _ hw) (hml.trans hl.1.symm) (by rw [hb]; exact (xb_d D_Exact_floated 100 rfl)) (Nat.le_of_ble_eq_true rfl) (Nat.le_of_ble_eq_true rfl) (Nat.le_of_ble_eq_true rfl) (show k + 0 ≤ MC by omega) (show n + 0 ≤ MS by omega) (xt_w1 hB.1 m_b97738bf) (xt_cdOf hB.1 m_b97738bf) (hts _ m_b807310b) hB hR hS hA (fun vv h2 H locs hq hEh2 hR hS => ?_) (fun XX ax h2 H locs hq hEh2 hex hR hS => ?_)
  · obtain ⟨r3, rfl, hw⟩ := hq
    have hw := hw hEh2
    have hE := hE.tr hEh2
    refine W.eq (g2 := F0 m 242 ls [.long r3]) rfl ?_
    exact xb_lret hx hb hr hlocks (show k ≤ MC by omega) (show n ≤ MS by omega) hE hR hS (xb_d D_Exact_floated 101 rfl) hw
  · exact False.elim hq

set_option maxHeartbeats 4000000 in
set_option maxRecDepth 100000 in
theorem am_Exact_floated_L97 (l : Launch) (hfl : l.flags = pinnedFlags ++ [noTraceFlag]) (D : va_G) (A : Nat → Prop) (σ MC MS : Nat) (h0 : xb_H) (Qr : Int64 → xb_H → Prop) (x0 : Nat) (x1 : Int32) (x2 : Int64) (x4 : Int64) (h : xb_H) (hw : w_Exact_floated_L97 Qr x0 x1 x2 x4 h) : xb_am l D A σ 6 MC MS h0 (fun v h => ∃ r, v = some (.long r) ∧ Qr r h) (fun _ _ => False) y_Exact_floated.cls y_Exact_floated.name b_Exact_floated 6 ([] : List ExceptionTableEntry) (some .long) 97 [(0, .ref x0), (1, .int x1), (2, .long x2), (4, .long x4)] [] h 0 0 := by
  unfold w_Exact_floated_L97 at hw
  intro p e s m args below meth c hC H locs ls k n hE hl hR hS hk hn
  obtain ⟨hx, hb, hown, hlocks, htab, hml, hr, hB, hA, hnm⟩ := id hC
  have hts := hB.1.1.at args
  refine lv_iload_n hx hb (xb_d D_Exact_floated 38 rfl) rfl (lv_at hl 1 rfl) ?_
  by_cases hc1 : x1 = 2
  · have hw := hw.1 hc1
    refine xt_numi hc1 ?_
    refine lv_tableIn (off := 50) (tgt := 148) hx hb (xb_d D_Exact_floated 39 rfl) (by decide +kernel) (by decide +kernel) (by decide +kernel) (by decide) ?_
    refine lv_aload_n hx hb (xb_d D_Exact_floated 40 rfl) rfl (lv_at hl 0 rfl) ?_
    refine lv_iconst (v := 3) hx hb (xb_d D_Exact_floated 41 rfl) (by decide) ?_
    refine lv_lload_n hx hb (xb_d D_Exact_floated 42 rfl) rfl (lv_at hl 2 rfl) ?_
    obtain ⟨hk2, hw⟩ := hw
    refine xb_call (D := D) (A := A) (σ := σ) (h := h) (d := 5) (mc := 0) (ms := 0) (maxL := 11) (rest := []) (av := [.ref x0, .int 3, .long x2]) (fun T hT X => by obtain ⟨cb, r1, r2, r3⟩ := xb_recv (ci := 9) hR rfl hk2 (by decide); exact xt_invV X hx hown (hts _ m_c7492856) (hts _ m_3ecf0ada) (hts _ m_c590a018) (xt_sigOf (hts _ m_f81a71ea)) nm_Exact_whole (by rw [hT]; exact r1) r2 r3 (g := F0 m 151 ls [.long x2, .int 3, .ref x0]) rfl (argsL := [.int 3, .long x2]) (rest := []) rfl rfl (by rw [hb]; exact (xb_d D_Exact_floated 43 rfl))) (ok_Exact_whole l hfl D A σ x0 3 x2 h _ hw) (hml.trans hl.1.symm) (by rw [hb]; exact (xb_d D_Exact_floated 43 rfl)) (Nat.le_of_ble_eq_true rfl) (Nat.le_of_ble_eq_true rfl) (Nat.le_of_ble_eq_true rfl) (show k + 0 ≤ MC by omega) (show n + 0 ≤ MS by omega) (xt_w1 hB.1 m_f81a71ea) (xt_cdOf hB.1 m_f81a71ea) (hts _ m_b807310b) hB hR hS hA (fun vv h3 H locs hq hEh3 hR hS => ?_) (fun XX ax h3 H locs hq hEh3 hex hR hS => ?_)
    · obtain ⟨r4, rfl, hw⟩ := hq
      have hw := hw hEh3
      have hE := hE.tr hEh3
      refine W.eq (g2 := F0 m 154 ls [.long r4]) rfl ?_
      exact xb_lret hx hb hr hlocks (show k ≤ MC by omega) (show n ≤ MS by omega) hE hR hS (xb_d D_Exact_floated 44 rfl) hw
    · exact False.elim hq
  have hw := hw.2
  by_cases hc5 : x1 = 3
  · have hw := hw.1 hc5
    refine xt_numi hc5 ?_
    refine lv_tableIn (off := 57) (tgt := 155) hx hb (xb_d D_Exact_floated 39 rfl) (by decide +kernel) (by decide +kernel) (by decide +kernel) (by decide) ?_
    refine lv_aload_n hx hb (xb_d D_Exact_floated 45 rfl) rfl (lv_at hl 0 rfl) ?_
    refine lv_iconst (v := 4) hx hb (xb_d D_Exact_floated 46 rfl) (by decide) ?_
    refine lv_lload_n hx hb (xb_d D_Exact_floated 47 rfl) rfl (lv_at hl 2 rfl) ?_
    obtain ⟨hk6, hw⟩ := hw
    refine xb_call (D := D) (A := A) (σ := σ) (h := h) (d := 5) (mc := 0) (ms := 0) (maxL := 11) (rest := []) (av := [.ref x0, .int 4, .long x2]) (fun T hT X => by obtain ⟨cb, r1, r2, r3⟩ := xb_recv (ci := 9) hR rfl hk6 (by decide); exact xt_invV X hx hown (hts _ m_c7492856) (hts _ m_3ecf0ada) (hts _ m_c590a018) (xt_sigOf (hts _ m_f81a71ea)) nm_Exact_whole (by rw [hT]; exact r1) r2 r3 (g := F0 m 158 ls [.long x2, .int 4, .ref x0]) rfl (argsL := [.int 4, .long x2]) (rest := []) rfl rfl (by rw [hb]; exact (xb_d D_Exact_floated 48 rfl))) (ok_Exact_whole l hfl D A σ x0 4 x2 h _ hw) (hml.trans hl.1.symm) (by rw [hb]; exact (xb_d D_Exact_floated 48 rfl)) (Nat.le_of_ble_eq_true rfl) (Nat.le_of_ble_eq_true rfl) (Nat.le_of_ble_eq_true rfl) (show k + 0 ≤ MC by omega) (show n + 0 ≤ MS by omega) (xt_w1 hB.1 m_f81a71ea) (xt_cdOf hB.1 m_f81a71ea) (hts _ m_b807310b) hB hR hS hA (fun vv h7 H locs hq hEh7 hR hS => ?_) (fun XX ax h7 H locs hq hEh7 hex hR hS => ?_)
    · obtain ⟨r8, rfl, hw⟩ := hq
      have hw := hw hEh7
      have hE := hE.tr hEh7
      refine W.eq (g2 := F0 m 161 ls [.long r8]) rfl ?_
      exact xb_lret hx hb hr hlocks (show k ≤ MC by omega) (show n ≤ MS by omega) hE hR hS (xb_d D_Exact_floated 49 rfl) hw
    · exact False.elim hq
  have hw := hw.2
  by_cases hc9 : x1 = 4
  · have hw := hw.1 hc9
    refine xt_numi hc9 ?_
    refine lv_tableIn (off := 64) (tgt := 162) hx hb (xb_d D_Exact_floated 39 rfl) (by decide +kernel) (by decide +kernel) (by decide +kernel) (by decide) ?_
    refine lv_aload_n hx hb (xb_d D_Exact_floated 50 rfl) rfl (lv_at hl 0 rfl) ?_
    refine lv_iconst (v := 5) hx hb (xb_d D_Exact_floated 51 rfl) (by decide) ?_
    refine lv_lload_n hx hb (xb_d D_Exact_floated 52 rfl) rfl (lv_at hl 2 rfl) ?_
    obtain ⟨hk10, hw⟩ := hw
    refine xb_call (D := D) (A := A) (σ := σ) (h := h) (d := 5) (mc := 0) (ms := 0) (maxL := 11) (rest := []) (av := [.ref x0, .int 5, .long x2]) (fun T hT X => by obtain ⟨cb, r1, r2, r3⟩ := xb_recv (ci := 9) hR rfl hk10 (by decide); exact xt_invV X hx hown (hts _ m_c7492856) (hts _ m_3ecf0ada) (hts _ m_c590a018) (xt_sigOf (hts _ m_f81a71ea)) nm_Exact_whole (by rw [hT]; exact r1) r2 r3 (g := F0 m 165 ls [.long x2, .int 5, .ref x0]) rfl (argsL := [.int 5, .long x2]) (rest := []) rfl rfl (by rw [hb]; exact (xb_d D_Exact_floated 53 rfl))) (ok_Exact_whole l hfl D A σ x0 5 x2 h _ hw) (hml.trans hl.1.symm) (by rw [hb]; exact (xb_d D_Exact_floated 53 rfl)) (Nat.le_of_ble_eq_true rfl) (Nat.le_of_ble_eq_true rfl) (Nat.le_of_ble_eq_true rfl) (show k + 0 ≤ MC by omega) (show n + 0 ≤ MS by omega) (xt_w1 hB.1 m_f81a71ea) (xt_cdOf hB.1 m_f81a71ea) (hts _ m_b807310b) hB hR hS hA (fun vv h11 H locs hq hEh11 hR hS => ?_) (fun XX ax h11 H locs hq hEh11 hex hR hS => ?_)
    · obtain ⟨r12, rfl, hw⟩ := hq
      have hw := hw hEh11
      have hE := hE.tr hEh11
      refine W.eq (g2 := F0 m 168 ls [.long r12]) rfl ?_
      exact xb_lret hx hb hr hlocks (show k ≤ MC by omega) (show n ≤ MS by omega) hE hR hS (xb_d D_Exact_floated 54 rfl) hw
    · exact False.elim hq
  have hw := hw.2
  by_cases hc13 : x1 = 5
  · have hw := hw.1 hc13
    refine xt_numi hc13 ?_
    refine lv_tableIn (off := 71) (tgt := 169) hx hb (xb_d D_Exact_floated 39 rfl) (by decide +kernel) (by decide +kernel) (by decide +kernel) (by decide) ?_
    refine lv_aload_n hx hb (xb_d D_Exact_floated 55 rfl) rfl (lv_at hl 0 rfl) ?_
    refine lv_bipush (v := 6) hx hb (xb_d D_Exact_floated 56 rfl) (by decide) ?_
    refine lv_lload_n hx hb (xb_d D_Exact_floated 57 rfl) rfl (lv_at hl 2 rfl) ?_
    obtain ⟨hk14, hw⟩ := hw
    refine xb_call (D := D) (A := A) (σ := σ) (h := h) (d := 5) (mc := 0) (ms := 0) (maxL := 11) (rest := []) (av := [.ref x0, .int 6, .long x2]) (fun T hT X => by obtain ⟨cb, r1, r2, r3⟩ := xb_recv (ci := 9) hR rfl hk14 (by decide); exact xt_invV X hx hown (hts _ m_c7492856) (hts _ m_3ecf0ada) (hts _ m_c590a018) (xt_sigOf (hts _ m_f81a71ea)) nm_Exact_whole (by rw [hT]; exact r1) r2 r3 (g := F0 m 173 ls [.long x2, .int 6, .ref x0]) rfl (argsL := [.int 6, .long x2]) (rest := []) rfl rfl (by rw [hb]; exact (xb_d D_Exact_floated 58 rfl))) (ok_Exact_whole l hfl D A σ x0 6 x2 h _ hw) (hml.trans hl.1.symm) (by rw [hb]; exact (xb_d D_Exact_floated 58 rfl)) (Nat.le_of_ble_eq_true rfl) (Nat.le_of_ble_eq_true rfl) (Nat.le_of_ble_eq_true rfl) (show k + 0 ≤ MC by omega) (show n + 0 ≤ MS by omega) (xt_w1 hB.1 m_f81a71ea) (xt_cdOf hB.1 m_f81a71ea) (hts _ m_b807310b) hB hR hS hA (fun vv h15 H locs hq hEh15 hR hS => ?_) (fun XX ax h15 H locs hq hEh15 hex hR hS => ?_)
    · obtain ⟨r16, rfl, hw⟩ := hq
      have hw := hw hEh15
      have hE := hE.tr hEh15
      refine W.eq (g2 := F0 m 176 ls [.long r16]) rfl ?_
      exact xb_lret hx hb hr hlocks (show k ≤ MC by omega) (show n ≤ MS by omega) hE hR hS (xb_d D_Exact_floated 59 rfl) hw
    · exact False.elim hq
  have hw := hw.2
  by_cases hc17 : x1 = 6
  · have hw := hw.1 hc17
    refine xt_numi hc17 ?_
    refine lv_tableIn (off := 79) (tgt := 177) hx hb (xb_d D_Exact_floated 39 rfl) (by decide +kernel) (by decide +kernel) (by decide +kernel) (by decide) ?_
    refine lv_aload_n hx hb (xb_d D_Exact_floated 60 rfl) rfl (lv_at hl 0 rfl) ?_
    refine lv_lload_n hx hb (xb_d D_Exact_floated 61 rfl) rfl (lv_at hl 2 rfl) ?_
    obtain ⟨hk18, hw⟩ := hw
    refine xb_call (D := D) (A := A) (σ := σ) (h := h) (d := 5) (mc := 0) (ms := 0) (maxL := 10) (rest := []) (av := [.ref x0, .long x2]) (fun T hT X => by obtain ⟨cb, r1, r2, r3⟩ := xb_recv (ci := 9) hR rfl hk18 (by decide); exact xt_invV X hx hown (hts _ m_d320a9bc) (hts _ m_dc3f9b3d) (hts _ m_db3c8401) (xt_sigOf (hts _ m_e2b508b5)) nm_Exact_root (by rw [hT]; exact r1) r2 r3 (g := F0 m 179 ls [.long x2, .ref x0]) rfl (argsL := [.long x2]) (rest := []) rfl rfl (by rw [hb]; exact (xb_d D_Exact_floated 62 rfl))) (ok_Exact_root l hfl D A σ x0 x2 h _ hw) (hml.trans hl.1.symm) (by rw [hb]; exact (xb_d D_Exact_floated 62 rfl)) (Nat.le_of_ble_eq_true rfl) (Nat.le_of_ble_eq_true rfl) (Nat.le_of_ble_eq_true rfl) (show k + 0 ≤ MC by omega) (show n + 0 ≤ MS by omega) (xt_w1 hB.1 m_e2b508b5) (xt_cdOf hB.1 m_e2b508b5) (hts _ m_b807310b) hB hR hS hA (fun vv h19 H locs hq hEh19 hR hS => ?_) (fun XX ax h19 H locs hq hEh19 hex hR hS => ?_)
    · obtain ⟨r20, rfl, hw⟩ := hq
      have hw := hw hEh19
      have hE := hE.tr hEh19
      refine W.eq (g2 := F0 m 182 ls [.long r20]) rfl ?_
      exact xb_lret hx hb hr hlocks (show k ≤ MC by omega) (show n ≤ MS by omega) hE hR hS (xb_d D_Exact_floated 63 rfl) hw
    · exact False.elim hq
  have hw := hw.2
  by_cases hc21 : x1 = 7
  · have hw := hw.1 hc21
    refine xt_numi hc21 ?_
    refine lv_tableIn (off := 85) (tgt := 183) hx hb (xb_d D_Exact_floated 39 rfl) (by decide +kernel) (by decide +kernel) (by decide +kernel) (by decide) ?_
    refine lv_aload_n hx hb (xb_d D_Exact_floated 64 rfl) rfl (lv_at hl 0 rfl) ?_
    refine lv_lload_n hx hb (xb_d D_Exact_floated 65 rfl) rfl (lv_at hl 2 rfl) ?_
    refine lv_lload hx hb (xb_d D_Exact_floated 66 rfl) (lv_at hl 3 rfl) ?_
    obtain ⟨hk22, hw⟩ := hw
    refine xb_call (D := D) (A := A) (σ := σ) (h := h) (d := 5) (mc := 0) (ms := 0) (maxL := 12) (rest := []) (av := [.ref x0, .long x2, .long x4]) (fun T hT X => by obtain ⟨cb, r1, r2, r3⟩ := xb_recv (ci := 9) hR rfl hk22 (by decide); exact xt_invV X hx hown (hts _ m_08a4a9a4) (hts _ m_1a175cfd) (hts _ m_c8b0175c) (xt_sigOf (hts _ m_74e5bfdd)) nm_Exact_sum (by rw [hT]; exact r1) r2 r3 (g := F0 m 187 ls [.long x4, .long x2, .ref x0]) rfl (argsL := [.long x2, .long x4]) (rest := []) rfl rfl (by rw [hb]; exact (xb_d D_Exact_floated 67 rfl))) (ok_Exact_sum l hfl D A σ x0 x2 x4 h _ hw) (hml.trans hl.1.symm) (by rw [hb]; exact (xb_d D_Exact_floated 67 rfl)) (Nat.le_of_ble_eq_true rfl) (Nat.le_of_ble_eq_true rfl) (Nat.le_of_ble_eq_true rfl) (show k + 0 ≤ MC by omega) (show n + 0 ≤ MS by omega) (xt_w1 hB.1 m_74e5bfdd) (xt_cdOf hB.1 m_74e5bfdd) (hts _ m_b807310b) hB hR hS hA (fun vv h23 H locs hq hEh23 hR hS => ?_) (fun XX ax h23 H locs hq hEh23 hex hR hS => ?_)
    · obtain ⟨r24, rfl, hw⟩ := hq
      have hw := hw hEh23
      have hE := hE.tr hEh23
      refine W.eq (g2 := F0 m 190 ls [.long r24]) rfl ?_
      exact xb_lret hx hb hr hlocks (show k ≤ MC by omega) (show n ≤ MS by omega) hE hR hS (xb_d D_Exact_floated 68 rfl) hw
    · exact False.elim hq
  have hw := hw.2
  by_cases hc25 : x1 = 8
  · have hw := hw.1 hc25
    refine xt_numi hc25 ?_
    refine lv_tableIn (off := 93) (tgt := 191) hx hb (xb_d D_Exact_floated 39 rfl) (by decide +kernel) (by decide +kernel) (by decide +kernel) (by decide) ?_
    refine lv_aload_n hx hb (xb_d D_Exact_floated 69 rfl) rfl (lv_at hl 0 rfl) ?_
    refine lv_lload_n hx hb (xb_d D_Exact_floated 70 rfl) rfl (lv_at hl 2 rfl) ?_
    refine lv_lload hx hb (xb_d D_Exact_floated 71 rfl) (lv_at hl 3 rfl) ?_
    refine lv_lconst (v := 1) hx hb (xb_d D_Exact_floated 72 rfl) (by decide) ?_
    refine lv_aload_n hx hb (xb_d D_Exact_floated 73 rfl) rfl (lv_at hl 0 rfl) ?_
    obtain ⟨hk26, hw⟩ := hw
    refine xb_getI (C := R_Exact) (T := F_Exact) (N := 11) hx hb 9 5 hts fin_Exact hown hR hk26 (by decide) rfl (by decide) rfl (hts _ m_30b212e4) (fun _ h9 => h9) (xb_d D_Exact_floated 74 rfl) ?_
    refine lv_iconst (v := 1) hx hb (xb_d D_Exact_floated 75 rfl) (by decide) ?_
    refine lv_isub hx hb (xb_d D_Exact_floated 76 rfl) ?_
    refine lv_lshl (v := (xb_lshl 1 ((xb_i h x0 5) - 1))) hx hb (xb_d D_Exact_floated 77 rfl) rfl ?_
    refine lv_lxor hx hb (xb_d D_Exact_floated 78 rfl) ?_
    refine xb_call (D := D) (A := A) (σ := σ) (h := h) (d := 5) (mc := 0) (ms := 0) (maxL := 12) (rest := []) (av := [.ref x0, .long x2, .long (x4 ^^^ (xb_lshl 1 ((xb_i h x0 5) - 1)))]) (fun T hT X => by obtain ⟨cb, r1, r2, r3⟩ := xb_recv (ci := 9) hR rfl hk26 (by decide); exact xt_invV X hx hown (hts _ m_08a4a9a4) (hts _ m_1a175cfd) (hts _ m_c8b0175c) (xt_sigOf (hts _ m_74e5bfdd)) nm_Exact_sum (by rw [hT]; exact r1) r2 r3 (g := F0 m 204 ls [.long (x4 ^^^ (xb_lshl 1 ((xb_i h x0 5) - 1))), .long x2, .ref x0]) rfl (argsL := [.long x2, .long (x4 ^^^ (xb_lshl 1 ((xb_i h x0 5) - 1)))]) (rest := []) rfl rfl (by rw [hb]; exact (xb_d D_Exact_floated 79 rfl))) (ok_Exact_sum l hfl D A σ x0 x2 (x4 ^^^ (xb_lshl 1 ((xb_i h x0 5) - 1))) h _ hw) (hml.trans hl.1.symm) (by rw [hb]; exact (xb_d D_Exact_floated 79 rfl)) (Nat.le_of_ble_eq_true rfl) (Nat.le_of_ble_eq_true rfl) (Nat.le_of_ble_eq_true rfl) (show k + 0 ≤ MC by omega) (show n + 0 ≤ MS by omega) (xt_w1 hB.1 m_74e5bfdd) (xt_cdOf hB.1 m_74e5bfdd) (hts _ m_b807310b) hB hR hS hA (fun vv h27 H locs hq hEh27 hR hS => ?_) (fun XX ax h27 H locs hq hEh27 hex hR hS => ?_)
    · obtain ⟨r28, rfl, hw⟩ := hq
      have hw := hw hEh27
      have hE := hE.tr hEh27
      refine W.eq (g2 := F0 m 207 ls [.long r28]) rfl ?_
      exact xb_lret hx hb hr hlocks (show k ≤ MC by omega) (show n ≤ MS by omega) hE hR hS (xb_d D_Exact_floated 80 rfl) hw
    · exact False.elim hq
  have hw := hw.2
  by_cases hc29 : x1 = 9
  · have hw := hw.1 hc29
    refine xt_numi hc29 ?_
    refine lv_tableIn (off := 110) (tgt := 208) hx hb (xb_d D_Exact_floated 39 rfl) (by decide +kernel) (by decide +kernel) (by decide +kernel) (by decide) ?_
    refine lv_aload_n hx hb (xb_d D_Exact_floated 81 rfl) rfl (lv_at hl 0 rfl) ?_
    refine lv_lload_n hx hb (xb_d D_Exact_floated 82 rfl) rfl (lv_at hl 2 rfl) ?_
    refine lv_lload hx hb (xb_d D_Exact_floated 83 rfl) (lv_at hl 3 rfl) ?_
    obtain ⟨hk30, hw⟩ := hw
    refine xb_call (D := D) (A := A) (σ := σ) (h := h) (d := 5) (mc := 0) (ms := 0) (maxL := 10) (rest := []) (av := [.ref x0, .long x2, .long x4]) (fun T hT X => by obtain ⟨cb, r1, r2, r3⟩ := xb_recv (ci := 9) hR rfl hk30 (by decide); exact xt_invV X hx hown (hts _ m_884c8582) (hts _ m_e2dd6a52) (hts _ m_21590c82) (xt_sigOf (hts _ m_3d45fc93)) nm_Exact_product (by rw [hT]; exact r1) r2 r3 (g := F0 m 212 ls [.long x4, .long x2, .ref x0]) rfl (argsL := [.long x2, .long x4]) (rest := []) rfl rfl (by rw [hb]; exact (xb_d D_Exact_floated 84 rfl))) (ok_Exact_product l hfl D A σ x0 x2 x4 h _ hw) (hml.trans hl.1.symm) (by rw [hb]; exact (xb_d D_Exact_floated 84 rfl)) (Nat.le_of_ble_eq_true rfl) (Nat.le_of_ble_eq_true rfl) (Nat.le_of_ble_eq_true rfl) (show k + 0 ≤ MC by omega) (show n + 0 ≤ MS by omega) (xt_w1 hB.1 m_3d45fc93) (xt_cdOf hB.1 m_3d45fc93) (hts _ m_b807310b) hB hR hS hA (fun vv h31 H locs hq hEh31 hR hS => ?_) (fun XX ax h31 H locs hq hEh31 hex hR hS => ?_)
    · obtain ⟨r32, rfl, hw⟩ := hq
      have hw := hw hEh31
      have hE := hE.tr hEh31
      refine W.eq (g2 := F0 m 215 ls [.long r32]) rfl ?_
      exact xb_lret hx hb hr hlocks (show k ≤ MC by omega) (show n ≤ MS by omega) hE hR hS (xb_d D_Exact_floated 85 rfl) hw
    · exact False.elim hq
  have hw := hw.2
  by_cases hc33 : x1 = 10
  · have hw := hw.1 hc33
    refine xt_numi hc33 ?_
    refine lv_tableIn (off := 118) (tgt := 216) hx hb (xb_d D_Exact_floated 39 rfl) (by decide +kernel) (by decide +kernel) (by decide +kernel) (by decide) ?_
    refine lv_aload_n hx hb (xb_d D_Exact_floated 86 rfl) rfl (lv_at hl 0 rfl) ?_
    refine lv_lload_n hx hb (xb_d D_Exact_floated 87 rfl) rfl (lv_at hl 2 rfl) ?_
    refine lv_lload hx hb (xb_d D_Exact_floated 88 rfl) (lv_at hl 3 rfl) ?_
    obtain ⟨hk34, hw⟩ := hw
    refine xb_call (D := D) (A := A) (σ := σ) (h := h) (d := 5) (mc := 0) (ms := 0) (maxL := 12) (rest := []) (av := [.ref x0, .long x2, .long x4]) (fun T hT X => by obtain ⟨cb, r1, r2, r3⟩ := xb_recv (ci := 9) hR rfl hk34 (by decide); exact xt_invV X hx hown (hts _ m_8658db1c) (hts _ m_72c1259d) (hts _ m_1727c3e7) (xt_sigOf (hts _ m_df22da4d)) nm_Exact_quotient (by rw [hT]; exact r1) r2 r3 (g := F0 m 220 ls [.long x4, .long x2, .ref x0]) rfl (argsL := [.long x2, .long x4]) (rest := []) rfl rfl (by rw [hb]; exact (xb_d D_Exact_floated 89 rfl))) (ok_Exact_quotient l hfl D A σ x0 x2 x4 h _ hw) (hml.trans hl.1.symm) (by rw [hb]; exact (xb_d D_Exact_floated 89 rfl)) (Nat.le_of_ble_eq_true rfl) (Nat.le_of_ble_eq_true rfl) (Nat.le_of_ble_eq_true rfl) (show k + 0 ≤ MC by omega) (show n + 0 ≤ MS by omega) (xt_w1 hB.1 m_df22da4d) (xt_cdOf hB.1 m_df22da4d) (hts _ m_b807310b) hB hR hS hA (fun vv h35 H locs hq hEh35 hR hS => ?_) (fun XX ax h35 H locs hq hEh35 hex hR hS => ?_)
    · obtain ⟨r36, rfl, hw⟩ := hq
      have hw := hw hEh35
      have hE := hE.tr hEh35
      refine W.eq (g2 := F0 m 223 ls [.long r36]) rfl ?_
      exact xb_lret hx hb hr hlocks (show k ≤ MC by omega) (show n ≤ MS by omega) hE hR hS (xb_d D_Exact_floated 90 rfl) hw
    · exact False.elim hq
  have hw := hw.2
  have hw := hw hc1 hc5 hc9 hc13 hc17 hc21 hc25 hc29 hc33
  refine lv_tableOut (tgt := 224) hx hb (xb_d D_Exact_floated 39 rfl) (by have a0 := xb_nl (2) 2 (by decide) hc1; have a1 := xb_nl (3) 3 (by decide) hc5; have a2 := xb_nl (4) 4 (by decide) hc9; have a3 := xb_nl (5) 5 (by decide) hc13; have a4 := xb_nl (6) 6 (by decide) hc17; have a5 := xb_nl (7) 7 (by decide) hc21; have a6 := xb_nl (8) 8 (by decide) hc25; have a7 := xb_nl (9) 9 (by decide) hc29; have a8 := xb_nl (10) 10 (by decide) hc33; omega) (by decide) ?_
  refine lv_aload_n hx hb (xb_d D_Exact_floated 91 rfl) rfl (lv_at hl 0 rfl) ?_
  refine lv_iload_n hx hb (xb_d D_Exact_floated 92 rfl) rfl (lv_at hl 1 rfl) ?_
  refine lv_bipush (v := 12) hx hb (xb_d D_Exact_floated 93 rfl) (by decide) ?_
  refine lv_icmp_ne (tgt := 235) hx hb (xb_d D_Exact_floated 94 rfl) rfl (fun hc37 => ?_) (fun hc37 => ?_)
  · have hw := hw.1 hc37
    refine lv_iconst (v := 0) hx hb (xb_d D_Exact_floated 97 rfl) (by decide) ?_
    exact am_Exact_floated_L236 l hfl D A σ MC MS h0 Qr x2 x4 0 x0 h hw p e s m args below meth c hC H locs ls k n hE (lv_sub hl [2, 3] rfl) hR hS (by omega) (by omega)
  · have hw := hw.2 hc37
    refine lv_iconst (v := 1) hx hb (xb_d D_Exact_floated 95 rfl) (by decide) ?_
    refine lv_goto (tgt := 236) hx hb (xb_d D_Exact_floated 96 rfl) rfl ?_
    exact am_Exact_floated_L236 l hfl D A σ MC MS h0 Qr x2 x4 1 x0 h hw p e s m args below meth c hC H locs ls k n hE (lv_sub hl [2, 3] rfl) hR hS (by omega) (by omega)

set_option maxHeartbeats 4000000 in
set_option maxRecDepth 100000 in
theorem am_Exact_floated_L92 (l : Launch) (hfl : l.flags = pinnedFlags ++ [noTraceFlag]) (D : va_G) (A : Nat → Prop) (σ MC MS : Nat) (h0 : xb_H) (Qr : Int64 → xb_H → Prop) (x0 : Nat) (h : xb_H) (hw : w_Exact_floated_L92 Qr x0 h) : xb_am l D A σ 6 MC MS h0 (fun v h => ∃ r, v = some (.long r) ∧ Qr r h) (fun _ _ => False) y_Exact_floated.cls y_Exact_floated.name b_Exact_floated 6 ([] : List ExceptionTableEntry) (some .long) 92 [(0, .ref x0)] [] h 0 0 := by
  unfold w_Exact_floated_L92 at hw
  intro p e s m args below meth c hC H locs ls k n hE hl hR hS hk hn
  obtain ⟨hx, hb, hown, hlocks, htab, hml, hr, hB, hA, hnm⟩ := id hC
  have hts := hB.1.1.at args
  refine lv_aload_n hx hb (xb_d D_Exact_floated 35 rfl) rfl (lv_at hl 0 rfl) ?_
  obtain ⟨hk1, hw⟩ := hw
  refine xb_call (D := D) (A := A) (σ := σ) (h := h) (d := 2) (mc := 0) (ms := 0) (maxL := 1) (rest := []) (av := [.ref x0]) (fun T hT X => by obtain ⟨cb, r1, r2, r3⟩ := xb_recv (ci := 9) hR rfl hk1 (by decide); exact xt_invV X hx hown (hts _ m_3b77e327) (hts _ m_488d5ec7) (hts _ m_8dd38d5e) (xt_sigOf (hts _ m_291300c8)) nm_Exact_noNumber (by rw [hT]; exact r1) r2 r3 (g := F0 m 93 ls [.ref x0]) rfl (argsL := []) (rest := []) rfl rfl (by rw [hb]; exact (xb_d D_Exact_floated 36 rfl))) (ok_Exact_noNumber l hfl D A σ x0 h _ hw) (hml.trans hl.1.symm) (by rw [hb]; exact (xb_d D_Exact_floated 36 rfl)) (Nat.le_of_ble_eq_true rfl) (Nat.le_of_ble_eq_true rfl) (Nat.le_of_ble_eq_true rfl) (show k + 0 ≤ MC by omega) (show n + 0 ≤ MS by omega) (xt_w1 hB.1 m_291300c8) (xt_cdOf hB.1 m_291300c8) (hts _ m_b807310b) hB hR hS hA (fun vv h2 H locs hq hEh2 hR hS => ?_) (fun XX ax h2 H locs hq hEh2 hex hR hS => ?_)
  · obtain ⟨r3, rfl, hw⟩ := hq
    have hw := hw hEh2
    have hE := hE.tr hEh2
    refine W.eq (g2 := F0 m 96 ls [.long r3]) rfl ?_
    exact xb_lret hx hb hr hlocks (show k ≤ MC by omega) (show n ≤ MS by omega) hE hR hS (xb_d D_Exact_floated 37 rfl) hw
  · exact False.elim hq

set_option maxHeartbeats 4000000 in
set_option maxRecDepth 100000 in
theorem ok_Exact_floated (l : Launch) (hfl : l.flags = pinnedFlags ++ [noTraceFlag]) (D : va_G) (A : Nat → Prop) (σ : Nat) (x0 : Nat) (x1 : Int32) (x2 : Int64) (x4 : Int64) (h : xb_H) (Qr : Int64 → xb_H → Prop) (hw : w_Exact_floated x0 x1 x2 x4 h Qr) : xt_Met l y_Exact_floated [.code y_Exact_floated b_Exact_floated 6 (some .long)] (xb_rm 6 0 0) (xb_Pc D A σ h [.ref x0, .int x1, .long x2, .long x4]) (xb_Qc D A h (fun v h => ∃ r, v = some (.long r) ∧ Qr r h) (fun _ _ => False)) 0 0 A := by
  refine xb_ofAm (cc := b_Exact_floated) (by decide) (Nat.le_of_ble_eq_true rfl) ?_
  unfold w_Exact_floated at hw
  show xb_am l D A σ 6 0 0 h (fun v h => ∃ r, v = some (.long r) ∧ Qr r h) (fun _ _ => False) y_Exact_floated.cls y_Exact_floated.name b_Exact_floated 6 ([] : List ExceptionTableEntry) (some .long) 0 [(0, .ref x0), (1, .int x1), (2, .long x2), (4, .long x4)] [] h 0 0
  obtain ⟨MC, hMC⟩ : ∃ x, x = 0 := ⟨_, rfl⟩
  obtain ⟨MS, hMS⟩ : ∃ x, x = 0 := ⟨_, rfl⟩
  rw [show xb_am l D A σ 6 0 0 = xb_am l D A σ 6 MC MS by rw [hMC, hMS]]
  obtain ⟨h0, hh0⟩ : ∃ x, x = h := ⟨_, rfl⟩
  rw [show xb_am l D A σ 6 MC MS h = xb_am l D A σ 6 MC MS h0 by rw [hh0]]
  intro p e s m args below meth c hC H locs ls k n hE hl hR hS hk hn
  obtain ⟨hx, hb, hown, hlocks, htab, hml, hr, hB, hA, hnm⟩ := id hC
  have hts := hB.1.1.at args
  refine lv_iload_n hx hb (xb_d D_Exact_floated 0 rfl) rfl (lv_at hl 1 rfl) ?_
  by_cases hc1 : x1 = 0
  · have hw := hw.1 hc1
    refine xt_numi hc1 ?_
    refine lv_lookup (off := 35) (tgt := 36) hx hb (xb_d D_Exact_floated 1 rfl) (by decide +kernel) (by decide +kernel) (by decide) ?_
    refine lv_aload_n hx hb (xb_d D_Exact_floated 2 rfl) rfl (lv_at hl 0 rfl) ?_
    refine lv_lload_n hx hb (xb_d D_Exact_floated 3 rfl) rfl (lv_at hl 2 rfl) ?_
    obtain ⟨hk2, hw⟩ := hw
    refine xb_call (D := D) (A := A) (σ := σ) (h := h) (d := 2) (mc := 0) (ms := 0) (maxL := 3) (rest := []) (av := [.ref x0, .long x2]) (fun T hT X => by obtain ⟨cb, r1, r2, r3⟩ := xb_recv (ci := 9) hR rfl hk2 (by decide); exact xt_invV X hx hown (hts _ m_4c81fbb0) (hts _ m_fb12fd6e) (hts _ m_e5146b3f) (xt_sigOf (hts _ m_7f30805a)) nm_Exact_size (by rw [hT]; exact r1) r2 r3 (g := F0 m 38 ls [.long x2, .ref x0]) rfl (argsL := [.long x2]) (rest := []) rfl rfl (by rw [hb]; exact (xb_d D_Exact_floated 4 rfl))) (ok_Exact_size l hfl D A σ x0 x2 h _ hw) (hml.trans hl.1.symm) (by rw [hb]; exact (xb_d D_Exact_floated 4 rfl)) (Nat.le_of_ble_eq_true rfl) (Nat.le_of_ble_eq_true rfl) (Nat.le_of_ble_eq_true rfl) (show k + 0 ≤ MC by omega) (show n + 0 ≤ MS by omega) (xt_w1 hB.1 m_7f30805a) (xt_cdOf hB.1 m_7f30805a) (hts _ m_b807310b) hB hR hS hA (fun vv h3 H locs hq hEh3 hR hS => ?_) (fun XX ax h3 H locs hq hEh3 hex hR hS => ?_)
    · obtain ⟨r4, rfl, hw⟩ := hq
      have hw := hw hEh3
      have hE := hE.tr hEh3
      refine W.eq (g2 := F0 m 41 ls [.long r4]) rfl ?_
      exact xb_lret hx hb hr hlocks (show k ≤ MC by omega) (show n ≤ MS by omega) hE hR hS (xb_d D_Exact_floated 5 rfl) hw
    · exact False.elim hq
  have hw := hw.2
  by_cases hc5 : x1 = 1
  · have hw := hw.1 hc5
    refine xt_numi hc5 ?_
    refine lv_lookup (off := 41) (tgt := 42) hx hb (xb_d D_Exact_floated 1 rfl) (by decide +kernel) (by decide +kernel) (by decide) ?_
    refine lv_lload_n hx hb (xb_d D_Exact_floated 6 rfl) rfl (lv_at hl 2 rfl) ?_
    refine lv_lconst (v := 1) hx hb (xb_d D_Exact_floated 7 rfl) (by decide) ?_
    refine lv_aload_n hx hb (xb_d D_Exact_floated 8 rfl) rfl (lv_at hl 0 rfl) ?_
    obtain ⟨hk6, hw⟩ := hw
    refine xb_getI (C := R_Exact) (T := F_Exact) (N := 11) hx hb 9 5 hts fin_Exact hown hR hk6 (by decide) rfl (by decide) rfl (hts _ m_30b212e4) (fun _ h9 => h9) (xb_d D_Exact_floated 9 rfl) ?_
    refine lv_iconst (v := 1) hx hb (xb_d D_Exact_floated 10 rfl) (by decide) ?_
    refine lv_isub hx hb (xb_d D_Exact_floated 11 rfl) ?_
    refine lv_lshl (v := (xb_lshl 1 ((xb_i h x0 5) - 1))) hx hb (xb_d D_Exact_floated 12 rfl) rfl ?_
    refine lv_lxor hx hb (xb_d D_Exact_floated 13 rfl) ?_
    exact xb_lret hx hb hr hlocks (show k ≤ MC by omega) (show n ≤ MS by omega) hE hR hS (xb_d D_Exact_floated 14 rfl) hw
  have hw := hw.2
  by_cases hc7 : x1 = 13
  · have hw := hw.1 hc7
    refine xt_numi hc7 ?_
    refine lv_lookup (off := 52) (tgt := 53) hx hb (xb_d D_Exact_floated 1 rfl) (by decide +kernel) (by decide +kernel) (by decide) ?_
    refine lv_aload_n hx hb (xb_d D_Exact_floated 15 rfl) rfl (lv_at hl 0 rfl) ?_
    refine lv_aload_n hx hb (xb_d D_Exact_floated 16 rfl) rfl (lv_at hl 0 rfl) ?_
    refine lv_lload_n hx hb (xb_d D_Exact_floated 17 rfl) rfl (lv_at hl 2 rfl) ?_
    obtain ⟨hk8, hw⟩ := hw
    refine xb_call (D := D) (A := A) (σ := σ) (h := h) (d := 2) (mc := 0) (ms := 0) (maxL := 3) (rest := [.ref x0]) (av := [.ref x0, .long x2]) (fun T hT X => by obtain ⟨cb, r1, r2, r3⟩ := xb_recv (ci := 9) hR rfl hk8 (by decide); exact xt_invV X hx hown (hts _ m_4c81fbb0) (hts _ m_fb12fd6e) (hts _ m_e5146b3f) (xt_sigOf (hts _ m_7f30805a)) nm_Exact_size (by rw [hT]; exact r1) r2 r3 (g := F0 m 56 ls [.long x2, .ref x0, .ref x0]) rfl (argsL := [.long x2]) (rest := [.ref x0]) rfl rfl (by rw [hb]; exact (xb_d D_Exact_floated 18 rfl))) (ok_Exact_size l hfl D A σ x0 x2 h _ hw) (hml.trans hl.1.symm) (by rw [hb]; exact (xb_d D_Exact_floated 18 rfl)) (Nat.le_of_ble_eq_true rfl) (Nat.le_of_ble_eq_true rfl) (Nat.le_of_ble_eq_true rfl) (show k + 0 ≤ MC by omega) (show n + 0 ≤ MS by omega) (xt_w1 hB.1 m_7f30805a) (xt_cdOf hB.1 m_7f30805a) (hts _ m_b807310b) hB hR hS hA (fun vv h9 H locs hq hEh9 hR hS => ?_) (fun XX ax h9 H locs hq hEh9 hex hR hS => ?_)
    · obtain ⟨r10, rfl, hw⟩ := hq
      have hw := hw hEh9
      have hE := hE.tr hEh9
      refine W.eq (g2 := F0 m 59 ls [.long r10, .ref x0]) rfl ?_
      refine lv_aload_n hx hb (xb_d D_Exact_floated 19 rfl) rfl (lv_at hl 0 rfl) ?_
      refine lv_lload hx hb (xb_d D_Exact_floated 20 rfl) (lv_at hl 3 rfl) ?_
      have hk8 : xb_k h9 x0 = 10 := hEh9.k hk8
      refine xb_call (D := D) (A := A) (σ := σ) (h := h9) (d := 2) (mc := 0) (ms := 0) (maxL := 3) (rest := [.long r10, .ref x0]) (av := [.ref x0, .long x4]) (fun T hT X => by obtain ⟨cb, r1, r2, r3⟩ := xb_recv (ci := 9) hR rfl hk8 (by decide); exact xt_invV X hx hown (hts _ m_de267fc4) (hts _ m_8cf2fba2) (hts _ m_e2188cdf) (xt_sigOf (hts _ m_25d2fde1)) nm_Exact_isMinus (by rw [hT]; exact r1) r2 r3 (g := F0 m 62 ls [.long x4, .ref x0, .long r10, .ref x0]) rfl (argsL := [.long x4]) (rest := [.long r10, .ref x0]) rfl rfl (by rw [hb]; exact (xb_d D_Exact_floated 21 rfl))) (ok_Exact_isMinus l hfl D A σ x0 x4 h9 _ hw) (hml.trans hl.1.symm) (by rw [hb]; exact (xb_d D_Exact_floated 21 rfl)) (Nat.le_of_ble_eq_true rfl) (Nat.le_of_ble_eq_true rfl) (Nat.le_of_ble_eq_true rfl) (show k + 0 ≤ MC by omega) (show n + 0 ≤ MS by omega) (xt_w1 hB.1 m_25d2fde1) (xt_cdOf hB.1 m_25d2fde1) (hts _ m_b807310b) hB hR hS hA (fun vv h11 H locs hq hEh11 hR hS => ?_) (fun XX ax h11 H locs hq hEh11 hex hR hS => ?_)
      · obtain ⟨r12, rfl, hw⟩ := hq
        have hw := hw hEh11
        have hE := hE.tr hEh11
        refine W.eq (g2 := F0 m 65 ls [.int r12, .long r10, .ref x0]) rfl ?_
        have hk8 : xb_k h11 x0 = 10 := hEh11.k hk8
        refine xb_call (D := D) (A := A) (σ := σ) (h := h11) (d := 2) (mc := 0) (ms := 0) (maxL := 4) (rest := []) (av := [.ref x0, .long r10, .int r12]) (fun T hT X => by obtain ⟨cb, r1, r2, r3⟩ := xb_recv (ci := 9) hR rfl hk8 (by decide); exact xt_invV X hx hown (hts _ m_7b6c7353) (hts _ m_28babb18) (hts _ m_243e01d5) (xt_sigOf (hts _ m_88c0fc78)) nm_Exact_signed (by rw [hT]; exact r1) r2 r3 (g := F0 m 65 ls [.int r12, .long r10, .ref x0]) rfl (argsL := [.long r10, .int r12]) (rest := []) rfl rfl (by rw [hb]; exact (xb_d D_Exact_floated 22 rfl))) (ok_Exact_signed l hfl D A σ x0 r10 r12 h11 _ hw) (hml.trans hl.1.symm) (by rw [hb]; exact (xb_d D_Exact_floated 22 rfl)) (Nat.le_of_ble_eq_true rfl) (Nat.le_of_ble_eq_true rfl) (Nat.le_of_ble_eq_true rfl) (show k + 0 ≤ MC by omega) (show n + 0 ≤ MS by omega) (xt_w1 hB.1 m_88c0fc78) (xt_cdOf hB.1 m_88c0fc78) (hts _ m_b807310b) hB hR hS hA (fun vv h13 H locs hq hEh13 hR hS => ?_) (fun XX ax h13 H locs hq hEh13 hex hR hS => ?_)
        · obtain ⟨r14, rfl, hw⟩ := hq
          have hw := hw hEh13
          have hE := hE.tr hEh13
          refine W.eq (g2 := F0 m 68 ls [.long r14]) rfl ?_
          exact xb_lret hx hb hr hlocks (show k ≤ MC by omega) (show n ≤ MS by omega) hE hR hS (xb_d D_Exact_floated 23 rfl) hw
        · exact False.elim hq
      · exact False.elim hq
    · exact False.elim hq
  have hw := hw.2
  have hw := hw hc1 hc5 hc7
  refine lv_lookup (off := 68) (tgt := 69) hx hb (xb_d D_Exact_floated 1 rfl) (by decide +kernel) (by simp only [List.toList_toArray, Op.lookupswitch.offset_cons, Op.lookupswitch.offset_nil]; rw [if_neg (fun h9 => xb_nl (0) 0 (by decide) hc1 h9.symm), if_neg (fun h9 => xb_nl (1) 1 (by decide) hc5 h9.symm), if_neg (fun h9 => xb_nl (13) 13 (by decide) hc7 h9.symm)]) (by decide) ?_
  refine lv_aload_n hx hb (xb_d D_Exact_floated 24 rfl) rfl (lv_at hl 0 rfl) ?_
  refine lv_lload_n hx hb (xb_d D_Exact_floated 25 rfl) rfl (lv_at hl 2 rfl) ?_
  obtain ⟨hk15, hw⟩ := hw
  refine xb_call (D := D) (A := A) (σ := σ) (h := h) (d := 4) (mc := 0) (ms := 0) (maxL := 3) (rest := []) (av := [.ref x0, .long x2]) (fun T hT X => by obtain ⟨cb, r1, r2, r3⟩ := xb_recv (ci := 9) hR rfl hk15 (by decide); exact xt_invV X hx hown (hts _ m_e6998383) (hts _ m_c3a6d16d) (hts _ m_67f195fc) (xt_sigOf (hts _ m_e0ca15fb)) nm_Exact_isNone (by rw [hT]; exact r1) r2 r3 (g := F0 m 71 ls [.long x2, .ref x0]) rfl (argsL := [.long x2]) (rest := []) rfl rfl (by rw [hb]; exact (xb_d D_Exact_floated 26 rfl))) (ok_Exact_isNone l hfl D A σ x0 x2 h _ hw) (hml.trans hl.1.symm) (by rw [hb]; exact (xb_d D_Exact_floated 26 rfl)) (Nat.le_of_ble_eq_true rfl) (Nat.le_of_ble_eq_true rfl) (Nat.le_of_ble_eq_true rfl) (show k + 0 ≤ MC by omega) (show n + 0 ≤ MS by omega) (xt_w1 hB.1 m_e0ca15fb) (xt_cdOf hB.1 m_e0ca15fb) (hts _ m_b807310b) hB hR hS hA (fun vv h16 H locs hq hEh16 hR hS => ?_) (fun XX ax h16 H locs hq hEh16 hex hR hS => ?_)
  · obtain ⟨r17, rfl, hw⟩ := hq
    have hw := hw hEh16
    have hE := hE.tr hEh16
    refine W.eq (g2 := F0 m 74 ls [.int r17]) rfl ?_
    refine lv_if_ne (tgt := 92) hx hb (xb_d D_Exact_floated 27 rfl) rfl (fun hc18 => ?_) (fun hc18 => ?_)
    · have hw := hw.1 hc18
      exact am_Exact_floated_L92 l hfl D A σ MC MS h0 Qr x0 h16 hw p e s m args below meth c hC H locs ls k n hE (lv_sub hl [0] rfl) hR hS (by omega) (by omega)
    · have hw := hw.2 hc18
      refine lv_iload_n hx hb (xb_d D_Exact_floated 28 rfl) rfl (lv_at hl 1 rfl) ?_
      refine lv_bipush (v := 6) hx hb (xb_d D_Exact_floated 29 rfl) (by decide) ?_
      refine lv_icmp_le (tgt := 97) hx hb (xb_d D_Exact_floated 30 rfl) rfl (fun hc19 => ?_) (fun hc19 => ?_)
      · have hw := hw.1 hc19
        exact am_Exact_floated_L97 l hfl D A σ MC MS h0 Qr x0 x1 x2 x4 h16 hw p e s m args below meth c hC H locs ls k n hE (lv_sub hl [0, 1, 2, 3] rfl) hR hS (by omega) (by omega)
      · have hw := hw.2 hc19
        refine lv_aload_n hx hb (xb_d D_Exact_floated 31 rfl) rfl (lv_at hl 0 rfl) ?_
        refine lv_lload hx hb (xb_d D_Exact_floated 32 rfl) (lv_at hl 3 rfl) ?_
        have hk15 : xb_k h16 x0 = 10 := hEh16.k hk15
        refine xb_call (D := D) (A := A) (σ := σ) (h := h16) (d := 4) (mc := 0) (ms := 0) (maxL := 3) (rest := []) (av := [.ref x0, .long x4]) (fun T hT X => by obtain ⟨cb, r1, r2, r3⟩ := xb_recv (ci := 9) hR rfl hk15 (by decide); exact xt_invV X hx hown (hts _ m_e6998383) (hts _ m_c3a6d16d) (hts _ m_67f195fc) (xt_sigOf (hts _ m_e0ca15fb)) nm_Exact_isNone (by rw [hT]; exact r1) r2 r3 (g := F0 m 86 ls [.long x4, .ref x0]) rfl (argsL := [.long x4]) (rest := []) rfl rfl (by rw [hb]; exact (xb_d D_Exact_floated 33 rfl))) (ok_Exact_isNone l hfl D A σ x0 x4 h16 _ hw) (hml.trans hl.1.symm) (by rw [hb]; exact (xb_d D_Exact_floated 33 rfl)) (Nat.le_of_ble_eq_true rfl) (Nat.le_of_ble_eq_true rfl) (Nat.le_of_ble_eq_true rfl) (show k + 0 ≤ MC by omega) (show n + 0 ≤ MS by omega) (xt_w1 hB.1 m_e0ca15fb) (xt_cdOf hB.1 m_e0ca15fb) (hts _ m_b807310b) hB hR hS hA (fun vv h20 H locs hq hEh20 hR hS => ?_) (fun XX ax h20 H locs hq hEh20 hex hR hS => ?_)
        · obtain ⟨r21, rfl, hw⟩ := hq
          have hw := hw hEh20
          have hE := hE.tr hEh20
          refine W.eq (g2 := F0 m 89 ls [.int r21]) rfl ?_
          refine lv_if_eq (tgt := 97) hx hb (xb_d D_Exact_floated 34 rfl) rfl (fun hc22 => ?_) (fun hc22 => ?_)
          · have hw := hw.1 hc22
            exact am_Exact_floated_L97 l hfl D A σ MC MS h0 Qr x0 x1 x2 x4 h20 hw p e s m args below meth c hC H locs ls k n hE (lv_sub hl [0, 1, 2, 3] rfl) hR hS (by omega) (by omega)
          · have hw := hw.2 hc22
            exact am_Exact_floated_L92 l hfl D A σ MC MS h0 Qr x0 h20 hw p e s m args below meth c hC H locs ls k n hE (lv_sub hl [0] rfl) hR hS (by omega) (by omega)
        · exact False.elim hq
  · exact False.elim hq

