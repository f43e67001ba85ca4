theorem m_4644df8e : (.methodLink "StackHostModel" 290 y_M_expression : Cond) ∈ xt_tbl := xt_in (xt_t11 (List.mem_of_getElem? (i := 36) (by decide +kernel))) (by decide +kernel)
theorem m_2230da74 : (.instanceMethod y_M_expression : Cond) ∈ xt_tbl := xt_in (xt_t11 (List.mem_of_getElem? (i := 38) (by decide +kernel))) (by decide +kernel)
theorem m_7fd46769 : (.selects "StackHostModel" y_M_expression y_M_expression : Cond) ∈ xt_tbl := xt_in (xt_v10 (q := (⟨"StackHostModel", "expression", "()V"⟩, 97)) (List.mem_of_getElem? (i := 2) (by decide +kernel))) (by decide +kernel)
theorem m_ed213729 : (.code y_M_expression b_M_expression 5 none : Cond) ∈ xt_tbl := xt_in (xt_t11 (List.mem_of_getElem? (i := 39) (by decide +kernel))) (by decide +kernel)
theorem m_77b6987a : (.constantLong "StackHostModel" 299 1000 : Cond) ∈ xt_tbl := xt_in (xt_t11 (List.mem_of_getElem? (i := 59) (by decide +kernel))) (by decide +kernel)
theorem nm_M_expression : xt_nm y_M_expression 0 := ⟨by decide +kernel, by decide +kernel⟩
set_option maxRecDepth 100000 in
def T_M_body : List (Nat × Instr × Nat) := [(0, .aload_n 0, 1), (1, .invokevirtual 218, 3), (4, .lstore_n 1, 1), (5, .aload_n 0, 1), (6, .getfield 193, 3), (9, .ifCond .ne 27, 3), (12, .lload_n 1, 1), (13, .aload_n 0, 1), (14, .getfield 205, 3), (17, .aload_n 0, 1), (18, .getfield 202, 3), (21, .isub, 1), (22, .i2l, 1), (23, .lcmp, 1), (24, .ifCond .le 12, 3), (27, .aload_n 0, 1), (28, .iconst 2, 1), (29, .aload_n 0, 1), (30, .getfield 205, 3), (33, .invokevirtual 208, 3), (36, .aload_n 0, 1), (37, .getfield 193, 3), (40, .ifCond .eq 4, 3), (43, .return_, 1), (44, .aload_n 0, 1), (45, .getfield 205, 3), (48, .istore_n 3, 1), (49, .aload_n 0, 1), (50, .aload_n 0, 1), (51, .getfield 202, 3), (54, .lload_n 1, 1), (55, .l2i, 1), (56, .iadd, 1), (57, .putfield 205, 3), (60, .aload_n 0, 1), (61, .invokevirtual 218, 3), (64, .lstore 4, 2), (66, .lconst 0, 1), (67, .lstore 6, 2), (69, .lconst 0, 1), (70, .lstore 8, 2), (72, .lload 8, 2), (74, .lload 4, 2), (76, .lcmp, 1), (77, .ifCond .ge 62, 3), (80, .aload_n 0, 1), (81, .getfield 193, 3), (84, .ifCond .ne 55, 3), (87, .aload_n 0, 1), (88, .getfield 202, 3), (91, .istore 10, 2), (93, .lload 6, 2), (95, .aload_n 0, 1), (96, .invokevirtual 218, 3), (99, .ladd, 1), (100, .lstore 6, 2), (102, .aload_n 0, 1), (103, .getfield 193, 3), (106, .ifCond .ne 20, 3), (109, .lload 6, 2), (111, .ldc2_w 299, 3), (114, .lcmp, 1), (115, .ifCond .le 11, 3), (118, .aload_n 0, 1), (119, .bipush 9, 2), (121, .iload 10, 2), (123, .invokevirtual 208, 3), (126, .aload_n 0, 1), (127, .invokevirtual 240, 3), (130, .lload 8, 2), (132, .lconst 1, 1), (133, .ladd, 1), (134, .lstore 8, 2), (136, .goto (-64), 3), (139, .aload_n 0, 1), (140, .getfield 193, 3), (143, .ifCond .ne 7, 3), (146, .aload_n 0, 1), (147, .invokevirtual 290, 3), (150, .aload_n 0, 1), (151, .getfield 193, 3), (154, .ifCond .ne 24, 3), (157, .aload_n 0, 1), (158, .getfield 202, 3), (161, .aload_n 0, 1), (162, .getfield 205, 3), (165, .if_icmp .ge 13, 3), (168, .aload_n 0, 1), (169, .bipush 7, 2), (171, .aload_n 0, 1), (172, .getfield 202, 3), (175, .invokevirtual 208, 3), (178, .aload_n 0, 1), (179, .iload_n 3, 1), (180, .putfield 205, 3), (183, .return_, 1)]
theorem D_M_body : ∀ q ∈ T_M_body, decode b_M_body q.1 = .ok (q.2.1, q.2.2) := by decide +kernel
def w_M_body_L178 (Qr : xb_H → Prop) (x0 : Nat) (x3 : Int32) (h : xb_H) : Prop :=
    xb_k h x0 = 9 ∧ ∀ h2 : xb_H, h2 = xb_I h x0 16 x3 → Qr h2

def w_M_body_L150 (Qr : xb_H → Prop) (x0 : Nat) (x3 : Int32) (h : xb_H) : Prop :=
    xb_k h x0 = 9 ∧ ((¬ (xb_i h x0 17) = (0 : Int32) → w_M_body_L178 Qr x0 x3 h) ∧ ((xb_i h x0 17) = (0 : Int32) → (((xb_i h x0 16) ≤ (xb_i h x0 15) → w_M_body_L178 Qr x0 x3 h) ∧ (¬ (xb_i h x0 16) ≤ (xb_i h x0 15) → w_M_fail x0 7 (xb_i h x0 15) h (fun (h4 : xb_H) => xb_ext h h4 → w_M_body_L178 Qr x0 x3 h4)))))

def w_M_body_L139 (Qr : xb_H → Prop) (x0 : Nat) (x3 : Int32) (h : xb_H) : Prop :=
    xb_k h x0 = 9 ∧ ((¬ (xb_i h x0 17) = (0 : Int32) → w_M_body_L150 Qr x0 x3 h) ∧ ((xb_i h x0 17) = (0 : Int32) → w_M_expression x0 h (fun (h3 : xb_H) => xb_ext h h3 → w_M_body_L150 Qr x0 x3 h3)))

def w_M_body_L126 (K72 : Nat → Int32 → Int64 → Int64 → Int64 → xb_H → Prop) (Qr : xb_H → Prop) (x0 : Nat) (x3 : Int32) (x4 : Int64) (x6 : Int64) (x8 : Int64) (h : xb_H) : Prop :=
    xb_k h x0 = 9 ∧ w_M_valueType x0 h (fun (h2 : xb_H) => xb_ext h h2 → ∀ v4 : Int64, v4 = (x8 + 1) → K72 x0 x3 x4 x6 v4 h2)

def w_M_body_L72 (Qr : xb_H → Prop) : Nat → Nat → Int32 → Int64 → Int64 → Int64 → xb_H → Prop
  | 0, _, _, _, _, _, _ => False
  | n9 + 1, x0, x3, x4, x6, x8, h =>
    ((x4 ≤ x8 → w_M_body_L139 Qr x0 x3 h) ∧ (¬ x4 ≤ x8 → xb_k h x0 = 9 ∧ ((¬ (xb_i h x0 17) = (0 : Int32) → w_M_body_L139 Qr x0 x3 h) ∧ ((xb_i h x0 17) = (0 : Int32) → ∀ v4 : Int32, v4 = (xb_i h x0 15) → w_M_count x0 h (fun (r6 : Int64) (h5 : xb_H) => xb_ext h h5 → ∀ v7 : Int64, v7 = (x6 + r6) → ((¬ (xb_i h5 x0 17) = (0 : Int32) → w_M_body_L126 (w_M_body_L72 Qr n9) Qr x0 x3 x4 v7 x8 h5) ∧ ((xb_i h5 x0 17) = (0 : Int32) → ((v7 ≤ (1000 : Int64) → w_M_body_L126 (w_M_body_L72 Qr n9) Qr x0 x3 x4 v7 x8 h5) ∧ (¬ v7 ≤ (1000 : Int64) → w_M_fail x0 9 v4 h5 (fun (h10 : xb_H) => xb_ext h5 h10 → w_M_body_L126 (w_M_body_L72 Qr n9) Qr x0 x3 x4 v7 x8 h10))))))))))

def w_M_body_L36 (Qr : xb_H → Prop) (x0 : Nat) (x1 : Int64) (h : xb_H) : Prop :=
    xb_k h x0 = 9 ∧ (((xb_i h x0 17) = (0 : Int32) → ∀ v3 : Int32, v3 = (xb_i h x0 16) → ∀ h4 : xb_H, h4 = xb_I h x0 16 ((xb_i h x0 15) + (Int64.toInt32 x1)) → w_M_count x0 h4 (fun (r6 : Int64) (h5 : xb_H) => xb_ext h4 h5 → (∃ n8 : Nat, w_M_body_L72 Qr n8 x0 v3 r6 0 0 h5))) ∧ (¬ (xb_i h x0 17) = (0 : Int32) → Qr h))

def w_M_body (x0 : Nat) (h : xb_H) (Qr : xb_H → Prop) : Prop :=
    xb_k h x0 = 9 ∧ w_M_count x0 h (fun (r3 : Int64) (h2 : xb_H) => xb_ext h h2 → ((¬ (xb_i h2 x0 17) = (0 : Int32) → w_M_body_L36 Qr x0 r3 h2) ∧ ((xb_i h2 x0 17) = (0 : Int32) → ((r3 ≤ (Int32.toInt64 ((xb_i h2 x0 16) - (xb_i h2 x0 15))) → w_M_body_L36 Qr x0 r3 h2) ∧ (¬ r3 ≤ (Int32.toInt64 ((xb_i h2 x0 16) - (xb_i h2 x0 15))) → w_M_fail x0 2 (xb_i h2 x0 16) h2 (fun (h6 : xb_H) => xb_ext h2 h6 → w_M_body_L36 Qr x0 r3 h6))))))

set_option maxHeartbeats 4000000 in
set_option maxRecDepth 100000 in
theorem am_M_body_L178 (l : Launch) (hfl : l.flags = pinnedFlags ++ [noTraceFlag]) (D : va_G) (A : Nat → Prop) (σ MC MS : Nat) (h0 : xb_H) (Qr : xb_H → Prop) (x0 : Nat) (x3 : Int32) (h : xb_H) (hw : w_M_body_L178 Qr x0 x3 h) : xb_am l D A σ 8 MC MS h0 (fun v h => v = none ∧ Qr h) (fun _ _ => False) y_M_body.cls y_M_body.name b_M_body 11 ([] : List ExceptionTableEntry) none 178 [(0, .ref x0), (3, .int x3)] [] h 0 0 := by
  unfold w_M_body_L178 at hw
  intro p e s m args below meth c hC H locs ls k n hE hl hR hS hk hn
  obtain ⟨hx, hb, hown, hlocks, htab, hml, hr, hB, hA, hnm⟩ := id hC
  have hts := hB.1.1.at args
  refine lv_aload_n hx hb (xb_d D_M_body 92 rfl) rfl (lv_at hl 0 rfl) ?_
  refine lv_iload_n hx hb (xb_d D_M_body 93 rfl) rfl (lv_at hl 1 rfl) ?_
  obtain ⟨hk1, hw⟩ := hw
  refine xb_putI (C := R_M) (T := F_M) (N := 97) (ty := .int) (x := x3) hx hb 8 16 hts fin_M t_M t_M_ok n_M hown hR hS hk1 (by decide) rfl (by decide) rfl (hts _ m_48124c81) (fun _ h9 => h9) rfl (by decide +kernel) rfl rfl (xb_d D_M_body 94 rfl) (fun H locs hR hS => ?_)
  obtain ⟨h2, eh2⟩ : ∃ x : xb_H, x = xb_I h x0 16 x3 := ⟨_, rfl⟩
  rw [← eh2] at hR
  have hw := hw h2 eh2
  have hE : xb_ext h0 h2 := by rw [eh2]; exact hE
  exact xb_vret hx hb hr hlocks (show k ≤ MC by omega) (show n ≤ MS by omega) hE hR hS (xb_d D_M_body 95 rfl) hw

set_option maxHeartbeats 4000000 in
set_option maxRecDepth 100000 in
theorem am_M_body_L150 (l : Launch) (hfl : l.flags = pinnedFlags ++ [noTraceFlag]) (D : va_G) (A : Nat → Prop) (σ MC MS : Nat) (h0 : xb_H) (Qr : xb_H → Prop) (x0 : Nat) (x3 : Int32) (h : xb_H) (hw : w_M_body_L150 Qr x0 x3 h) : xb_am l D A σ 8 MC MS h0 (fun v h => v = none ∧ Qr h) (fun _ _ => False) y_M_body.cls y_M_body.name b_M_body 11 ([] : List ExceptionTableEntry) none 150 [(0, .ref x0), (3, .int x3)] [] h 0 0 := by
  unfold w_M_body_L150 at hw
  intro p e s m args below meth c hC H locs ls k n hE hl hR hS hk hn
  obtain ⟨hx, hb, hown, hlocks, htab, hml, hr, hB, hA, hnm⟩ := id hC
  have hts := hB.1.1.at args
  refine lv_aload_n hx hb (xb_d D_M_body 79 rfl) rfl (lv_at hl 0 rfl) ?_
  obtain ⟨hk1, hw⟩ := hw
  refine xb_getI (C := R_M) (T := F_M) (N := 97) hx hb 8 17 hts fin_M hown hR hk1 (by decide) rfl (by decide) rfl (hts _ m_ff69da61) (fun _ h9 => h9) (xb_d D_M_body 80 rfl) ?_
  refine lv_if_ne (tgt := 178) hx hb (xb_d D_M_body 81 rfl) rfl (fun hc2 => ?_) (fun hc2 => ?_)
  · have hw := hw.1 hc2
    exact am_M_body_L178 l hfl D A σ MC MS h0 Qr x0 x3 h hw p e s m args below meth c hC H locs ls k n hE (lv_sub hl [0, 1] rfl) hR hS (by omega) (by omega)
  · have hw := hw.2 hc2
    refine lv_aload_n hx hb (xb_d D_M_body 82 rfl) rfl (lv_at hl 0 rfl) ?_
    refine xb_getI (C := R_M) (T := F_M) (N := 97) hx hb 8 15 hts fin_M hown hR hk1 (by decide) rfl (by decide) rfl (hts _ m_6c2d27ad) (fun _ h9 => h9) (xb_d D_M_body 83 rfl) ?_
    refine lv_aload_n hx hb (xb_d D_M_body 84 rfl) rfl (lv_at hl 0 rfl) ?_
    refine xb_getI (C := R_M) (T := F_M) (N := 97) hx hb 8 16 hts fin_M hown hR hk1 (by decide) rfl (by decide) rfl (hts _ m_48124c81) (fun _ h9 => h9) (xb_d D_M_body 85 rfl) ?_
    refine lv_icmp_ge (tgt := 178) hx hb (xb_d D_M_body 86 rfl) rfl (fun hc3 => ?_) (fun hc3 => ?_)
    · have hw := hw.1 hc3
      exact am_M_body_L178 l hfl D A σ MC MS h0 Qr x0 x3 h hw p e s m args below meth c hC H locs ls k n hE (lv_sub hl [0, 1] rfl) hR hS (by omega) (by omega)
    · have hw := hw.2 hc3
      refine lv_aload_n hx hb (xb_d D_M_body 87 rfl) rfl (lv_at hl 0 rfl) ?_
      refine lv_bipush (v := 7) hx hb (xb_d D_M_body 88 rfl) (by decide) ?_
      refine lv_aload_n hx hb (xb_d D_M_body 89 rfl) rfl (lv_at hl 0 rfl) ?_
      refine xb_getI (C := R_M) (T := F_M) (N := 97) hx hb 8 15 hts fin_M hown hR hk1 (by decide) rfl (by decide) rfl (hts _ m_6c2d27ad) (fun _ h9 => h9) (xb_d D_M_body 90 rfl) ?_
      refine xb_call (D := D) (A := A) (σ := σ) (h := h) (d := 2) (mc := 0) (ms := 0) (maxL := 3) (rest := []) (av := [.ref x0, .int 7, .int (xb_i h x0 15)]) (fun T hT X => by obtain ⟨cb, r1, r2, r3⟩ := xb_recv (ci := 8) hR rfl hk1 (by decide); exact xt_invV X hx hown (hts _ m_939052ad) (hts _ m_29cc8c73) (hts _ m_3b1ac7ab) (xt_sigOf (hts _ m_8f062ecd)) nm_M_fail (by rw [hT]; exact r1) r2 r3 (g := F0 m 175 ls [.int (xb_i h x0 15), .int 7, .ref x0]) rfl (argsL := [.int 7, .int (xb_i h x0 15)]) (rest := []) rfl rfl (by rw [hb]; exact (xb_d D_M_body 91 rfl))) (ok_M_fail l hfl D A σ x0 7 (xb_i h x0 15) h _ hw) (hml.trans hl.1.symm) (by rw [hb]; exact (xb_d D_M_body 91 rfl)) (Nat.le_of_ble_eq_true rfl) (Nat.le_of_ble_eq_true rfl) (Nat.le_of_ble_eq_true rfl) (show k + 0 ≤ MC by omega) (show n + 0 ≤ MS by omega) (xt_w1 hB.1 m_8f062ecd) (xt_cdOf hB.1 m_8f062ecd) (hts _ m_d5ed7bed) hB hR hS hA (fun vv h4 H locs hq hEh4 hR hS => ?_) (fun XX ax h4 H locs hq hEh4 hex hR hS => ?_)
      · obtain ⟨rfl, hw⟩ := hq
        have hw := hw hEh4
        have hE := hE.tr hEh4
        refine W.eq (g2 := F0 m 178 ls []) rfl ?_
        exact am_M_body_L178 l hfl D A σ MC MS h0 Qr x0 x3 h4 hw p e s m args below meth c hC H locs ls k n hE (lv_sub hl [0, 1] rfl) hR hS (by omega) (by omega)
      · exact False.elim hq

set_option maxHeartbeats 4000000 in
set_option maxRecDepth 100000 in
theorem am_M_body_L139 (l : Launch) (hfl : l.flags = pinnedFlags ++ [noTraceFlag]) (D : va_G) (A : Nat → Prop) (σ MC MS : Nat) (h0 : xb_H) (Qr : xb_H → Prop) (x0 : Nat) (x3 : Int32) (h : xb_H) (hw : w_M_body_L139 Qr x0 x3 h) : xb_am l D A σ 8 MC MS h0 (fun v h => v = none ∧ Qr h) (fun _ _ => False) y_M_body.cls y_M_body.name b_M_body 11 ([] : List ExceptionTableEntry) none 139 [(0, .ref x0), (3, .int x3)] [] h 0 0 := by
  unfold w_M_body_L139 at hw
  intro p e s m args below meth c hC H locs ls k n hE hl hR hS hk hn
  obtain ⟨hx, hb, hown, hlocks, htab, hml, hr, hB, hA, hnm⟩ := id hC
  have hts := hB.1.1.at args
  refine lv_aload_n hx hb (xb_d D_M_body 74 rfl) rfl (lv_at hl 0 rfl) ?_
  obtain ⟨hk1, hw⟩ := hw
  refine xb_getI (C := R_M) (T := F_M) (N := 97) hx hb 8 17 hts fin_M hown hR hk1 (by decide) rfl (by decide) rfl (hts _ m_ff69da61) (fun _ h9 => h9) (xb_d D_M_body 75 rfl) ?_
  refine lv_if_ne (tgt := 150) hx hb (xb_d D_M_body 76 rfl) rfl (fun hc2 => ?_) (fun hc2 => ?_)
  · have hw := hw.1 hc2
    exact am_M_body_L150 l hfl D A σ MC MS h0 Qr x0 x3 h hw p e s m args below meth c hC H locs ls k n hE (lv_sub hl [0, 1] rfl) hR hS (by omega) (by omega)
  · have hw := hw.2 hc2
    refine lv_aload_n hx hb (xb_d D_M_body 77 rfl) rfl (lv_at hl 0 rfl) ?_
    refine xb_call (D := D) (A := A) (σ := σ) (h := h) (d := 7) (mc := 0) (ms := 0) (maxL := 5) (rest := []) (av := [.ref x0]) (fun T hT X => by obtain ⟨cb, r1, r2, r3⟩ := xb_recv (ci := 8) hR rfl hk1 (by decide); exact xt_invV X hx hown (hts _ m_4644df8e) (hts _ m_2230da74) (hts _ m_7fd46769) (xt_sigOf (hts _ m_ed213729)) nm_M_expression (by rw [hT]; exact r1) r2 r3 (g := F0 m 147 ls [.ref x0]) rfl (argsL := []) (rest := []) rfl rfl (by rw [hb]; exact (xb_d D_M_body 78 rfl))) (ok_M_expression l hfl D A σ x0 h _ hw) (hml.trans hl.1.symm) (by rw [hb]; exact (xb_d D_M_body 78 rfl)) (Nat.le_of_ble_eq_true rfl) (Nat.le_of_ble_eq_true rfl) (Nat.le_of_ble_eq_true rfl) (show k + 0 ≤ MC by omega) (show n + 0 ≤ MS by omega) (xt_w1 hB.1 m_ed213729) (xt_cdOf hB.1 m_ed213729) (hts _ m_d5ed7bed) hB hR hS hA (fun vv h3 H locs hq hEh3 hR hS => ?_) (fun XX ax h3 H locs hq hEh3 hex hR hS => ?_)
    · obtain ⟨rfl, hw⟩ := hq
      have hw := hw hEh3
      have hE := hE.tr hEh3
      refine W.eq (g2 := F0 m 150 ls []) rfl ?_
      exact am_M_body_L150 l hfl D A σ MC MS h0 Qr x0 x3 h3 hw p e s m args below meth c hC H locs ls k n hE (lv_sub hl [0, 1] rfl) hR hS (by omega) (by omega)
    · exact False.elim hq

set_option maxHeartbeats 4000000 in
set_option maxRecDepth 100000 in
theorem am_M_body_L126 (l : Launch) (hfl : l.flags = pinnedFlags ++ [noTraceFlag]) (D : va_G) (A : Nat → Prop) (σ MC MS : Nat) (h0 : xb_H) (Qr : xb_H → Prop) (K72 : Nat → Int32 → Int64 → Int64 → Int64 → xb_H → Prop) (hK72 : ∀ (x0 : Nat) (x3 : Int32) (x4 : Int64) (x6 : Int64) (x8 : Int64) (h : xb_H), K72 x0 x3 x4 x6 x8 h → xb_am l D A σ 8 MC MS h0 (fun v h => v = none ∧ Qr h) (fun _ _ => False) y_M_body.cls y_M_body.name b_M_body 11 ([] : List ExceptionTableEntry) none 72 [(0, .ref x0), (3, .int x3), (4, .long x4), (6, .long x6), (8, .long x8)] [] h 0 0) (x0 : Nat) (x3 : Int32) (x4 : Int64) (x6 : Int64) (x8 : Int64) (h : xb_H) (hw : w_M_body_L126 K72 Qr x0 x3 x4 x6 x8 h) : xb_am l D A σ 8 MC MS h0 (fun v h => v = none ∧ Qr h) (fun _ _ => False) y_M_body.cls y_M_body.name b_M_body 11 ([] : List ExceptionTableEntry) none 126 [(0, .ref x0), (3, .int x3), (4, .long x4), (6, .long x6), (8, .long x8)] [] h 0 0 := by
  unfold w_M_body_L126 at hw
  intro p e s m args below meth c hC H locs ls k n hE hl hR hS hk hn
  obtain ⟨hx, hb, hown, hlocks, htab, hml, hr, hB, hA, hnm⟩ := id hC
  have hts := hB.1.1.at args
  refine lv_aload_n hx hb (xb_d D_M_body 67 rfl) rfl (lv_at hl 0 rfl) ?_
  obtain ⟨hk1, hw⟩ := hw
  refine xb_call (D := D) (A := A) (σ := σ) (h := h) (d := 4) (mc := 0) (ms := 0) (maxL := 2) (rest := []) (av := [.ref x0]) (fun T hT X => by obtain ⟨cb, r1, r2, r3⟩ := xb_recv (ci := 8) hR rfl hk1 (by decide); exact xt_invV X hx hown (hts _ m_8b8b9169) (hts _ m_667aad99) (hts _ m_67a4431f) (xt_sigOf (hts _ m_8f1ca5e5)) nm_M_valueType (by rw [hT]; exact r1) r2 r3 (g := F0 m 127 ls [.ref x0]) rfl (argsL := []) (rest := []) rfl rfl (by rw [hb]; exact (xb_d D_M_body 68 rfl))) (ok_M_valueType l hfl D A σ x0 h _ hw) (hml.trans hl.1.symm) (by rw [hb]; exact (xb_d D_M_body 68 rfl)) (Nat.le_of_ble_eq_true rfl) (Nat.le_of_ble_eq_true rfl) (Nat.le_of_ble_eq_true rfl) (show k + 0 ≤ MC by omega) (show n + 0 ≤ MS by omega) (xt_w1 hB.1 m_8f1ca5e5) (xt_cdOf hB.1 m_8f1ca5e5) (hts _ m_d5ed7bed) hB hR hS hA (fun vv h2 H locs hq hEh2 hR hS => ?_) (fun XX ax h2 H locs hq hEh2 hex hR hS => ?_)
  · obtain ⟨rfl, hw⟩ := hq
    have hw := hw hEh2
    have hE := hE.tr hEh2
    refine W.eq (g2 := F0 m 130 ls []) rfl ?_
    refine lv_lload hx hb (xb_d D_M_body 69 rfl) (lv_at hl 4 rfl) ?_
    refine lv_lconst (v := 1) hx hb (xb_d D_M_body 70 rfl) (by decide) ?_
    refine lv_ladd hx hb (xb_d D_M_body 71 rfl) ?_
    obtain ⟨v4, ev4⟩ : ∃ x : Int64, x = (x8 + 1) := ⟨_, rfl⟩
    have hw := hw v4 ev4
    refine xt_numl (y := v4) ev4.symm ?_
    refine lv_lstore hx hb (xb_d D_M_body 72 rfl) hl (by decide) rfl (fun ls hl => ?_)
    have hl : lv_has ls 11 [(8, .long v4), (0, .ref x0), (3, .int x3), (4, .long x4), (6, .long x6)] := hl
    refine lv_goto (tgt := 72) hx hb (xb_d D_M_body 73 rfl) rfl ?_
    exact hK72 x0 x3 x4 x6 v4 h2 hw p e s m args below meth c hC H locs ls k n hE (lv_sub hl [1, 2, 3, 4, 0] rfl) hR hS (by omega) (by omega)
  · exact False.elim hq

set_option maxHeartbeats 4000000 in
set_option maxRecDepth 100000 in
theorem am_M_body_L72 (l : Launch) (hfl : l.flags = pinnedFlags ++ [noTraceFlag]) (D : va_G) (A : Nat → Prop) (σ MC MS : Nat) (h0 : xb_H) (Qr : xb_H → Prop) (n9 : Nat) : ∀ (x0 : Nat) (x3 : Int32) (x4 : Int64) (x6 : Int64) (x8 : Int64) (h : xb_H), w_M_body_L72 Qr n9 x0 x3 x4 x6 x8 h → xb_am l D A σ 8 MC MS h0 (fun v h => v = none ∧ Qr h) (fun _ _ => False) y_M_body.cls y_M_body.name b_M_body 11 ([] : List ExceptionTableEntry) none 72 [(0, .ref x0), (3, .int x3), (4, .long x4), (6, .long x6), (8, .long x8)] [] h 0 0 := by
  induction n9 with
  | zero => intro x0 x3 x4 x6 x8 h hw; exact False.elim hw
  | succ n9 ih =>
    intro x0 x3 x4 x6 x8 h hw
    unfold w_M_body_L72 at hw
    intro p e s m args below meth c hC H locs ls k n hE hl hR hS hk hn
    obtain ⟨hx, hb, hown, hlocks, htab, hml, hr, hB, hA, hnm⟩ := id hC
    have hts := hB.1.1.at args
    refine lv_lload hx hb (xb_d D_M_body 41 rfl) (lv_at hl 4 rfl) ?_
    refine lv_lload hx hb (xb_d D_M_body 42 rfl) (lv_at hl 2 rfl) ?_
    refine xb_lc_ge (tgt := 139) hx hb (xb_d D_M_body 43 rfl) (xb_d D_M_body 44 rfl) rfl (fun hc1 => ?_) (fun hc1 => ?_)
    · have hw := hw.1 hc1
      exact am_M_body_L139 l hfl D A σ MC MS h0 Qr x0 x3 h hw p e s m args below meth c hC H locs ls k n hE (lv_sub hl [0, 1] rfl) hR hS (by omega) (by omega)
    · have hw := hw.2 hc1
      refine lv_aload_n hx hb (xb_d D_M_body 45 rfl) rfl (lv_at hl 0 rfl) ?_
      obtain ⟨hk2, hw⟩ := hw
      refine xb_getI (C := R_M) (T := F_M) (N := 97) hx hb 8 17 hts fin_M hown hR hk2 (by decide) rfl (by decide) rfl (hts _ m_ff69da61) (fun _ h9 => h9) (xb_d D_M_body 46 rfl) ?_
      refine lv_if_ne (tgt := 139) hx hb (xb_d D_M_body 47 rfl) rfl (fun hc3 => ?_) (fun hc3 => ?_)
      · have hw := hw.1 hc3
        exact am_M_body_L139 l hfl D A σ MC MS h0 Qr x0 x3 h hw p e s m args below meth c hC H locs ls k n hE (lv_sub hl [0, 1] rfl) hR hS (by omega) (by omega)
      · have hw := hw.2 hc3
        refine lv_aload_n hx hb (xb_d D_M_body 48 rfl) rfl (lv_at hl 0 rfl) ?_
        refine xb_getI (C := R_M) (T := F_M) (N := 97) hx hb 8 15 hts fin_M hown hR hk2 (by decide) rfl (by decide) rfl (hts _ m_6c2d27ad) (fun _ h9 => h9) (xb_d D_M_body 49 rfl) ?_
        obtain ⟨v4, ev4⟩ : ∃ x : Int32, x = (xb_i h x0 15) := ⟨_, rfl⟩
        have hw := hw v4 ev4
        refine xt_numi (y := v4) ev4.symm ?_
        refine lv_istore hx hb (xb_d D_M_body 50 rfl) hl (by decide) rfl (fun ls hl => ?_)
        have hl : lv_has ls 11 [(10, .int v4), (0, .ref x0), (3, .int x3), (4, .long x4), (6, .long x6), (8, .long x8)] := hl
        refine lv_lload hx hb (xb_d D_M_body 51 rfl) (lv_at hl 4 rfl) ?_
        refine lv_aload_n hx hb (xb_d D_M_body 52 rfl) rfl (lv_at hl 1 rfl) ?_
        refine xb_call (D := D) (A := A) (σ := σ) (h := h) (d := 4) (mc := 0) (ms := 0) (maxL := 5) (rest := [.long x6]) (av := [.ref x0]) (fun T hT X => by obtain ⟨cb, r1, r2, r3⟩ := xb_recv (ci := 8) hR rfl hk2 (by decide); exact xt_invV X hx hown (hts _ m_e991293f) (hts _ m_385a74b3) (hts _ m_c9fbcd02) (xt_sigOf (hts _ m_1f53f210)) nm_M_count (by rw [hT]; exact r1) r2 r3 (g := F0 m 96 ls [.ref x0, .long x6]) rfl (argsL := []) (rest := [.long x6]) rfl rfl (by rw [hb]; exact (xb_d D_M_body 53 rfl))) (ok_M_count l hfl D A σ x0 h _ hw) (hml.trans hl.1.symm) (by rw [hb]; exact (xb_d D_M_body 53 rfl)) (Nat.le_of_ble_eq_true rfl) (Nat.le_of_ble_eq_true rfl) (Nat.le_of_ble_eq_true rfl) (show k + 0 ≤ MC by omega) (show n + 0 ≤ MS by omega) (xt_w1 hB.1 m_1f53f210) (xt_cdOf hB.1 m_1f53f210) (hts _ m_d5ed7bed) hB hR hS hA (fun vv h5 H locs hq hEh5 hR hS => ?_) (fun XX ax h5 H locs hq hEh5 hex hR hS => ?_)
        · obtain ⟨r6, rfl, hw⟩ := hq
          have hw := hw hEh5
          have hE := hE.tr hEh5
          refine W.eq (g2 := F0 m 99 ls [.long r6, .long x6]) rfl ?_
          refine lv_ladd hx hb (xb_d D_M_body 54 rfl) ?_
          obtain ⟨v7, ev7⟩ : ∃ x : Int64, x = (x6 + r6) := ⟨_, rfl⟩
          have hw := hw v7 ev7
          refine xt_numl (y := v7) ev7.symm ?_
          refine lv_lstore hx hb (xb_d D_M_body 55 rfl) hl (by decide) rfl (fun ls hl => ?_)
          have hl : lv_has ls 11 [(6, .long v7), (10, .int v4), (0, .ref x0), (3, .int x3), (4, .long x4), (8, .long x8)] := hl
          refine lv_aload_n hx hb (xb_d D_M_body 56 rfl) rfl (lv_at hl 2 rfl) ?_
          have hk2 : xb_k h5 x0 = 9 := hEh5.k hk2
          refine xb_getI (C := R_M) (T := F_M) (N := 97) hx hb 8 17 hts fin_M hown hR hk2 (by decide) rfl (by decide) rfl (hts _ m_ff69da61) (fun _ h9 => h9) (xb_d D_M_body 57 rfl) ?_
          refine lv_if_ne (tgt := 126) hx hb (xb_d D_M_body 58 rfl) rfl (fun hc8 => ?_) (fun hc8 => ?_)
          · have hw := hw.1 hc8
            exact am_M_body_L126 l hfl D A σ MC MS h0 Qr (w_M_body_L72 Qr n9) ih x0 x3 x4 v7 x8 h5 hw p e s m args below meth c hC H locs ls k n hE (lv_sub hl [2, 3, 4, 0, 5] rfl) hR hS (by omega) (by omega)
          · have hw := hw.2 hc8
            refine lv_lload hx hb (xb_d D_M_body 59 rfl) (lv_at hl 0 rfl) ?_
            refine lv_ldc2 (v := 1000) hx hb hown (hts _ m_77b6987a) (xb_d D_M_body 60 rfl) ?_
            refine xb_lc_le (tgt := 126) hx hb (xb_d D_M_body 61 rfl) (xb_d D_M_body 62 rfl) rfl (fun hc9 => ?_) (fun hc9 => ?_)
            · have hw := hw.1 hc9
              exact am_M_body_L126 l hfl D A σ MC MS h0 Qr (w_M_body_L72 Qr n9) ih x0 x3 x4 v7 x8 h5 hw p e s m args below meth c hC H locs ls k n hE (lv_sub hl [2, 3, 4, 0, 5] rfl) hR hS (by omega) (by omega)
            · have hw := hw.2 hc9
              refine lv_aload_n hx hb (xb_d D_M_body 63 rfl) rfl (lv_at hl 2 rfl) ?_
              refine lv_bipush (v := 9) hx hb (xb_d D_M_body 64 rfl) (by decide) ?_
              refine lv_iload hx hb (xb_d D_M_body 65 rfl) (lv_at hl 1 rfl) ?_
              refine xb_call (D := D) (A := A) (σ := σ) (h := h5) (d := 2) (mc := 0) (ms := 0) (maxL := 3) (rest := []) (av := [.ref x0, .int 9, .int v4]) (fun T hT X => by obtain ⟨cb, r1, r2, r3⟩ := xb_recv (ci := 8) hR rfl hk2 (by decide); exact xt_invV X hx hown (hts _ m_939052ad) (hts _ m_29cc8c73) (hts _ m_3b1ac7ab) (xt_sigOf (hts _ m_8f062ecd)) nm_M_fail (by rw [hT]; exact r1) r2 r3 (g := F0 m 123 ls [.int v4, .int 9, .ref x0]) rfl (argsL := [.int 9, .int v4]) (rest := []) rfl rfl (by rw [hb]; exact (xb_d D_M_body 66 rfl))) (ok_M_fail l hfl D A σ x0 9 v4 h5 _ hw) (hml.trans hl.1.symm) (by rw [hb]; exact (xb_d D_M_body 66 rfl)) (Nat.le_of_ble_eq_true rfl) (Nat.le_of_ble_eq_true rfl) (Nat.le_of_ble_eq_true rfl) (show k + 0 ≤ MC by omega) (show n + 0 ≤ MS by omega) (xt_w1 hB.1 m_8f062ecd) (xt_cdOf hB.1 m_8f062ecd) (hts _ m_d5ed7bed) hB hR hS hA (fun vv h10 H locs hq hEh10 hR hS => ?_) (fun XX ax h10 H locs hq hEh10 hex hR hS => ?_)
              · obtain ⟨rfl, hw⟩ := hq
                have hw := hw hEh10
                have hE := hE.tr hEh10
                refine W.eq (g2 := F0 m 126 ls []) rfl ?_
                exact am_M_body_L126 l hfl D A σ MC MS h0 Qr (w_M_body_L72 Qr n9) ih x0 x3 x4 v7 x8 h10 hw p e s m args below meth c hC H locs ls k n hE (lv_sub hl [2, 3, 4, 0, 5] rfl) hR hS (by omega) (by omega)
              · exact False.elim hq
        · exact False.elim hq

set_option maxHeartbeats 4000000 in
set_option maxRecDepth 100000 in
theorem am_M_body_L36 (l : Launch) (hfl : l.flags = pinnedFlags ++ [noTraceFlag]) (D : va_G) (A : Nat → Prop) (σ MC MS : Nat) (h0 : xb_H) (Qr : xb_H → Prop) (x0 : Nat) (x1 : Int64) (h : xb_H) (hw : w_M_body_L36 Qr x0 x1 h) : xb_am l D A σ 8 MC MS h0 (fun v h => v = none ∧ Qr h) (fun _ _ => False) y_M_body.cls y_M_body.name b_M_body 11 ([] : List ExceptionTableEntry) none 36 [(0, .ref x0), (1, .long x1)] [] h 0 0 := by
  unfold w_M_body_L36 at hw
  intro p e s m args below meth c hC H locs ls k n hE hl hR hS hk hn
  obtain ⟨hx, hb, hown, hlocks, htab, hml, hr, hB, hA, hnm⟩ := id hC
  have hts := hB.1.1.at args
  refine lv_aload_n hx hb (xb_d D_M_body 20 rfl) rfl (lv_at hl 0 rfl) ?_
  obtain ⟨hk1, hw⟩ := hw
  refine xb_getI (C := R_M) (T := F_M) (N := 97) hx hb 8 17 hts fin_M hown hR hk1 (by decide) rfl (by decide) rfl (hts _ m_ff69da61) (fun _ h9 => h9) (xb_d D_M_body 21 rfl) ?_
  refine lv_if_eq (tgt := 44) hx hb (xb_d D_M_body 22 rfl) rfl (fun hc2 => ?_) (fun hc2 => ?_)
  · have hw := hw.1 hc2
    refine lv_aload_n hx hb (xb_d D_M_body 24 rfl) rfl (lv_at hl 0 rfl) ?_
    refine xb_getI (C := R_M) (T := F_M) (N := 97) hx hb 8 16 hts fin_M hown hR hk1 (by decide) rfl (by decide) rfl (hts _ m_48124c81) (fun _ h9 => h9) (xb_d D_M_body 25 rfl) ?_
    obtain ⟨v3, ev3⟩ : ∃ x : Int32, x = (xb_i h x0 16) := ⟨_, rfl⟩
    have hw := hw v3 ev3
    refine xt_numi (y := v3) ev3.symm ?_
    refine lv_istore_n hx hb (xb_d D_M_body 26 rfl) rfl hl (by decide) rfl (fun ls hl => ?_)
    have hl : lv_has ls 11 [(3, .int v3), (0, .ref x0), (1, .long x1)] := hl
    refine lv_aload_n hx hb (xb_d D_M_body 27 rfl) rfl (lv_at hl 1 rfl) ?_
    refine lv_aload_n hx hb (xb_d D_M_body 28 rfl) rfl (lv_at hl 1 rfl) ?_
    refine xb_getI (C := R_M) (T := F_M) (N := 97) hx hb 8 15 hts fin_M hown hR hk1 (by decide) rfl (by decide) rfl (hts _ m_6c2d27ad) (fun _ h9 => h9) (xb_d D_M_body 29 rfl) ?_
    refine lv_lload_n hx hb (xb_d D_M_body 30 rfl) rfl (lv_at hl 2 rfl) ?_
    refine lv_l2i hx hb (xb_d D_M_body 31 rfl) rfl ?_
    refine lv_iadd hx hb (xb_d D_M_body 32 rfl) ?_
    refine xb_putI (C := R_M) (T := F_M) (N := 97) (ty := .int) (x := ((xb_i h x0 15) + (Int64.toInt32 x1))) hx hb 8 16 hts fin_M t_M t_M_ok n_M hown hR hS hk1 (by decide) rfl (by decide) rfl (hts _ m_48124c81) (fun _ h9 => h9) rfl (by decide +kernel) rfl rfl (xb_d D_M_body 33 rfl) (fun H locs hR hS => ?_)
    obtain ⟨h4, eh4⟩ : ∃ x : xb_H, x = xb_I h x0 16 ((xb_i h x0 15) + (Int64.toInt32 x1)) := ⟨_, rfl⟩
    rw [← eh4] at hR
    have hw := hw h4 eh4
    have hE : xb_ext h0 h4 := by rw [eh4]; exact hE
    refine lv_aload_n hx hb (xb_d D_M_body 34 rfl) rfl (lv_at hl 1 rfl) ?_
    have hk1 : xb_k h4 x0 = 9 := by rw [eh4]; exact hk1
    refine xb_call (D := D) (A := A) (σ := σ) (h := h4) (d := 4) (mc := 0) (ms := 0) (maxL := 5) (rest := []) (av := [.ref x0]) (fun T hT X => by obtain ⟨cb, r1, r2, r3⟩ := xb_recv (ci := 8) hR rfl hk1 (by decide); exact xt_invV X hx hown (hts _ m_e991293f) (hts _ m_385a74b3) (hts _ m_c9fbcd02) (xt_sigOf (hts _ m_1f53f210)) nm_M_count (by rw [hT]; exact r1) r2 r3 (g := F0 m 61 ls [.ref x0]) rfl (argsL := []) (rest := []) rfl rfl (by rw [hb]; exact (xb_d D_M_body 35 rfl))) (ok_M_count l hfl D A σ x0 h4 _ hw) (hml.trans hl.1.symm) (by rw [hb]; exact (xb_d D_M_body 35 rfl)) (Nat.le_of_ble_eq_true rfl) (Nat.le_of_ble_eq_true rfl) (Nat.le_of_ble_eq_true rfl) (show k + 0 ≤ MC by omega) (show n + 0 ≤ MS by omega) (xt_w1 hB.1 m_1f53f210) (xt_cdOf hB.1 m_1f53f210) (hts _ m_d5ed7bed) hB hR hS hA (fun vv h5 H locs hq hEh5 hR hS => ?_) (fun XX ax h5 H locs hq hEh5 hex hR hS => ?_)
    · obtain ⟨r6, rfl, hw⟩ := hq
      have hw := hw hEh5
      have hE := hE.tr hEh5
      refine W.eq (g2 := F0 m 64 ls [.long r6]) rfl ?_
      refine lv_lstore hx hb (xb_d D_M_body 36 rfl) hl (by decide) rfl (fun ls hl => ?_)
      have hl : lv_has ls 11 [(4, .long r6), (3, .int v3), (0, .ref x0), (1, .long x1)] := hl
      refine lv_lconst (v := 0) hx hb (xb_d D_M_body 37 rfl) (by decide) ?_
      refine lv_lstore hx hb (xb_d D_M_body 38 rfl) hl (by decide) rfl (fun ls hl => ?_)
      have hl : lv_has ls 11 [(6, .long 0), (4, .long r6), (3, .int v3), (0, .ref x0), (1, .long x1)] := hl
      refine lv_lconst (v := 0) hx hb (xb_d D_M_body 39 rfl) (by decide) ?_
      refine lv_lstore hx hb (xb_d D_M_body 40 rfl) hl (by decide) rfl (fun ls hl => ?_)
      have hl : lv_has ls 11 [(8, .long 0), (6, .long 0), (4, .long r6), (3, .int v3), (0, .ref x0), (1, .long x1)] := hl
      obtain ⟨n8, hw⟩ := hw
      exact am_M_body_L72 l hfl D A σ MC MS h0 Qr n8 x0 v3 r6 0 0 h5 hw p e s m args below meth c hC H locs ls k n hE (lv_sub hl [4, 3, 2, 1, 0] rfl) hR hS (by omega) (by omega)
    · exact False.elim hq
  · have hw := hw.2 hc2
    exact xb_vret hx hb hr hlocks (show k ≤ MC by omega) (show n ≤ MS by omega) hE hR hS (xb_d D_M_body 23 rfl) hw

set_option maxHeartbeats 4000000 in
set_option maxRecDepth 100000 in
theorem ok_M_body (l : Launch) (hfl : l.flags = pinnedFlags ++ [noTraceFlag]) (D : va_G) (A : Nat → Prop) (σ : Nat) (x0 : Nat) (h : xb_H) (Qr : xb_H → Prop) (hw : w_M_body x0 h Qr) : xt_Met l y_M_body [.code y_M_body b_M_body 11 none] (xb_rm 8 0 0) (xb_Pc D A σ h [.ref x0]) (xb_Qc D A h (fun v h => v = none ∧ Qr h) (fun _ _ => False)) 0 0 A := by
  refine xb_ofAm (cc := b_M_body) (by decide) (Nat.le_of_ble_eq_true rfl) ?_
  unfold w_M_body at hw
  show xb_am l D A σ 8 0 0 h (fun v h => v = none ∧ Qr h) (fun _ _ => False) y_M_body.cls y_M_body.name b_M_body 11 ([] : List ExceptionTableEntry) none 0 [(0, .ref x0)] [] h 0 0
  obtain ⟨MC, hMC⟩ : ∃ x, x = 0 := ⟨_, rfl⟩
  obtain ⟨MS, hMS⟩ : ∃ x, x = 0 := ⟨_, rfl⟩
  rw [show xb_am l D A σ 8 0 0 = xb_am l D A σ 8 MC MS by rw [hMC, hMS]]
  obtain ⟨h0, hh0⟩ : ∃ x, x = h := ⟨_, rfl⟩
  rw [show xb_am l D A σ 8 MC MS h = xb_am l D A σ 8 MC MS h0 by rw [hh0]]
  intro p e s m args below meth c hC H locs ls k n hE hl hR hS hk hn
  obtain ⟨hx, hb, hown, hlocks, htab, hml, hr, hB, hA, hnm⟩ := id hC
  have hts := hB.1.1.at args
  refine lv_aload_n hx hb (xb_d D_M_body 0 rfl) rfl (lv_at hl 0 rfl) ?_
  obtain ⟨hk1, hw⟩ := hw
  refine xb_call (D := D) (A := A) (σ := σ) (h := h) (d := 4) (mc := 0) (ms := 0) (maxL := 5) (rest := []) (av := [.ref x0]) (fun T hT X => by obtain ⟨cb, r1, r2, r3⟩ := xb_recv (ci := 8) hR rfl hk1 (by decide); exact xt_invV X hx hown (hts _ m_e991293f) (hts _ m_385a74b3) (hts _ m_c9fbcd02) (xt_sigOf (hts _ m_1f53f210)) nm_M_count (by rw [hT]; exact r1) r2 r3 (g := F0 m 1 ls [.ref x0]) rfl (argsL := []) (rest := []) rfl rfl (by rw [hb]; exact (xb_d D_M_body 1 rfl))) (ok_M_count l hfl D A σ x0 h _ hw) (hml.trans hl.1.symm) (by rw [hb]; exact (xb_d D_M_body 1 rfl)) (Nat.le_of_ble_eq_true rfl) (Nat.le_of_ble_eq_true rfl) (Nat.le_of_ble_eq_true rfl) (show k + 0 ≤ MC by omega) (show n + 0 ≤ MS by omega) (xt_w1 hB.1 m_1f53f210) (xt_cdOf hB.1 m_1f53f210) (hts _ m_d5ed7bed) hB hR hS hA (fun vv h2 H locs hq hEh2 hR hS => ?_) (fun XX ax h2 H locs hq hEh2 hex hR hS => ?_)
  · obtain ⟨r3, rfl, hw⟩ := hq
    have hw := hw hEh2
    have hE := hE.tr hEh2
    refine W.eq (g2 := F0 m 4 ls [.long r3]) rfl ?_
    refine lv_lstore_n hx hb (xb_d D_M_body 2 rfl) rfl hl (by decide) rfl (fun ls hl => ?_)
    have hl : lv_has ls 11 [(1, .long r3), (0, .ref x0)] := hl
    refine lv_aload_n hx hb (xb_d D_M_body 3 rfl) rfl (lv_at hl 1 rfl) ?_
    have hk1 : xb_k h2 x0 = 9 := hEh2.k hk1
    refine xb_getI (C := R_M) (T := F_M) (N := 97) hx hb 8 17 hts fin_M hown hR hk1 (by decide) rfl (by decide) rfl (hts _ m_ff69da61) (fun _ h9 => h9) (xb_d D_M_body 4 rfl) ?_
    refine lv_if_ne (tgt := 36) hx hb (xb_d D_M_body 5 rfl) rfl (fun hc4 => ?_) (fun hc4 => ?_)
    · have hw := hw.1 hc4
      exact am_M_body_L36 l hfl D A σ MC MS h0 Qr x0 r3 h2 hw p e s m args below meth c hC H locs ls k n hE (lv_sub hl [1, 0] rfl) hR hS (by omega) (by omega)
    · have hw := hw.2 hc4
      refine lv_lload_n hx hb (xb_d D_M_body 6 rfl) rfl (lv_at hl 0 rfl) ?_
      refine lv_aload_n hx hb (xb_d D_M_body 7 rfl) rfl (lv_at hl 1 rfl) ?_
      refine xb_getI (C := R_M) (T := F_M) (N := 97) hx hb 8 16 hts fin_M hown hR hk1 (by decide) rfl (by decide) rfl (hts _ m_48124c81) (fun _ h9 => h9) (xb_d D_M_body 8 rfl) ?_
      refine lv_aload_n hx hb (xb_d D_M_body 9 rfl) rfl (lv_at hl 1 rfl) ?_
      refine xb_getI (C := R_M) (T := F_M) (N := 97) hx hb 8 15 hts fin_M hown hR hk1 (by decide) rfl (by decide) rfl (hts _ m_6c2d27ad) (fun _ h9 => h9) (xb_d D_M_body 10 rfl) ?_
      refine lv_isub hx hb (xb_d D_M_body 11 rfl) ?_
      refine lv_i2l hx hb (xb_d D_M_body 12 rfl) rfl ?_
      refine xb_lc_le (tgt := 36) hx hb (xb_d D_M_body 13 rfl) (xb_d D_M_body 14 rfl) rfl (fun hc5 => ?_) (fun hc5 => ?_)
      · have hw := hw.1 hc5
        exact am_M_body_L36 l hfl D A σ MC MS h0 Qr x0 r3 h2 hw p e s m args below meth c hC H locs ls k n hE (lv_sub hl [1, 0] rfl) hR hS (by omega) (by omega)
      · have hw := hw.2 hc5
        refine lv_aload_n hx hb (xb_d D_M_body 15 rfl) rfl (lv_at hl 1 rfl) ?_
        refine lv_iconst (v := 2) hx hb (xb_d D_M_body 16 rfl) (by decide) ?_
        refine lv_aload_n hx hb (xb_d D_M_body 17 rfl) rfl (lv_at hl 1 rfl) ?_
        refine xb_getI (C := R_M) (T := F_M) (N := 97) hx hb 8 16 hts fin_M hown hR hk1 (by decide) rfl (by decide) rfl (hts _ m_48124c81) (fun _ h9 => h9) (xb_d D_M_body 18 rfl) ?_
        refine xb_call (D := D) (A := A) (σ := σ) (h := h2) (d := 2) (mc := 0) (ms := 0) (maxL := 3) (rest := []) (av := [.ref x0, .int 2, .int (xb_i h2 x0 16)]) (fun T hT X => by obtain ⟨cb, r1, r2, r3⟩ := xb_recv (ci := 8) hR rfl hk1 (by decide); exact xt_invV X hx hown (hts _ m_939052ad) (hts _ m_29cc8c73) (hts _ m_3b1ac7ab) (xt_sigOf (hts _ m_8f062ecd)) nm_M_fail (by rw [hT]; exact r1) r2 r3 (g := F0 m 33 ls [.int (xb_i h2 x0 16), .int 2, .ref x0]) rfl (argsL := [.int 2, .int (xb_i h2 x0 16)]) (rest := []) rfl rfl (by rw [hb]; exact (xb_d D_M_body 19 rfl))) (ok_M_fail l hfl D A σ x0 2 (xb_i h2 x0 16) h2 _ hw) (hml.trans hl.1.symm) (by rw [hb]; exact (xb_d D_M_body 19 rfl)) (Nat.le_of_ble_eq_true rfl) (Nat.le_of_ble_eq_true rfl) (Nat.le_of_ble_eq_true rfl) (show k + 0 ≤ MC by omega) (show n + 0 ≤ MS by omega) (xt_w1 hB.1 m_8f062ecd) (xt_cdOf hB.1 m_8f062ecd) (hts _ m_d5ed7bed) hB hR hS hA (fun vv h6 H locs hq hEh6 hR hS => ?_) (fun XX ax h6 H locs hq hEh6 hex hR hS => ?_)
        · obtain ⟨rfl, hw⟩ := hq
          have hw := hw hEh6
          have hE := hE.tr hEh6
          refine W.eq (g2 := F0 m 36 ls []) rfl ?_
          exact am_M_body_L36 l hfl D A σ MC MS h0 Qr x0 r3 h6 hw p e s m args below meth c hC H locs ls k n hE (lv_sub hl [1, 0] rfl) hR hS (by omega) (by omega)
        · exact False.elim hq
  · exact False.elim hq

theorem m_9c9c8605 : (.methodLink "StackHostModel" 643 y_M_readOn : Cond) ∈ xt_tbl := xt_in (xt_t13 (List.mem_of_getElem? (i := 146) (by decide +kernel))) (by decide +kernel)
theorem m_05af8ccc : (.instanceMethod y_M_readOn : Cond) ∈ xt_tbl := xt_in (xt_t13 (List.mem_of_getElem? (i := 148) (by decide +kernel))) (by decide +kernel)
theorem m_1b43488f : (.selects "StackHostModel" y_M_readOn y_M_readOn : Cond) ∈ xt_tbl := xt_in (xt_v17 (q := (⟨"StackHostModel", "readOn", "(IZ)Z"⟩, 97)) (List.mem_of_getElem? (i := 9) (by decide +kernel))) (by decide +kernel)
theorem m_e000fc68 : (.code y_M_readOn b_M_readOn 5 (some .boolean) : Cond) ∈ xt_tbl := xt_in (xt_t13 (List.mem_of_getElem? (i := 149) (by decide +kernel))) (by decide +kernel)
theorem m_b8a8e88c : (.methodLink "StackHostModel" 640 y_M_leave : Cond) ∈ xt_tbl := xt_in (xt_t13 (List.mem_of_getElem? (i := 150) (by decide +kernel))) (by decide +kernel)
theorem m_4d204536 : (.instanceMethod y_M_leave : Cond) ∈ xt_tbl := xt_in (xt_t13 (List.mem_of_getElem? (i := 152) (by decide +kernel))) (by decide +kernel)
theorem m_5da39f92 : (.selects "StackHostModel" y_M_leave y_M_leave : Cond) ∈ xt_tbl := xt_in (xt_v17 (q := (⟨"StackHostModel", "leave", "()V"⟩, 97)) (List.mem_of_getElem? (i := 10) (by decide +kernel))) (by decide +kernel)
theorem m_5a54079a : (.code y_M_leave b_M_leave 5 none : Cond) ∈ xt_tbl := xt_in (xt_t13 (List.mem_of_getElem? (i := 153) (by decide +kernel))) (by decide +kernel)
theorem nm_M_readOn : xt_nm y_M_readOn 2 := ⟨by decide +kernel, by decide +kernel⟩
theorem nm_M_leave : xt_nm y_M_leave 0 := ⟨by decide +kernel, by decide +kernel⟩
set_option maxRecDepth 100000 in
def T_M_branch : List (Nat × Instr × Nat) := [(0, .aload_n 0, 1), (1, .getfield 616, 3), (4, .iconst 1, 1), (5, .isub, 1), (6, .istore_n 3, 1), (7, .lload_n 1, 1), (8, .aload_n 0, 1), (9, .getfield 610, 3), (12, .aload_n 0, 1), (13, .getfield 151, 3), (16, .iload_n 3, 1), (17, .iaload, 1), (18, .isub, 1), (19, .i2l, 1), (20, .lcmp, 1), (21, .ifCond .lt 12, 3), (24, .aload_n 0, 1), (25, .getfield 151, 3), (28, .iload_n 3, 1), (29, .iaload, 1), (30, .goto 12, 3), (33, .aload_n 0, 1), (34, .getfield 610, 3), (37, .iconst 1, 1), (38, .isub, 1), (39, .lload_n 1, 1), (40, .l2i, 1), (41, .isub, 1), (42, .istore 4, 2), (44, .aload_n 0, 1), (45, .aload_n 0, 1), (46, .getfield 613, 3), (49, .ifCond .ne 20, 3), (52, .lload_n 1, 1), (53, .aload_n 0, 1), (54, .getfield 610, 3), (57, .aload_n 0, 1), (58, .getfield 151, 3), (61, .iload_n 3, 1), (62, .iaload, 1), (63, .isub, 1), (64, .i2l, 1), (65, .lcmp, 1), (66, .ifCond .lt 7, 3), (69, .iconst 1, 1), (70, .goto 4, 3), (73, .iconst 0, 1), (74, .putfield 613, 3), (77, .iload 4, 2), (79, .aload_n 0, 1), (80, .getfield 151, 3), (83, .iload_n 3, 1), (84, .iaload, 1), (85, .if_icmp .ne 8, 3), (88, .aload_n 0, 1), (89, .invokevirtual 640, 3), (92, .return_, 1), (93, .aload_n 0, 1), (94, .getfield 167, 3), (97, .iload 4, 2), (99, .iaload, 1), (100, .istore 5, 2), (102, .iload 5, 2), (104, .bipush 64, 2), (106, .if_icmp .ne 7, 3), (109, .lconst 0, 1), (110, .goto 9, 3), (113, .aload_n 0, 1), (114, .iload 5, 2), (116, .invokevirtual 634, 3), (119, .lstore 6, 2), (121, .aload_n 0, 1), (122, .aload_n 0, 1), (123, .getfield 170, 3), (126, .iload 4, 2), (128, .iaload, 1), (129, .putfield 607, 3), (132, .aload_n 0, 1), (133, .getfield 161, 3), (136, .iload 4, 2), (138, .iaload, 1), (139, .iconst 3, 1), (140, .if_icmp .ne 25, 3), (143, .aload_n 0, 1), (144, .iload 4, 2), (146, .iconst 1, 1), (147, .iadd, 1), (148, .putfield 610, 3), (151, .aload_n 0, 1), (152, .aload_n 0, 1), (153, .getfield 164, 3), (156, .iload 4, 2), (158, .iaload, 1), (159, .putfield 202, 3), (162, .goto 37, 3), (165, .aload_n 0, 1), (166, .aload_n 0, 1), (167, .getfield 610, 3), (170, .iload 4, 2), (172, .isub, 1), (173, .iconst 0, 1), (174, .invokevirtual 643, 3), (177, .pop, 1), (178, .aload_n 0, 1), (179, .iload 4, 2), (181, .putfield 610, 3), (184, .iload 5, 2), (186, .bipush 64, 2), (188, .if_icmp .eq 11, 3), (191, .aload_n 0, 1), (192, .lload 6, 2), (194, .iload 5, 2), (196, .invokevirtual 628, 3), (199, .return_, 1)]
theorem D_M_branch : ∀ q ∈ T_M_branch, decode b_M_branch q.1 = .ok (q.2.1, q.2.2) := by decide +kernel
def w_M_branch_L199 (Qr : xb_H → Prop) (h : xb_H) : Prop :=
    Qr h

def w_M_branch_L119 (Qr : xb_H → Prop) (x0 : Nat) (x4 : Int32) (x5 : Int32) (y0 : Int64) (h : xb_H) : Prop :=
    xb_k h x0 = 9 ∧ ∃ b2 : Nat, (xb_r h x0 80) = some b2 ∧ xb_k h b2 = 102 ∧ vp_in x4 (xb_n h b2) ∧ ∀ h5 : xb_H, h5 = xb_I h x0 76 (xb_i h b2 (Int32.toNatClampNeg x4)) → ∃ b6 : Nat, (xb_r h5 x0 77) = some b6 ∧ xb_k h5 b6 = 102 ∧ vp_in x4 (xb_n h5 b6) ∧ ((¬ (xb_i h5 b6 (Int32.toNatClampNeg x4)) = (3 : Int32) → w_M_readOn x0 ((xb_i h5 x0 81) - x4) 0 h5 (fun (r11 : Int32) (h10 : xb_H) => xb_ext h5 h10 → ∀ h12 : xb_H, h12 = xb_I h10 x0 81 x4 → ((x5 = (64 : Int32) → w_M_branch_L199 Qr h12) ∧ (¬ x5 = (64 : Int32) → w_M_add x0 y0 x5 h12 (fun (h14 : xb_H) => xb_ext h12 h14 → w_M_branch_L199 Qr h14))))) ∧ ((xb_i h5 b6 (Int32.toNatClampNeg x4)) = (3 : Int32) → ∀ h16 : xb_H, h16 = xb_I h5 x0 81 (x4 + 1) → ∃ b17 : Nat, (xb_r h16 x0 78) = some b17 ∧ xb_k h16 b17 = 102 ∧ vp_in x4 (xb_n h16 b17) ∧ ∀ h20 : xb_H, h20 = xb_I h16 x0 15 (xb_i h16 b17 (Int32.toNatClampNeg x4)) → w_M_branch_L199 Qr h20))

def w_M_branch_L74 (Qr : xb_H → Prop) (x0 : Nat) (x3 : Int32) (x4 : Int32) (y0 : Int32) (y1 : Nat) (h : xb_H) : Prop :=
    xb_k h y1 = 9 ∧ (y0 = 0 ∨ y0 = 1) ∧ ∀ h3 : xb_H, h3 = xb_I h y1 94 y0 → xb_k h3 x0 = 9 ∧ ∃ b5 : Nat, (xb_r h3 x0 73) = some b5 ∧ xb_k h3 b5 = 102 ∧ vp_in x3 (xb_n h3 b5) ∧ ((¬ x4 = (xb_i h3 b5 (Int32.toNatClampNeg x3)) → ∃ b9 : Nat, (xb_r h3 x0 79) = some b9 ∧ xb_k h3 b9 = 102 ∧ vp_in x4 (xb_n h3 b9) ∧ ∀ v12 : Int32, v12 = (xb_i h3 b9 (Int32.toNatClampNeg x4)) → ((¬ v12 = (64 : Int32) → w_M_pop x0 v12 h3 (fun (r15 : Int64) (h14 : xb_H) => xb_ext h3 h14 → w_M_branch_L119 Qr x0 x4 v12 r15 h14)) ∧ (v12 = (64 : Int32) → w_M_branch_L119 Qr x0 x4 v12 0 h3))) ∧ (x4 = (xb_i h3 b5 (Int32.toNatClampNeg x3)) → w_M_leave x0 h3 (fun (h16 : xb_H) => xb_ext h3 h16 → Qr h16)))

def w_M_branch_L69 (Qr : xb_H → Prop) (x0 : Nat) (x3 : Int32) (x4 : Int32) (y0 : Nat) (h : xb_H) : Prop :=
    w_M_branch_L74 Qr x0 x3 x4 1 y0 h

def w_M_branch_L42 (Qr : xb_H → Prop) (x0 : Nat) (x1 : Int64) (x3 : Int32) (y0 : Int32) (h : xb_H) : Prop :=
    xb_k h x0 = 9 ∧ ((¬ (xb_i h x0 94) = (0 : Int32) → w_M_branch_L69 Qr x0 x3 y0 x0 h) ∧ ((xb_i h x0 94) = (0 : Int32) → ∃ b3 : Nat, (xb_r h x0 73) = some b3 ∧ xb_k h b3 = 102 ∧ vp_in x3 (xb_n h b3) ∧ ((x1 < (Int32.toInt64 ((xb_i h x0 81) - (xb_i h b3 (Int32.toNatClampNeg x3)))) → w_M_branch_L74 Qr x0 x3 y0 0 x0 h) ∧ (¬ x1 < (Int32.toInt64 ((xb_i h x0 81) - (xb_i h b3 (Int32.toNatClampNeg x3)))) → w_M_branch_L69 Qr x0 x3 y0 x0 h))))

def w_M_branch (x0 : Nat) (x1 : Int64) (h : xb_H) (Qr : xb_H → Prop) : Prop :=
    xb_k h x0 = 9 ∧ ∀ v2 : Int32, v2 = ((xb_i h x0 68) - 1) → ∃ b3 : Nat, (xb_r h x0 73) = some b3 ∧ xb_k h b3 = 102 ∧ vp_in v2 (xb_n h b3) ∧ ((x1 < (Int32.toInt64 ((xb_i h x0 81) - (xb_i h b3 (Int32.toNatClampNeg v2)))) → w_M_branch_L42 Qr x0 x1 v2 (((xb_i h x0 81) - 1) - (Int64.toInt32 x1)) h) ∧ (¬ x1 < (Int32.toInt64 ((xb_i h x0 81) - (xb_i h b3 (Int32.toNatClampNeg v2)))) → ∃ b7 : Nat, (xb_r h x0 73) = some b7 ∧ xb_k h b7 = 102 ∧ vp_in v2 (xb_n h b7) ∧ w_M_branch_L42 Qr x0 x1 v2 (xb_i h b7 (Int32.toNatClampNeg v2)) h))

set_option maxHeartbeats 4000000 in
set_option maxRecDepth 100000 in
theorem am_M_branch_L199 (l : Launch) (hfl : l.flags = pinnedFlags ++ [noTraceFlag]) (D : va_G) (A : Nat → Prop) (σ MC MS : Nat) (h0 : xb_H) (Qr : xb_H → Prop) (h : xb_H) (hw : w_M_branch_L199 Qr h) : xb_am l D A σ 8 MC MS h0 (fun v h => v = none ∧ Qr h) (fun _ _ => False) y_M_branch.cls y_M_branch.name b_M_branch 8 ([] : List ExceptionTableEntry) none 199 [] [] h 0 0 := by
  unfold w_M_branch_L199 at hw
  intro p e s m args below meth c hC H locs ls k n hE hl hR hS hk hn
  obtain ⟨hx, hb, hown, hlocks, htab, hml, hr, hB, hA, hnm⟩ := id hC
  have hts := hB.1.1.at args
  exact xb_vret hx hb hr hlocks (show k ≤ MC by omega) (show n ≤ MS by omega) hE hR hS (xb_d D_M_branch 113 rfl) hw

set_option maxHeartbeats 4000000 in
set_option maxRecDepth 100000 in
theorem am_M_branch_L119 (l : Launch) (hfl : l.flags = pinnedFlags ++ [noTraceFlag]) (D : va_G) (A : Nat → Prop) (σ MC MS : Nat) (h0 : xb_H) (Qr : xb_H → Prop) (x0 : Nat) (x4 : Int32) (x5 : Int32) (y0 : Int64) (h : xb_H) (hw : w_M_branch_L119 Qr x0 x4 x5 y0 h) : xb_am l D A σ 8 MC MS h0 (fun v h => v = none ∧ Qr h) (fun _ _ => False) y_M_branch.cls y_M_branch.name b_M_branch 8 ([] : List ExceptionTableEntry) none 119 [(0, .ref x0), (4, .int x4), (5, .int x5)] [.long y0] h 0 0 := by
  unfold w_M_branch_L119 at hw
  intro p e s m args below meth c hC H locs ls k n hE hl hR hS hk hn
  obtain ⟨hx, hb, hown, hlocks, htab, hml, hr, hB, hA, hnm⟩ := id hC
  have hts := hB.1.1.at args
  refine lv_lstore hx hb (xb_d D_M_branch 70 rfl) hl (by decide) rfl (fun ls hl => ?_)
  have hl : lv_has ls 8 [(6, .long y0), (0, .ref x0), (4, .int x4), (5, .int x5)] := hl
  refine lv_aload_n hx hb (xb_d D_M_branch 71 rfl) rfl (lv_at hl 1 rfl) ?_
  refine lv_aload_n hx hb (xb_d D_M_branch 72 rfl) rfl (lv_at hl 1 rfl) ?_
  obtain ⟨hk1, hw⟩ := hw
  refine xb_getP (C := R_M) (T := F_M) (N := 97) hx hb 8 80 hts fin_M hown hR hk1 (by decide) rfl (by decide) rfl (hts _ m_24ba043b) (fun _ h9 => h9) (xb_d D_M_branch 73 rfl) ?_
  obtain ⟨b2, eb2, hw⟩ := hw
  refine xb_some eb2 ?_
  refine lv_iload hx hb (xb_d D_M_branch 74 rfl) (lv_at hl 2 rfl) ?_
  obtain ⟨hk4, hw⟩ := hw
  obtain ⟨hi3, hw⟩ := hw
  refine xb_iald hx hb hR hk4 hi3 (xb_d D_M_branch 75 rfl) ?_
  refine xb_putI (C := R_M) (T := F_M) (N := 97) (ty := .int) (x := (xb_i h b2 (Int32.toNatClampNeg x4))) hx hb 8 76 hts fin_M t_M t_M_ok n_M hown hR hS hk1 (by decide) rfl (by decide) rfl (hts _ m_d6ddfcd8) (fun _ h9 => h9) rfl (by decide +kernel) rfl rfl (xb_d D_M_branch 76 rfl) (fun H locs hR hS => ?_)
  obtain ⟨h5, eh5⟩ : ∃ x : xb_H, x = xb_I h x0 76 (xb_i h b2 (Int32.toNatClampNeg x4)) := ⟨_, rfl⟩
  rw [← eh5] at hR
  have hw := hw h5 eh5
  have hE : xb_ext h0 h5 := by rw [eh5]; exact hE
  refine lv_aload_n hx hb (xb_d D_M_branch 77 rfl) rfl (lv_at hl 1 rfl) ?_
  have hk1 : xb_k h5 x0 = 9 := by rw [eh5]; exact hk1
  refine xb_getP (C := R_M) (T := F_M) (N := 97) hx hb 8 77 hts fin_M hown hR hk1 (by decide) rfl (by decide) rfl (hts _ m_3921a746) (fun _ h9 => h9) (xb_d D_M_branch 78 rfl) ?_
  obtain ⟨b6, eb6, hw⟩ := hw
  refine xb_some eb6 ?_
  refine lv_iload hx hb (xb_d D_M_branch 79 rfl) (lv_at hl 2 rfl) ?_
  obtain ⟨hk8, hw⟩ := hw
  obtain ⟨hi7, hw⟩ := hw
  refine xb_iald hx hb hR hk8 hi7 (xb_d D_M_branch 80 rfl) ?_
  refine lv_iconst (v := 3) hx hb (xb_d D_M_branch 81 rfl) (by decide) ?_
  refine lv_icmp_ne (tgt := 165) hx hb (xb_d D_M_branch 82 rfl) rfl (fun hc9 => ?_) (fun hc9 => ?_)
  · have hw := hw.1 hc9
    refine lv_aload_n hx hb (xb_d D_M_branch 95 rfl) rfl (lv_at hl 1 rfl) ?_
    refine lv_aload_n hx hb (xb_d D_M_branch 96 rfl) rfl (lv_at hl 1 rfl) ?_
    refine xb_getI (C := R_M) (T := F_M) (N := 97) hx hb 8 81 hts fin_M hown hR hk1 (by decide) rfl (by decide) rfl (hts _ m_65743087) (fun _ h9 => h9) (xb_d D_M_branch 97 rfl) ?_
    refine lv_iload hx hb (xb_d D_M_branch 98 rfl) (lv_at hl 2 rfl) ?_
    refine lv_isub hx hb (xb_d D_M_branch 99 rfl) ?_
    refine lv_iconst (v := 0) hx hb (xb_d D_M_branch 100 rfl) (by decide) ?_
    refine xb_call (D := D) (A := A) (σ := σ) (h := h5) (d := 7) (mc := 0) (ms := 0) (maxL := 5) (rest := []) (av := [.ref x0, .int ((xb_i h5 x0 81) - x4), .int 0]) (fun T hT X => by obtain ⟨cb, r1, r2, r3⟩ := xb_recv (ci := 8) hR rfl hk1 (by decide); exact xt_invV X hx hown (hts _ m_9c9c8605) (hts _ m_05af8ccc) (hts _ m_1b43488f) (xt_sigOf (hts _ m_e000fc68)) nm_M_readOn (by rw [hT]; exact r1) r2 r3 (g := F0 m 174 ls [.int 0, .int ((xb_i h5 x0 81) - x4), .ref x0]) rfl (argsL := [.int ((xb_i h5 x0 81) - x4), .int 0]) (rest := []) rfl rfl (by rw [hb]; exact (xb_d D_M_branch 101 rfl))) (ok_M_readOn l hfl D A σ x0 ((xb_i h5 x0 81) - x4) 0 h5 _ hw) (hml.trans hl.1.symm) (by rw [hb]; exact (xb_d D_M_branch 101 rfl)) (Nat.le_of_ble_eq_true rfl) (Nat.le_of_ble_eq_true rfl) (Nat.le_of_ble_eq_true rfl) (show k + 0 ≤ MC by omega) (show n + 0 ≤ MS by omega) (xt_w1 hB.1 m_e000fc68) (xt_cdOf hB.1 m_e000fc68) (hts _ m_d5ed7bed) hB hR hS hA (fun vv h10 H locs hq hEh10 hR hS => ?_) (fun XX ax h10 H locs hq hEh10 hex hR hS => ?_)
    · obtain ⟨r11, rfl, hw⟩ := hq
      have hw := hw hEh10
      have hE := hE.tr hEh10
      refine W.eq (g2 := F0 m 177 ls [.int r11]) rfl ?_
      refine lv_pop hx hb (xb_d D_M_branch 102 rfl) rfl ?_
      refine lv_aload_n hx hb (xb_d D_M_branch 103 rfl) rfl (lv_at hl 1 rfl) ?_
      refine lv_iload hx hb (xb_d D_M_branch 104 rfl) (lv_at hl 2 rfl) ?_
      have hk1 : xb_k h10 x0 = 9 := hEh10.k hk1
      refine xb_putI (C := R_M) (T := F_M) (N := 97) (ty := .int) (x := x4) hx hb 8 81 hts fin_M t_M t_M_ok n_M hown hR hS hk1 (by decide) rfl (by decide) rfl (hts _ m_65743087) (fun _ h9 => h9) rfl (by decide +kernel) rfl rfl (xb_d D_M_branch 105 rfl) (fun H locs hR hS => ?_)
      obtain ⟨h12, eh12⟩ : ∃ x : xb_H, x = xb_I h10 x0 81 x4 := ⟨_, rfl⟩
      rw [← eh12] at hR
      have hw := hw h12 eh12
      have hE : xb_ext h0 h12 := by rw [eh12]; exact hE
      refine lv_iload hx hb (xb_d D_M_branch 106 rfl) (lv_at hl 3 rfl) ?_
      refine lv_bipush (v := 64) hx hb (xb_d D_M_branch 107 rfl) (by decide) ?_
      refine lv_icmp_eq (tgt := 199) hx hb (xb_d D_M_branch 108 rfl) rfl (fun hc13 => ?_) (fun hc13 => ?_)
      · have hw := hw.1 hc13
        exact am_M_branch_L199 l hfl D A σ MC MS h0 Qr h12 hw p e s m args below meth c hC H locs ls k n hE (lv_sub hl [] rfl) hR hS (by omega) (by omega)
      · have hw := hw.2 hc13
        refine lv_aload_n hx hb (xb_d D_M_branch 109 rfl) rfl (lv_at hl 1 rfl) ?_
        refine lv_lload hx hb (xb_d D_M_branch 110 rfl) (lv_at hl 0 rfl) ?_
        refine lv_iload hx hb (xb_d D_M_branch 111 rfl) (lv_at hl 3 rfl) ?_
        have hk1 : xb_k h12 x0 = 9 := by rw [eh12]; exact hk1
        refine xb_call (D := D) (A := A) (σ := σ) (h := h12) (d := 2) (mc := 0) (ms := 0) (maxL := 4) (rest := []) (av := [.ref x0, .long y0, .int x5]) (fun T hT X => by obtain ⟨cb, r1, r2, r3⟩ := xb_recv (ci := 8) hR rfl hk1 (by decide); exact xt_invV X hx hown (hts _ m_1dd22d11) (hts _ m_e8ae1713) (hts _ m_973b740a) (xt_sigOf (hts _ m_a0d5a63e)) nm_M_add (by rw [hT]; exact r1) r2 r3 (g := F0 m 196 ls [.int x5, .long y0, .ref x0]) rfl (argsL := [.long y0, .int x5]) (rest := []) rfl rfl (by rw [hb]; exact (xb_d D_M_branch 112 rfl))) (ok_M_add l hfl D A σ x0 y0 x5 h12 _ hw) (hml.trans hl.1.symm) (by rw [hb]; exact (xb_d D_M_branch 112 rfl)) (Nat.le_of_ble_eq_true rfl) (Nat.le_of_ble_eq_true rfl) (Nat.le_of_ble_eq_true rfl) (show k + 0 ≤ MC by omega) (show n + 0 ≤ MS by omega) (xt_w1 hB.1 m_a0d5a63e) (xt_cdOf hB.1 m_a0d5a63e) (hts _ m_d5ed7bed) hB hR hS hA (fun vv h14 H locs hq hEh14 hR hS => ?_) (fun XX ax h14 H locs hq hEh14 hex hR hS => ?_)
        · obtain ⟨rfl, hw⟩ := hq
          have hw := hw hEh14
          have hE := hE.tr hEh14
          refine W.eq (g2 := F0 m 199 ls []) rfl ?_
          exact am_M_branch_L199 l hfl D A σ MC MS h0 Qr h14 hw p e s m args below meth c hC H locs ls k n hE (lv_sub hl [] rfl) hR hS (by omega) (by omega)
        · exact False.elim hq
    · exact False.elim hq
  · have hw := hw.2 hc9
    refine lv_aload_n hx hb (xb_d D_M_branch 83 rfl) rfl (lv_at hl 1 rfl) ?_
    refine lv_iload hx hb (xb_d D_M_branch 84 rfl) (lv_at hl 2 rfl) ?_
    refine lv_iconst (v := 1) hx hb (xb_d D_M_branch 85 rfl) (by decide) ?_
    refine lv_iadd hx hb (xb_d D_M_branch 86 rfl) ?_
    refine xb_putI (C := R_M) (T := F_M) (N := 97) (ty := .int) (x := (x4 + 1)) hx hb 8 81 hts fin_M t_M t_M_ok n_M hown hR hS hk1 (by decide) rfl (by decide) rfl (hts _ m_65743087) (fun _ h9 => h9) rfl (by decide +kernel) rfl rfl (xb_d D_M_branch 87 rfl) (fun H locs hR hS => ?_)
    obtain ⟨h16, eh16⟩ : ∃ x : xb_H, x = xb_I h5 x0 81 (x4 + 1) := ⟨_, rfl⟩
    rw [← eh16] at hR
    have hw := hw h16 eh16
    have hE : xb_ext h0 h16 := by rw [eh16]; exact hE
    refine lv_aload_n hx hb (xb_d D_M_branch 88 rfl) rfl (lv_at hl 1 rfl) ?_
    refine lv_aload_n hx hb (xb_d D_M_branch 89 rfl) rfl (lv_at hl 1 rfl) ?_
    have hk1 : xb_k h16 x0 = 9 := by rw [eh16]; exact hk1
    refine xb_getP (C := R_M) (T := F_M) (N := 97) hx hb 8 78 hts fin_M hown hR hk1 (by decide) rfl (by decide) rfl (hts _ m_6fbbe4c1) (fun _ h9 => h9) (xb_d D_M_branch 90 rfl) ?_
    obtain ⟨b17, eb17, hw⟩ := hw
    refine xb_some eb17 ?_
    refine lv_iload hx hb (xb_d D_M_branch 91 rfl) (lv_at hl 2 rfl) ?_
    obtain ⟨hk19, hw⟩ := hw
    obtain ⟨hi18, hw⟩ := hw
    refine xb_iald hx hb hR hk19 hi18 (xb_d D_M_branch 92 rfl) ?_
    refine xb_putI (C := R_M) (T := F_M) (N := 97) (ty := .int) (x := (xb_i h16 b17 (Int32.toNatClampNeg x4))) hx hb 8 15 hts fin_M t_M t_M_ok n_M hown hR hS hk1 (by decide) rfl (by decide) rfl (hts _ m_6c2d27ad) (fun _ h9 => h9) rfl (by decide +kernel) rfl rfl (xb_d D_M_branch 93 rfl) (fun H locs hR hS => ?_)
    obtain ⟨h20, eh20⟩ : ∃ x : xb_H, x = xb_I h16 x0 15 (xb_i h16 b17 (Int32.toNatClampNeg x4)) := ⟨_, rfl⟩
    rw [← eh20] at hR
    have hw := hw h20 eh20
    have hE : xb_ext h0 h20 := by rw [eh20]; exact hE
    refine lv_goto (tgt := 199) hx hb (xb_d D_M_branch 94 rfl) rfl ?_
    exact am_M_branch_L199 l hfl D A σ MC MS h0 Qr h20 hw p e s m args below meth c hC H locs ls k n hE (lv_sub hl [] rfl) hR hS (by omega) (by omega)

set_option maxHeartbeats 4000000 in
set_option maxRecDepth 100000 in
theorem am_M_branch_L74 (l : Launch) (hfl : l.flags = pinnedFlags ++ [noTraceFlag]) (D : va_G) (A : Nat → Prop) (σ MC MS : Nat) (h0 : xb_H) (Qr : xb_H → Prop) (x0 : Nat) (x3 : Int32) (x4 : Int32) (y0 : Int32) (y1 : Nat) (h : xb_H) (hw : w_M_branch_L74 Qr x0 x3 x4 y0 y1 h) : xb_am l D A σ 8 MC MS h0 (fun v h => v = none ∧ Qr h) (fun _ _ => False) y_M_branch.cls y_M_branch.name b_M_branch 8 ([] : List ExceptionTableEntry) none 74 [(0, .ref x0), (3, .int x3), (4, .int x4)] [.int y0, .ref y1] h 0 0 := by
  unfold w_M_branch_L74 at hw
  intro p e s m args below meth c hC H locs ls k n hE hl hR hS hk hn
  obtain ⟨hx, hb, hown, hlocks, htab, hml, hr, hB, hA, hnm⟩ := id hC
  have hts := hB.1.1.at args
  obtain ⟨hk1, hw⟩ := hw
  obtain ⟨hz2, hw⟩ := hw
  refine xb_putI (C := R_M) (T := F_M) (N := 97) (ty := .boolean) (x := y0) hx hb 8 94 hts fin_M t_M t_M_ok n_M hown hR hS hk1 (by decide) rfl (by decide) rfl (hts _ m_8158dce5) (fun _ h9 => h9) rfl (by decide +kernel) (xb_bn hz2).1 (xb_bn hz2).2 (xb_d D_M_branch 47 rfl) (fun H locs hR hS => ?_)
  obtain ⟨h3, eh3⟩ : ∃ x : xb_H, x = xb_I h y1 94 y0 := ⟨_, rfl⟩
  rw [← eh3] at hR
  have hw := hw h3 eh3
  have hE : xb_ext h0 h3 := by rw [eh3]; exact hE
  refine lv_iload hx hb (xb_d D_M_branch 48 rfl) (lv_at hl 2 rfl) ?_
  refine lv_aload_n hx hb (xb_d D_M_branch 49 rfl) rfl (lv_at hl 0 rfl) ?_
  obtain ⟨hk4, hw⟩ := hw
  refine xb_getP (C := R_M) (T := F_M) (N := 97) hx hb 8 73 hts fin_M hown hR hk4 (by decide) rfl (by decide) rfl (hts _ m_6c9efdee) (fun _ h9 => h9) (xb_d D_M_branch 50 rfl) ?_
  obtain ⟨b5, eb5, hw⟩ := hw
  refine xb_some eb5 ?_
  refine lv_iload_n hx hb (xb_d D_M_branch 51 rfl) rfl (lv_at hl 1 rfl) ?_
  obtain ⟨hk7, hw⟩ := hw
  obtain ⟨hi6, hw⟩ := hw
  refine xb_iald hx hb hR hk7 hi6 (xb_d D_M_branch 52 rfl) ?_
  refine lv_icmp_ne (tgt := 93) hx hb (xb_d D_M_branch 53 rfl) rfl (fun hc8 => ?_) (fun hc8 => ?_)
  · have hw := hw.1 hc8
    refine lv_aload_n hx hb (xb_d D_M_branch 57 rfl) rfl (lv_at hl 0 rfl) ?_
    refine xb_getP (C := R_M) (T := F_M) (N := 97) hx hb 8 79 hts fin_M hown hR hk4 (by decide) rfl (by decide) rfl (hts _ m_0f6cf014) (fun _ h9 => h9) (xb_d D_M_branch 58 rfl) ?_
    obtain ⟨b9, eb9, hw⟩ := hw
    refine xb_some eb9 ?_
    refine lv_iload hx hb (xb_d D_M_branch 59 rfl) (lv_at hl 2 rfl) ?_
    obtain ⟨hk11, hw⟩ := hw
    obtain ⟨hi10, hw⟩ := hw
    refine xb_iald hx hb hR hk11 hi10 (xb_d D_M_branch 60 rfl) ?_
    obtain ⟨v12, ev12⟩ : ∃ x : Int32, x = (xb_i h3 b9 (Int32.toNatClampNeg x4)) := ⟨_, rfl⟩
    have hw := hw v12 ev12
    refine xt_numi (y := v12) ev12.symm ?_
    refine lv_istore hx hb (xb_d D_M_branch 61 rfl) hl (by decide) rfl (fun ls hl => ?_)
    have hl : lv_has ls 8 [(5, .int v12), (0, .ref x0), (3, .int x3), (4, .int x4)] := hl
    refine lv_iload hx hb (xb_d D_M_branch 62 rfl) (lv_at hl 0 rfl) ?_
    refine lv_bipush (v := 64) hx hb (xb_d D_M_branch 63 rfl) (by decide) ?_
    refine lv_icmp_ne (tgt := 113) hx hb (xb_d D_M_branch 64 rfl) rfl (fun hc13 => ?_) (fun hc13 => ?_)
    · have hw := hw.1 hc13
      refine lv_aload_n hx hb (xb_d D_M_branch 67 rfl) rfl (lv_at hl 1 rfl) ?_
      refine lv_iload hx hb (xb_d D_M_branch 68 rfl) (lv_at hl 0 rfl) ?_
      refine xb_call (D := D) (A := A) (σ := σ) (h := h3) (d := 2) (mc := 0) (ms := 0) (maxL := 2) (rest := []) (av := [.ref x0, .int v12]) (fun T hT X => by obtain ⟨cb, r1, r2, r3⟩ := xb_recv (ci := 8) hR rfl hk4 (by decide); exact xt_invV X hx hown (hts _ m_ce40dc40) (hts _ m_c3a002b8) (hts _ m_395c99b5) (xt_sigOf (hts _ m_1ea89357)) nm_M_pop (by rw [hT]; exact r1) r2 r3 (g := F0 m 116 ls [.int v12, .ref x0]) rfl (argsL := [.int v12]) (rest := []) rfl rfl (by rw [hb]; exact (xb_d D_M_branch 69 rfl))) (ok_M_pop l hfl D A σ x0 v12 h3 _ hw) (hml.trans hl.1.symm) (by rw [hb]; exact (xb_d D_M_branch 69 rfl)) (Nat.le_of_ble_eq_true rfl) (Nat.le_of_ble_eq_true rfl) (Nat.le_of_ble_eq_true rfl) (show k + 0 ≤ MC by omega) (show n + 0 ≤ MS by omega) (xt_w1 hB.1 m_1ea89357) (xt_cdOf hB.1 m_1ea89357) (hts _ m_d5ed7bed) hB hR hS hA (fun vv h14 H locs hq hEh14 hR hS => ?_) (fun XX ax h14 H locs hq hEh14 hex hR hS => ?_)
      · obtain ⟨r15, rfl, hw⟩ := hq
        have hw := hw hEh14
        have hE := hE.tr hEh14
        refine W.eq (g2 := F0 m 119 ls [.long r15]) rfl ?_
        exact am_M_branch_L119 l hfl D A σ MC MS h0 Qr x0 x4 v12 r15 h14 hw p e s m args below meth c hC H locs ls k n hE (lv_sub hl [1, 3, 0] rfl) hR hS (by omega) (by omega)
      · exact False.elim hq
    · have hw := hw.2 hc13
      refine lv_lconst (v := 0) hx hb (xb_d D_M_branch 65 rfl) (by decide) ?_
      refine lv_goto (tgt := 119) hx hb (xb_d D_M_branch 66 rfl) rfl ?_
      exact am_M_branch_L119 l hfl D A σ MC MS h0 Qr x0 x4 v12 0 h3 hw p e s m args below meth c hC H locs ls k n hE (lv_sub hl [1, 3, 0] rfl) hR hS (by omega) (by omega)
  · have hw := hw.2 hc8
    refine lv_aload_n hx hb (xb_d D_M_branch 54 rfl) rfl (lv_at hl 0 rfl) ?_
    refine xb_call (D := D) (A := A) (σ := σ) (h := h3) (d := 3) (mc := 0) (ms := 0) (maxL := 5) (rest := []) (av := [.ref x0]) (fun T hT X => by obtain ⟨cb, r1, r2, r3⟩ := xb_recv (ci := 8) hR rfl hk4 (by decide); exact xt_invV X hx hown (hts _ m_b8a8e88c) (hts _ m_4d204536) (hts _ m_5da39f92) (xt_sigOf (hts _ m_5a54079a)) nm_M_leave (by rw [hT]; exact r1) r2 r3 (g := F0 m 89 ls [.ref x0]) rfl (argsL := []) (rest := []) rfl rfl (by rw [hb]; exact (xb_d D_M_branch 55 rfl))) (ok_M_leave l hfl D A σ x0 h3 _ hw) (hml.trans hl.1.symm) (by rw [hb]; exact (xb_d D_M_branch 55 rfl)) (Nat.le_of_ble_eq_true rfl) (Nat.le_of_ble_eq_true rfl) (Nat.le_of_ble_eq_true rfl) (show k + 0 ≤ MC by omega) (show n + 0 ≤ MS by omega) (xt_w1 hB.1 m_5a54079a) (xt_cdOf hB.1 m_5a54079a) (hts _ m_d5ed7bed) hB hR hS hA (fun vv h16 H locs hq hEh16 hR hS => ?_) (fun XX ax h16 H locs hq hEh16 hex hR hS => ?_)
    · obtain ⟨rfl, hw⟩ := hq
      have hw := hw hEh16
      have hE := hE.tr hEh16
      refine W.eq (g2 := F0 m 92 ls []) rfl ?_
      exact xb_vret hx hb hr hlocks (show k ≤ MC by omega) (show n ≤ MS by omega) hE hR hS (xb_d D_M_branch 56 rfl) hw
    · exact False.elim hq

set_option maxHeartbeats 4000000 in
set_option maxRecDepth 100000 in
theorem am_M_branch_L69 (l : Launch) (hfl : l.flags = pinnedFlags ++ [noTraceFlag]) (D : va_G) (A : Nat → Prop) (σ MC MS : Nat) (h0 : xb_H) (Qr : xb_H → Prop) (x0 : Nat) (x3 : Int32) (x4 : Int32) (y0 : Nat) (h : xb_H) (hw : w_M_branch_L69 Qr x0 x3 x4 y0 h) : xb_am l D A σ 8 MC MS h0 (fun v h => v = none ∧ Qr h) (fun _ _ => False) y_M_branch.cls y_M_branch.name b_M_branch 8 ([] : List ExceptionTableEntry) none 69 [(0, .ref x0), (3, .int x3), (4, .int x4)] [.ref y0] h 0 0 := by
  unfold w_M_branch_L69 at hw
  intro p e s m args below meth c hC H locs ls k n hE hl hR hS hk hn
  obtain ⟨hx, hb, hown, hlocks, htab, hml, hr, hB, hA, hnm⟩ := id hC
  have hts := hB.1.1.at args
  refine lv_iconst (v := 1) hx hb (xb_d D_M_branch 44 rfl) (by decide) ?_
  refine lv_goto (tgt := 74) hx hb (xb_d D_M_branch 45 rfl) rfl ?_
  exact am_M_branch_L74 l hfl D A σ MC MS h0 Qr x0 x3 x4 1 y0 h hw p e s m args below meth c hC H locs ls k n hE (lv_sub hl [0, 1, 2] rfl) hR hS (by omega) (by omega)

set_option maxHeartbeats 4000000 in
set_option maxRecDepth 100000 in
theorem am_M_branch_L42 (l : Launch) (hfl : l.flags = pinnedFlags ++ [noTraceFlag]) (D : va_G) (A : Nat → Prop) (σ MC MS : Nat) (h0 : xb_H) (Qr : xb_H → Prop) (x0 : Nat) (x1 : Int64) (x3 : Int32) (y0 : Int32) (h : xb_H) (hw : w_M_branch_L42 Qr x0 x1 x3 y0 h) : xb_am l D A σ 8 MC MS h0 (fun v h => v = none ∧ Qr h) (fun _ _ => False) y_M_branch.cls y_M_branch.name b_M_branch 8 ([] : List ExceptionTableEntry) none 42 [(0, .ref x0), (1, .long x1), (3, .int x3)] [.int y0] h 0 0 := by
  unfold w_M_branch_L42 at hw
  intro p e s m args below meth c hC H locs ls k n hE hl hR hS hk hn
  obtain ⟨hx, hb, hown, hlocks, htab, hml, hr, hB, hA, hnm⟩ := id hC
  have hts := hB.1.1.at args
  refine lv_istore hx hb (xb_d D_M_branch 28 rfl) hl (by decide) rfl (fun ls hl => ?_)
  have hl : lv_has ls 8 [(4, .int y0), (0, .ref x0), (1, .long x1), (3, .int x3)] := hl
  refine lv_aload_n hx hb (xb_d D_M_branch 29 rfl) rfl (lv_at hl 1 rfl) ?_
  refine lv_aload_n hx hb (xb_d D_M_branch 30 rfl) rfl (lv_at hl 1 rfl) ?_
  obtain ⟨hk1, hw⟩ := hw
  refine xb_getI (C := R_M) (T := F_M) (N := 97) hx hb 8 94 hts fin_M hown hR hk1 (by decide) rfl (by decide) rfl (hts _ m_8158dce5) (fun _ h9 => h9) (xb_d D_M_branch 31 rfl) ?_
  refine lv_if_ne (tgt := 69) hx hb (xb_d D_M_branch 32 rfl) rfl (fun hc2 => ?_) (fun hc2 => ?_)
  · have hw := hw.1 hc2
    exact am_M_branch_L69 l hfl D A σ MC MS h0 Qr x0 x3 y0 x0 h hw p e s m args below meth c hC H locs ls k n hE (lv_sub hl [1, 3, 0] rfl) hR hS (by omega) (by omega)
  · have hw := hw.2 hc2
    refine lv_lload_n hx hb (xb_d D_M_branch 33 rfl) rfl (lv_at hl 2 rfl) ?_
    refine lv_aload_n hx hb (xb_d D_M_branch 34 rfl) rfl (lv_at hl 1 rfl) ?_
    refine xb_getI (C := R_M) (T := F_M) (N := 97) hx hb 8 81 hts fin_M hown hR hk1 (by decide) rfl (by decide) rfl (hts _ m_65743087) (fun _ h9 => h9) (xb_d D_M_branch 35 rfl) ?_
    refine lv_aload_n hx hb (xb_d D_M_branch 36 rfl) rfl (lv_at hl 1 rfl) ?_
    refine xb_getP (C := R_M) (T := F_M) (N := 97) hx hb 8 73 hts fin_M hown hR hk1 (by decide) rfl (by decide) rfl (hts _ m_6c9efdee) (fun _ h9 => h9) (xb_d D_M_branch 37 rfl) ?_
    obtain ⟨b3, eb3, hw⟩ := hw
    refine xb_some eb3 ?_
    refine lv_iload_n hx hb (xb_d D_M_branch 38 rfl) rfl (lv_at hl 3 rfl) ?_
    obtain ⟨hk5, hw⟩ := hw
    obtain ⟨hi4, hw⟩ := hw
    refine xb_iald hx hb hR hk5 hi4 (xb_d D_M_branch 39 rfl) ?_
    refine lv_isub hx hb (xb_d D_M_branch 40 rfl) ?_
    refine lv_i2l hx hb (xb_d D_M_branch 41 rfl) rfl ?_
    refine xb_lc_lt (tgt := 73) hx hb (xb_d D_M_branch 42 rfl) (xb_d D_M_branch 43 rfl) rfl (fun hc6 => ?_) (fun hc6 => ?_)
    · have hw := hw.1 hc6
      refine lv_iconst (v := 0) hx hb (xb_d D_M_branch 46 rfl) (by decide) ?_
      exact am_M_branch_L74 l hfl D A σ MC MS h0 Qr x0 x3 y0 0 x0 h hw p e s m args below meth c hC H locs ls k n hE (lv_sub hl [1, 3, 0] rfl) hR hS (by omega) (by omega)
    · have hw := hw.2 hc6
      exact am_M_branch_L69 l hfl D A σ MC MS h0 Qr x0 x3 y0 x0 h hw p e s m args below meth c hC H locs ls k n hE (lv_sub hl [1, 3, 0] rfl) hR hS (by omega) (by omega)

set_option maxHeartbeats 4000000 in
set_option maxRecDepth 100000 in
theorem ok_M_branch (l : Launch) (hfl : l.flags = pinnedFlags ++ [noTraceFlag]) (D : va_G) (A : Nat → Prop) (σ : Nat) (x0 : Nat) (x1 : Int64) (h : xb_H) (Qr : xb_H → Prop) (hw : w_M_branch x0 x1 h Qr) : xt_Met l y_M_branch [.code y_M_branch b_M_branch 8 none] (xb_rm 8 0 0) (xb_Pc D A σ h [.ref x0, .long x1]) (xb_Qc D A h (fun v h => v = none ∧ Qr h) (fun _ _ => False)) 0 0 A := by
  refine xb_ofAm (cc := b_M_branch) (by decide) (Nat.le_of_ble_eq_true rfl) ?_
  unfold w_M_branch at hw
  show xb_am l D A σ 8 0 0 h (fun v h => v = none ∧ Qr h) (fun _ _ => False) y_M_branch.cls y_M_branch.name b_M_branch 8 ([] : List ExceptionTableEntry) none 0 [(0, .ref x0), (1, .long x1)] [] h 0 0
  obtain ⟨MC, hMC⟩ : ∃ x, x = 0 := ⟨_, rfl⟩
  obtain ⟨MS, hMS⟩ : ∃ x, x = 0 := ⟨_, rfl⟩
  rw [show xb_am l D A σ 8 0 0 = xb_am l D A σ 8 MC MS by rw [hMC, hMS]]
  obtain ⟨h0, hh0⟩ : ∃ x, x = h := ⟨_, rfl⟩
  rw [show xb_am l D A σ 8 MC MS h = xb_am l D A σ 8 MC MS h0 by rw [hh0]]
  intro p e s m args below meth c hC H locs ls k n hE hl hR hS hk hn
  obtain ⟨hx, hb, hown, hlocks, htab, hml, hr, hB, hA, hnm⟩ := id hC
  have hts := hB.1.1.at args
  refine lv_aload_n hx hb (xb_d D_M_branch 0 rfl) rfl (lv_at hl 0 rfl) ?_
  obtain ⟨hk1, hw⟩ := hw
  refine xb_getI (C := R_M) (T := F_M) (N := 97) hx hb 8 68 hts fin_M hown hR hk1 (by decide) rfl (by decide) rfl (hts _ m_11712ae1) (fun _ h9 => h9) (xb_d D_M_branch 1 rfl) ?_
  refine lv_iconst (v := 1) hx hb (xb_d D_M_branch 2 rfl) (by decide) ?_
  refine lv_isub hx hb (xb_d D_M_branch 3 rfl) ?_
  obtain ⟨v2, ev2⟩ : ∃ x : Int32, x = ((xb_i h x0 68) - 1) := ⟨_, rfl⟩
  have hw := hw v2 ev2
  refine xt_numi (y := v2) ev2.symm ?_
  refine lv_istore_n hx hb (xb_d D_M_branch 4 rfl) rfl hl (by decide) rfl (fun ls hl => ?_)
  have hl : lv_has ls 8 [(3, .int v2), (0, .ref x0), (1, .long x1)] := hl
  refine lv_lload_n hx hb (xb_d D_M_branch 5 rfl) rfl (lv_at hl 2 rfl) ?_
  refine lv_aload_n hx hb (xb_d D_M_branch 6 rfl) rfl (lv_at hl 1 rfl) ?_
  refine xb_getI (C := R_M) (T := F_M) (N := 97) hx hb 8 81 hts fin_M hown hR hk1 (by decide) rfl (by decide) rfl (hts _ m_65743087) (fun _ h9 => h9) (xb_d D_M_branch 7 rfl) ?_
  refine lv_aload_n hx hb (xb_d D_M_branch 8 rfl) rfl (lv_at hl 1 rfl) ?_
  refine xb_getP (C := R_M) (T := F_M) (N := 97) hx hb 8 73 hts fin_M hown hR hk1 (by decide) rfl (by decide) rfl (hts _ m_6c9efdee) (fun _ h9 => h9) (xb_d D_M_branch 9 rfl) ?_
  obtain ⟨b3, eb3, hw⟩ := hw
  refine xb_some eb3 ?_
  refine lv_iload_n hx hb (xb_d D_M_branch 10 rfl) rfl (lv_at hl 0 rfl) ?_
  obtain ⟨hk5, hw⟩ := hw
  obtain ⟨hi4, hw⟩ := hw
  refine xb_iald hx hb hR hk5 hi4 (xb_d D_M_branch 11 rfl) ?_
  refine lv_isub hx hb (xb_d D_M_branch 12 rfl) ?_
  refine lv_i2l hx hb (xb_d D_M_branch 13 rfl) rfl ?_
  refine xb_lc_lt (tgt := 33) hx hb (xb_d D_M_branch 14 rfl) (xb_d D_M_branch 15 rfl) rfl (fun hc6 => ?_) (fun hc6 => ?_)
  · have hw := hw.1 hc6
    refine lv_aload_n hx hb (xb_d D_M_branch 21 rfl) rfl (lv_at hl 1 rfl) ?_
    refine xb_getI (C := R_M) (T := F_M) (N := 97) hx hb 8 81 hts fin_M hown hR hk1 (by decide) rfl (by decide) rfl (hts _ m_65743087) (fun _ h9 => h9) (xb_d D_M_branch 22 rfl) ?_
    refine lv_iconst (v := 1) hx hb (xb_d D_M_branch 23 rfl) (by decide) ?_
    refine lv_isub hx hb (xb_d D_M_branch 24 rfl) ?_
    refine lv_lload_n hx hb (xb_d D_M_branch 25 rfl) rfl (lv_at hl 2 rfl) ?_
    refine lv_l2i hx hb (xb_d D_M_branch 26 rfl) rfl ?_
    refine lv_isub hx hb (xb_d D_M_branch 27 rfl) ?_
    exact am_M_branch_L42 l hfl D A σ MC MS h0 Qr x0 x1 v2 (((xb_i h x0 81) - 1) - (Int64.toInt32 x1)) h hw p e s m args below meth c hC H locs ls k n hE (lv_sub hl [1, 2, 0] rfl) hR hS (by omega) (by omega)
  · have hw := hw.2 hc6
    refine lv_aload_n hx hb (xb_d D_M_branch 16 rfl) rfl (lv_at hl 1 rfl) ?_
    refine xb_getP (C := R_M) (T := F_M) (N := 97) hx hb 8 73 hts fin_M hown hR hk1 (by decide) rfl (by decide) rfl (hts _ m_6c9efdee) (fun _ h9 => h9) (xb_d D_M_branch 17 rfl) ?_
    obtain ⟨b7, eb7, hw⟩ := hw
    refine xb_some eb7 ?_
    refine lv_iload_n hx hb (xb_d D_M_branch 18 rfl) rfl (lv_at hl 0 rfl) ?_
    obtain ⟨hk9, hw⟩ := hw
    obtain ⟨hi8, hw⟩ := hw
    refine xb_iald hx hb hR hk9 hi8 (xb_d D_M_branch 19 rfl) ?_
    refine lv_goto (tgt := 42) hx hb (xb_d D_M_branch 20 rfl) rfl ?_
    exact am_M_branch_L42 l hfl D A σ MC MS h0 Qr x0 x1 v2 (xb_i h b7 (Int32.toNatClampNeg v2)) h hw p e s m args below meth c hC H locs ls k n hE (lv_sub hl [1, 2, 0] rfl) hR hS (by omega) (by omega)

theorem m_bcb3cb22 : (.methodLink "StackHostModel" 330 y_M_importOf : Cond) ∈ xt_tbl := xt_in (xt_t11 (List.mem_of_getElem? (i := 109) (by decide +kernel))) (by decide +kernel)
theorem m_38f5d5ae : (.instanceMethod y_M_importOf : Cond) ∈ xt_tbl := xt_in (xt_t11 (List.mem_of_getElem? (i := 111) (by decide +kernel))) (by decide +kernel)
theorem m_e7522fd3 : (.selects "StackHostModel" y_M_importOf y_M_importOf : Cond) ∈ xt_tbl := xt_in (xt_v11 (q := (⟨"StackHostModel", "importOf", "(III)I"⟩, 97)) (List.mem_of_getElem? (i := 3) (by decide +kernel))) (by decide +kernel)
theorem m_8f92e52e : (.code y_M_importOf b_M_importOf 6 (some .int) : Cond) ∈ xt_tbl := xt_in (xt_t11 (List.mem_of_getElem? (i := 112) (by decide +kernel))) (by decide +kernel)
theorem nm_M_importOf : xt_nm y_M_importOf 3 := ⟨by decide +kernel, by decide +kernel⟩
set_option maxRecDepth 100000 in
def T_M_meant : List (Nat × Instr × Nat) := [(0, .aload_n 0, 1), (1, .getfield 62, 3), (4, .iload_n 1, 1), (5, .iaload, 1), (6, .istore 4, 2), (8, .aload_n 0, 1), (9, .getfield 30, 3), (12, .iconst 4, 1), (13, .iload 4, 2), (15, .imul, 1), (16, .iload_n 2, 1), (17, .iadd, 1), (18, .iaload, 1), (19, .istore 5, 2), (21, .iload_n 3, 1), (22, .iload 5, 2), (24, .if_icmp .ge 24, 3), (27, .aload_n 0, 1), (28, .getfield 68, 3), (31, .aload_n 0, 1), (32, .getfield 65, 3), (35, .iload_n 1, 1), (36, .iaload, 1), (37, .aload_n 0, 1), (38, .iload 4, 2), (40, .iload_n 2, 1), (41, .iload_n 3, 1), (42, .invokevirtual 330, 3), (45, .iadd, 1), (46, .iaload, 1), (47, .ireturn, 1), (48, .iload_n 2, 1), (49, .ifCond .ne 17, 3), (52, .aload_n 0, 1), (53, .getfield 71, 3), (56, .iload_n 1, 1), (57, .iaload, 1), (58, .iload_n 3, 1), (59, .iadd, 1), (60, .iload 5, 2), (62, .isub, 1), (63, .goto 42, 3), (66, .iload_n 2, 1), (67, .iconst 1, 1), (68, .if_icmp .ne 12, 3), (71, .aload_n 0, 1), (72, .getfield 77, 3), (75, .iload_n 1, 1), (76, .iaload, 1), (77, .goto 28, 3), (80, .iload_n 2, 1), (81, .iconst 2, 1), (82, .if_icmp .ne 12, 3), (85, .aload_n 0, 1), (86, .getfield 80, 3), (89, .iload_n 1, 1), (90, .iaload, 1), (91, .goto 14, 3), (94, .aload_n 0, 1), (95, .getfield 74, 3), (98, .iload_n 1, 1), (99, .iaload, 1), (100, .iload_n 3, 1), (101, .iadd, 1), (102, .iload 5, 2), (104, .isub, 1), (105, .ireturn, 1)]
theorem D_M_meant : ∀ q ∈ T_M_meant, decode b_M_meant q.1 = .ok (q.2.1, q.2.2) := by decide +kernel
def w_M_meant_L105 (Qr : Int32 → xb_H → Prop) (y0 : Int32) (h : xb_H) : Prop :=
    Qr y0 h

def w_M_meant (x0 : Nat) (x1 : Int32) (x2 : Int32) (x3 : Int32) (h : xb_H) (Qr : Int32 → xb_H → Prop) : Prop :=
    xb_k h x0 = 9 ∧ ∃ b2 : Nat, (xb_r h x0 31) = some b2 ∧ xb_k h b2 = 102 ∧ vp_in x1 (xb_n h b2) ∧ ∀ v5 : Int32, v5 = (xb_i h b2 (Int32.toNatClampNeg x1)) → ∃ b6 : Nat, (xb_r h x0 10) = some b6 ∧ xb_k h b6 = 102 ∧ vp_in ((4 * v5) + x2) (xb_n h b6) ∧ ∀ v9 : Int32, v9 = (xb_i h b6 (Int32.toNatClampNeg ((4 * v5) + x2))) → ((v9 ≤ x3 → ((¬ x2 = (0 : Int32) → ((¬ x2 = (1 : Int32) → ((¬ x2 = (2 : Int32) → ∃ b14 : Nat, (xb_r h x0 36) = some b14 ∧ xb_k h b14 = 102 ∧ vp_in x1 (xb_n h b14) ∧ w_M_meant_L105 Qr (((xb_i h b14 (Int32.toNatClampNeg x1)) + x3) - v9) h) ∧ (x2 = (2 : Int32) → ∃ b17 : Nat, (xb_r h x0 38) = some b17 ∧ xb_k h b17 = 102 ∧ vp_in x1 (xb_n h b17) ∧ w_M_meant_L105 Qr (xb_i h b17 (Int32.toNatClampNeg x1)) h))) ∧ (x2 = (1 : Int32) → ∃ b20 : Nat, (xb_r h x0 37) = some b20 ∧ xb_k h b20 = 102 ∧ vp_in x1 (xb_n h b20) ∧ w_M_meant_L105 Qr (xb_i h b20 (Int32.toNatClampNeg x1)) h))) ∧ (x2 = (0 : Int32) → ∃ b23 : Nat, (xb_r h x0 35) = some b23 ∧ xb_k h b23 = 102 ∧ vp_in x1 (xb_n h b23) ∧ w_M_meant_L105 Qr (((xb_i h b23 (Int32.toNatClampNeg x1)) + x3) - v9) h))) ∧ (¬ v9 ≤ x3 → ∃ b26 : Nat, (xb_r h x0 33) = some b26 ∧ ∃ b27 : Nat, (xb_r h x0 32) = some b27 ∧ xb_k h b27 = 102 ∧ vp_in x1 (xb_n h b27) ∧ w_M_importOf x0 v5 x2 x3 h (fun (r31 : Int32) (h30 : xb_H) => xb_ext h h30 → xb_k h30 b26 = 102 ∧ vp_in ((xb_i h b27 (Int32.toNatClampNeg x1)) + r31) (xb_n h30 b26) ∧ Qr (xb_i h30 b26 (Int32.toNatClampNeg ((xb_i h b27 (Int32.toNatClampNeg x1)) + r31))) h30)))

set_option maxHeartbeats 4000000 in
set_option maxRecDepth 100000 in
theorem am_M_meant_L105 (l : Launch) (hfl : l.flags = pinnedFlags ++ [noTraceFlag]) (D : va_G) (A : Nat → Prop) (σ MC MS : Nat) (h0 : xb_H) (Qr : Int32 → xb_H → Prop) (y0 : Int32) (h : xb_H) (hw : w_M_meant_L105 Qr y0 h) : xb_am l D A σ 8 MC MS h0 (fun v h => ∃ r, v = some (.int r) ∧ Qr r h) (fun _ _ => False) y_M_meant.cls y_M_meant.name b_M_meant 6 ([] : List ExceptionTableEntry) (some .int) 105 [] [.int y0] h 0 0 := by
  unfold w_M_meant_L105 at hw
  intro p e s m args below meth c hC H locs ls k n hE hl hR hS hk hn
  obtain ⟨hx, hb, hown, hlocks, htab, hml, hr, hB, hA, hnm⟩ := id hC
  have hts := hB.1.1.at args
  exact xb_iret hx hb hr hlocks (show k ≤ MC by omega) (show n ≤ MS by omega) hE hR hS (xb_d D_M_meant 66 rfl) hw

set_option maxHeartbeats 4000000 in
set_option maxRecDepth 100000 in
theorem ok_M_meant (l : Launch) (hfl : l.flags = pinnedFlags ++ [noTraceFlag]) (D : va_G) (A : Nat → Prop) (σ : Nat) (x0 : Nat) (x1 : Int32) (x2 : Int32) (x3 : Int32) (h : xb_H) (Qr : Int32 → xb_H → Prop) (hw : w_M_meant x0 x1 x2 x3 h Qr) : xt_Met l y_M_meant [.code y_M_meant b_M_meant 6 (some .int)] (xb_rm 8 0 0) (xb_Pc D A σ h [.ref x0, .int x1, .int x2, .int x3]) (xb_Qc D A h (fun v h => ∃ r, v = some (.int r) ∧ Qr r h) (fun _ _ => False)) 0 0 A := by
  refine xb_ofAm (cc := b_M_meant) (by decide) (Nat.le_of_ble_eq_true rfl) ?_
  unfold w_M_meant at hw
  show xb_am l D A σ 8 0 0 h (fun v h => ∃ r, v = some (.int r) ∧ Qr r h) (fun _ _ => False) y_M_meant.cls y_M_meant.name b_M_meant 6 ([] : List ExceptionTableEntry) (some .int) 0 [(0, .ref x0), (1, .int x1), (2, .int x2), (3, .int x3)] [] h 0 0
  obtain ⟨MC, hMC⟩ : ∃ x, x = 0 := ⟨_, rfl⟩
  obtain ⟨MS, hMS⟩ : ∃ x, x = 0 := ⟨_, rfl⟩
  rw [show xb_am l D A σ 8 0 0 = xb_am l D A σ 8 MC MS by rw [hMC, hMS]]
  obtain ⟨h0, hh0⟩ : ∃ x, x = h := ⟨_, rfl⟩
  rw [show xb_am l D A σ 8 MC MS h = xb_am l D A σ 8 MC MS h0 by rw [hh0]]
  intro p e s m args below meth c hC H locs ls k n hE hl hR hS hk hn
  obtain ⟨hx, hb, hown, hlocks, htab, hml, hr, hB, hA, hnm⟩ := id hC
  have hts := hB.1.1.at args
  refine lv_aload_n hx hb (xb_d D_M_meant 0 rfl) rfl (lv_at hl 0 rfl) ?_
  obtain ⟨hk1, hw⟩ := hw
  refine xb_getP (C := R_M) (T := F_M) (N := 97) hx hb 8 31 hts fin_M hown hR hk1 (by decide) rfl (by decide) rfl (hts _ m_691d5f47) (fun _ h9 => h9) (xb_d D_M_meant 1 rfl) ?_
  obtain ⟨b2, eb2, hw⟩ := hw
  refine xb_some eb2 ?_
  refine lv_iload_n hx hb (xb_d D_M_meant 2 rfl) rfl (lv_at hl 1 rfl) ?_
  obtain ⟨hk4, hw⟩ := hw
  obtain ⟨hi3, hw⟩ := hw
  refine xb_iald hx hb hR hk4 hi3 (xb_d D_M_meant 3 rfl) ?_
  obtain ⟨v5, ev5⟩ : ∃ x : Int32, x = (xb_i h b2 (Int32.toNatClampNeg x1)) := ⟨_, rfl⟩
  have hw := hw v5 ev5
  refine xt_numi (y := v5) ev5.symm ?_
  refine lv_istore hx hb (xb_d D_M_meant 4 rfl) hl (by decide) rfl (fun ls hl => ?_)
  have hl : lv_has ls 6 [(4, .int v5), (0, .ref x0), (1, .int x1), (2, .int x2), (3, .int x3)] := hl
  refine lv_aload_n hx hb (xb_d D_M_meant 5 rfl) rfl (lv_at hl 1 rfl) ?_
  refine xb_getP (C := R_M) (T := F_M) (N := 97) hx hb 8 10 hts fin_M hown hR hk1 (by decide) rfl (by decide) rfl (hts _ m_01d0d957) (fun _ h9 => h9) (xb_d D_M_meant 6 rfl) ?_
  obtain ⟨b6, eb6, hw⟩ := hw
  refine xb_some eb6 ?_
  refine lv_iconst (v := 4) hx hb (xb_d D_M_meant 7 rfl) (by decide) ?_
  refine lv_iload hx hb (xb_d D_M_meant 8 rfl) (lv_at hl 0 rfl) ?_
  refine lv_imul hx hb (xb_d D_M_meant 9 rfl) ?_
  refine lv_iload_n hx hb (xb_d D_M_meant 10 rfl) rfl (lv_at hl 3 rfl) ?_
  refine lv_iadd hx hb (xb_d D_M_meant 11 rfl) ?_
  obtain ⟨hk8, hw⟩ := hw
  obtain ⟨hi7, hw⟩ := hw
  refine xb_iald hx hb hR hk8 hi7 (xb_d D_M_meant 12 rfl) ?_
  obtain ⟨v9, ev9⟩ : ∃ x : Int32, x = (xb_i h b6 (Int32.toNatClampNeg ((4 * v5) + x2))) := ⟨_, rfl⟩
  have hw := hw v9 ev9
  refine xt_numi (y := v9) ev9.symm ?_
  refine lv_istore hx hb (xb_d D_M_meant 13 rfl) hl (by decide) rfl (fun ls hl => ?_)
  have hl : lv_has ls 6 [(5, .int v9), (4, .int v5), (0, .ref x0), (1, .int x1), (2, .int x2), (3, .int x3)] := hl
  refine lv_iload_n hx hb (xb_d D_M_meant 14 rfl) rfl (lv_at hl 5 rfl) ?_
  refine lv_iload hx hb (xb_d D_M_meant 15 rfl) (lv_at hl 0 rfl) ?_
  refine lv_icmp_ge (tgt := 48) hx hb (xb_d D_M_meant 16 rfl) rfl (fun hc10 => ?_) (fun hc10 => ?_)
  · have hw := hw.1 hc10
    refine lv_iload_n hx hb (xb_d D_M_meant 31 rfl) rfl (lv_at hl 4 rfl) ?_
    refine lv_if_ne (tgt := 66) hx hb (xb_d D_M_meant 32 rfl) rfl (fun hc11 => ?_) (fun hc11 => ?_)
    · have hw := hw.1 hc11
      refine lv_iload_n hx hb (xb_d D_M_meant 42 rfl) rfl (lv_at hl 4 rfl) ?_
      refine lv_iconst (v := 1) hx hb (xb_d D_M_meant 43 rfl) (by decide) ?_
      refine lv_icmp_ne (tgt := 80) hx hb (xb_d D_M_meant 44 rfl) rfl (fun hc12 => ?_) (fun hc12 => ?_)
      · have hw := hw.1 hc12
        refine lv_iload_n hx hb (xb_d D_M_meant 50 rfl) rfl (lv_at hl 4 rfl) ?_
        refine lv_iconst (v := 2) hx hb (xb_d D_M_meant 51 rfl) (by decide) ?_
        refine lv_icmp_ne (tgt := 94) hx hb (xb_d D_M_meant 52 rfl) rfl (fun hc13 => ?_) (fun hc13 => ?_)
        · have hw := hw.1 hc13
          refine lv_aload_n hx hb (xb_d D_M_meant 58 rfl) rfl (lv_at hl 2 rfl) ?_
          refine xb_getP (C := R_M) (T := F_M) (N := 97) hx hb 8 36 hts fin_M hown hR hk1 (by decide) rfl (by decide) rfl (hts _ m_e7bc0caf) (fun _ h9 => h9) (xb_d D_M_meant 59 rfl) ?_
          obtain ⟨b14, eb14, hw⟩ := hw
          refine xb_some eb14 ?_
          refine lv_iload_n hx hb (xb_d D_M_meant 60 rfl) rfl (lv_at hl 3 rfl) ?_
          obtain ⟨hk16, hw⟩ := hw
          obtain ⟨hi15, hw⟩ := hw
          refine xb_iald hx hb hR hk16 hi15 (xb_d D_M_meant 61 rfl) ?_
          refine lv_iload_n hx hb (xb_d D_M_meant 62 rfl) rfl (lv_at hl 5 rfl) ?_
          refine lv_iadd hx hb (xb_d D_M_meant 63 rfl) ?_
          refine lv_iload hx hb (xb_d D_M_meant 64 rfl) (lv_at hl 0 rfl) ?_
          refine lv_isub hx hb (xb_d D_M_meant 65 rfl) ?_
          exact am_M_meant_L105 l hfl D A σ MC MS h0 Qr (((xb_i h b14 (Int32.toNatClampNeg x1)) + x3) - v9) h hw p e s m args below meth c hC H locs ls k n hE (lv_sub hl [] rfl) hR hS (by omega) (by omega)
        · have hw := hw.2 hc13
          refine lv_aload_n hx hb (xb_d D_M_meant 53 rfl) rfl (lv_at hl 2 rfl) ?_
          refine xb_getP (C := R_M) (T := F_M) (N := 97) hx hb 8 38 hts fin_M hown hR hk1 (by decide) rfl (by decide) rfl (hts _ m_2d81be8c) (fun _ h9 => h9) (xb_d D_M_meant 54 rfl) ?_
          obtain ⟨b17, eb17, hw⟩ := hw
          refine xb_some eb17 ?_
          refine lv_iload_n hx hb (xb_d D_M_meant 55 rfl) rfl (lv_at hl 3 rfl) ?_
          obtain ⟨hk19, hw⟩ := hw
          obtain ⟨hi18, hw⟩ := hw
          refine xb_iald hx hb hR hk19 hi18 (xb_d D_M_meant 56 rfl) ?_
          refine lv_goto (tgt := 105) hx hb (xb_d D_M_meant 57 rfl) rfl ?_
          exact am_M_meant_L105 l hfl D A σ MC MS h0 Qr (xb_i h b17 (Int32.toNatClampNeg x1)) h hw p e s m args below meth c hC H locs ls k n hE (lv_sub hl [] rfl) hR hS (by omega) (by omega)
      · have hw := hw.2 hc12
        refine lv_aload_n hx hb (xb_d D_M_meant 45 rfl) rfl (lv_at hl 2 rfl) ?_
        refine xb_getP (C := R_M) (T := F_M) (N := 97) hx hb 8 37 hts fin_M hown hR hk1 (by decide) rfl (by decide) rfl (hts _ m_1f5a2407) (fun _ h9 => h9) (xb_d D_M_meant 46 rfl) ?_
        obtain ⟨b20, eb20, hw⟩ := hw
        refine xb_some eb20 ?_
        refine lv_iload_n hx hb (xb_d D_M_meant 47 rfl) rfl (lv_at hl 3 rfl) ?_
        obtain ⟨hk22, hw⟩ := hw
        obtain ⟨hi21, hw⟩ := hw
        refine xb_iald hx hb hR hk22 hi21 (xb_d D_M_meant 48 rfl) ?_
        refine lv_goto (tgt := 105) hx hb (xb_d D_M_meant 49 rfl) rfl ?_
        exact am_M_meant_L105 l hfl D A σ MC MS h0 Qr (xb_i h b20 (Int32.toNatClampNeg x1)) h hw p e s m args below meth c hC H locs ls k n hE (lv_sub hl [] rfl) hR hS (by omega) (by omega)
    · have hw := hw.2 hc11
      refine lv_aload_n hx hb (xb_d D_M_meant 33 rfl) rfl (lv_at hl 2 rfl) ?_
      refine xb_getP (C := R_M) (T := F_M) (N := 97) hx hb 8 35 hts fin_M hown hR hk1 (by decide) rfl (by decide) rfl (hts _ m_6a74a2ce) (fun _ h9 => h9) (xb_d D_M_meant 34 rfl) ?_
      obtain ⟨b23, eb23, hw⟩ := hw
      refine xb_some eb23 ?_
      refine lv_iload_n hx hb (xb_d D_M_meant 35 rfl) rfl (lv_at hl 3 rfl) ?_
      obtain ⟨hk25, hw⟩ := hw
      obtain ⟨hi24, hw⟩ := hw
      refine xb_iald hx hb hR hk25 hi24 (xb_d D_M_meant 36 rfl) ?_
      refine lv_iload_n hx hb (xb_d D_M_meant 37 rfl) rfl (lv_at hl 5 rfl) ?_
      refine lv_iadd hx hb (xb_d D_M_meant 38 rfl) ?_
      refine lv_iload hx hb (xb_d D_M_meant 39 rfl) (lv_at hl 0 rfl) ?_
      refine lv_isub hx hb (xb_d D_M_meant 40 rfl) ?_
      refine lv_goto (tgt := 105) hx hb (xb_d D_M_meant 41 rfl) rfl ?_
      exact am_M_meant_L105 l hfl D A σ MC MS h0 Qr (((xb_i h b23 (Int32.toNatClampNeg x1)) + x3) - v9) h hw p e s m args below meth c hC H locs ls k n hE (lv_sub hl [] rfl) hR hS (by omega) (by omega)
  · have hw := hw.2 hc10
    refine lv_aload_n hx hb (xb_d D_M_meant 17 rfl) rfl (lv_at hl 2 rfl) ?_
    refine xb_getP (C := R_M) (T := F_M) (N := 97) hx hb 8 33 hts fin_M hown hR hk1 (by decide) rfl (by decide) rfl (hts _ m_e6997b7a) (fun _ h9 => h9) (xb_d D_M_meant 18 rfl) ?_
    obtain ⟨b26, eb26, hw⟩ := hw
    refine xb_some eb26 ?_
    refine lv_aload_n hx hb (xb_d D_M_meant 19 rfl) rfl (lv_at hl 2 rfl) ?_
    refine xb_getP (C := R_M) (T := F_M) (N := 97) hx hb 8 32 hts fin_M hown hR hk1 (by decide) rfl (by decide) rfl (hts _ m_3c93490e) (fun _ h9 => h9) (xb_d D_M_meant 20 rfl) ?_
    obtain ⟨b27, eb27, hw⟩ := hw
    refine xb_some eb27 ?_
    refine lv_iload_n hx hb (xb_d D_M_meant 21 rfl) rfl (lv_at hl 3 rfl) ?_
    obtain ⟨hk29, hw⟩ := hw
    obtain ⟨hi28, hw⟩ := hw
    refine xb_iald hx hb hR hk29 hi28 (xb_d D_M_meant 22 rfl) ?_
    refine lv_aload_n hx hb (xb_d D_M_meant 23 rfl) rfl (lv_at hl 2 rfl) ?_
    refine lv_iload hx hb (xb_d D_M_meant 24 rfl) (lv_at hl 1 rfl) ?_
    refine lv_iload_n hx hb (xb_d D_M_meant 25 rfl) rfl (lv_at hl 4 rfl) ?_
    refine lv_iload_n hx hb (xb_d D_M_meant 26 rfl) rfl (lv_at hl 5 rfl) ?_
    refine xb_call (D := D) (A := A) (σ := σ) (h := h) (d := 7) (mc := 0) (ms := 0) (maxL := 6) (rest := [.int (xb_i h b27 (Int32.toNatClampNeg x1)), .ref b26]) (av := [.ref x0, .int v5, .int x2, .int x3]) (fun T hT X => by obtain ⟨cb, r1, r2, r3⟩ := xb_recv (ci := 8) hR rfl hk1 (by decide); exact xt_invV X hx hown (hts _ m_bcb3cb22) (hts _ m_38f5d5ae) (hts _ m_e7522fd3) (xt_sigOf (hts _ m_8f92e52e)) nm_M_importOf (by rw [hT]; exact r1) r2 r3 (g := F0 m 42 ls [.int x3, .int x2, .int v5, .ref x0, .int (xb_i h b27 (Int32.toNatClampNeg x1)), .ref b26]) rfl (argsL := [.int v5, .int x2, .int x3]) (rest := [.int (xb_i h b27 (Int32.toNatClampNeg x1)), .ref b26]) rfl rfl (by rw [hb]; exact (xb_d D_M_meant 27 rfl))) (ok_M_importOf l hfl D A σ x0 v5 x2 x3 h _ hw) (hml.trans hl.1.symm) (by rw [hb]; exact (xb_d D_M_meant 27 rfl)) (Nat.le_of_ble_eq_true rfl) (Nat.le_of_ble_eq_true rfl) (Nat.le_of_ble_eq_true rfl) (show k + 0 ≤ MC by omega) (show n + 0 ≤ MS by omega) (xt_w1 hB.1 m_8f92e52e) (xt_cdOf hB.1 m_8f92e52e) (hts _ m_d5ed7bed) hB hR hS hA (fun vv h30 H locs hq hEh30 hR hS => ?_) (fun XX ax h30 H locs hq hEh30 hex hR hS => ?_)
    · obtain ⟨r31, rfl, hw⟩ := hq
      have hw := hw hEh30
      have hE := hE.tr hEh30
      refine W.eq (g2 := F0 m 45 ls [.int r31, .int (xb_i h b27 (Int32.toNatClampNeg x1)), .ref b26]) rfl ?_
      refine lv_iadd hx hb (xb_d D_M_meant 28 rfl) ?_
      obtain ⟨hk33, hw⟩ := hw
      obtain ⟨hi32, hw⟩ := hw
      refine xb_iald hx hb hR hk33 hi32 (xb_d D_M_meant 29 rfl) ?_
      exact xb_iret hx hb hr hlocks (show k ≤ MC by omega) (show n ≤ MS by omega) hE hR hS (xb_d D_M_meant 30 rfl) hw
    · exact False.elim hq

set_option maxRecDepth 100000 in
def T_M_typeOf : List (Nat × Instr × Nat) := [(0, .aload_n 0, 1), (1, .getfield 30, 3), (4, .iconst 4, 1), (5, .iload_n 1, 1), (6, .imul, 1), (7, .iaload, 1), (8, .istore_n 3, 1), (9, .iload_n 2, 1), (10, .iload_n 3, 1), (11, .if_icmp .ge 19, 3), (14, .aload_n 0, 1), (15, .iload_n 1, 1), (16, .aload_n 0, 1), (17, .iload_n 1, 1), (18, .iconst 0, 1), (19, .iload_n 2, 1), (20, .invokevirtual 330, 3), (23, .invokevirtual 327, 3), (26, .pop, 1), (27, .goto 17, 3), (30, .aload_n 0, 1), (31, .iload_n 1, 1), (32, .aload_n 0, 1), (33, .iload_n 1, 1), (34, .iconst 3, 1), (35, .iload_n 2, 1), (36, .iload_n 3, 1), (37, .isub, 1), (38, .invokevirtual 320, 3), (41, .invokevirtual 324, 3), (44, .aload_n 0, 1), (45, .invokevirtual 218, 3), (48, .l2i, 1), (49, .ireturn, 1)]
theorem D_M_typeOf : ∀ q ∈ T_M_typeOf, decode b_M_typeOf q.1 = .ok (q.2.1, q.2.2) := by decide +kernel
def w_M_typeOf_L44 (Qr : Int32 → xb_H → Prop) (x0 : Nat) (h : xb_H) : Prop :=
    xb_k h x0 = 9 ∧ w_M_count x0 h (fun (r3 : Int64) (h2 : xb_H) => xb_ext h h2 → Qr (Int64.toInt32 r3) h2)

def w_M_typeOf (x0 : Nat) (x1 : Int32) (x2 : Int32) (h : xb_H) (Qr : Int32 → xb_H → Prop) : Prop :=
    xb_k h x0 = 9 ∧ ∃ b2 : Nat, (xb_r h x0 10) = some b2 ∧ xb_k h b2 = 102 ∧ vp_in (4 * x1) (xb_n h b2) ∧ ∀ v5 : Int32, v5 = (xb_i h b2 (Int32.toNatClampNeg (4 * x1))) → ((v5 ≤ x2 → w_M_placeOf x0 x1 3 (x2 - v5) h (fun (r8 : Int32) (h7 : xb_H) => xb_ext h h7 → w_M_go x0 x1 r8 h7 (fun (h9 : xb_H) => xb_ext h7 h9 → w_M_typeOf_L44 Qr x0 h9))) ∧ (¬ v5 ≤ x2 → w_M_importOf x0 x1 0 x2 h (fun (r12 : Int32) (h11 : xb_H) => xb_ext h h11 → w_M_importAt x0 x1 r12 h11 (fun (r14 : Int32) (h13 : xb_H) => xb_ext h11 h13 → w_M_typeOf_L44 Qr x0 h13))))

set_option maxHeartbeats 4000000 in
set_option maxRecDepth 100000 in
theorem am_M_typeOf_L44 (l : Launch) (hfl : l.flags = pinnedFlags ++ [noTraceFlag]) (D : va_G) (A : Nat → Prop) (σ MC MS : Nat) (h0 : xb_H) (Qr : Int32 → xb_H → Prop) (x0 : Nat) (h : xb_H) (hw : w_M_typeOf_L44 Qr x0 h) : xb_am l D A σ 8 MC MS h0 (fun v h => ∃ r, v = some (.int r) ∧ Qr r h) (fun _ _ => False) y_M_typeOf.cls y_M_typeOf.name b_M_typeOf 4 ([] : List ExceptionTableEntry) (some .int) 44 [(0, .ref x0)] [] h 0 0 := by
  unfold w_M_typeOf_L44 at hw
  intro p e s m args below meth c hC H locs ls k n hE hl hR hS hk hn
  obtain ⟨hx, hb, hown, hlocks, htab, hml, hr, hB, hA, hnm⟩ := id hC
  have hts := hB.1.1.at args
  refine lv_aload_n hx hb (xb_d D_M_typeOf 30 rfl) rfl (lv_at hl 0 rfl) ?_
  obtain ⟨hk1, hw⟩ := hw
  refine xb_call (D := D) (A := A) (σ := σ) (h := h) (d := 4) (mc := 0) (ms := 0) (maxL := 5) (rest := []) (av := [.ref x0]) (fun T hT X => by obtain ⟨cb, r1, r2, r3⟩ := xb_recv (ci := 8) hR rfl hk1 (by decide); exact xt_invV X hx hown (hts _ m_e991293f) (hts _ m_385a74b3) (hts _ m_c9fbcd02) (xt_sigOf (hts _ m_1f53f210)) nm_M_count (by rw [hT]; exact r1) r2 r3 (g := F0 m 45 ls [.ref x0]) rfl (argsL := []) (rest := []) rfl rfl (by rw [hb]; exact (xb_d D_M_typeOf 31 rfl))) (ok_M_count l hfl D A σ x0 h _ hw) (hml.trans hl.1.symm) (by rw [hb]; exact (xb_d D_M_typeOf 31 rfl)) (Nat.le_of_ble_eq_true rfl) (Nat.le_of_ble_eq_true rfl) (Nat.le_of_ble_eq_true rfl) (show k + 0 ≤ MC by omega) (show n + 0 ≤ MS by omega) (xt_w1 hB.1 m_1f53f210) (xt_cdOf hB.1 m_1f53f210) (hts _ m_d5ed7bed) hB hR hS hA (fun vv h2 H locs hq hEh2 hR hS => ?_) (fun XX ax h2 H locs hq hEh2 hex hR hS => ?_)
  · obtain ⟨r3, rfl, hw⟩ := hq
    have hw := hw hEh2
    have hE := hE.tr hEh2
    refine W.eq (g2 := F0 m 48 ls [.long r3]) rfl ?_
    refine lv_l2i hx hb (xb_d D_M_typeOf 32 rfl) rfl ?_
    exact xb_iret hx hb hr hlocks (show k ≤ MC by omega) (show n ≤ MS by omega) hE hR hS (xb_d D_M_typeOf 33 rfl) hw
  · exact False.elim hq

set_option maxHeartbeats 4000000 in
set_option maxRecDepth 100000 in
theorem ok_M_typeOf (l : Launch) (hfl : l.flags = pinnedFlags ++ [noTraceFlag]) (D : va_G) (A : Nat → Prop) (σ : Nat) (x0 : Nat) (x1 : Int32) (x2 : Int32) (h : xb_H) (Qr : Int32 → xb_H → Prop) (hw : w_M_typeOf x0 x1 x2 h Qr) : xt_Met l y_M_typeOf [.code y_M_typeOf b_M_typeOf 4 (some .int)] (xb_rm 8 0 0) (xb_Pc D A σ h [.ref x0, .int x1, .int x2]) (xb_Qc D A h (fun v h => ∃ r, v = some (.int r) ∧ Qr r h) (fun _ _ => False)) 0 0 A := by
  refine xb_ofAm (cc := b_M_typeOf) (by decide) (Nat.le_of_ble_eq_true rfl) ?_
  unfold w_M_typeOf at hw
  show xb_am l D A σ 8 0 0 h (fun v h => ∃ r, v = some (.int r) ∧ Qr r h) (fun _ _ => False) y_M_typeOf.cls y_M_typeOf.name b_M_typeOf 4 ([] : List ExceptionTableEntry) (some .int) 0 [(0, .ref x0), (1, .int x1), (2, .int x2)] [] h 0 0
  obtain ⟨MC, hMC⟩ : ∃ x, x = 0 := ⟨_, rfl⟩
  obtain ⟨MS, hMS⟩ : ∃ x, x = 0 := ⟨_, rfl⟩
  rw [show xb_am l D A σ 8 0 0 = xb_am l D A σ 8 MC MS by rw [hMC, hMS]]
  obtain ⟨h0, hh0⟩ : ∃ x, x = h := ⟨_, rfl⟩
  rw [show xb_am l D A σ 8 MC MS h = xb_am l D A σ 8 MC MS h0 by rw [hh0]]
  intro p e s m args below meth c hC H locs ls k n hE hl hR hS hk hn
  obtain ⟨hx, hb, hown, hlocks, htab, hml, hr, hB, hA, hnm⟩ := id hC
  have hts := hB.1.1.at args
  refine lv_aload_n hx hb (xb_d D_M_typeOf 0 rfl) rfl (lv_at hl 0 rfl) ?_
  obtain ⟨hk1, hw⟩ := hw
  refine xb_getP (C := R_M) (T := F_M) (N := 97) hx hb 8 10 hts fin_M hown hR hk1 (by decide) rfl (by decide) rfl (hts _ m_01d0d957) (fun _ h9 => h9) (xb_d D_M_typeOf 1 rfl) ?_
  obtain ⟨b2, eb2, hw⟩ := hw
  refine xb_some eb2 ?_
  refine lv_iconst (v := 4) hx hb (xb_d D_M_typeOf 2 rfl) (by decide) ?_
  refine lv_iload_n hx hb (xb_d D_M_typeOf 3 rfl) rfl (lv_at hl 1 rfl) ?_
  refine lv_imul hx hb (xb_d D_M_typeOf 4 rfl) ?_
  obtain ⟨hk4, hw⟩ := hw
  obtain ⟨hi3, hw⟩ := hw
  refine xb_iald hx hb hR hk4 hi3 (xb_d D_M_typeOf 5 rfl) ?_
  obtain ⟨v5, ev5⟩ : ∃ x : Int32, x = (xb_i h b2 (Int32.toNatClampNeg (4 * x1))) := ⟨_, rfl⟩
  have hw := hw v5 ev5
  refine xt_numi (y := v5) ev5.symm ?_
  refine lv_istore_n hx hb (xb_d D_M_typeOf 6 rfl) rfl hl (by decide) rfl (fun ls hl => ?_)
  have hl : lv_has ls 4 [(3, .int v5), (0, .ref x0), (1, .int x1), (2, .int x2)] := hl
  refine lv_iload_n hx hb (xb_d D_M_typeOf 7 rfl) rfl (lv_at hl 3 rfl) ?_
  refine lv_iload_n hx hb (xb_d D_M_typeOf 8 rfl) rfl (lv_at hl 0 rfl) ?_
  refine lv_icmp_ge (tgt := 30) hx hb (xb_d D_M_typeOf 9 rfl) rfl (fun hc6 => ?_) (fun hc6 => ?_)
  · have hw := hw.1 hc6
    refine lv_aload_n hx hb (xb_d D_M_typeOf 20 rfl) rfl (lv_at hl 1 rfl) ?_
    refine lv_iload_n hx hb (xb_d D_M_typeOf 21 rfl) rfl (lv_at hl 2 rfl) ?_
    refine lv_aload_n hx hb (xb_d D_M_typeOf 22 rfl) rfl (lv_at hl 1 rfl) ?_
    refine lv_iload_n hx hb (xb_d D_M_typeOf 23 rfl) rfl (lv_at hl 2 rfl) ?_
    refine lv_iconst (v := 3) hx hb (xb_d D_M_typeOf 24 rfl) (by decide) ?_
    refine lv_iload_n hx hb (xb_d D_M_typeOf 25 rfl) rfl (lv_at hl 3 rfl) ?_
    refine lv_iload_n hx hb (xb_d D_M_typeOf 26 rfl) rfl (lv_at hl 0 rfl) ?_
    refine lv_isub hx hb (xb_d D_M_typeOf 27 rfl) ?_
    refine xb_call (D := D) (A := A) (σ := σ) (h := h) (d := 2) (mc := 0) (ms := 0) (maxL := 4) (rest := [.int x1, .ref x0]) (av := [.ref x0, .int x1, .int 3, .int (x2 - v5)]) (fun T hT X => by obtain ⟨cb, r1, r2, r3⟩ := xb_recv (ci := 8) hR rfl hk1 (by decide); exact xt_invV X hx hown (hts _ m_7f41753e) (hts _ m_8cdd7108) (hts _ m_e228318f) (xt_sigOf (hts _ m_89667ad5)) nm_M_placeOf (by rw [hT]; exact r1) r2 r3 (g := F0 m 38 ls [.int (x2 - v5), .int 3, .int x1, .ref x0, .int x1, .ref x0]) rfl (argsL := [.int x1, .int 3, .int (x2 - v5)]) (rest := [.int x1, .ref x0]) rfl rfl (by rw [hb]; exact (xb_d D_M_typeOf 28 rfl))) (ok_M_placeOf l hfl D A σ x0 x1 3 (x2 - v5) h _ hw) (hml.trans hl.1.symm) (by rw [hb]; exact (xb_d D_M_typeOf 28 rfl)) (Nat.le_of_ble_eq_true rfl) (Nat.le_of_ble_eq_true rfl) (Nat.le_of_ble_eq_true rfl) (show k + 0 ≤ MC by omega) (show n + 0 ≤ MS by omega) (xt_w1 hB.1 m_89667ad5) (xt_cdOf hB.1 m_89667ad5) (hts _ m_d5ed7bed) hB hR hS hA (fun vv h7 H locs hq hEh7 hR hS => ?_) (fun XX ax h7 H locs hq hEh7 hex hR hS => ?_)
    · obtain ⟨r8, rfl, hw⟩ := hq
      have hw := hw hEh7
      have hE := hE.tr hEh7
      refine W.eq (g2 := F0 m 41 ls [.int r8, .int x1, .ref x0]) rfl ?_
      have hk1 : xb_k h7 x0 = 9 := hEh7.k hk1
      refine xb_call (D := D) (A := A) (σ := σ) (h := h7) (d := 2) (mc := 0) (ms := 0) (maxL := 3) (rest := []) (av := [.ref x0, .int x1, .int r8]) (fun T hT X => by obtain ⟨cb, r1, r2, r3⟩ := xb_recv (ci := 8) hR rfl hk1 (by decide); exact xt_invV X hx hown (hts _ m_bb531879) (hts _ m_4a6cd4a0) (hts _ m_d1c31e3c) (xt_sigOf (hts _ m_48217fba)) nm_M_go (by rw [hT]; exact r1) r2 r3 (g := F0 m 41 ls [.int r8, .int x1, .ref x0]) rfl (argsL := [.int x1, .int r8]) (rest := []) rfl rfl (by rw [hb]; exact (xb_d D_M_typeOf 29 rfl))) (ok_M_go l hfl D A σ x0 x1 r8 h7 _ hw) (hml.trans hl.1.symm) (by rw [hb]; exact (xb_d D_M_typeOf 29 rfl)) (Nat.le_of_ble_eq_true rfl) (Nat.le_of_ble_eq_true rfl) (Nat.le_of_ble_eq_true rfl) (show k + 0 ≤ MC by omega) (show n + 0 ≤ MS by omega) (xt_w1 hB.1 m_48217fba) (xt_cdOf hB.1 m_48217fba) (hts _ m_d5ed7bed) hB hR hS hA (fun vv h9 H locs hq hEh9 hR hS => ?_) (fun XX ax h9 H locs hq hEh9 hex hR hS => ?_)
      · obtain ⟨rfl, hw⟩ := hq
        have hw := hw hEh9
        have hE := hE.tr hEh9
        refine W.eq (g2 := F0 m 44 ls []) rfl ?_
        exact am_M_typeOf_L44 l hfl D A σ MC MS h0 Qr x0 h9 hw p e s m args below meth c hC H locs ls k n hE (lv_sub hl [1] rfl) hR hS (by omega) (by omega)
      · exact False.elim hq
    · exact False.elim hq
  · have hw := hw.2 hc6
    refine lv_aload_n hx hb (xb_d D_M_typeOf 10 rfl) rfl (lv_at hl 1 rfl) ?_
    refine lv_iload_n hx hb (xb_d D_M_typeOf 11 rfl) rfl (lv_at hl 2 rfl) ?_
    refine lv_aload_n hx hb (xb_d D_M_typeOf 12 rfl) rfl (lv_at hl 1 rfl) ?_
    refine lv_iload_n hx hb (xb_d D_M_typeOf 13 rfl) rfl (lv_at hl 2 rfl) ?_
    refine lv_iconst (v := 0) hx hb (xb_d D_M_typeOf 14 rfl) (by decide) ?_
    refine lv_iload_n hx hb (xb_d D_M_typeOf 15 rfl) rfl (lv_at hl 3 rfl) ?_
    refine xb_call (D := D) (A := A) (σ := σ) (h := h) (d := 7) (mc := 0) (ms := 0) (maxL := 6) (rest := [.int x1, .ref x0]) (av := [.ref x0, .int x1, .int 0, .int x2]) (fun T hT X => by obtain ⟨cb, r1, r2, r3⟩ := xb_recv (ci := 8) hR rfl hk1 (by decide); exact xt_invV X hx hown (hts _ m_bcb3cb22) (hts _ m_38f5d5ae) (hts _ m_e7522fd3) (xt_sigOf (hts _ m_8f92e52e)) nm_M_importOf (by rw [hT]; exact r1) r2 r3 (g := F0 m 20 ls [.int x2, .int 0, .int x1, .ref x0, .int x1, .ref x0]) rfl (argsL := [.int x1, .int 0, .int x2]) (rest := [.int x1, .ref x0]) rfl rfl (by rw [hb]; exact (xb_d D_M_typeOf 16 rfl))) (ok_M_importOf l hfl D A σ x0 x1 0 x2 h _ hw) (hml.trans hl.1.symm) (by rw [hb]; exact (xb_d D_M_typeOf 16 rfl)) (Nat.le_of_ble_eq_true rfl) (Nat.le_of_ble_eq_true rfl) (Nat.le_of_ble_eq_true rfl) (show k + 0 ≤ MC by omega) (show n + 0 ≤ MS by omega) (xt_w1 hB.1 m_8f92e52e) (xt_cdOf hB.1 m_8f92e52e) (hts _ m_d5ed7bed) hB hR hS hA (fun vv h11 H locs hq hEh11 hR hS => ?_) (fun XX ax h11 H locs hq hEh11 hex hR hS => ?_)
    · obtain ⟨r12, rfl, hw⟩ := hq
      have hw := hw hEh11
      have hE := hE.tr hEh11
      refine W.eq (g2 := F0 m 23 ls [.int r12, .int x1, .ref x0]) rfl ?_
      have hk1 : xb_k h11 x0 = 9 := hEh11.k hk1
      refine xb_call (D := D) (A := A) (σ := σ) (h := h11) (d := 6) (mc := 0) (ms := 0) (maxL := 3) (rest := []) (av := [.ref x0, .int x1, .int r12]) (fun T hT X => by obtain ⟨cb, r1, r2, r3⟩ := xb_recv (ci := 8) hR rfl hk1 (by decide); exact xt_invV X hx hown (hts _ m_eabb9d5c) (hts _ m_79671d92) (hts _ m_0429489b) (xt_sigOf (hts _ m_2f1c0a34)) nm_M_importAt (by rw [hT]; exact r1) r2 r3 (g := F0 m 23 ls [.int r12, .int x1, .ref x0]) rfl (argsL := [.int x1, .int r12]) (rest := []) rfl rfl (by rw [hb]; exact (xb_d D_M_typeOf 17 rfl))) (ok_M_importAt l hfl D A σ x0 x1 r12 h11 _ hw) (hml.trans hl.1.symm) (by rw [hb]; exact (xb_d D_M_typeOf 17 rfl)) (Nat.le_of_ble_eq_true rfl) (Nat.le_of_ble_eq_true rfl) (Nat.le_of_ble_eq_true rfl) (show k + 0 ≤ MC by omega) (show n + 0 ≤ MS by omega) (xt_w1 hB.1 m_2f1c0a34) (xt_cdOf hB.1 m_2f1c0a34) (hts _ m_d5ed7bed) hB hR hS hA (fun vv h13 H locs hq hEh13 hR hS => ?_) (fun XX ax h13 H locs hq hEh13 hex hR hS => ?_)
      · obtain ⟨r14, rfl, hw⟩ := hq
        have hw := hw hEh13
        have hE := hE.tr hEh13
        refine W.eq (g2 := F0 m 26 ls [.int r14]) rfl ?_
        refine lv_pop hx hb (xb_d D_M_typeOf 18 rfl) rfl ?_
        refine lv_goto (tgt := 44) hx hb (xb_d D_M_typeOf 19 rfl) rfl ?_
        exact am_M_typeOf_L44 l hfl D A σ MC MS h0 Qr x0 h13 hw p e s m args below meth c hC H locs ls k n hE (lv_sub hl [1] rfl) hR hS (by omega) (by omega)
      · exact False.elim hq
    · exact False.elim hq

set_option maxRecDepth 100000 in
def T_M_variableTypeOf : List (Nat × Instr × Nat) := [(0, .aload_n 0, 1), (1, .getfield 30, 3), (4, .iconst 4, 1), (5, .iload_n 1, 1), (6, .imul, 1), (7, .iconst 3, 1), (8, .iadd, 1), (9, .iaload, 1), (10, .istore_n 3, 1), (11, .iload_n 2, 1), (12, .iload_n 3, 1), (13, .if_icmp .ge 19, 3), (16, .aload_n 0, 1), (17, .iload_n 1, 1), (18, .aload_n 0, 1), (19, .iload_n 1, 1), (20, .iconst 3, 1), (21, .iload_n 2, 1), (22, .invokevirtual 330, 3), (25, .invokevirtual 327, 3), (28, .pop, 1), (29, .goto 18, 3), (32, .aload_n 0, 1), (33, .iload_n 1, 1), (34, .aload_n 0, 1), (35, .iload_n 1, 1), (36, .bipush 6, 2), (38, .iload_n 2, 1), (39, .iload_n 3, 1), (40, .isub, 1), (41, .invokevirtual 320, 3), (44, .invokevirtual 324, 3), (47, .aload_n 0, 1), (48, .invokevirtual 212, 3), (51, .ireturn, 1)]
theorem D_M_variableTypeOf : ∀ q ∈ T_M_variableTypeOf, decode b_M_variableTypeOf q.1 = .ok (q.2.1, q.2.2) := by decide +kernel
def w_M_variableTypeOf_L47 (Qr : Int32 → xb_H → Prop) (x0 : Nat) (h : xb_H) : Prop :=
    xb_k h x0 = 9 ∧ w_M_next x0 h (fun (r3 : Int32) (h2 : xb_H) => xb_ext h h2 → Qr r3 h2)

def w_M_variableTypeOf (x0 : Nat) (x1 : Int32) (x2 : Int32) (h : xb_H) (Qr : Int32 → xb_H → Prop) : Prop :=
    xb_k h x0 = 9 ∧ ∃ b2 : Nat, (xb_r h x0 10) = some b2 ∧ xb_k h b2 = 102 ∧ vp_in ((4 * x1) + 3) (xb_n h b2) ∧ ∀ v5 : Int32, v5 = (xb_i h b2 (Int32.toNatClampNeg ((4 * x1) + 3))) → ((v5 ≤ x2 → w_M_placeOf x0 x1 6 (x2 - v5) h (fun (r8 : Int32) (h7 : xb_H) => xb_ext h h7 → w_M_go x0 x1 r8 h7 (fun (h9 : xb_H) => xb_ext h7 h9 → w_M_variableTypeOf_L47 Qr x0 h9))) ∧ (¬ v5 ≤ x2 → w_M_importOf x0 x1 3 x2 h (fun (r12 : Int32) (h11 : xb_H) => xb_ext h h11 → w_M_importAt x0 x1 r12 h11 (fun (r14 : Int32) (h13 : xb_H) => xb_ext h11 h13 → w_M_variableTypeOf_L47 Qr x0 h13))))

set_option maxHeartbeats 4000000 in
set_option maxRecDepth 100000 in
theorem am_M_variableTypeOf_L47 (l : Launch) (hfl : l.flags = pinnedFlags ++ [noTraceFlag]) (D : va_G) (A : Nat → Prop) (σ MC MS : Nat) (h0 : xb_H) (Qr : Int32 → xb_H → Prop) (x0 : Nat) (h : xb_H) (hw : w_M_variableTypeOf_L47 Qr x0 h) : xb_am l D A σ 8 MC MS h0 (fun v h => ∃ r, v = some (.int r) ∧ Qr r h) (fun _ _ => False) y_M_variableTypeOf.cls y_M_variableTypeOf.name b_M_variableTypeOf 4 ([] : List ExceptionTableEntry) (some .int) 47 [(0, .ref x0)] [] h 0 0 := by
  unfold w_M_variableTypeOf_L47 at hw
  intro p e s m args below meth c hC H locs ls k n hE hl hR hS hk hn
  obtain ⟨hx, hb, hown, hlocks, htab, hml, hr, hB, hA, hnm⟩ := id hC
  have hts := hB.1.1.at args
  refine lv_aload_n hx hb (xb_d D_M_variableTypeOf 32 rfl) rfl (lv_at hl 0 rfl) ?_
  obtain ⟨hk1, hw⟩ := hw
  refine xb_call (D := D) (A := A) (σ := σ) (h := h) (d := 3) (mc := 0) (ms := 0) (maxL := 2) (rest := []) (av := [.ref x0]) (fun T hT X => by obtain ⟨cb, r1, r2, r3⟩ := xb_recv (ci := 8) hR rfl hk1 (by decide); exact xt_invV X hx hown (hts _ m_0e978570) (hts _ m_40099f98) (hts _ m_a7dbfd07) (xt_sigOf (hts _ m_0af1ec6a)) nm_M_next (by rw [hT]; exact r1) r2 r3 (g := F0 m 48 ls [.ref x0]) rfl (argsL := []) (rest := []) rfl rfl (by rw [hb]; exact (xb_d D_M_variableTypeOf 33 rfl))) (ok_M_next l hfl D A σ x0 h _ hw) (hml.trans hl.1.symm) (by rw [hb]; exact (xb_d D_M_variableTypeOf 33 rfl)) (Nat.le_of_ble_eq_true rfl) (Nat.le_of_ble_eq_true rfl) (Nat.le_of_ble_eq_true rfl) (show k + 0 ≤ MC by omega) (show n + 0 ≤ MS by omega) (xt_w1 hB.1 m_0af1ec6a) (xt_cdOf hB.1 m_0af1ec6a) (hts _ m_d5ed7bed) hB hR hS hA (fun vv h2 H locs hq hEh2 hR hS => ?_) (fun XX ax h2 H locs hq hEh2 hex hR hS => ?_)
  · obtain ⟨r3, rfl, hw⟩ := hq
    have hw := hw hEh2
    have hE := hE.tr hEh2
    refine W.eq (g2 := F0 m 51 ls [.int r3]) rfl ?_
    exact xb_iret hx hb hr hlocks (show k ≤ MC by omega) (show n ≤ MS by omega) hE hR hS (xb_d D_M_variableTypeOf 34 rfl) hw
  · exact False.elim hq

set_option maxHeartbeats 4000000 in
set_option maxRecDepth 100000 in
theorem ok_M_variableTypeOf (l : Launch) (hfl : l.flags = pinnedFlags ++ [noTraceFlag]) (D : va_G) (A : Nat → Prop) (σ : Nat) (x0 : Nat) (x1 : Int32) (x2 : Int32) (h : xb_H) (Qr : Int32 → xb_H → Prop) (hw : w_M_variableTypeOf x0 x1 x2 h Qr) : xt_Met l y_M_variableTypeOf [.code y_M_variableTypeOf b_M_variableTypeOf 4 (some .int)] (xb_rm 8 0 0) (xb_Pc D A σ h [.ref x0, .int x1, .int x2]) (xb_Qc D A h (fun v h => ∃ r, v = some (.int r) ∧ Qr r h) (fun _ _ => False)) 0 0 A := by
  refine xb_ofAm (cc := b_M_variableTypeOf) (by decide) (Nat.le_of_ble_eq_true rfl) ?_
  unfold w_M_variableTypeOf at hw
  show xb_am l D A σ 8 0 0 h (fun v h => ∃ r, v = some (.int r) ∧ Qr r h) (fun _ _ => False) y_M_variableTypeOf.cls y_M_variableTypeOf.name b_M_variableTypeOf 4 ([] : List ExceptionTableEntry) (some .int) 0 [(0, .ref x0), (1, .int x1), (2, .int x2)] [] h 0 0
  obtain ⟨MC, hMC⟩ : ∃ x, x = 0 := ⟨_, rfl⟩
  obtain ⟨MS, hMS⟩ : ∃ x, x = 0 := ⟨_, rfl⟩
  rw [show xb_am l D A σ 8 0 0 = xb_am l D A σ 8 MC MS by rw [hMC, hMS]]
  obtain ⟨h0, hh0⟩ : ∃ x, x = h := ⟨_, rfl⟩
  rw [show xb_am l D A σ 8 MC MS h = xb_am l D A σ 8 MC MS h0 by rw [hh0]]
  intro p e s m args below meth c hC H locs ls k n hE hl hR hS hk hn
  obtain ⟨hx, hb, hown, hlocks, htab, hml, hr, hB, hA, hnm⟩ := id hC
  have hts := hB.1.1.at args
  refine lv_aload_n hx hb (xb_d D_M_variableTypeOf 0 rfl) rfl (lv_at hl 0 rfl) ?_
  obtain ⟨hk1, hw⟩ := hw
  refine xb_getP (C := R_M) (T := F_M) (N := 97) hx hb 8 10 hts fin_M hown hR hk1 (by decide) rfl (by decide) rfl (hts _ m_01d0d957) (fun _ h9 => h9) (xb_d D_M_variableTypeOf 1 rfl) ?_
  obtain ⟨b2, eb2, hw⟩ := hw
  refine xb_some eb2 ?_
  refine lv_iconst (v := 4) hx hb (xb_d D_M_variableTypeOf 2 rfl) (by decide) ?_
  refine lv_iload_n hx hb (xb_d D_M_variableTypeOf 3 rfl) rfl (lv_at hl 1 rfl) ?_
  refine lv_imul hx hb (xb_d D_M_variableTypeOf 4 rfl) ?_
  refine lv_iconst (v := 3) hx hb (xb_d D_M_variableTypeOf 5 rfl) (by decide) ?_
  refine lv_iadd hx hb (xb_d D_M_variableTypeOf 6 rfl) ?_
  obtain ⟨hk4, hw⟩ := hw
  obtain ⟨hi3, hw⟩ := hw
  refine xb_iald hx hb hR hk4 hi3 (xb_d D_M_variableTypeOf 7 rfl) ?_
  obtain ⟨v5, ev5⟩ : ∃ x : Int32, x = (xb_i h b2 (Int32.toNatClampNeg ((4 * x1) + 3))) := ⟨_, rfl⟩
  have hw := hw v5 ev5
  refine xt_numi (y := v5) ev5.symm ?_
  refine lv_istore_n hx hb (xb_d D_M_variableTypeOf 8 rfl) rfl hl (by decide) rfl (fun ls hl => ?_)
  have hl : lv_has ls 4 [(3, .int v5), (0, .ref x0), (1, .int x1), (2, .int x2)] := hl
  refine lv_iload_n hx hb (xb_d D_M_variableTypeOf 9 rfl) rfl (lv_at hl 3 rfl) ?_
  refine lv_iload_n hx hb (xb_d D_M_variableTypeOf 10 rfl) rfl (lv_at hl 0 rfl) ?_
  refine lv_icmp_ge (tgt := 32) hx hb (xb_d D_M_variableTypeOf 11 rfl) rfl (fun hc6 => ?_) (fun hc6 => ?_)
  · have hw := hw.1 hc6
    refine lv_aload_n hx hb (xb_d D_M_variableTypeOf 22 rfl) rfl (lv_at hl 1 rfl) ?_
    refine lv_iload_n hx hb (xb_d D_M_variableTypeOf 23 rfl) rfl (lv_at hl 2 rfl) ?_
    refine lv_aload_n hx hb (xb_d D_M_variableTypeOf 24 rfl) rfl (lv_at hl 1 rfl) ?_
    refine lv_iload_n hx hb (xb_d D_M_variableTypeOf 25 rfl) rfl (lv_at hl 2 rfl) ?_
    refine lv_bipush (v := 6) hx hb (xb_d D_M_variableTypeOf 26 rfl) (by decide) ?_
    refine lv_iload_n hx hb (xb_d D_M_variableTypeOf 27 rfl) rfl (lv_at hl 3 rfl) ?_
    refine lv_iload_n hx hb (xb_d D_M_variableTypeOf 28 rfl) rfl (lv_at hl 0 rfl) ?_
    refine lv_isub hx hb (xb_d D_M_variableTypeOf 29 rfl) ?_
    refine xb_call (D := D) (A := A) (σ := σ) (h := h) (d := 2) (mc := 0) (ms := 0) (maxL := 4) (rest := [.int x1, .ref x0]) (av := [.ref x0, .int x1, .int 6, .int (x2 - v5)]) (fun T hT X => by obtain ⟨cb, r1, r2, r3⟩ := xb_recv (ci := 8) hR rfl hk1 (by decide); exact xt_invV X hx hown (hts _ m_7f41753e) (hts _ m_8cdd7108) (hts _ m_e228318f) (xt_sigOf (hts _ m_89667ad5)) nm_M_placeOf (by rw [hT]; exact r1) r2 r3 (g := F0 m 41 ls [.int (x2 - v5), .int 6, .int x1, .ref x0, .int x1, .ref x0]) rfl (argsL := [.int x1, .int 6, .int (x2 - v5)]) (rest := [.int x1, .ref x0]) rfl rfl (by rw [hb]; exact (xb_d D_M_variableTypeOf 30 rfl))) (ok_M_placeOf l hfl D A σ x0 x1 6 (x2 - v5) h _ hw) (hml.trans hl.1.symm) (by rw [hb]; exact (xb_d D_M_variableTypeOf 30 rfl)) (Nat.le_of_ble_eq_true rfl) (Nat.le_of_ble_eq_true rfl) (Nat.le_of_ble_eq_true rfl) (show k + 0 ≤ MC by omega) (show n + 0 ≤ MS by omega) (xt_w1 hB.1 m_89667ad5) (xt_cdOf hB.1 m_89667ad5) (hts _ m_d5ed7bed) hB hR hS hA (fun vv h7 H locs hq hEh7 hR hS => ?_) (fun XX ax h7 H locs hq hEh7 hex hR hS => ?_)
    · obtain ⟨r8, rfl, hw⟩ := hq
      have hw := hw hEh7
      have hE := hE.tr hEh7
      refine W.eq (g2 := F0 m 44 ls [.int r8, .int x1, .ref x0]) rfl ?_
      have hk1 : xb_k h7 x0 = 9 := hEh7.k hk1
      refine xb_call (D := D) (A := A) (σ := σ) (h := h7) (d := 2) (mc := 0) (ms := 0) (maxL := 3) (rest := []) (av := [.ref x0, .int x1, .int r8]) (fun T hT X => by obtain ⟨cb, r1, r2, r3⟩ := xb_recv (ci := 8) hR rfl hk1 (by decide); exact xt_invV X hx hown (hts _ m_bb531879) (hts _ m_4a6cd4a0) (hts _ m_d1c31e3c) (xt_sigOf (hts _ m_48217fba)) nm_M_go (by rw [hT]; exact r1) r2 r3 (g := F0 m 44 ls [.int r8, .int x1, .ref x0]) rfl (argsL := [.int x1, .int r8]) (rest := []) rfl rfl (by rw [hb]; exact (xb_d D_M_variableTypeOf 31 rfl))) (ok_M_go l hfl D A σ x0 x1 r8 h7 _ hw) (hml.trans hl.1.symm) (by rw [hb]; exact (xb_d D_M_variableTypeOf 31 rfl)) (Nat.le_of_ble_eq_true rfl) (Nat.le_of_ble_eq_true rfl) (Nat.le_of_ble_eq_true rfl) (show k + 0 ≤ MC by omega) (show n + 0 ≤ MS by omega) (xt_w1 hB.1 m_48217fba) (xt_cdOf hB.1 m_48217fba) (hts _ m_d5ed7bed) hB hR hS hA (fun vv h9 H locs hq hEh9 hR hS => ?_) (fun XX ax h9 H locs hq hEh9 hex hR hS => ?_)
      · obtain ⟨rfl, hw⟩ := hq
        have hw := hw hEh9
        have hE := hE.tr hEh9
        refine W.eq (g2 := F0 m 47 ls []) rfl ?_
        exact am_M_variableTypeOf_L47 l hfl D A σ MC MS h0 Qr x0 h9 hw p e s m args below meth c hC H locs ls k n hE (lv_sub hl [1] rfl) hR hS (by omega) (by omega)
      · exact False.elim hq
    · exact False.elim hq
  · have hw := hw.2 hc6
    refine lv_aload_n hx hb (xb_d D_M_variableTypeOf 12 rfl) rfl (lv_at hl 1 rfl) ?_
    refine lv_iload_n hx hb (xb_d D_M_variableTypeOf 13 rfl) rfl (lv_at hl 2 rfl) ?_
    refine lv_aload_n hx hb (xb_d D_M_variableTypeOf 14 rfl) rfl (lv_at hl 1 rfl) ?_
    refine lv_iload_n hx hb (xb_d D_M_variableTypeOf 15 rfl) rfl (lv_at hl 2 rfl) ?_
    refine lv_iconst (v := 3) hx hb (xb_d D_M_variableTypeOf 16 rfl) (by decide) ?_
    refine lv_iload_n hx hb (xb_d D_M_variableTypeOf 17 rfl) rfl (lv_at hl 3 rfl) ?_
    refine xb_call (D := D) (A := A) (σ := σ) (h := h) (d := 7) (mc := 0) (ms := 0) (maxL := 6) (rest := [.int x1, .ref x0]) (av := [.ref x0, .int x1, .int 3, .int x2]) (fun T hT X => by obtain ⟨cb, r1, r2, r3⟩ := xb_recv (ci := 8) hR rfl hk1 (by decide); exact xt_invV X hx hown (hts _ m_bcb3cb22) (hts _ m_38f5d5ae) (hts _ m_e7522fd3) (xt_sigOf (hts _ m_8f92e52e)) nm_M_importOf (by rw [hT]; exact r1) r2 r3 (g := F0 m 22 ls [.int x2, .int 3, .int x1, .ref x0, .int x1, .ref x0]) rfl (argsL := [.int x1, .int 3, .int x2]) (rest := [.int x1, .ref x0]) rfl rfl (by rw [hb]; exact (xb_d D_M_variableTypeOf 18 rfl))) (ok_M_importOf l hfl D A σ x0 x1 3 x2 h _ hw) (hml.trans hl.1.symm) (by rw [hb]; exact (xb_d D_M_variableTypeOf 18 rfl)) (Nat.le_of_ble_eq_true rfl) (Nat.le_of_ble_eq_true rfl) (Nat.le_of_ble_eq_true rfl) (show k + 0 ≤ MC by omega) (show n + 0 ≤ MS by omega) (xt_w1 hB.1 m_8f92e52e) (xt_cdOf hB.1 m_8f92e52e) (hts _ m_d5ed7bed) hB hR hS hA (fun vv h11 H locs hq hEh11 hR hS => ?_) (fun XX ax h11 H locs hq hEh11 hex hR hS => ?_)
    · obtain ⟨r12, rfl, hw⟩ := hq
      have hw := hw hEh11
      have hE := hE.tr hEh11
      refine W.eq (g2 := F0 m 25 ls [.int r12, .int x1, .ref x0]) rfl ?_
      have hk1 : xb_k h11 x0 = 9 := hEh11.k hk1
      refine xb_call (D := D) (A := A) (σ := σ) (h := h11) (d := 6) (mc := 0) (ms := 0) (maxL := 3) (rest := []) (av := [.ref x0, .int x1, .int r12]) (fun T hT X => by obtain ⟨cb, r1, r2, r3⟩ := xb_recv (ci := 8) hR rfl hk1 (by decide); exact xt_invV X hx hown (hts _ m_eabb9d5c) (hts _ m_79671d92) (hts _ m_0429489b) (xt_sigOf (hts _ m_2f1c0a34)) nm_M_importAt (by rw [hT]; exact r1) r2 r3 (g := F0 m 25 ls [.int r12, .int x1, .ref x0]) rfl (argsL := [.int x1, .int r12]) (rest := []) rfl rfl (by rw [hb]; exact (xb_d D_M_variableTypeOf 19 rfl))) (ok_M_importAt l hfl D A σ x0 x1 r12 h11 _ hw) (hml.trans hl.1.symm) (by rw [hb]; exact (xb_d D_M_variableTypeOf 19 rfl)) (Nat.le_of_ble_eq_true rfl) (Nat.le_of_ble_eq_true rfl) (Nat.le_of_ble_eq_true rfl) (show k + 0 ≤ MC by omega) (show n + 0 ≤ MS by omega) (xt_w1 hB.1 m_2f1c0a34) (xt_cdOf hB.1 m_2f1c0a34) (hts _ m_d5ed7bed) hB hR hS hA (fun vv h13 H locs hq hEh13 hR hS => ?_) (fun XX ax h13 H locs hq hEh13 hex hR hS => ?_)
      · obtain ⟨r14, rfl, hw⟩ := hq
        have hw := hw hEh13
        have hE := hE.tr hEh13
        refine W.eq (g2 := F0 m 28 ls [.int r14]) rfl ?_
        refine lv_pop hx hb (xb_d D_M_variableTypeOf 20 rfl) rfl ?_
        refine lv_goto (tgt := 47) hx hb (xb_d D_M_variableTypeOf 21 rfl) rfl ?_
        exact am_M_variableTypeOf_L47 l hfl D A σ MC MS h0 Qr x0 h13 hw p e s m args below meth c hC H locs ls k n hE (lv_sub hl [1] rfl) hR hS (by omega) (by omega)
      · exact False.elim hq
    · exact False.elim hq

theorem m_19d74785 : (.methodLink "StackHostModel$Exact" 218 y_Exact_answer : Cond) ∈ xt_tbl := xt_in (xt_t12 (List.mem_of_getElem? (i := 198) (by decide +kernel))) (by decide +kernel)
theorem m_602477d2 : (.instanceMethod y_Exact_answer : Cond) ∈ xt_tbl := xt_in (xt_t12 (List.mem_of_getElem? (i := 200) (by decide +kernel))) (by decide +kernel)
theorem m_1fcf7a44 : (.selects "StackHostModel$Exact" y_Exact_answer y_Exact_answer : Cond) ∈ xt_tbl := xt_in (xt_v15 (q := (⟨"StackHostModel$Exact", "answer", "(IJJ)J"⟩, 11)) (List.mem_of_getElem? (i := 1) (by decide +kernel))) (by decide +kernel)
theorem m_38fa0ac4 : (.code y_Exact_answer b_Exact_answer 6 (some .long) : Cond) ∈ xt_tbl := xt_in (xt_t12 (List.mem_of_getElem? (i := 201) (by decide +kernel))) (by decide +kernel)
theorem nm_Exact_answer : xt_nm y_Exact_answer 3 := ⟨by decide +kernel, by decide +kernel⟩
set_option maxRecDepth 100000 in
def T_Exact_run : List (Nat × Instr × Nat) := [(0, .aload_n 0, 1), (1, .iload_n 1, 1), (2, .bipush 69, 2), (4, .sipush 191, 3), (7, .invokestatic 26, 3), (10, .ifCond .eq 7, 3), (13, .iconst 0, 1), (14, .goto 4, 3), (17, .iconst 1, 1), (18, .putfield 157, 3), (21, .aload_n 0, 1), (22, .getfield 157, 3), (25, .ifCond .le 5, 3), (28, .lconst 0, 1), (29, .lreturn, 1), (30, .iload_n 1, 1), (31, .invokestatic 30, 3), (34, .iconst 2, 1), (35, .irem, 1), (36, .ifCond .ne 11, 3), (39, .lload_n 2, 1), (40, .ldc2_w 168, 3), (43, .land, 1), (44, .goto 4, 3), (47, .lload_n 2, 1), (48, .lstore 6, 2), (50, .iload_n 1, 1), (51, .invokestatic 30, 3), (54, .iconst 2, 1), (55, .irem, 1), (56, .ifCond .ne 12, 3), (59, .lload 4, 2), (61, .ldc2_w 168, 3), (64, .land, 1), (65, .goto 5, 3), (68, .lload 4, 2), (70, .lstore 8, 2), (72, .aload_n 0, 1), (73, .iload_n 1, 1), (74, .lload 6, 2), (76, .lload 8, 2), (78, .invokevirtual 218, 3), (81, .lstore 10, 2), (83, .aload_n 0, 1), (84, .getfield 157, 3), (87, .ifCond .le 5, 3), (90, .lconst 0, 1), (91, .lreturn, 1), (92, .iload_n 1, 1), (93, .invokestatic 22, 3), (96, .iconst 2, 1), (97, .irem, 1), (98, .ifCond .ne 12, 3), (101, .lload 10, 2), (103, .ldc2_w 168, 3), (106, .land, 1), (107, .goto 5, 3), (110, .lload 10, 2), (112, .lreturn, 1)]
theorem D_Exact_run : ∀ q ∈ T_Exact_run, decode b_Exact_run q.1 = .ok (q.2.1, q.2.2) := by decide +kernel
def w_Exact_run_L112 (Qr : Int64 → xb_H → Prop) (y0 : Int64) (h : xb_H) : Prop :=
    Qr y0 h

def w_Exact_run_L70 (Qr : Int64 → xb_H → Prop) (x0 : Nat) (x1 : Int32) (x6 : Int64) (y0 : Int64) (h : xb_H) : Prop :=
    xb_k h x0 = 10 ∧ w_Exact_answer x0 x1 x6 y0 h (fun (r3 : Int64) (h2 : xb_H) => xb_ext h h2 → (((xb_i h2 x0 0) ≤ (0 : Int32) → w_Exact_result x1 h2 (fun (r6 : Int32) (h5 : xb_H) => xb_ext h2 h5 → ((¬ (r6 - r6 / 2 * 2) = (0 : Int32) → w_Exact_run_L112 Qr r3 h5) ∧ ((r6 - r6 / 2 * 2) = (0 : Int32) → w_Exact_run_L112 Qr (r3 &&& 4294967295) h5)))) ∧ (¬ (xb_i h2 x0 0) ≤ (0 : Int32) → Qr 0 h2)))

def w_Exact_run_L48 (Qr : Int64 → xb_H → Prop) (x0 : Nat) (x1 : Int32) (x4 : Int64) (y0 : Int64) (h : xb_H) : Prop :=
    w_Exact_first x1 h (fun (r2 : Int32) (h1 : xb_H) => xb_ext h h1 → ((¬ (r2 - r2 / 2 * 2) = (0 : Int32) → w_Exact_run_L70 Qr x0 x1 y0 x4 h1) ∧ ((r2 - r2 / 2 * 2) = (0 : Int32) → w_Exact_run_L70 Qr x0 x1 y0 (x4 &&& 4294967295) h1)))

def w_Exact_run_L18 (Qr : Int64 → xb_H → Prop) (x0 : Nat) (x1 : Int32) (x2 : Int64) (x4 : Int64) (y0 : Int32) (y1 : Nat) (h : xb_H) : Prop :=
    xb_k h y1 = 10 ∧ ∀ h2 : xb_H, h2 = xb_I h y1 0 y0 → xb_k h2 x0 = 10 ∧ (((xb_i h2 x0 0) ≤ (0 : Int32) → w_Exact_first x1 h2 (fun (r6 : Int32) (h5 : xb_H) => xb_ext h2 h5 → ((¬ (r6 - r6 / 2 * 2) = (0 : Int32) → w_Exact_run_L48 Qr x0 x1 x4 x2 h5) ∧ ((r6 - r6 / 2 * 2) = (0 : Int32) → w_Exact_run_L48 Qr x0 x1 x4 (x2 &&& 4294967295) h5)))) ∧ (¬ (xb_i h2 x0 0) ≤ (0 : Int32) → Qr 0 h2))

def w_Exact_run (x0 : Nat) (x1 : Int32) (x2 : Int64) (x4 : Int64) (h : xb_H) (Qr : Int64 → xb_H → Prop) : Prop :=
    w_Exact_isIn x1 69 191 h (fun (r2 : Int32) (h1 : xb_H) => xb_ext h h1 → ((r2 = (0 : Int32) → w_Exact_run_L18 Qr x0 x1 x2 x4 1 x0 h1) ∧ (¬ r2 = (0 : Int32) → w_Exact_run_L18 Qr x0 x1 x2 x4 0 x0 h1)))

set_option maxHeartbeats 4000000 in
set_option maxRecDepth 100000 in
theorem am_Exact_run_L112 (l : Launch) (hfl : l.flags = pinnedFlags ++ [noTraceFlag]) (D : va_G) (A : Nat → Prop) (σ MC MS : Nat) (h0 : xb_H) (Qr : Int64 → xb_H → Prop) (y0 : Int64) (h : xb_H) (hw : w_Exact_run_L112 Qr y0 h) : xb_am l D A σ 8 MC MS h0 (fun v h => ∃ r, v = some (.long r) ∧ Qr r h) (fun _ _ => False) y_Exact_run.cls y_Exact_run.name b_Exact_run 12 ([] : List ExceptionTableEntry) (some .long) 112 [] [.long y0] h 0 0 := by
  unfold w_Exact_run_L112 at hw
  intro p e s m args below meth c hC H locs ls k n hE hl hR hS hk hn
  obtain ⟨hx, hb, hown, hlocks, htab, hml, hr, hB, hA, hnm⟩ := id hC
  have hts := hB.1.1.at args
  exact xb_lret hx hb hr hlocks (show k ≤ MC by omega) (show n ≤ MS by omega) hE hR hS (xb_d D_Exact_run 58 rfl) hw

set_option maxHeartbeats 4000000 in
set_option maxRecDepth 100000 in
theorem am_Exact_run_L70 (l : Launch) (hfl : l.flags = pinnedFlags ++ [noTraceFlag]) (D : va_G) (A : Nat → Prop) (σ MC MS : Nat) (h0 : xb_H) (Qr : Int64 → xb_H → Prop) (x0 : Nat) (x1 : Int32) (x6 : Int64) (y0 : Int64) (h : xb_H) (hw : w_Exact_run_L70 Qr x0 x1 x6 y0 h) : xb_am l D A σ 8 MC MS h0 (fun v h => ∃ r, v = some (.long r) ∧ Qr r h) (fun _ _ => False) y_Exact_run.cls y_Exact_run.name b_Exact_run 12 ([] : List ExceptionTableEntry) (some .long) 70 [(0, .ref x0), (1, .int x1), (6, .long x6)] [.long y0] h 0 0 := by
  unfold w_Exact_run_L70 at hw
  intro p e s m args below meth c hC H locs ls k n hE hl hR hS hk hn
  obtain ⟨hx, hb, hown, hlocks, htab, hml, hr, hB, hA, hnm⟩ := id hC
  have hts := hB.1.1.at args
  refine lv_lstore hx hb (xb_d D_Exact_run 36 rfl) hl (by decide) rfl (fun ls hl => ?_)
  have hl : lv_has ls 12 [(8, .long y0), (0, .ref x0), (1, .int x1), (6, .long x6)] := hl
  refine lv_aload_n hx hb (xb_d D_Exact_run 37 rfl) rfl (lv_at hl 1 rfl) ?_
  refine lv_iload_n hx hb (xb_d D_Exact_run 38 rfl) rfl (lv_at hl 2 rfl) ?_
  refine lv_lload hx hb (xb_d D_Exact_run 39 rfl) (lv_at hl 3 rfl) ?_
  refine lv_lload hx hb (xb_d D_Exact_run 40 rfl) (lv_at hl 0 rfl) ?_
  obtain ⟨hk1, hw⟩ := hw
  refine xb_call (D := D) (A := A) (σ := σ) (h := h) (d := 7) (mc := 0) (ms := 0) (maxL := 6) (rest := []) (av := [.ref x0, .int x1, .long x6, .long y0]) (fun T hT X => by obtain ⟨cb, r1, r2, r3⟩ := xb_recv (ci := 9) hR rfl hk1 (by decide); exact xt_invV X hx hown (hts _ m_19d74785) (hts _ m_602477d2) (hts _ m_1fcf7a44) (xt_sigOf (hts _ m_38fa0ac4)) nm_Exact_answer (by rw [hT]; exact r1) r2 r3 (g := F0 m 78 ls [.long y0, .long x6, .int x1, .ref x0]) rfl (argsL := [.int x1, .long x6, .long y0]) (rest := []) rfl rfl (by rw [hb]; exact (xb_d D_Exact_run 41 rfl))) (ok_Exact_answer l hfl D A σ x0 x1 x6 y0 h _ hw) (hml.trans hl.1.symm) (by rw [hb]; exact (xb_d D_Exact_run 41 rfl)) (Nat.le_of_ble_eq_true rfl) (Nat.le_of_ble_eq_true rfl) (Nat.le_of_ble_eq_true rfl) (show k + 0 ≤ MC by omega) (show n + 0 ≤ MS by omega) (xt_w1 hB.1 m_38fa0ac4) (xt_cdOf hB.1 m_38fa0ac4) (hts _ m_b807310b) hB hR hS hA (fun vv h2 H locs hq hEh2 hR hS => ?_) (fun XX ax h2 H locs hq hEh2 hex hR hS => ?_)
  · obtain ⟨r3, rfl, hw⟩ := hq
    have hw := hw hEh2
    have hE := hE.tr hEh2
    refine W.eq (g2 := F0 m 81 ls [.long r3]) rfl ?_
    refine lv_lstore hx hb (xb_d D_Exact_run 42 rfl) hl (by decide) rfl (fun ls hl => ?_)
    have hl : lv_has ls 12 [(10, .long r3), (8, .long y0), (0, .ref x0), (1, .int x1), (6, .long x6)] := hl
    refine lv_aload_n hx hb (xb_d D_Exact_run 43 rfl) rfl (lv_at hl 2 rfl) ?_
    have hk1 : xb_k h2 x0 = 10 := hEh2.k hk1
    refine xb_getI (C := R_Exact) (T := F_Exact) (N := 11) hx hb 9 0 hts fin_Exact hown hR hk1 (by decide) rfl (by decide) rfl (hts _ m_3957194a) (fun _ h9 => h9) (xb_d D_Exact_run 44 rfl) ?_
    refine lv_if_le (tgt := 92) hx hb (xb_d D_Exact_run 45 rfl) rfl (fun hc4 => ?_) (fun hc4 => ?_)
    · have hw := hw.1 hc4
      refine lv_iload_n hx hb (xb_d D_Exact_run 48 rfl) rfl (lv_at hl 3 rfl) ?_
      refine xb_call (D := D) (A := A) (σ := σ) (h := h2) (d := 2) (mc := 0) (ms := 0) (maxL := 1) (rest := []) (av := [.int x1]) (fun T hT X => xt_invS X hx hown (hts _ m_ee60ea80) (hts _ m_2a32d197) (hts _ m_b807310b) (xt_sgS (hts _ m_ce6b0c6d)).1 (xt_sgS (hts _ m_ce6b0c6d)).2 nm_Exact_result (g := F0 m 93 ls [.int x1]) rfl (argsL := [.int x1]) (rest := []) rfl rfl (by rw [hb]; exact (xb_d D_Exact_run 49 rfl))) (ok_Exact_result l hfl D A σ x1 h2 _ hw) (hml.trans hl.1.symm) (by rw [hb]; exact (xb_d D_Exact_run 49 rfl)) (Nat.le_of_ble_eq_true rfl) (Nat.le_of_ble_eq_true rfl) (Nat.le_of_ble_eq_true rfl) (show k + 0 ≤ MC by omega) (show n + 0 ≤ MS by omega) (xt_w1 hB.1 m_ce6b0c6d) (xt_cdOf hB.1 m_ce6b0c6d) (hts _ m_b807310b) hB hR hS hA (fun vv h5 H locs hq hEh5 hR hS => ?_) (fun XX ax h5 H locs hq hEh5 hex hR hS => ?_)
      · obtain ⟨r6, rfl, hw⟩ := hq
        have hw := hw hEh5
        have hE := hE.tr hEh5
        refine W.eq (g2 := F0 m 96 ls [.int r6]) rfl ?_
        refine lv_iconst (v := 2) hx hb (xb_d D_Exact_run 50 rfl) (by decide) ?_
        refine lv_irem hx hb (xb_d D_Exact_run 51 rfl) (by decide) ?_
        refine lv_if_ne (tgt := 110) hx hb (xb_d D_Exact_run 52 rfl) rfl (fun hc7 => ?_) (fun hc7 => ?_)
        · have hw := hw.1 hc7
          refine lv_lload hx hb (xb_d D_Exact_run 57 rfl) (lv_at hl 0 rfl) ?_
          exact am_Exact_run_L112 l hfl D A σ MC MS h0 Qr r3 h5 hw p e s m args below meth c hC H locs ls k n hE (lv_sub hl [] rfl) hR hS (by omega) (by omega)
        · have hw := hw.2 hc7
          refine lv_lload hx hb (xb_d D_Exact_run 53 rfl) (lv_at hl 0 rfl) ?_
          refine lv_ldc2 (v := 4294967295) hx hb hown (hts _ m_0a075798) (xb_d D_Exact_run 54 rfl) ?_
          refine lv_land hx hb (xb_d D_Exact_run 55 rfl) ?_
          refine lv_goto (tgt := 112) hx hb (xb_d D_Exact_run 56 rfl) rfl ?_
          exact am_Exact_run_L112 l hfl D A σ MC MS h0 Qr (r3 &&& 4294967295) h5 hw p e s m args below meth c hC H locs ls k n hE (lv_sub hl [] rfl) hR hS (by omega) (by omega)
      · exact False.elim hq
    · have hw := hw.2 hc4
      refine lv_lconst (v := 0) hx hb (xb_d D_Exact_run 46 rfl) (by decide) ?_
      exact xb_lret hx hb hr hlocks (show k ≤ MC by omega) (show n ≤ MS by omega) hE hR hS (xb_d D_Exact_run 47 rfl) hw
  · exact False.elim hq

set_option maxHeartbeats 4000000 in
set_option maxRecDepth 100000 in
theorem am_Exact_run_L48 (l : Launch) (hfl : l.flags = pinnedFlags ++ [noTraceFlag]) (D : va_G) (A : Nat → Prop) (σ MC MS : Nat) (h0 : xb_H) (Qr : Int64 → xb_H → Prop) (x0 : Nat) (x1 : Int32) (x4 : Int64) (y0 : Int64) (h : xb_H) (hw : w_Exact_run_L48 Qr x0 x1 x4 y0 h) : xb_am l D A σ 8 MC MS h0 (fun v h => ∃ r, v = some (.long r) ∧ Qr r h) (fun _ _ => False) y_Exact_run.cls y_Exact_run.name b_Exact_run 12 ([] : List ExceptionTableEntry) (some .long) 48 [(0, .ref x0), (1, .int x1), (4, .long x4)] [.long y0] h 0 0 := by
  unfold w_Exact_run_L48 at hw
  intro p e s m args below meth c hC H locs ls k n hE hl hR hS hk hn
  obtain ⟨hx, hb, hown, hlocks, htab, hml, hr, hB, hA, hnm⟩ := id hC
  have hts := hB.1.1.at args
  refine lv_lstore hx hb (xb_d D_Exact_run 25 rfl) hl (by decide) rfl (fun ls hl => ?_)
  have hl : lv_has ls 12 [(6, .long y0), (0, .ref x0), (1, .int x1), (4, .long x4)] := hl
  refine lv_iload_n hx hb (xb_d D_Exact_run 26 rfl) rfl (lv_at hl 2 rfl) ?_
  refine xb_call (D := D) (A := A) (σ := σ) (h := h) (d := 3) (mc := 0) (ms := 0) (maxL := 1) (rest := []) (av := [.int x1]) (fun T hT X => xt_invS X hx hown (hts _ m_03c53ef9) (hts _ m_69a81f16) (hts _ m_b807310b) (xt_sgS (hts _ m_4328253a)).1 (xt_sgS (hts _ m_4328253a)).2 nm_Exact_first (g := F0 m 51 ls [.int x1]) rfl (argsL := [.int x1]) (rest := []) rfl rfl (by rw [hb]; exact (xb_d D_Exact_run 27 rfl))) (ok_Exact_first l hfl D A σ x1 h _ hw) (hml.trans hl.1.symm) (by rw [hb]; exact (xb_d D_Exact_run 27 rfl)) (Nat.le_of_ble_eq_true rfl) (Nat.le_of_ble_eq_true rfl) (Nat.le_of_ble_eq_true rfl) (show k + 0 ≤ MC by omega) (show n + 0 ≤ MS by omega) (xt_w1 hB.1 m_4328253a) (xt_cdOf hB.1 m_4328253a) (hts _ m_b807310b) hB hR hS hA (fun vv h1 H locs hq hEh1 hR hS => ?_) (fun XX ax h1 H locs hq hEh1 hex hR hS => ?_)
  · obtain ⟨r2, rfl, hw⟩ := hq
    have hw := hw hEh1
    have hE := hE.tr hEh1
    refine W.eq (g2 := F0 m 54 ls [.int r2]) rfl ?_
    refine lv_iconst (v := 2) hx hb (xb_d D_Exact_run 28 rfl) (by decide) ?_
    refine lv_irem hx hb (xb_d D_Exact_run 29 rfl) (by decide) ?_
    refine lv_if_ne (tgt := 68) hx hb (xb_d D_Exact_run 30 rfl) rfl (fun hc3 => ?_) (fun hc3 => ?_)
    · have hw := hw.1 hc3
      refine lv_lload hx hb (xb_d D_Exact_run 35 rfl) (lv_at hl 3 rfl) ?_
      exact am_Exact_run_L70 l hfl D A σ MC MS h0 Qr x0 x1 y0 x4 h1 hw p e s m args below meth c hC H locs ls k n hE (lv_sub hl [1, 2, 0] rfl) hR hS (by omega) (by omega)
    · have hw := hw.2 hc3
      refine lv_lload hx hb (xb_d D_Exact_run 31 rfl) (lv_at hl 3 rfl) ?_
      refine lv_ldc2 (v := 4294967295) hx hb hown (hts _ m_0a075798) (xb_d D_Exact_run 32 rfl) ?_
      refine lv_land hx hb (xb_d D_Exact_run 33 rfl) ?_
      refine lv_goto (tgt := 70) hx hb (xb_d D_Exact_run 34 rfl) rfl ?_
      exact am_Exact_run_L70 l hfl D A σ MC MS h0 Qr x0 x1 y0 (x4 &&& 4294967295) h1 hw p e s m args below meth c hC H locs ls k n hE (lv_sub hl [1, 2, 0] rfl) hR hS (by omega) (by omega)
  · exact False.elim hq

set_option maxHeartbeats 4000000 in
set_option maxRecDepth 100000 in
theorem am_Exact_run_L18 (l : Launch) (hfl : l.flags = pinnedFlags ++ [noTraceFlag]) (D : va_G) (A : Nat → Prop) (σ MC MS : Nat) (h0 : xb_H) (Qr : Int64 → xb_H → Prop) (x0 : Nat) (x1 : Int32) (x2 : Int64) (x4 : Int64) (y0 : Int32) (y1 : Nat) (h : xb_H) (hw : w_Exact_run_L18 Qr x0 x1 x2 x4 y0 y1 h) : xb_am l D A σ 8 MC MS h0 (fun v h => ∃ r, v = some (.long r) ∧ Qr r h) (fun _ _ => False) y_Exact_run.cls y_Exact_run.name b_Exact_run 12 ([] : List ExceptionTableEntry) (some .long) 18 [(0, .ref x0), (1, .int x1), (2, .long x2), (4, .long x4)] [.int y0, .ref y1] h 0 0 := by
  unfold w_Exact_run_L18 at hw
  intro p e s m args below meth c hC H locs ls k n hE hl hR hS hk hn
  obtain ⟨hx, hb, hown, hlocks, htab, hml, hr, hB, hA, hnm⟩ := id hC
  have hts := hB.1.1.at args
  obtain ⟨hk1, hw⟩ := hw
  refine xb_putI (C := R_Exact) (T := F_Exact) (N := 11) (ty := .int) (x := y0) hx hb 9 0 hts fin_Exact t_Exact t_Exact_ok n_Exact hown hR hS hk1 (by decide) rfl (by decide) rfl (hts _ m_3957194a) (fun _ h9 => h9) rfl (by decide +kernel) rfl rfl (xb_d D_Exact_run 9 rfl) (fun H locs hR hS => ?_)
  obtain ⟨h2, eh2⟩ : ∃ x : xb_H, x = xb_I h y1 0 y0 := ⟨_, rfl⟩
  rw [← eh2] at hR
  have hw := hw h2 eh2
  have hE : xb_ext h0 h2 := by rw [eh2]; exact hE
  refine lv_aload_n hx hb (xb_d D_Exact_run 10 rfl) rfl (lv_at hl 0 rfl) ?_
  obtain ⟨hk3, hw⟩ := hw
  refine xb_getI (C := R_Exact) (T := F_Exact) (N := 11) hx hb 9 0 hts fin_Exact hown hR hk3 (by decide) rfl (by decide) rfl (hts _ m_3957194a) (fun _ h9 => h9) (xb_d D_Exact_run 11 rfl) ?_
  refine lv_if_le (tgt := 30) hx hb (xb_d D_Exact_run 12 rfl) rfl (fun hc4 => ?_) (fun hc4 => ?_)
  · have hw := hw.1 hc4
    refine lv_iload_n hx hb (xb_d D_Exact_run 15 rfl) rfl (lv_at hl 1 rfl) ?_
    refine xb_call (D := D) (A := A) (σ := σ) (h := h2) (d := 3) (mc := 0) (ms := 0) (maxL := 1) (rest := []) (av := [.int x1]) (fun T hT X => xt_invS X hx hown (hts _ m_03c53ef9) (hts _ m_69a81f16) (hts _ m_b807310b) (xt_sgS (hts _ m_4328253a)).1 (xt_sgS (hts _ m_4328253a)).2 nm_Exact_first (g := F0 m 31 ls [.int x1]) rfl (argsL := [.int x1]) (rest := []) rfl rfl (by rw [hb]; exact (xb_d D_Exact_run 16 rfl))) (ok_Exact_first l hfl D A σ x1 h2 _ hw) (hml.trans hl.1.symm) (by rw [hb]; exact (xb_d D_Exact_run 16 rfl)) (Nat.le_of_ble_eq_true rfl) (Nat.le_of_ble_eq_true rfl) (Nat.le_of_ble_eq_true rfl) (show k + 0 ≤ MC by omega) (show n + 0 ≤ MS by omega) (xt_w1 hB.1 m_4328253a) (xt_cdOf hB.1 m_4328253a) (hts _ m_b807310b) hB hR hS hA (fun vv h5 H locs hq hEh5 hR hS => ?_) (fun XX ax h5 H locs hq hEh5 hex hR hS => ?_)
    · obtain ⟨r6, rfl, hw⟩ := hq
      have hw := hw hEh5
      have hE := hE.tr hEh5
      refine W.eq (g2 := F0 m 34 ls [.int r6]) rfl ?_
      refine lv_iconst (v := 2) hx hb (xb_d D_Exact_run 17 rfl) (by decide) ?_
      refine lv_irem hx hb (xb_d D_Exact_run 18 rfl) (by decide) ?_
      refine lv_if_ne (tgt := 47) hx hb (xb_d D_Exact_run 19 rfl) rfl (fun hc7 => ?_) (fun hc7 => ?_)
      · have hw := hw.1 hc7
        refine lv_lload_n hx hb (xb_d D_Exact_run 24 rfl) rfl (lv_at hl 2 rfl) ?_
        exact am_Exact_run_L48 l hfl D A σ MC MS h0 Qr x0 x1 x4 x2 h5 hw p e s m args below meth c hC H locs ls k n hE (lv_sub hl [0, 1, 3] rfl) hR hS (by omega) (by omega)
      · have hw := hw.2 hc7
        refine lv_lload_n hx hb (xb_d D_Exact_run 20 rfl) rfl (lv_at hl 2 rfl) ?_
        refine lv_ldc2 (v := 4294967295) hx hb hown (hts _ m_0a075798) (xb_d D_Exact_run 21 rfl) ?_
        refine lv_land hx hb (xb_d D_Exact_run 22 rfl) ?_
        refine lv_goto (tgt := 48) hx hb (xb_d D_Exact_run 23 rfl) rfl ?_
        exact am_Exact_run_L48 l hfl D A σ MC MS h0 Qr x0 x1 x4 (x2 &&& 4294967295) h5 hw p e s m args below meth c hC H locs ls k n hE (lv_sub hl [0, 1, 3] rfl) hR hS (by omega) (by omega)
    · exact False.elim hq
  · have hw := hw.2 hc4
    refine lv_lconst (v := 0) hx hb (xb_d D_Exact_run 13 rfl) (by decide) ?_
    exact xb_lret hx hb hr hlocks (show k ≤ MC by omega) (show n ≤ MS by omega) hE hR hS (xb_d D_Exact_run 14 rfl) hw

set_option maxHeartbeats 4000000 in
set_option maxRecDepth 100000 in
theorem ok_Exact_run (l : Launch) (hfl : l.flags = pinnedFlags ++ [noTraceFlag]) (D : va_G) (A : Nat → Prop) (σ : Nat) (x0 : Nat) (x1 : Int32) (x2 : Int64) (x4 : Int64) (h : xb_H) (Qr : Int64 → xb_H → Prop) (hw : w_Exact_run x0 x1 x2 x4 h Qr) : xt_Met l y_Exact_run [.code y_Exact_run b_Exact_run 12 (some .long)] (xb_rm 8 0 0) (xb_Pc D A σ h [.ref x0, .int x1, .long x2, .long x4]) (xb_Qc D A h (fun v h => ∃ r, v = some (.long r) ∧ Qr r h) (fun _ _ => False)) 0 0 A := by
  refine xb_ofAm (cc := b_Exact_run) (by decide) (Nat.le_of_ble_eq_true rfl) ?_
  unfold w_Exact_run at hw
  show xb_am l D A σ 8 0 0 h (fun v h => ∃ r, v = some (.long r) ∧ Qr r h) (fun _ _ => False) y_Exact_run.cls y_Exact_run.name b_Exact_run 12 ([] : List ExceptionTableEntry) (some .long) 0 [(0, .ref x0), (1, .int x1), (2, .long x2), (4, .long x4)] [] h 0 0
  obtain ⟨MC, hMC⟩ : ∃ x, x = 0 := ⟨_, rfl⟩
  obtain ⟨MS, hMS⟩ : ∃ x, x = 0 := ⟨_, rfl⟩
  rw [show xb_am l D A σ 8 0 0 = xb_am l D A σ 8 MC MS by rw [hMC, hMS]]
  obtain ⟨h0, hh0⟩ : ∃ x, x = h := ⟨_, rfl⟩
  rw [show xb_am l D A σ 8 MC MS h = xb_am l D A σ 8 MC MS h0 by rw [hh0]]
  intro p e s m args below meth c hC H locs ls k n hE hl hR hS hk hn
  obtain ⟨hx, hb, hown, hlocks, htab, hml, hr, hB, hA, hnm⟩ := id hC
  have hts := hB.1.1.at args
  refine lv_aload_n hx hb (xb_d D_Exact_run 0 rfl) rfl (lv_at hl 0 rfl) ?_
  refine lv_iload_n hx hb (xb_d D_Exact_run 1 rfl) rfl (lv_at hl 1 rfl) ?_
  refine lv_bipush (v := 69) hx hb (xb_d D_Exact_run 2 rfl) (by decide) ?_
  refine lv_sipush (v := 191) hx hb (xb_d D_Exact_run 3 rfl) (by decide) ?_
  refine xb_call (D := D) (A := A) (σ := σ) (h := h) (d := 2) (mc := 0) (ms := 0) (maxL := 3) (rest := [.ref x0]) (av := [.int x1, .int 69, .int 191]) (fun T hT X => xt_invS X hx hown (hts _ m_7525be9c) (hts _ m_6150176a) (hts _ m_b807310b) (xt_sgS (hts _ m_03fde057)).1 (xt_sgS (hts _ m_03fde057)).2 nm_Exact_isIn (g := F0 m 7 ls [.int 191, .int 69, .int x1, .ref x0]) rfl (argsL := [.int x1, .int 69, .int 191]) (rest := [.ref x0]) rfl rfl (by rw [hb]; exact (xb_d D_Exact_run 4 rfl))) (ok_Exact_isIn l hfl D A σ x1 69 191 h _ hw) (hml.trans hl.1.symm) (by rw [hb]; exact (xb_d D_Exact_run 4 rfl)) (Nat.le_of_ble_eq_true rfl) (Nat.le_of_ble_eq_true rfl) (Nat.le_of_ble_eq_true rfl) (show k + 0 ≤ MC by omega) (show n + 0 ≤ MS by omega) (xt_w1 hB.1 m_03fde057) (xt_cdOf hB.1 m_03fde057) (hts _ m_b807310b) hB hR hS hA (fun vv h1 H locs hq hEh1 hR hS => ?_) (fun XX ax h1 H locs hq hEh1 hex hR hS => ?_)
  · obtain ⟨r2, rfl, hw⟩ := hq
    have hw := hw hEh1
    have hE := hE.tr hEh1
    refine W.eq (g2 := F0 m 10 ls [.int r2, .ref x0]) rfl ?_
    refine lv_if_eq (tgt := 17) hx hb (xb_d D_Exact_run 5 rfl) rfl (fun hc3 => ?_) (fun hc3 => ?_)
    · have hw := hw.1 hc3
      refine lv_iconst (v := 1) hx hb (xb_d D_Exact_run 8 rfl) (by decide) ?_
      exact am_Exact_run_L18 l hfl D A σ MC MS h0 Qr x0 x1 x2 x4 1 x0 h1 hw p e s m args below meth c hC H locs ls k n hE (lv_sub hl [0, 1, 2, 3] rfl) hR hS (by omega) (by omega)
    · have hw := hw.2 hc3
      refine lv_iconst (v := 0) hx hb (xb_d D_Exact_run 6 rfl) (by decide) ?_
      refine lv_goto (tgt := 18) hx hb (xb_d D_Exact_run 7 rfl) rfl ?_
      exact am_Exact_run_L18 l hfl D A σ MC MS h0 Qr x0 x1 x2 x4 0 x0 h1 hw p e s m args below meth c hC H locs ls k n hE (lv_sub hl [0, 1, 2, 3] rfl) hR hS (by omega) (by omega)
  · exact False.elim hq

theorem m_c484329e : (.fieldLink "StackHost" 110 "StackHost$StackModule" "faultCode" "I" : Cond) ∈ xt_tbl := xt_in (xt_t3 (List.mem_of_getElem? (i := 125) (by decide +kernel))) (by decide +kernel)
theorem m_bf14d6e8 : (.fieldLink "StackHost" 111 "StackHost$StackModule" "faultPlace" "I" : Cond) ∈ xt_tbl := xt_in (xt_t3 (List.mem_of_getElem? (i := 127) (by decide +kernel))) (by decide +kernel)
theorem m_ca4c1e21 : (.methodLink "StackHost" 91 y_H_refuseModuleBeyondLimit : Cond) ∈ xt_tbl := xt_in (xt_t3 (List.mem_of_getElem? (i := 34) (by decide +kernel))) (by decide +kernel)
theorem m_84507e46 : (.instanceMethod y_H_refuseModuleBeyondLimit : Cond) ∈ xt_tbl := xt_in (xt_t3 (List.mem_of_getElem? (i := 36) (by decide +kernel))) (by decide +kernel)
theorem m_a7d2c7dd : (.selects "StackHost" y_H_refuseModuleBeyondLimit y_H_refuseModuleBeyondLimit : Cond) ∈ xt_tbl := xt_in (xt_v1 (q := (⟨"StackHost", "refuseModuleBeyondLimit", "()V"⟩, 11)) (List.mem_of_getElem? (i := 2) (by decide +kernel))) (by decide +kernel)
theorem m_0953c753 : (.code y_H_refuseModuleBeyondLimit b_H_refuseModuleBeyondLimit 1 none : Cond) ∈ xt_tbl := xt_in (xt_t3 (List.mem_of_getElem? (i := 37) (by decide +kernel))) (by decide +kernel)
theorem m_d718b775 : (.instantiable "StackHost$StackModule" 19 : Cond) ∈ xt_tbl := xt_in (xt_t3 (List.mem_of_getElem? (i := 39) (by decide +kernel))) (by decide +kernel)
theorem m_caec7b8d : (.methodLink "StackHost" 94 y_StackModule_init : Cond) ∈ xt_tbl := xt_in (xt_t3 (List.mem_of_getElem? (i := 40) (by decide +kernel))) (by decide +kernel)
theorem m_cb45c562 : (.instanceMethod y_StackModule_init : Cond) ∈ xt_tbl := xt_in (xt_t3 (List.mem_of_getElem? (i := 41) (by decide +kernel))) (by decide +kernel)
theorem m_81c3fd8b : (.code y_StackModule_init b_StackModule_init 2 none : Cond) ∈ xt_tbl := xt_in (xt_t3 (List.mem_of_getElem? (i := 42) (by decide +kernel))) (by decide +kernel)
theorem m_ee2a0f1b : (.methodLink "StackHost" 103 y_Reader_readAll : Cond) ∈ xt_tbl := xt_in (xt_t3 (List.mem_of_getElem? (i := 167) (by decide +kernel))) (by decide +kernel)
theorem m_14fb1c3a : (.instanceMethod y_Reader_readAll : Cond) ∈ xt_tbl := xt_in (xt_t3 (List.mem_of_getElem? (i := 168) (by decide +kernel))) (by decide +kernel)
theorem m_c788098c : (.selects "StackHost$Reader" y_Reader_readAll y_Reader_readAll : Cond) ∈ xt_tbl := xt_in (xt_t3 (List.mem_of_getElem? (i := 169) (by decide +kernel))) (by decide +kernel)
theorem m_3c818aa7 : (.code y_Reader_readAll b_Reader_readAll 5 none : Cond) ∈ xt_tbl := xt_in (xt_t3 (List.mem_of_getElem? (i := 170) (by decide +kernel))) (by decide +kernel)
theorem m_7bda48a2 : (.methodLink "StackHost" 107 y_Checker_checkAll : Cond) ∈ xt_tbl := xt_in (xt_t4 (List.mem_of_getElem? (i := 91) (by decide +kernel))) (by decide +kernel)
theorem m_02ff25d0 : (.instanceMethod y_Checker_checkAll : Cond) ∈ xt_tbl := xt_in (xt_t4 (List.mem_of_getElem? (i := 92) (by decide +kernel))) (by decide +kernel)
theorem m_7c3a08b1 : (.selects "StackHost$Checker" y_Checker_checkAll y_Checker_checkAll : Cond) ∈ xt_tbl := xt_in (xt_t4 (List.mem_of_getElem? (i := 93) (by decide +kernel))) (by decide +kernel)
theorem m_3ee6b5e3 : (.code y_Checker_checkAll b_Checker_checkAll 3 none : Cond) ∈ xt_tbl := xt_in (xt_t4 (List.mem_of_getElem? (i := 94) (by decide +kernel))) (by decide +kernel)
theorem m_234fc2b1 : (.classLink "StackHost" 86 "java/lang/IllegalArgumentException" : Cond) ∈ xt_tbl := xt_in (xt_t3 (List.mem_of_getElem? (i := 11) (by decide +kernel))) (by decide +kernel)
theorem nm_H_refuseModuleBeyondLimit : xt_nm y_H_refuseModuleBeyondLimit 0 := ⟨by decide +kernel, by decide +kernel⟩
theorem nm_StackModule_init : xt_nm y_StackModule_init 1 := ⟨by decide +kernel, by decide +kernel⟩
theorem nm_Reader_readAll : xt_nm y_Reader_readAll 1 := ⟨by decide +kernel, by decide +kernel⟩
theorem nm_Checker_checkAll : xt_nm y_Checker_checkAll 1 := ⟨by decide +kernel, by decide +kernel⟩
set_option maxRecDepth 100000 in
def T_H_load : List (Nat × Instr × Nat) := [(0, .aload_n 0, 1), (1, .invokevirtual 91, 3), (4, .new 13, 3), (7, .dup, 1), (8, .aload_n 0, 1), (9, .getfield 9, 3), (12, .aload_n 0, 1), (13, .getfield 58, 3), (16, .invokestatic 77, 3), (19, .invokespecial 94, 3), (22, .astore_n 1, 1), (23, .aload_n 0, 1), (24, .iconst 0, 1), (25, .putfield 58, 3), (28, .aload_n 0, 1), (29, .iconst 0, 1), (30, .putfield 97, 3), (33, .aload_n 0, 1), (34, .iconst 0, 1), (35, .putfield 100, 3), (38, .aload_n 0, 1), (39, .getfield 22, 3), (42, .aload_n 1, 1), (43, .invokevirtual 103, 3), (46, .aload_n 0, 1), (47, .getfield 29, 3), (50, .aload_n 1, 1), (51, .invokevirtual 107, 3), (54, .goto 22, 3), (57, .astore_n 2, 1), (58, .aload_n 0, 1), (59, .aload_n 1, 1), (60, .getfield 110, 3), (63, .putfield 97, 3), (66, .aload_n 0, 1), (67, .aload_n 1, 1), (68, .getfield 111, 3), (71, .putfield 100, 3), (74, .iconst (-1), 1), (75, .ireturn, 1), (76, .aload_n 0, 1), (77, .getfield 15, 3), (80, .aload_n 0, 1), (81, .getfield 112, 3), (84, .aload_n 1, 1), (85, .aastore, 1), (86, .aload_n 0, 1), (87, .dup, 1), (88, .getfield 112, 3), (91, .iconst 1, 1), (92, .iadd, 1), (93, .putfield 112, 3), (96, .aload_n 0, 1), (97, .getfield 112, 3), (100, .iconst 1, 1), (101, .isub, 1), (102, .ireturn, 1)]
theorem D_H_load : ∀ q ∈ T_H_load, decode b_H_load q.1 = .ok (q.2.1, q.2.2) := by decide +kernel
def w_H_load_L57 (Qr : Int32 → xb_H → Prop) (Qt : String → xb_H → Prop) (x0 : Nat) (x1 : Nat) (y0 : Nat) (h : xb_H) (bc : Nat) (bs : Nat) : Prop :=
    xb_k h x1 = 3 ∧ xb_k h x0 = 1 ∧ ∀ h3 : xb_H, h3 = xb_I h x0 9 (xb_i h x1 17) → ∀ h4 : xb_H, h4 = xb_I h3 x0 10 (xb_i h3 x1 18) → Qr (-1) h4

def w_H_load (x0 : Nat) (h : xb_H) (bc : Nat) (bs : Nat) (Qr : Int32 → xb_H → Prop) (Qt : String → xb_H → Prop) : Prop :=
    xb_k h x0 = 1 ∧ ∃ c4 sc4 : Nat, c4 ≤ bc ∧ sc4 ≤ bs ∧ w_H_refuseModuleBeyondLimit x0 h c4 sc4 (fun (h2 : xb_H) => xb_ext h h2 → 1 ≤ (bc - c4) ∧ 19 ≤ (bs - sc4) ∧ ∀ q5 : Nat, xb_k h2 q5 = 0 → ∀ h6 : xb_H, h6 = xb_new h2 q5 3 0 → ∃ b8 : Nat, (xb_r h6 x0 0) = some b8 ∧ ∃ c11 sc11 : Nat, c11 ≤ ((bc - c4) - 1) ∧ sc11 ≤ ((bs - sc4) - 19) ∧ w_Arrays_copyOf0 b8 (xb_i h6 x0 1) h6 c11 sc11 (fun (r10 : Nat) (h9 : xb_H) => xb_ext h6 h9 → ∃ c14 sc14 : Nat, c14 ≤ (((bc - c4) - 1) - c11) ∧ sc14 ≤ (((bs - sc4) - 19) - sc11) ∧ w_StackModule_init q5 r10 h9 c14 sc14 (fun (h12 : xb_H) => xb_ext h9 h12 → ∀ h15 : xb_H, h15 = xb_I h12 x0 1 0 → ∀ h16 : xb_H, h16 = xb_I h15 x0 9 0 → ∀ h17 : xb_H, h17 = xb_I h16 x0 10 0 → ∃ b18 : Nat, (xb_r h17 x0 4) = some b18 ∧ xb_k h17 b18 = 4 ∧ ∃ c22 sc22 : Nat, c22 ≤ ((((bc - c4) - 1) - c11) - c14) ∧ sc22 ≤ ((((bs - sc4) - 19) - sc11) - sc14) ∧ w_Reader_readAll b18 q5 h17 c22 sc22 (fun (h20 : xb_H) => xb_ext h17 h20 → ∃ b23 : Nat, (xb_r h20 x0 5) = some b23 ∧ xb_k h20 b23 = 5 ∧ ∃ c27 sc27 : Nat, c27 ≤ (((((bc - c4) - 1) - c11) - c14) - c22) ∧ sc27 ≤ (((((bs - sc4) - 19) - sc11) - sc14) - sc22) ∧ w_Checker_checkAll b23 q5 h20 c27 sc27 (fun (h25 : xb_H) => xb_ext h20 h25 → ∃ b28 : Nat, (xb_r h25 x0 2) = some b28 ∧ xb_k h25 b28 = 104 ∧ vp_in (xb_i h25 x0 3) (xb_n h25 b28) ∧ ∀ h31 : xb_H, h31 = xb_P h25 b28 (Int32.toNatClampNeg (xb_i h25 x0 3)) (some q5) → ∀ h32 : xb_H, h32 = xb_I h31 x0 3 ((xb_i h31 x0 3) + 1) → Qr ((xb_i h32 x0 3) - 1) h32) (fun (XX : String) (h25 : xb_H) => xb_ext h20 h25 → (XX = "java/lang/IllegalArgumentException" ∧ w_H_load_L57 Qr Qt x0 q5 ax h25 ((((((bc - c4) - 1) - c11) - c14) - c22) - c27) ((((((bs - sc4) - 19) - sc11) - sc14) - sc22) - sc27)))) (fun (XX : String) (h20 : xb_H) => xb_ext h17 h20 → (XX = "java/lang/IllegalArgumentException" ∧ w_H_load_L57 Qr Qt x0 q5 ax h20 (((((bc - c4) - 1) - c11) - c14) - c22) (((((bs - sc4) - 19) - sc11) - sc14) - sc22)))))) Qt

set_option maxHeartbeats 4000000 in
set_option maxRecDepth 100000 in
theorem am_H_load_L57 (l : Launch) (hfl : l.flags = pinnedFlags ++ [noTraceFlag]) (D : va_G) (A : Nat → Prop) (σ MC MS : Nat) (h0 : xb_H) (Qr : Int32 → xb_H → Prop) (Qt : String → xb_H → Prop) (x0 : Nat) (x1 : Nat) (y0 : Nat) (h : xb_H) (bc : Nat) (bs : Nat) (hw : w_H_load_L57 Qr Qt x0 x1 y0 h bc bs) : xb_am l D A σ 9 MC MS h0 (fun v h => ∃ r, v = some (.int r) ∧ Qr r h) Qt y_H_load.cls y_H_load.name b_H_load 3 (tableOf [(38, 54, 57, 86)]) (some .int) 57 [(0, .ref x0), (1, .ref x1)] [.ref y0] h bc bs := by
  unfold w_H_load_L57 at hw
  intro p e s m args below meth c hC H locs ls k n hE hl hR hS hk hn
  obtain ⟨hx, hb, hown, hlocks, htab, hml, hr, hB, hA, hnm⟩ := id hC
  have hts := hB.1.1.at args
  refine lv_astore_n hx hb (xb_d D_H_load 29 rfl) rfl hl (by decide) rfl (fun ls hl => ?_)
  have hl : lv_has ls 3 [(2, .ref y0), (0, .ref x0), (1, .ref x1)] := hl
  refine lv_aload_n hx hb (xb_d D_H_load 30 rfl) rfl (lv_at hl 1 rfl) ?_
  refine lv_aload_n hx hb (xb_d D_H_load 31 rfl) rfl (lv_at hl 2 rfl) ?_
  obtain ⟨hk1, hw⟩ := hw
  refine xb_getI (C := R_StackModule) (T := F_StackModule) (N := 19) hx hb 2 17 hts fin_StackModule hown hR hk1 (by decide) rfl (by decide) rfl (hts _ m_c484329e) (fun _ h9 => h9) (xb_d D_H_load 32 rfl) ?_
  obtain ⟨hk2, hw⟩ := hw
  refine xb_putI (C := R_H) (T := F_H) (N := 11) (ty := .int) (x := (xb_i h x1 17)) hx hb 0 9 hts fin_H t_H t_H_ok n_H hown hR hS hk2 (by decide) rfl (by decide) rfl (hts _ m_149cae13) (fun _ h9 => h9) rfl (by decide +kernel) rfl rfl (xb_d D_H_load 33 rfl) (fun H locs hR hS => ?_)
  obtain ⟨h3, eh3⟩ : ∃ x : xb_H, x = xb_I h x0 9 (xb_i h x1 17) := ⟨_, rfl⟩
  rw [← eh3] at hR
  have hw := hw h3 eh3
  have hE : xb_ext h0 h3 := by rw [eh3]; exact hE
  refine lv_aload_n hx hb (xb_d D_H_load 34 rfl) rfl (lv_at hl 1 rfl) ?_
  refine lv_aload_n hx hb (xb_d D_H_load 35 rfl) rfl (lv_at hl 2 rfl) ?_
  have hk1 : xb_k h3 x1 = 3 := by rw [eh3]; exact hk1
  refine xb_getI (C := R_StackModule) (T := F_StackModule) (N := 19) hx hb 2 18 hts fin_StackModule hown hR hk1 (by decide) rfl (by decide) rfl (hts _ m_bf14d6e8) (fun _ h9 => h9) (xb_d D_H_load 36 rfl) ?_
  have hk2 : xb_k h3 x0 = 1 := by rw [eh3]; exact hk2
  refine xb_putI (C := R_H) (T := F_H) (N := 11) (ty := .int) (x := (xb_i h3 x1 18)) hx hb 0 10 hts fin_H t_H t_H_ok n_H hown hR hS hk2 (by decide) rfl (by decide) rfl (hts _ m_f8008c10) (fun _ h9 => h9) rfl (by decide +kernel) rfl rfl (xb_d D_H_load 37 rfl) (fun H locs hR hS => ?_)
  obtain ⟨h4, eh4⟩ : ∃ x : xb_H, x = xb_I h3 x0 10 (xb_i h3 x1 18) := ⟨_, rfl⟩
  rw [← eh4] at hR
  have hw := hw h4 eh4
  have hE : xb_ext h0 h4 := by rw [eh4]; exact hE
  refine lv_iconst (v := (-1)) hx hb (xb_d D_H_load 38 rfl) (by decide) ?_
  exact xb_iret hx hb hr hlocks (show k ≤ MC by omega) (show n ≤ MS by omega) hE hR hS (xb_d D_H_load 39 rfl) hw

set_option maxHeartbeats 4000000 in
set_option maxRecDepth 100000 in
theorem ok_H_load (l : Launch) (hfl : l.flags = pinnedFlags ++ [noTraceFlag]) (D : va_G) (A : Nat → Prop) (σ : Nat) (x0 : Nat) (h : xb_H) (bc : Nat) (bs : Nat) (Qr : Int32 → xb_H → Prop) (Qt : String → xb_H → Prop) (hw : w_H_load x0 h bc bs Qr Qt) : xt_Met l y_H_load [.codeWith y_H_load b_H_load 3 (some .int) [(38, 54, 57, 86)]] (xb_rm 9 bc bs) (xb_Pc D A σ h [.ref x0]) (xb_Qc D A h (fun v h => ∃ r, v = some (.int r) ∧ Qr r h) Qt) bc bs A := by
  refine xb_ofAmH (cc := b_H_load) (by decide) (Nat.le_of_ble_eq_true rfl) ?_
  unfold w_H_load at hw
  show xb_am l D A σ 9 bc bs h (fun v h => ∃ r, v = some (.int r) ∧ Qr r h) Qt y_H_load.cls y_H_load.name b_H_load 3 (tableOf [(38, 54, 57, 86)]) (some .int) 0 [(0, .ref x0)] [] h bc bs
  obtain ⟨MC, hMC⟩ : ∃ x, x = bc := ⟨_, rfl⟩
  obtain ⟨MS, hMS⟩ : ∃ x, x = bs := ⟨_, rfl⟩
  rw [show xb_am l D A σ 9 bc bs = xb_am l D A σ 9 MC MS by rw [hMC, hMS]]
  obtain ⟨h0, hh0⟩ : ∃ x, x = h := ⟨_, rfl⟩
  rw [show xb_am l D A σ 9 MC MS h = xb_am l D A σ 9 MC MS h0 by rw [hh0]]
  intro p e s m args below meth c hC H locs ls k n hE hl hR hS hk hn
  obtain ⟨hx, hb, hown, hlocks, htab, hml, hr, hB, hA, hnm⟩ := id hC
  have hts := hB.1.1.at args
  refine lv_aload_n hx hb (xb_d D_H_load 0 rfl) rfl (lv_at hl 0 rfl) ?_
  obtain ⟨hk1, hw⟩ := hw
  obtain ⟨c4, sc4, hlc4, hlsc4, hw⟩ := hw
  refine xb_call (D := D) (A := A) (σ := σ) (h := h) (d := 2) (mc := c4) (ms := sc4) (maxL := 1) (rest := []) (av := [.ref x0]) (fun T hT X => by obtain ⟨cb, r1, r2, r3⟩ := xb_recv (ci := 0) hR rfl hk1 (by decide); exact xt_invV X hx hown (hts _ m_ca4c1e21) (hts _ m_84507e46) (hts _ m_a7d2c7dd) (xt_sigOf (hts _ m_0953c753)) nm_H_refuseModuleBeyondLimit (by rw [hT]; exact r1) r2 r3 (g := F0 m 1 ls [.ref x0]) rfl (argsL := []) (rest := []) rfl rfl (by rw [hb]; exact (xb_d D_H_load 1 rfl))) (ok_H_refuseModuleBeyondLimit l hfl D A σ x0 h c4 sc4 _ _ hw) (hml.trans hl.1.symm) (by rw [hb]; exact (xb_d D_H_load 1 rfl)) (Nat.le_of_ble_eq_true rfl) (Nat.le_of_ble_eq_true rfl) (Nat.le_of_ble_eq_true rfl) (show k + c4 ≤ MC by omega) (show n + sc4 ≤ MS by omega) (xt_w1 hB.1 m_0953c753) (xt_cdOf hB.1 m_0953c753) (hts _ m_ba0734f5) hB hR hS hA (fun vv h2 H locs hq hEh2 hR hS => ?_) (fun XX ax h2 H locs hq hEh2 hex hR hS => ?_)
  · obtain ⟨rfl, hw⟩ := hq
    have hw := hw hEh2
    have hE := hE.tr hEh2
    refine W.eq (g2 := F0 m 4 ls []) rfl ?_
    obtain ⟨hcq5, hsq5, hw⟩ := hw
    refine xb_newo (C := R_StackModule) (T := F_StackModule) (N := 19) hx hb 2 hts fin_StackModule t_StackModule t_StackModule_ok hown (hts _ m_051f4bf9) (hts _ m_d718b775) (hts _ m_9c375545) hR hS hA (by decide) rfl dg_StackModule (show (k + c4) + 1 ≤ MC by omega) (show (n + sc4) + 19 ≤ MS by omega) (xb_d D_H_load 2 rfl) (fun q5 H hqq5 hR hS => ?_)
    have hw := hw q5 hqq5
    obtain ⟨h6, eh6⟩ : ∃ x : xb_H, x = xb_new h2 q5 3 0 := ⟨_, rfl⟩
    rw [← eh6] at hR
    have hw := hw h6 eh6
    have hE : xb_ext h0 h6 := by rw [eh6]; exact hE.new _ _ hqq5
    have hk7 : xb_k h6 q5 = 3 := by rw [eh6]; exact xb_new_k _ _ _ _
    refine lv_dup hx hb (xb_d D_H_load 3 rfl) rfl ?_
    refine lv_aload_n hx hb (xb_d D_H_load 4 rfl) rfl (lv_at hl 0 rfl) ?_
    have hk1 : xb_k h2 x0 = 1 := hEh2.k hk1
    have hk1 : xb_k h6 x0 = 1 := by rw [eh6]; exact xb_nk hqq5 hk1
    refine xb_getP (C := R_H) (T := F_H) (N := 11) hx hb 0 0 hts fin_H hown hR hk1 (by decide) rfl (by decide) rfl (hts _ m_4570233e) (fun _ h9 => h9) (xb_d D_H_load 5 rfl) ?_
    obtain ⟨b8, eb8, hw⟩ := hw
    refine xb_some eb8 ?_
    refine lv_aload_n hx hb (xb_d D_H_load 6 rfl) rfl (lv_at hl 0 rfl) ?_
    refine xb_getI (C := R_H) (T := F_H) (N := 11) hx hb 0 1 hts fin_H hown hR hk1 (by decide) rfl (by decide) rfl (hts _ m_1ee8d2b8) (fun _ h9 => h9) (xb_d D_H_load 7 rfl) ?_
    obtain ⟨c11, sc11, hlc11, hlsc11, hw⟩ := hw
    refine xb_call (D := D) (A := A) (σ := σ) (h := h6) (d := 2) (mc := c11) (ms := sc11) (maxL := 3) (rest := [.ref q5, .ref q5]) (av := [.ref b8, .int (xb_i h6 x0 1)]) (fun T hT X => xt_invS X hx hown (hts _ m_b8219f1e) (hts _ m_16c212e6) (hts _ m_b999e92a) (xt_sgS (hts _ m_d6a3543a)).1 (xt_sgS (hts _ m_d6a3543a)).2 nm_Arrays_copyOf0 (g := F0 m 16 ls [.int (xb_i h6 x0 1), .ref b8, .ref q5, .ref q5]) rfl (argsL := [.ref b8, .int (xb_i h6 x0 1)]) (rest := [.ref q5, .ref q5]) rfl rfl (by rw [hb]; exact (xb_d D_H_load 8 rfl))) (ok_Arrays_copyOf0 l hfl D A σ b8 (xb_i h6 x0 1) h6 c11 sc11 _ hw) (hml.trans hl.1.symm) (by rw [hb]; exact (xb_d D_H_load 8 rfl)) (Nat.le_of_ble_eq_true rfl) (Nat.le_of_ble_eq_true rfl) (Nat.le_of_ble_eq_true rfl) (show ((k + c4) + 1) + c11 ≤ MC by omega) (show ((n + sc4) + 19) + sc11 ≤ MS by omega) (xt_w1 hB.1 m_d6a3543a) (xt_cdOf hB.1 m_d6a3543a) (hts _ m_b999e92a) hB hR hS hA (fun vv h9 H locs hq hEh9 hR hS => ?_) (fun XX ax h9 H locs hq hEh9 hex hR hS => ?_)
    · obtain ⟨r10, rfl, hw⟩ := hq
      have hw := hw hEh9
      have hE := hE.tr hEh9
      refine W.eq (g2 := F0 m 19 ls [.ref r10, .ref q5, .ref q5]) rfl ?_
      obtain ⟨c14, sc14, hlc14, hlsc14, hw⟩ := hw
      refine xb_call (D := D) (A := A) (σ := σ) (h := h9) (d := 3) (mc := c14) (ms := sc14) (maxL := 2) (rest := [.ref q5]) (av := [.ref q5, .ref r10]) (fun T hT X => xt_invI X hx hown rfl (hts _ m_caec7b8d) (hts _ m_cb45c562) (hts _ m_81c3fd8b) nm_StackModule_init (g := F0 m 19 ls [.ref r10, .ref q5, .ref q5]) rfl (b := q5) (argsL := [.ref r10]) (rest := [.ref q5]) rfl rfl (by rw [hb]; exact (xb_d D_H_load 9 rfl))) (ok_StackModule_init l hfl D A σ q5 r10 h9 c14 sc14 _ hw) (hml.trans hl.1.symm) (by rw [hb]; exact (xb_d D_H_load 9 rfl)) (Nat.le_of_ble_eq_true rfl) (Nat.le_of_ble_eq_true rfl) (Nat.le_of_ble_eq_true rfl) (show (((k + c4) + 1) + c11) + c14 ≤ MC by omega) (show (((n + sc4) + 19) + sc11) + sc14 ≤ MS by omega) (xt_w1 hB.1 m_81c3fd8b) (xt_cdOf hB.1 m_81c3fd8b) (hts _ m_9c375545) hB hR hS hA (fun vv h12 H locs hq hEh12 hR hS => ?_) (fun XX ax h12 H locs hq hEh12 hex hR hS => ?_)
      · obtain ⟨rfl, hw⟩ := hq
        have hw := hw hEh12
        have hE := hE.tr hEh12
        refine W.eq (g2 := F0 m 22 ls [.ref q5]) rfl ?_
        refine lv_astore_n hx hb (xb_d D_H_load 10 rfl) rfl hl (by decide) rfl (fun ls hl => ?_)
        have hl : lv_has ls 3 [(1, .ref q5), (0, .ref x0)] := hl
        refine lv_aload_n hx hb (xb_d D_H_load 11 rfl) rfl (lv_at hl 1 rfl) ?_
        refine lv_iconst (v := 0) hx hb (xb_d D_H_load 12 rfl) (by decide) ?_
        have hk1 : xb_k h9 x0 = 1 := hEh9.k hk1
        have hk1 : xb_k h12 x0 = 1 := hEh12.k hk1
        refine xb_putI (C := R_H) (T := F_H) (N := 11) (ty := .int) (x := 0) hx hb 0 1 hts fin_H t_H t_H_ok n_H hown hR hS hk1 (by decide) rfl (by decide) rfl (hts _ m_1ee8d2b8) (fun _ h9 => h9) rfl (by decide +kernel) rfl rfl (xb_d D_H_load 13 rfl) (fun H locs hR hS => ?_)
        obtain ⟨h15, eh15⟩ : ∃ x : xb_H, x = xb_I h12 x0 1 0 := ⟨_, rfl⟩
        rw [← eh15] at hR
        have hw := hw h15 eh15
        have hE : xb_ext h0 h15 := by rw [eh15]; exact hE
        refine lv_aload_n hx hb (xb_d D_H_load 14 rfl) rfl (lv_at hl 1 rfl) ?_
        refine lv_iconst (v := 0) hx hb (xb_d D_H_load 15 rfl) (by decide) ?_
        have hk1 : xb_k h15 x0 = 1 := by rw [eh15]; exact hk1
        refine xb_putI (C := R_H) (T := F_H) (N := 11) (ty := .int) (x := 0) hx hb 0 9 hts fin_H t_H t_H_ok n_H hown hR hS hk1 (by decide) rfl (by decide) rfl (hts _ m_149cae13) (fun _ h9 => h9) rfl (by decide +kernel) rfl rfl (xb_d D_H_load 16 rfl) (fun H locs hR hS => ?_)
        obtain ⟨h16, eh16⟩ : ∃ x : xb_H, x = xb_I h15 x0 9 0 := ⟨_, rfl⟩
        rw [← eh16] at hR
        have hw := hw h16 eh16
        have hE : xb_ext h0 h16 := by rw [eh16]; exact hE
        refine lv_aload_n hx hb (xb_d D_H_load 17 rfl) rfl (lv_at hl 1 rfl) ?_
        refine lv_iconst (v := 0) hx hb (xb_d D_H_load 18 rfl) (by decide) ?_
        have hk1 : xb_k h16 x0 = 1 := by rw [eh16]; exact hk1
        refine xb_putI (C := R_H) (T := F_H) (N := 11) (ty := .int) (x := 0) hx hb 0 10 hts fin_H t_H t_H_ok n_H hown hR hS hk1 (by decide) rfl (by decide) rfl (hts _ m_f8008c10) (fun _ h9 => h9) rfl (by decide +kernel) rfl rfl (xb_d D_H_load 19 rfl) (fun H locs hR hS => ?_)
        obtain ⟨h17, eh17⟩ : ∃ x : xb_H, x = xb_I h16 x0 10 0 := ⟨_, rfl⟩
        rw [← eh17] at hR
        have hw := hw h17 eh17
        have hE : xb_ext h0 h17 := by rw [eh17]; exact hE
        refine lv_aload_n hx hb (xb_d D_H_load 20 rfl) rfl (lv_at hl 1 rfl) ?_
        have hk1 : xb_k h17 x0 = 1 := by rw [eh17]; exact hk1
        refine xb_getP (C := R_H) (T := F_H) (N := 11) hx hb 0 4 hts fin_H hown hR hk1 (by decide) rfl (by decide) rfl (hts _ m_95161389) (fun _ h9 => h9) (xb_d D_H_load 21 rfl) ?_
        obtain ⟨b18, eb18, hw⟩ := hw
        refine xb_some eb18 ?_
        refine lv_aload_n hx hb (xb_d D_H_load 22 rfl) rfl (lv_at hl 0 rfl) ?_
        obtain ⟨hk19, hw⟩ := hw
        obtain ⟨c22, sc22, hlc22, hlsc22, hw⟩ := hw
        refine xb_call (D := D) (A := A) (σ := σ) (h := h17) (d := 8) (mc := c22) (ms := sc22) (maxL := 5) (rest := []) (av := [.ref b18, .ref q5]) (fun T hT X => by obtain ⟨cb, r1, r2, r3⟩ := xb_recv (ci := 3) hR rfl hk19 (by decide); exact xt_invV X hx hown (hts _ m_ee2a0f1b) (hts _ m_14fb1c3a) (hts _ m_c788098c) (xt_sigOf (hts _ m_3c818aa7)) nm_Reader_readAll (by rw [hT]; exact r1) r2 r3 (g := F0 m 43 ls [.ref q5, .ref b18]) rfl (argsL := [.ref q5]) (rest := []) rfl rfl (by rw [hb]; exact (xb_d D_H_load 23 rfl))) (ok_Reader_readAll l hfl D A σ b18 q5 h17 c22 sc22 _ _ hw) (hml.trans hl.1.symm) (by rw [hb]; exact (xb_d D_H_load 23 rfl)) (Nat.le_of_ble_eq_true rfl) (Nat.le_of_ble_eq_true rfl) (Nat.le_of_ble_eq_true rfl) (show ((((k + c4) + 1) + c11) + c14) + c22 ≤ MC by omega) (show ((((n + sc4) + 19) + sc11) + sc14) + sc22 ≤ MS by omega) (xt_w1 hB.1 m_3c818aa7) (xt_cdOf hB.1 m_3c818aa7) (hts _ m_938fcec4) hB hR hS hA (fun vv h20 H locs hq hEh20 hR hS => ?_) (fun XX ax h20 H locs hq hEh20 hex hR hS => ?_)
        · obtain ⟨rfl, hw⟩ := hq
          have hw := hw hEh20
          have hE := hE.tr hEh20
          refine W.eq (g2 := F0 m 46 ls []) rfl ?_
          refine lv_aload_n hx hb (xb_d D_H_load 24 rfl) rfl (lv_at hl 1 rfl) ?_
          have hk1 : xb_k h20 x0 = 1 := hEh20.k hk1
          refine xb_getP (C := R_H) (T := F_H) (N := 11) hx hb 0 5 hts fin_H hown hR hk1 (by decide) rfl (by decide) rfl (hts _ m_b8585ab6) (fun _ h9 => h9) (xb_d D_H_load 25 rfl) ?_
          obtain ⟨b23, eb23, hw⟩ := hw
          refine xb_some eb23 ?_
          refine lv_aload_n hx hb (xb_d D_H_load 26 rfl) rfl (lv_at hl 0 rfl) ?_
          obtain ⟨hk24, hw⟩ := hw
          obtain ⟨c27, sc27, hlc27, hlsc27, hw⟩ := hw
          refine xb_call (D := D) (A := A) (σ := σ) (h := h20) (d := 8) (mc := c27) (ms := sc27) (maxL := 3) (rest := []) (av := [.ref b23, .ref q5]) (fun T hT X => by obtain ⟨cb, r1, r2, r3⟩ := xb_recv (ci := 4) hR rfl hk24 (by decide); exact xt_invV X hx hown (hts _ m_7bda48a2) (hts _ m_02ff25d0) (hts _ m_7c3a08b1) (xt_sigOf (hts _ m_3ee6b5e3)) nm_Checker_checkAll (by rw [hT]; exact r1) r2 r3 (g := F0 m 51 ls [.ref q5, .ref b23]) rfl (argsL := [.ref q5]) (rest := []) rfl rfl (by rw [hb]; exact (xb_d D_H_load 27 rfl))) (ok_Checker_checkAll l hfl D A σ b23 q5 h20 c27 sc27 _ _ hw) (hml.trans hl.1.symm) (by rw [hb]; exact (xb_d D_H_load 27 rfl)) (Nat.le_of_ble_eq_true rfl) (Nat.le_of_ble_eq_true rfl) (Nat.le_of_ble_eq_true rfl) (show (((((k + c4) + 1) + c11) + c14) + c22) + c27 ≤ MC by omega) (show (((((n + sc4) + 19) + sc11) + sc14) + sc22) + sc27 ≤ MS by omega) (xt_w1 hB.1 m_3ee6b5e3) (xt_cdOf hB.1 m_3ee6b5e3) (hts _ m_44748ce5) hB hR hS hA (fun vv h25 H locs hq hEh25 hR hS => ?_) (fun XX ax h25 H locs hq hEh25 hex hR hS => ?_)
          · obtain ⟨rfl, hw⟩ := hq
            have hw := hw hEh25
            have hE := hE.tr hEh25
            refine W.eq (g2 := F0 m 54 ls []) rfl ?_
            refine lv_goto (tgt := 76) hx hb (xb_d D_H_load 28 rfl) rfl ?_
            refine lv_aload_n hx hb (xb_d D_H_load 40 rfl) rfl (lv_at hl 1 rfl) ?_
            have hk1 : xb_k h25 x0 = 1 := hEh25.k hk1
            refine xb_getP (C := R_H) (T := F_H) (N := 11) hx hb 0 2 hts fin_H hown hR hk1 (by decide) rfl (by decide) rfl (hts _ m_3f8a3106) (fun _ h9 => h9) (xb_d D_H_load 41 rfl) ?_
            obtain ⟨b28, eb28, hw⟩ := hw
            refine xb_some eb28 ?_
            refine lv_aload_n hx hb (xb_d D_H_load 42 rfl) rfl (lv_at hl 1 rfl) ?_
            refine xb_getI (C := R_H) (T := F_H) (N := 11) hx hb 0 3 hts fin_H hown hR hk1 (by decide) rfl (by decide) rfl (hts _ m_9075cfd3) (fun _ h9 => h9) (xb_d D_H_load 43 rfl) ?_
            refine lv_aload_n hx hb (xb_d D_H_load 44 rfl) rfl (lv_at hl 0 rfl) ?_
            obtain ⟨hk29, hw⟩ := hw
            obtain ⟨hi30, hw⟩ := hw
            have hk7 : xb_k h9 q5 = 3 := hEh9.k hk7
            have hk7 : xb_k h12 q5 = 3 := hEh12.k hk7
            have hk7 : xb_k h15 q5 = 3 := by rw [eh15]; exact hk7
            have hk7 : xb_k h16 q5 = 3 := by rw [eh16]; exact hk7
            have hk7 : xb_k h17 q5 = 3 := by rw [eh17]; exact hk7
            have hk7 : xb_k h20 q5 = 3 := hEh20.k hk7
            have hk7 : xb_k h25 q5 = 3 := hEh25.k hk7
            refine xb_aast104 hx hb hR hS hk29 hk7 hi30 (xb_d D_H_load 45 rfl) (fun H locs hR hS => ?_)
            obtain ⟨h31, eh31⟩ : ∃ x : xb_H, x = xb_P h25 b28 (Int32.toNatClampNeg (xb_i h25 x0 3)) (some q5) := ⟨_, rfl⟩
            rw [← eh31] at hR
            have hw := hw h31 eh31
            have hE : xb_ext h0 h31 := by rw [eh31]; exact hE
            refine lv_aload_n hx hb (xb_d D_H_load 46 rfl) rfl (lv_at hl 1 rfl) ?_
            refine lv_dup hx hb (xb_d D_H_load 47 rfl) rfl ?_
            have hk1 : xb_k h31 x0 = 1 := by rw [eh31]; exact hk1
            refine xb_getI (C := R_H) (T := F_H) (N := 11) hx hb 0 3 hts fin_H hown hR hk1 (by decide) rfl (by decide) rfl (hts _ m_9075cfd3) (fun _ h9 => h9) (xb_d D_H_load 48 rfl) ?_
            refine lv_iconst (v := 1) hx hb (xb_d D_H_load 49 rfl) (by decide) ?_
            refine lv_iadd hx hb (xb_d D_H_load 50 rfl) ?_
            refine xb_putI (C := R_H) (T := F_H) (N := 11) (ty := .int) (x := ((xb_i h31 x0 3) + 1)) hx hb 0 3 hts fin_H t_H t_H_ok n_H hown hR hS hk1 (by decide) rfl (by decide) rfl (hts _ m_9075cfd3) (fun _ h9 => h9) rfl (by decide +kernel) rfl rfl (xb_d D_H_load 51 rfl) (fun H locs hR hS => ?_)
            obtain ⟨h32, eh32⟩ : ∃ x : xb_H, x = xb_I h31 x0 3 ((xb_i h31 x0 3) + 1) := ⟨_, rfl⟩
            rw [← eh32] at hR
            have hw := hw h32 eh32
            have hE : xb_ext h0 h32 := by rw [eh32]; exact hE
            refine lv_aload_n hx hb (xb_d D_H_load 52 rfl) rfl (lv_at hl 1 rfl) ?_
            have hk1 : xb_k h32 x0 = 1 := by rw [eh32]; exact hk1
            refine xb_getI (C := R_H) (T := F_H) (N := 11) hx hb 0 3 hts fin_H hown hR hk1 (by decide) rfl (by decide) rfl (hts _ m_9075cfd3) (fun _ h9 => h9) (xb_d D_H_load 53 rfl) ?_
            refine lv_iconst (v := 1) hx hb (xb_d D_H_load 54 rfl) (by decide) ?_
            refine lv_isub hx hb (xb_d D_H_load 55 rfl) ?_
            exact xb_iret hx hb hr hlocks (show ((((((k + c4) + 1) + c11) + c14) + c22) + c27) ≤ MC by omega) (show ((((((n + sc4) + 19) + sc11) + sc14) + sc22) + sc27) ≤ MS by omega) hE hR hS (xb_d D_H_load 56 rfl) hw
          · have hw := hq hEh25
            have hE := hE.tr hEh25
            obtain ⟨rfl, hw⟩ := hw
            refine xt_catch (own := "StackHost") (name := "java/lang/IllegalArgumentException") (Xn := "java/lang/IllegalArgumentException") hown ⟨38, 54, 57, 86⟩ [] htab (by decide) (by decide) (hts _ m_234fc2b1) (hts _ m_b3980edb) hex ?_
            refine W.eq (g2 := F0 m 57 ls [.ref ax]) rfl ?_
            exact am_H_load_L57 l hfl D A σ MC MS h0 Qr Qt x0 q5 ax h25 ((((((bc - c4) - 1) - c11) - c14) - c22) - c27) ((((((bs - sc4) - 19) - sc11) - sc14) - sc22) - sc27) hw p e s m args below meth c hC H locs ls ((((((k + c4) + 1) + c11) + c14) + c22) + c27) ((((((n + sc4) + 19) + sc11) + sc14) + sc22) + sc27) hE (lv_sub hl [1, 0] rfl) hR hS (by omega) (by omega)
        · have hw := hq hEh20
          have hE := hE.tr hEh20
          obtain ⟨rfl, hw⟩ := hw
          refine xt_catch (own := "StackHost") (name := "java/lang/IllegalArgumentException") (Xn := "java/lang/IllegalArgumentException") hown ⟨38, 54, 57, 86⟩ [] htab (by decide) (by decide) (hts _ m_234fc2b1) (hts _ m_b3980edb) hex ?_
          refine W.eq (g2 := F0 m 57 ls [.ref ax]) rfl ?_
          exact am_H_load_L57 l hfl D A σ MC MS h0 Qr Qt x0 q5 ax h20 (((((bc - c4) - 1) - c11) - c14) - c22) (((((bs - sc4) - 19) - sc11) - sc14) - sc22) hw p e s m args below meth c hC H locs ls (((((k + c4) + 1) + c11) + c14) + c22) (((((n + sc4) + 19) + sc11) + sc14) + sc22) hE (lv_sub hl [1, 0] rfl) hR hS (by omega) (by omega)
      · exact False.elim hq
    · exact False.elim hq
  · exact xb_pass hlocks (fun x hx9 => by rw [htab] at hx9; first | cases hx9 | (simp [tableOf] at hx9; rcases hx9 with rfl | rfl | rfl <;> decide)) (show (k + c4) ≤ MC by omega) (show (n + sc4) ≤ MS by omega) (hE.tr hEh2) hR hS hex hq

