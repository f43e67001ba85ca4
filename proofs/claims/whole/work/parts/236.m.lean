theorem m_68178929 : (.methodLink "StackHostModel$Exact" 118 y_Exact_take : Cond) ∈ xt_tbl := xt_in (xt_t13 (List.mem_of_getElem? (i := 71) (by decide +kernel))) (by decide +kernel)
theorem m_04538489 : (.instanceMethod y_Exact_take : Cond) ∈ xt_tbl := xt_in (xt_t13 (List.mem_of_getElem? (i := 73) (by decide +kernel))) (by decide +kernel)
theorem m_d01df5e4 : (.selects "StackHostModel$Exact" y_Exact_take y_Exact_take : Cond) ∈ xt_tbl := xt_in (xt_v16 (q := (⟨"StackHostModel$Exact", "take", "(JI)V"⟩, 11)) (List.mem_of_getElem? (i := 10) (by decide +kernel))) (by decide +kernel)
theorem m_ae7ee52c : (.code y_Exact_take b_Exact_take 9 none : Cond) ∈ xt_tbl := xt_in (xt_t13 (List.mem_of_getElem? (i := 74) (by decide +kernel))) (by decide +kernel)
theorem nm_Exact_take : xt_nm y_Exact_take 2 := ⟨by decide +kernel, by decide +kernel⟩
set_option maxRecDepth 100000 in
def T_Exact_sum : List (Nat × Instr × Nat) := [(0, .aload_n 0, 1), (1, .lload_n 1, 1), (2, .invokevirtual 97, 3), (5, .ifCond .ne 11, 3), (8, .aload_n 0, 1), (9, .lload_n 3, 1), (10, .invokevirtual 97, 3), (13, .ifCond .eq 46, 3), (16, .aload_n 0, 1), (17, .lload_n 1, 1), (18, .invokevirtual 97, 3), (21, .ifCond .eq 24, 3), (24, .aload_n 0, 1), (25, .lload_n 3, 1), (26, .invokevirtual 97, 3), (29, .ifCond .eq 16, 3), (32, .lload_n 1, 1), (33, .lload_n 3, 1), (34, .lcmp, 1), (35, .ifCond .eq 10, 3), (38, .aload_n 0, 1), (39, .invokevirtual 100, 3), (42, .goto 16, 3), (45, .aload_n 0, 1), (46, .lload_n 1, 1), (47, .invokevirtual 97, 3), (50, .ifCond .eq 7, 3), (53, .lload_n 1, 1), (54, .goto 4, 3), (57, .lload_n 3, 1), (58, .lreturn, 1), (59, .aload_n 0, 1), (60, .lload_n 3, 1), (61, .invokevirtual 72, 3), (64, .aload_n 0, 1), (65, .lload_n 1, 1), (66, .invokevirtual 72, 3), (69, .lcmp, 1), (70, .ifCond .le 7, 3), (73, .iconst 1, 1), (74, .goto 4, 3), (77, .iconst 0, 1), (78, .istore 5, 2), (80, .iload 5, 2), (82, .ifCond .eq 7, 3), (85, .lload_n 3, 1), (86, .goto 4, 3), (89, .lload_n 1, 1), (90, .lstore 6, 2), (92, .iload 5, 2), (94, .ifCond .eq 7, 3), (97, .lload_n 1, 1), (98, .goto 4, 3), (101, .lload_n 3, 1), (102, .lstore 8, 2), (104, .aload_n 0, 1), (105, .lload_n 1, 1), (106, .invokevirtual 76, 3), (109, .aload_n 0, 1), (110, .lload_n 3, 1), (111, .invokevirtual 76, 3), (114, .if_icmp .eq 7, 3), (117, .iconst 1, 1), (118, .goto 4, 3), (121, .iconst 0, 1), (122, .istore 10, 2), (124, .aload_n 0, 1), (125, .lload_n 1, 1), (126, .invokevirtual 72, 3), (129, .aload_n 0, 1), (130, .lload_n 3, 1), (131, .invokevirtual 72, 3), (134, .lcmp, 1), (135, .ifCond .ne 8, 3), (138, .iload 10, 2), (140, .ifCond .ne 12, 3), (143, .aload_n 0, 1), (144, .lload 6, 2), (146, .invokevirtual 104, 3), (149, .ifCond .eq 30, 3), (152, .aload_n 0, 1), (153, .lconst 0, 1), (154, .aload_n 0, 1), (155, .lload_n 1, 1), (156, .invokevirtual 76, 3), (159, .ifCond .eq 15, 3), (162, .aload_n 0, 1), (163, .lload_n 3, 1), (164, .invokevirtual 76, 3), (167, .ifCond .eq 7, 3), (170, .iconst 1, 1), (171, .goto 4, 3), (174, .iconst 0, 1), (175, .invokevirtual 52, 3), (178, .lreturn, 1), (179, .aload_n 0, 1), (180, .invokevirtual 107, 3), (183, .aload_n 0, 1), (184, .lload 6, 2), (186, .invokevirtual 110, 3), (189, .aload_n 0, 1), (190, .getfield 80, 3), (193, .istore 11, 2), (195, .aload_n 0, 1), (196, .aload_n 0, 1), (197, .getfield 83, 3), (200, .aload_n 0, 1), (201, .getfield 87, 3), (204, .invokevirtual 114, 3), (207, .aload_n 0, 1), (208, .lload 8, 2), (210, .invokevirtual 110, 3), (213, .iload 10, 2), (215, .ifCond .eq 18, 3), (218, .aload_n 0, 1), (219, .aload_n 0, 1), (220, .getfield 83, 3), (223, .aload_n 0, 1), (224, .getfield 87, 3), (227, .invokevirtual 118, 3), (230, .goto 15, 3), (233, .aload_n 0, 1), (234, .aload_n 0, 1), (235, .getfield 83, 3), (238, .aload_n 0, 1), (239, .getfield 87, 3), (242, .invokevirtual 114, 3), (245, .aload_n 0, 1), (246, .iload 11, 2), (248, .invokevirtual 121, 3), (251, .lreturn, 1)]
theorem D_Exact_sum : ∀ q ∈ T_Exact_sum, decode b_Exact_sum q.1 = .ok (q.2.1, q.2.2) := by decide +kernel
def w_Exact_sum_L245 (Qr : Int64 → xb_H → Prop) (x0 : Nat) (x11 : Int32) (h : xb_H) : Prop :=
    xb_k h x0 = 10 ∧ w_Exact_rounded x0 x11 h (fun (r3 : Int64) (h2 : xb_H) => xb_ext h h2 → Qr r3 h2)

def w_Exact_sum_L175 (Qr : Int64 → xb_H → Prop) (y0 : Int32) (y1 : Int64) (y2 : Nat) (h : xb_H) : Prop :=
    xb_k h y2 = 10 ∧ w_Exact_signed y2 y1 y0 h (fun (r3 : Int64) (h2 : xb_H) => xb_ext h h2 → Qr r3 h2)

def w_Exact_sum_L174 (Qr : Int64 → xb_H → Prop) (y0 : Int64) (y1 : Nat) (h : xb_H) : Prop :=
    w_Exact_sum_L175 Qr 0 y0 y1 h

def w_Exact_sum_L152 (Qr : Int64 → xb_H → Prop) (x0 : Nat) (x1 : Int64) (x3 : Int64) (h : xb_H) : Prop :=
    xb_k h x0 = 10 ∧ w_Exact_isMinus x0 x1 h (fun (r3 : Int32) (h2 : xb_H) => xb_ext h h2 → ((r3 = (0 : Int32) → w_Exact_sum_L174 Qr 0 x0 h2) ∧ (¬ r3 = (0 : Int32) → w_Exact_isMinus x0 x3 h2 (fun (r6 : Int32) (h5 : xb_H) => xb_ext h2 h5 → ((r6 = (0 : Int32) → w_Exact_sum_L174 Qr 0 x0 h5) ∧ (¬ r6 = (0 : Int32) → w_Exact_sum_L175 Qr 1 0 x0 h5))))))

def w_Exact_sum_L143 (Qr : Int64 → xb_H → Prop) (x0 : Nat) (x1 : Int64) (x3 : Int64) (x6 : Int64) (x8 : Int64) (x10 : Int32) (h : xb_H) : Prop :=
    xb_k h x0 = 10 ∧ w_Exact_isZero x0 x6 h (fun (r3 : Int32) (h2 : xb_H) => xb_ext h h2 → ((r3 = (0 : Int32) → w_Exact_clear x0 h2 (fun (h5 : xb_H) => xb_ext h2 h5 → w_Exact_split x0 x6 h5 (fun (h7 : xb_H) => xb_ext h5 h7 → ∀ v9 : Int32, v9 = (xb_i h7 x0 8) → w_Exact_add x0 (xb_l h7 x0 9) (xb_i h7 x0 10) h7 (fun (h10 : xb_H) => xb_ext h7 h10 → w_Exact_split x0 x8 h10 (fun (h12 : xb_H) => xb_ext h10 h12 → ((x10 = (0 : Int32) → w_Exact_add x0 (xb_l h12 x0 9) (xb_i h12 x0 10) h12 (fun (h15 : xb_H) => xb_ext h12 h15 → w_Exact_sum_L245 Qr x0 v9 h15)) ∧ (¬ x10 = (0 : Int32) → w_Exact_take x0 (xb_l h12 x0 9) (xb_i h12 x0 10) h12 (fun (h17 : xb_H) => xb_ext h12 h17 → w_Exact_sum_L245 Qr x0 v9 h17)))))))) ∧ (¬ r3 = (0 : Int32) → w_Exact_sum_L152 Qr x0 x1 x3 h2)))

def w_Exact_sum_L122 (Qr : Int64 → xb_H → Prop) (x0 : Nat) (x1 : Int64) (x3 : Int64) (x6 : Int64) (x8 : Int64) (y0 : Int32) (h : xb_H) : Prop :=
    xb_k h x0 = 10 ∧ w_Exact_size x0 x1 h (fun (r3 : Int64) (h2 : xb_H) => xb_ext h h2 → w_Exact_size x0 x3 h2 (fun (r5 : Int64) (h4 : xb_H) => xb_ext h2 h4 → ((¬ r3 = r5 → w_Exact_sum_L143 Qr x0 x1 x3 x6 x8 y0 h4) ∧ (r3 = r5 → ((¬ y0 = (0 : Int32) → w_Exact_sum_L152 Qr x0 x1 x3 h4) ∧ (y0 = (0 : Int32) → w_Exact_sum_L143 Qr x0 x1 x3 x6 x8 y0 h4))))))

def w_Exact_sum_L102 (Qr : Int64 → xb_H → Prop) (x0 : Nat) (x1 : Int64) (x3 : Int64) (x6 : Int64) (y0 : Int64) (h : xb_H) : Prop :=
    xb_k h x0 = 10 ∧ w_Exact_isMinus x0 x1 h (fun (r3 : Int32) (h2 : xb_H) => xb_ext h h2 → w_Exact_isMinus x0 x3 h2 (fun (r5 : Int32) (h4 : xb_H) => xb_ext h2 h4 → ((r3 = r5 → w_Exact_sum_L122 Qr x0 x1 x3 x6 y0 0 h4) ∧ (¬ r3 = r5 → w_Exact_sum_L122 Qr x0 x1 x3 x6 y0 1 h4))))

def w_Exact_sum_L90 (Qr : Int64 → xb_H → Prop) (x0 : Nat) (x1 : Int64) (x3 : Int64) (x5 : Int32) (y0 : Int64) (h : xb_H) : Prop :=
    ((x5 = (0 : Int32) → w_Exact_sum_L102 Qr x0 x1 x3 y0 x3 h) ∧ (¬ x5 = (0 : Int32) → w_Exact_sum_L102 Qr x0 x1 x3 y0 x1 h))

def w_Exact_sum_L78 (Qr : Int64 → xb_H → Prop) (x0 : Nat) (x1 : Int64) (x3 : Int64) (y0 : Int32) (h : xb_H) : Prop :=
    ((y0 = (0 : Int32) → w_Exact_sum_L90 Qr x0 x1 x3 y0 x1 h) ∧ (¬ y0 = (0 : Int32) → w_Exact_sum_L90 Qr x0 x1 x3 y0 x3 h))

def w_Exact_sum_L58 (Qr : Int64 → xb_H → Prop) (y0 : Int64) (h : xb_H) : Prop :=
    Qr y0 h

def w_Exact_sum_L45 (Qr : Int64 → xb_H → Prop) (x0 : Nat) (x1 : Int64) (x3 : Int64) (h : xb_H) : Prop :=
    xb_k h x0 = 10 ∧ w_Exact_isInfinite x0 x1 h (fun (r3 : Int32) (h2 : xb_H) => xb_ext h h2 → ((r3 = (0 : Int32) → w_Exact_sum_L58 Qr x3 h2) ∧ (¬ r3 = (0 : Int32) → w_Exact_sum_L58 Qr x1 h2)))

def w_Exact_sum_L16 (Qr : Int64 → xb_H → Prop) (x0 : Nat) (x1 : Int64) (x3 : Int64) (h : xb_H) : Prop :=
    xb_k h x0 = 10 ∧ w_Exact_isInfinite x0 x1 h (fun (r3 : Int32) (h2 : xb_H) => xb_ext h h2 → ((r3 = (0 : Int32) → w_Exact_sum_L45 Qr x0 x1 x3 h2) ∧ (¬ r3 = (0 : Int32) → w_Exact_isInfinite x0 x3 h2 (fun (r6 : Int32) (h5 : xb_H) => xb_ext h2 h5 → ((r6 = (0 : Int32) → w_Exact_sum_L45 Qr x0 x1 x3 h5) ∧ (¬ r6 = (0 : Int32) → ((x1 = x3 → w_Exact_sum_L45 Qr x0 x1 x3 h5) ∧ (¬ x1 = x3 → w_Exact_noNumber x0 h5 (fun (r10 : Int64) (h9 : xb_H) => xb_ext h5 h9 → w_Exact_sum_L58 Qr r10 h9)))))))))

def w_Exact_sum (x0 : Nat) (x1 : Int64) (x3 : Int64) (h : xb_H) (Qr : Int64 → xb_H → Prop) : Prop :=
    xb_k h x0 = 10 ∧ w_Exact_isInfinite x0 x1 h (fun (r3 : Int32) (h2 : xb_H) => xb_ext h h2 → ((¬ r3 = (0 : Int32) → w_Exact_sum_L16 Qr x0 x1 x3 h2) ∧ (r3 = (0 : Int32) → w_Exact_isInfinite x0 x3 h2 (fun (r6 : Int32) (h5 : xb_H) => xb_ext h2 h5 → ((r6 = (0 : Int32) → w_Exact_size x0 x3 h5 (fun (r9 : Int64) (h8 : xb_H) => xb_ext h5 h8 → w_Exact_size x0 x1 h8 (fun (r11 : Int64) (h10 : xb_H) => xb_ext h8 h10 → ((r9 ≤ r11 → w_Exact_sum_L78 Qr x0 x1 x3 0 h10) ∧ (¬ r9 ≤ r11 → w_Exact_sum_L78 Qr x0 x1 x3 1 h10))))) ∧ (¬ r6 = (0 : Int32) → w_Exact_sum_L16 Qr x0 x1 x3 h5))))))

set_option maxHeartbeats 4000000 in
set_option maxRecDepth 100000 in
theorem am_Exact_sum_L245 (l : Launch) (hfl : l.flags = pinnedFlags ++ [noTraceFlag]) (D : va_G) (A : Nat → Prop) (σ MC MS : Nat) (h0 : xb_H) (Qr : Int64 → xb_H → Prop) (x0 : Nat) (x11 : Int32) (h : xb_H) (hw : w_Exact_sum_L245 Qr x0 x11 h) : xb_am l D A σ 5 MC MS h0 (fun v h => ∃ r, v = some (.long r) ∧ Qr r h) (fun _ _ => False) y_Exact_sum.cls y_Exact_sum.name b_Exact_sum 12 ([] : List ExceptionTableEntry) (some .long) 245 [(0, .ref x0), (11, .int x11)] [] h 0 0 := by
  unfold w_Exact_sum_L245 at hw
  intro p e s m args below meth c hC H locs ls k n hE hl hR hS hk hn
  obtain ⟨hx, hb, hown, hlocks, htab, hml, hr, hB, hA, hnm⟩ := id hC
  have hts := hB.1.1.at args
  refine lv_aload_n hx hb (xb_d D_Exact_sum 127 rfl) rfl (lv_at hl 0 rfl) ?_
  refine lv_iload hx hb (xb_d D_Exact_sum 128 rfl) (lv_at hl 1 rfl) ?_
  obtain ⟨hk1, hw⟩ := hw
  refine xb_call (D := D) (A := A) (σ := σ) (h := h) (d := 4) (mc := 0) (ms := 0) (maxL := 10) (rest := []) (av := [.ref x0, .int x11]) (fun T hT X => by obtain ⟨cb, r1, r2, r3⟩ := xb_recv (ci := 9) hR rfl hk1 (by decide); exact xt_invV X hx hown (hts _ m_2aa5d168) (hts _ m_a9d2c1e2) (hts _ m_665f83d8) (xt_sigOf (hts _ m_bb0adfae)) nm_Exact_rounded (by rw [hT]; exact r1) r2 r3 (g := F0 m 248 ls [.int x11, .ref x0]) rfl (argsL := [.int x11]) (rest := []) rfl rfl (by rw [hb]; exact (xb_d D_Exact_sum 129 rfl))) (ok_Exact_rounded l hfl D A σ x0 x11 h _ hw) (hml.trans hl.1.symm) (by rw [hb]; exact (xb_d D_Exact_sum 129 rfl)) (Nat.le_of_ble_eq_true rfl) (Nat.le_of_ble_eq_true rfl) (Nat.le_of_ble_eq_true rfl) (show k + 0 ≤ MC by omega) (show n + 0 ≤ MS by omega) (xt_w1 hB.1 m_bb0adfae) (xt_cdOf hB.1 m_bb0adfae) (hts _ m_b807310b) hB hR hS hA (fun vv h2 H locs hq hEh2 hR hS => ?_) (fun XX ax h2 H locs hq hEh2 hex hR hS => ?_)
  · obtain ⟨r3, rfl, hw⟩ := hq
    have hw := hw hEh2
    have hE := hE.tr hEh2
    refine W.eq (g2 := F0 m 251 ls [.long r3]) rfl ?_
    exact xb_lret hx hb hr hlocks (show k ≤ MC by omega) (show n ≤ MS by omega) hE hR hS (xb_d D_Exact_sum 130 rfl) hw
  · exact False.elim hq

set_option maxHeartbeats 4000000 in
set_option maxRecDepth 100000 in
theorem am_Exact_sum_L175 (l : Launch) (hfl : l.flags = pinnedFlags ++ [noTraceFlag]) (D : va_G) (A : Nat → Prop) (σ MC MS : Nat) (h0 : xb_H) (Qr : Int64 → xb_H → Prop) (y0 : Int32) (y1 : Int64) (y2 : Nat) (h : xb_H) (hw : w_Exact_sum_L175 Qr y0 y1 y2 h) : xb_am l D A σ 5 MC MS h0 (fun v h => ∃ r, v = some (.long r) ∧ Qr r h) (fun _ _ => False) y_Exact_sum.cls y_Exact_sum.name b_Exact_sum 12 ([] : List ExceptionTableEntry) (some .long) 175 [] [.int y0, .long y1, .ref y2] h 0 0 := by
  unfold w_Exact_sum_L175 at hw
  intro p e s m args below meth c hC H locs ls k n hE hl hR hS hk hn
  obtain ⟨hx, hb, hown, hlocks, htab, hml, hr, hB, hA, hnm⟩ := id hC
  have hts := hB.1.1.at args
  obtain ⟨hk1, hw⟩ := hw
  refine xb_call (D := D) (A := A) (σ := σ) (h := h) (d := 2) (mc := 0) (ms := 0) (maxL := 4) (rest := []) (av := [.ref y2, .long y1, .int y0]) (fun T hT X => by obtain ⟨cb, r1, r2, r3⟩ := xb_recv (ci := 9) hR rfl hk1 (by decide); exact xt_invV X hx hown (hts _ m_7b6c7353) (hts _ m_28babb18) (hts _ m_243e01d5) (xt_sigOf (hts _ m_88c0fc78)) nm_Exact_signed (by rw [hT]; exact r1) r2 r3 (g := F0 m 175 ls [.int y0, .long y1, .ref y2]) rfl (argsL := [.long y1, .int y0]) (rest := []) rfl rfl (by rw [hb]; exact (xb_d D_Exact_sum 93 rfl))) (ok_Exact_signed l hfl D A σ y2 y1 y0 h _ hw) (hml.trans hl.1.symm) (by rw [hb]; exact (xb_d D_Exact_sum 93 rfl)) (Nat.le_of_ble_eq_true rfl) (Nat.le_of_ble_eq_true rfl) (Nat.le_of_ble_eq_true rfl) (show k + 0 ≤ MC by omega) (show n + 0 ≤ MS by omega) (xt_w1 hB.1 m_88c0fc78) (xt_cdOf hB.1 m_88c0fc78) (hts _ m_b807310b) hB hR hS hA (fun vv h2 H locs hq hEh2 hR hS => ?_) (fun XX ax h2 H locs hq hEh2 hex hR hS => ?_)
  · obtain ⟨r3, rfl, hw⟩ := hq
    have hw := hw hEh2
    have hE := hE.tr hEh2
    refine W.eq (g2 := F0 m 178 ls [.long r3]) rfl ?_
    exact xb_lret hx hb hr hlocks (show k ≤ MC by omega) (show n ≤ MS by omega) hE hR hS (xb_d D_Exact_sum 94 rfl) hw
  · exact False.elim hq

set_option maxHeartbeats 4000000 in
set_option maxRecDepth 100000 in
theorem am_Exact_sum_L174 (l : Launch) (hfl : l.flags = pinnedFlags ++ [noTraceFlag]) (D : va_G) (A : Nat → Prop) (σ MC MS : Nat) (h0 : xb_H) (Qr : Int64 → xb_H → Prop) (y0 : Int64) (y1 : Nat) (h : xb_H) (hw : w_Exact_sum_L174 Qr y0 y1 h) : xb_am l D A σ 5 MC MS h0 (fun v h => ∃ r, v = some (.long r) ∧ Qr r h) (fun _ _ => False) y_Exact_sum.cls y_Exact_sum.name b_Exact_sum 12 ([] : List ExceptionTableEntry) (some .long) 174 [] [.long y0, .ref y1] h 0 0 := by
  unfold w_Exact_sum_L174 at hw
  intro p e s m args below meth c hC H locs ls k n hE hl hR hS hk hn
  obtain ⟨hx, hb, hown, hlocks, htab, hml, hr, hB, hA, hnm⟩ := id hC
  have hts := hB.1.1.at args
  refine lv_iconst (v := 0) hx hb (xb_d D_Exact_sum 92 rfl) (by decide) ?_
  exact am_Exact_sum_L175 l hfl D A σ MC MS h0 Qr 0 y0 y1 h hw p e s m args below meth c hC H locs ls k n hE (lv_sub hl [] rfl) hR hS (by omega) (by omega)

set_option maxHeartbeats 4000000 in
set_option maxRecDepth 100000 in
theorem am_Exact_sum_L152 (l : Launch) (hfl : l.flags = pinnedFlags ++ [noTraceFlag]) (D : va_G) (A : Nat → Prop) (σ MC MS : Nat) (h0 : xb_H) (Qr : Int64 → xb_H → Prop) (x0 : Nat) (x1 : Int64) (x3 : Int64) (h : xb_H) (hw : w_Exact_sum_L152 Qr x0 x1 x3 h) : xb_am l D A σ 5 MC MS h0 (fun v h => ∃ r, v = some (.long r) ∧ Qr r h) (fun _ _ => False) y_Exact_sum.cls y_Exact_sum.name b_Exact_sum 12 ([] : List ExceptionTableEntry) (some .long) 152 [(0, .ref x0), (1, .long x1), (3, .long x3)] [] h 0 0 := by
  unfold w_Exact_sum_L152 at hw
  intro p e s m args below meth c hC H locs ls k n hE hl hR hS hk hn
  obtain ⟨hx, hb, hown, hlocks, htab, hml, hr, hB, hA, hnm⟩ := id hC
  have hts := hB.1.1.at args
  refine lv_aload_n hx hb (xb_d D_Exact_sum 80 rfl) rfl (lv_at hl 0 rfl) ?_
  refine lv_lconst (v := 0) hx hb (xb_d D_Exact_sum 81 rfl) (by decide) ?_
  refine lv_aload_n hx hb (xb_d D_Exact_sum 82 rfl) rfl (lv_at hl 0 rfl) ?_
  refine lv_lload_n hx hb (xb_d D_Exact_sum 83 rfl) rfl (lv_at hl 1 rfl) ?_
  obtain ⟨hk1, hw⟩ := hw
  refine xb_call (D := D) (A := A) (σ := σ) (h := h) (d := 2) (mc := 0) (ms := 0) (maxL := 3) (rest := [.long 0, .ref x0]) (av := [.ref x0, .long x1]) (fun T hT X => by obtain ⟨cb, r1, r2, r3⟩ := xb_recv (ci := 9) hR rfl hk1 (by decide); exact xt_invV X hx hown (hts _ m_de267fc4) (hts _ m_8cf2fba2) (hts _ m_e2188cdf) (xt_sigOf (hts _ m_25d2fde1)) nm_Exact_isMinus (by rw [hT]; exact r1) r2 r3 (g := F0 m 156 ls [.long x1, .ref x0, .long 0, .ref x0]) rfl (argsL := [.long x1]) (rest := [.long 0, .ref x0]) rfl rfl (by rw [hb]; exact (xb_d D_Exact_sum 84 rfl))) (ok_Exact_isMinus l hfl D A σ x0 x1 h _ hw) (hml.trans hl.1.symm) (by rw [hb]; exact (xb_d D_Exact_sum 84 rfl)) (Nat.le_of_ble_eq_true rfl) (Nat.le_of_ble_eq_true rfl) (Nat.le_of_ble_eq_true rfl) (show k + 0 ≤ MC by omega) (show n + 0 ≤ MS by omega) (xt_w1 hB.1 m_25d2fde1) (xt_cdOf hB.1 m_25d2fde1) (hts _ m_b807310b) hB hR hS hA (fun vv h2 H locs hq hEh2 hR hS => ?_) (fun XX ax h2 H locs hq hEh2 hex hR hS => ?_)
  · obtain ⟨r3, rfl, hw⟩ := hq
    have hw := hw hEh2
    have hE := hE.tr hEh2
    refine W.eq (g2 := F0 m 159 ls [.int r3, .long 0, .ref x0]) rfl ?_
    refine lv_if_eq (tgt := 174) hx hb (xb_d D_Exact_sum 85 rfl) rfl (fun hc4 => ?_) (fun hc4 => ?_)
    · have hw := hw.1 hc4
      exact am_Exact_sum_L174 l hfl D A σ MC MS h0 Qr 0 x0 h2 hw p e s m args below meth c hC H locs ls k n hE (lv_sub hl [] rfl) hR hS (by omega) (by omega)
    · have hw := hw.2 hc4
      refine lv_aload_n hx hb (xb_d D_Exact_sum 86 rfl) rfl (lv_at hl 0 rfl) ?_
      refine lv_lload_n hx hb (xb_d D_Exact_sum 87 rfl) rfl (lv_at hl 2 rfl) ?_
      have hk1 : xb_k h2 x0 = 10 := hEh2.k hk1
      refine xb_call (D := D) (A := A) (σ := σ) (h := h2) (d := 2) (mc := 0) (ms := 0) (maxL := 3) (rest := [.long 0, .ref x0]) (av := [.ref x0, .long x3]) (fun T hT X => by obtain ⟨cb, r1, r2, r3⟩ := xb_recv (ci := 9) hR rfl hk1 (by decide); exact xt_invV X hx hown (hts _ m_de267fc4) (hts _ m_8cf2fba2) (hts _ m_e2188cdf) (xt_sigOf (hts _ m_25d2fde1)) nm_Exact_isMinus (by rw [hT]; exact r1) r2 r3 (g := F0 m 164 ls [.long x3, .ref x0, .long 0, .ref x0]) rfl (argsL := [.long x3]) (rest := [.long 0, .ref x0]) rfl rfl (by rw [hb]; exact (xb_d D_Exact_sum 88 rfl))) (ok_Exact_isMinus l hfl D A σ x0 x3 h2 _ hw) (hml.trans hl.1.symm) (by rw [hb]; exact (xb_d D_Exact_sum 88 rfl)) (Nat.le_of_ble_eq_true rfl) (Nat.le_of_ble_eq_true rfl) (Nat.le_of_ble_eq_true rfl) (show k + 0 ≤ MC by omega) (show n + 0 ≤ MS by omega) (xt_w1 hB.1 m_25d2fde1) (xt_cdOf hB.1 m_25d2fde1) (hts _ m_b807310b) hB hR hS hA (fun vv h5 H locs hq hEh5 hR hS => ?_) (fun XX ax h5 H locs hq hEh5 hex hR hS => ?_)
      · obtain ⟨r6, rfl, hw⟩ := hq
        have hw := hw hEh5
        have hE := hE.tr hEh5
        refine W.eq (g2 := F0 m 167 ls [.int r6, .long 0, .ref x0]) rfl ?_
        refine lv_if_eq (tgt := 174) hx hb (xb_d D_Exact_sum 89 rfl) rfl (fun hc7 => ?_) (fun hc7 => ?_)
        · have hw := hw.1 hc7
          exact am_Exact_sum_L174 l hfl D A σ MC MS h0 Qr 0 x0 h5 hw p e s m args below meth c hC H locs ls k n hE (lv_sub hl [] rfl) hR hS (by omega) (by omega)
        · have hw := hw.2 hc7
          refine lv_iconst (v := 1) hx hb (xb_d D_Exact_sum 90 rfl) (by decide) ?_
          refine lv_goto (tgt := 175) hx hb (xb_d D_Exact_sum 91 rfl) rfl ?_
          exact am_Exact_sum_L175 l hfl D A σ MC MS h0 Qr 1 0 x0 h5 hw p e s m args below meth c hC H locs ls k n hE (lv_sub hl [] rfl) hR hS (by omega) (by omega)
      · exact False.elim hq
  · exact False.elim hq

set_option maxHeartbeats 4000000 in
set_option maxRecDepth 100000 in
theorem am_Exact_sum_L143 (l : Launch) (hfl : l.flags = pinnedFlags ++ [noTraceFlag]) (D : va_G) (A : Nat → Prop) (σ MC MS : Nat) (h0 : xb_H) (Qr : Int64 → xb_H → Prop) (x0 : Nat) (x1 : Int64) (x3 : Int64) (x6 : Int64) (x8 : Int64) (x10 : Int32) (h : xb_H) (hw : w_Exact_sum_L143 Qr x0 x1 x3 x6 x8 x10 h) : xb_am l D A σ 5 MC MS h0 (fun v h => ∃ r, v = some (.long r) ∧ Qr r h) (fun _ _ => False) y_Exact_sum.cls y_Exact_sum.name b_Exact_sum 12 ([] : List ExceptionTableEntry) (some .long) 143 [(0, .ref x0), (1, .long x1), (3, .long x3), (6, .long x6), (8, .long x8), (10, .int x10)] [] h 0 0 := by
  unfold w_Exact_sum_L143 at hw
  intro p e s m args below meth c hC H locs ls k n hE hl hR hS hk hn
  obtain ⟨hx, hb, hown, hlocks, htab, hml, hr, hB, hA, hnm⟩ := id hC
  have hts := hB.1.1.at args
  refine lv_aload_n hx hb (xb_d D_Exact_sum 76 rfl) rfl (lv_at hl 0 rfl) ?_
  refine lv_lload hx hb (xb_d D_Exact_sum 77 rfl) (lv_at hl 3 rfl) ?_
  obtain ⟨hk1, hw⟩ := hw
  refine xb_call (D := D) (A := A) (σ := σ) (h := h) (d := 3) (mc := 0) (ms := 0) (maxL := 3) (rest := []) (av := [.ref x0, .long x6]) (fun T hT X => by obtain ⟨cb, r1, r2, r3⟩ := xb_recv (ci := 9) hR rfl hk1 (by decide); exact xt_invV X hx hown (hts _ m_f9e5bce2) (hts _ m_d4ccf81e) (hts _ m_870ffa92) (xt_sigOf (hts _ m_b231eb2b)) nm_Exact_isZero (by rw [hT]; exact r1) r2 r3 (g := F0 m 146 ls [.long x6, .ref x0]) rfl (argsL := [.long x6]) (rest := []) rfl rfl (by rw [hb]; exact (xb_d D_Exact_sum 78 rfl))) (ok_Exact_isZero l hfl D A σ x0 x6 h _ hw) (hml.trans hl.1.symm) (by rw [hb]; exact (xb_d D_Exact_sum 78 rfl)) (Nat.le_of_ble_eq_true rfl) (Nat.le_of_ble_eq_true rfl) (Nat.le_of_ble_eq_true rfl) (show k + 0 ≤ MC by omega) (show n + 0 ≤ MS by omega) (xt_w1 hB.1 m_b231eb2b) (xt_cdOf hB.1 m_b231eb2b) (hts _ m_b807310b) hB hR hS hA (fun vv h2 H locs hq hEh2 hR hS => ?_) (fun XX ax h2 H locs hq hEh2 hex hR hS => ?_)
  · obtain ⟨r3, rfl, hw⟩ := hq
    have hw := hw hEh2
    have hE := hE.tr hEh2
    refine W.eq (g2 := F0 m 149 ls [.int r3]) rfl ?_
    refine lv_if_eq (tgt := 179) hx hb (xb_d D_Exact_sum 79 rfl) rfl (fun hc4 => ?_) (fun hc4 => ?_)
    · have hw := hw.1 hc4
      refine lv_aload_n hx hb (xb_d D_Exact_sum 95 rfl) rfl (lv_at hl 0 rfl) ?_
      have hk1 : xb_k h2 x0 = 10 := hEh2.k hk1
      refine xb_call (D := D) (A := A) (σ := σ) (h := h2) (d := 2) (mc := 0) (ms := 0) (maxL := 2) (rest := []) (av := [.ref x0]) (fun T hT X => by obtain ⟨cb, r1, r2, r3⟩ := xb_recv (ci := 9) hR rfl hk1 (by decide); exact xt_invV X hx hown (hts _ m_65d93325) (hts _ m_c4de73f8) (hts _ m_b3f48cc1) (xt_sigOf (hts _ m_b0daac26)) nm_Exact_clear (by rw [hT]; exact r1) r2 r3 (g := F0 m 180 ls [.ref x0]) rfl (argsL := []) (rest := []) rfl rfl (by rw [hb]; exact (xb_d D_Exact_sum 96 rfl))) (ok_Exact_clear l hfl D A σ x0 h2 _ hw) (hml.trans hl.1.symm) (by rw [hb]; exact (xb_d D_Exact_sum 96 rfl)) (Nat.le_of_ble_eq_true rfl) (Nat.le_of_ble_eq_true rfl) (Nat.le_of_ble_eq_true rfl) (show k + 0 ≤ MC by omega) (show n + 0 ≤ MS by omega) (xt_w1 hB.1 m_b0daac26) (xt_cdOf hB.1 m_b0daac26) (hts _ m_b807310b) hB hR hS hA (fun vv h5 H locs hq hEh5 hR hS => ?_) (fun XX ax h5 H locs hq hEh5 hex hR hS => ?_)
      · obtain ⟨rfl, hw⟩ := hq
        have hw := hw hEh5
        have hE := hE.tr hEh5
        refine W.eq (g2 := F0 m 183 ls []) rfl ?_
        refine lv_aload_n hx hb (xb_d D_Exact_sum 97 rfl) rfl (lv_at hl 0 rfl) ?_
        refine lv_lload hx hb (xb_d D_Exact_sum 98 rfl) (lv_at hl 3 rfl) ?_
        have hk1 : xb_k h5 x0 = 10 := hEh5.k hk1
        refine xb_call (D := D) (A := A) (σ := σ) (h := h5) (d := 3) (mc := 0) (ms := 0) (maxL := 7) (rest := []) (av := [.ref x0, .long x6]) (fun T hT X => by obtain ⟨cb, r1, r2, r3⟩ := xb_recv (ci := 9) hR rfl hk1 (by decide); exact xt_invV X hx hown (hts _ m_26946ca5) (hts _ m_c8f41404) (hts _ m_e3ba6af7) (xt_sigOf (hts _ m_921646f3)) nm_Exact_split (by rw [hT]; exact r1) r2 r3 (g := F0 m 186 ls [.long x6, .ref x0]) rfl (argsL := [.long x6]) (rest := []) rfl rfl (by rw [hb]; exact (xb_d D_Exact_sum 99 rfl))) (ok_Exact_split l hfl D A σ x0 x6 h5 _ hw) (hml.trans hl.1.symm) (by rw [hb]; exact (xb_d D_Exact_sum 99 rfl)) (Nat.le_of_ble_eq_true rfl) (Nat.le_of_ble_eq_true rfl) (Nat.le_of_ble_eq_true rfl) (show k + 0 ≤ MC by omega) (show n + 0 ≤ MS by omega) (xt_w1 hB.1 m_921646f3) (xt_cdOf hB.1 m_921646f3) (hts _ m_b807310b) hB hR hS hA (fun vv h7 H locs hq hEh7 hR hS => ?_) (fun XX ax h7 H locs hq hEh7 hex hR hS => ?_)
        · obtain ⟨rfl, hw⟩ := hq
          have hw := hw hEh7
          have hE := hE.tr hEh7
          refine W.eq (g2 := F0 m 189 ls []) rfl ?_
          refine lv_aload_n hx hb (xb_d D_Exact_sum 100 rfl) rfl (lv_at hl 0 rfl) ?_
          have hk1 : xb_k h7 x0 = 10 := hEh7.k hk1
          refine xb_getI (C := R_Exact) (T := F_Exact) (N := 11) hx hb 9 8 hts fin_Exact hown hR hk1 (by decide) rfl (by decide) rfl (hts _ m_124dafb0) (fun _ h9 => h9) (xb_d D_Exact_sum 101 rfl) ?_
          obtain ⟨v9, ev9⟩ : ∃ x : Int32, x = (xb_i h7 x0 8) := ⟨_, rfl⟩
          have hw := hw v9 ev9
          refine xt_numi (y := v9) ev9.symm ?_
          refine lv_istore hx hb (xb_d D_Exact_sum 102 rfl) hl (by decide) rfl (fun ls hl => ?_)
          have hl : lv_has ls 12 [(11, .int v9), (0, .ref x0), (1, .long x1), (3, .long x3), (6, .long x6), (8, .long x8), (10, .int x10)] := hl
          refine lv_aload_n hx hb (xb_d D_Exact_sum 103 rfl) rfl (lv_at hl 1 rfl) ?_
          refine lv_aload_n hx hb (xb_d D_Exact_sum 104 rfl) rfl (lv_at hl 1 rfl) ?_
          refine xb_getL (C := R_Exact) (T := F_Exact) (N := 11) hx hb 9 9 hts fin_Exact hown hR hk1 (by decide) rfl (by decide) rfl (hts _ m_183e6a18) (fun _ h9 => h9) (xb_d D_Exact_sum 105 rfl) ?_
          refine lv_aload_n hx hb (xb_d D_Exact_sum 106 rfl) rfl (lv_at hl 1 rfl) ?_
          refine xb_getI (C := R_Exact) (T := F_Exact) (N := 11) hx hb 9 10 hts fin_Exact hown hR hk1 (by decide) rfl (by decide) rfl (hts _ m_a62210ac) (fun _ h9 => h9) (xb_d D_Exact_sum 107 rfl) ?_
          refine xb_call (D := D) (A := A) (σ := σ) (h := h7) (d := 3) (mc := 0) (ms := 0) (maxL := 9) (rest := []) (av := [.ref x0, .long (xb_l h7 x0 9), .int (xb_i h7 x0 10)]) (fun T hT X => by obtain ⟨cb, r1, r2, r3⟩ := xb_recv (ci := 9) hR rfl hk1 (by decide); exact xt_invV X hx hown (hts _ m_547afbfb) (hts _ m_d4b837ea) (hts _ m_b818cb8b) (xt_sigOf (hts _ m_59b46d39)) nm_Exact_add (by rw [hT]; exact r1) r2 r3 (g := F0 m 204 ls [.int (xb_i h7 x0 10), .long (xb_l h7 x0 9), .ref x0]) rfl (argsL := [.long (xb_l h7 x0 9), .int (xb_i h7 x0 10)]) (rest := []) rfl rfl (by rw [hb]; exact (xb_d D_Exact_sum 108 rfl))) (ok_Exact_add l hfl D A σ x0 (xb_l h7 x0 9) (xb_i h7 x0 10) h7 _ hw) (hml.trans hl.1.symm) (by rw [hb]; exact (xb_d D_Exact_sum 108 rfl)) (Nat.le_of_ble_eq_true rfl) (Nat.le_of_ble_eq_true rfl) (Nat.le_of_ble_eq_true rfl) (show k + 0 ≤ MC by omega) (show n + 0 ≤ MS by omega) (xt_w1 hB.1 m_59b46d39) (xt_cdOf hB.1 m_59b46d39) (hts _ m_b807310b) hB hR hS hA (fun vv h10 H locs hq hEh10 hR hS => ?_) (fun XX ax h10 H locs hq hEh10 hex hR hS => ?_)
          · obtain ⟨rfl, hw⟩ := hq
            have hw := hw hEh10
            have hE := hE.tr hEh10
            refine W.eq (g2 := F0 m 207 ls []) rfl ?_
            refine lv_aload_n hx hb (xb_d D_Exact_sum 109 rfl) rfl (lv_at hl 1 rfl) ?_
            refine lv_lload hx hb (xb_d D_Exact_sum 110 rfl) (lv_at hl 5 rfl) ?_
            have hk1 : xb_k h10 x0 = 10 := hEh10.k hk1
            refine xb_call (D := D) (A := A) (σ := σ) (h := h10) (d := 3) (mc := 0) (ms := 0) (maxL := 7) (rest := []) (av := [.ref x0, .long x8]) (fun T hT X => by obtain ⟨cb, r1, r2, r3⟩ := xb_recv (ci := 9) hR rfl hk1 (by decide); exact xt_invV X hx hown (hts _ m_26946ca5) (hts _ m_c8f41404) (hts _ m_e3ba6af7) (xt_sigOf (hts _ m_921646f3)) nm_Exact_split (by rw [hT]; exact r1) r2 r3 (g := F0 m 210 ls [.long x8, .ref x0]) rfl (argsL := [.long x8]) (rest := []) rfl rfl (by rw [hb]; exact (xb_d D_Exact_sum 111 rfl))) (ok_Exact_split l hfl D A σ x0 x8 h10 _ hw) (hml.trans hl.1.symm) (by rw [hb]; exact (xb_d D_Exact_sum 111 rfl)) (Nat.le_of_ble_eq_true rfl) (Nat.le_of_ble_eq_true rfl) (Nat.le_of_ble_eq_true rfl) (show k + 0 ≤ MC by omega) (show n + 0 ≤ MS by omega) (xt_w1 hB.1 m_921646f3) (xt_cdOf hB.1 m_921646f3) (hts _ m_b807310b) hB hR hS hA (fun vv h12 H locs hq hEh12 hR hS => ?_) (fun XX ax h12 H locs hq hEh12 hex hR hS => ?_)
            · obtain ⟨rfl, hw⟩ := hq
              have hw := hw hEh12
              have hE := hE.tr hEh12
              refine W.eq (g2 := F0 m 213 ls []) rfl ?_
              refine lv_iload hx hb (xb_d D_Exact_sum 112 rfl) (lv_at hl 6 rfl) ?_
              refine lv_if_eq (tgt := 233) hx hb (xb_d D_Exact_sum 113 rfl) rfl (fun hc14 => ?_) (fun hc14 => ?_)
              · have hw := hw.1 hc14
                refine lv_aload_n hx hb (xb_d D_Exact_sum 121 rfl) rfl (lv_at hl 1 rfl) ?_
                refine lv_aload_n hx hb (xb_d D_Exact_sum 122 rfl) rfl (lv_at hl 1 rfl) ?_
                have hk1 : xb_k h12 x0 = 10 := hEh12.k hk1
                refine xb_getL (C := R_Exact) (T := F_Exact) (N := 11) hx hb 9 9 hts fin_Exact hown hR hk1 (by decide) rfl (by decide) rfl (hts _ m_183e6a18) (fun _ h9 => h9) (xb_d D_Exact_sum 123 rfl) ?_
                refine lv_aload_n hx hb (xb_d D_Exact_sum 124 rfl) rfl (lv_at hl 1 rfl) ?_
                refine xb_getI (C := R_Exact) (T := F_Exact) (N := 11) hx hb 9 10 hts fin_Exact hown hR hk1 (by decide) rfl (by decide) rfl (hts _ m_a62210ac) (fun _ h9 => h9) (xb_d D_Exact_sum 125 rfl) ?_
                refine xb_call (D := D) (A := A) (σ := σ) (h := h12) (d := 3) (mc := 0) (ms := 0) (maxL := 9) (rest := []) (av := [.ref x0, .long (xb_l h12 x0 9), .int (xb_i h12 x0 10)]) (fun T hT X => by obtain ⟨cb, r1, r2, r3⟩ := xb_recv (ci := 9) hR rfl hk1 (by decide); exact xt_invV X hx hown (hts _ m_547afbfb) (hts _ m_d4b837ea) (hts _ m_b818cb8b) (xt_sigOf (hts _ m_59b46d39)) nm_Exact_add (by rw [hT]; exact r1) r2 r3 (g := F0 m 242 ls [.int (xb_i h12 x0 10), .long (xb_l h12 x0 9), .ref x0]) rfl (argsL := [.long (xb_l h12 x0 9), .int (xb_i h12 x0 10)]) (rest := []) rfl rfl (by rw [hb]; exact (xb_d D_Exact_sum 126 rfl))) (ok_Exact_add l hfl D A σ x0 (xb_l h12 x0 9) (xb_i h12 x0 10) h12 _ hw) (hml.trans hl.1.symm) (by rw [hb]; exact (xb_d D_Exact_sum 126 rfl)) (Nat.le_of_ble_eq_true rfl) (Nat.le_of_ble_eq_true rfl) (Nat.le_of_ble_eq_true rfl) (show k + 0 ≤ MC by omega) (show n + 0 ≤ MS by omega) (xt_w1 hB.1 m_59b46d39) (xt_cdOf hB.1 m_59b46d39) (hts _ m_b807310b) hB hR hS hA (fun vv h15 H locs hq hEh15 hR hS => ?_) (fun XX ax h15 H locs hq hEh15 hex hR hS => ?_)
                · obtain ⟨rfl, hw⟩ := hq
                  have hw := hw hEh15
                  have hE := hE.tr hEh15
                  refine W.eq (g2 := F0 m 245 ls []) rfl ?_
                  exact am_Exact_sum_L245 l hfl D A σ MC MS h0 Qr x0 v9 h15 hw p e s m args below meth c hC H locs ls k n hE (lv_sub hl [1, 0] rfl) hR hS (by omega) (by omega)
                · exact False.elim hq
              · have hw := hw.2 hc14
                refine lv_aload_n hx hb (xb_d D_Exact_sum 114 rfl) rfl (lv_at hl 1 rfl) ?_
                refine lv_aload_n hx hb (xb_d D_Exact_sum 115 rfl) rfl (lv_at hl 1 rfl) ?_
                have hk1 : xb_k h12 x0 = 10 := hEh12.k hk1
                refine xb_getL (C := R_Exact) (T := F_Exact) (N := 11) hx hb 9 9 hts fin_Exact hown hR hk1 (by decide) rfl (by decide) rfl (hts _ m_183e6a18) (fun _ h9 => h9) (xb_d D_Exact_sum 116 rfl) ?_
                refine lv_aload_n hx hb (xb_d D_Exact_sum 117 rfl) rfl (lv_at hl 1 rfl) ?_
                refine xb_getI (C := R_Exact) (T := F_Exact) (N := 11) hx hb 9 10 hts fin_Exact hown hR hk1 (by decide) rfl (by decide) rfl (hts _ m_a62210ac) (fun _ h9 => h9) (xb_d D_Exact_sum 118 rfl) ?_
                refine xb_call (D := D) (A := A) (σ := σ) (h := h12) (d := 3) (mc := 0) (ms := 0) (maxL := 9) (rest := []) (av := [.ref x0, .long (xb_l h12 x0 9), .int (xb_i h12 x0 10)]) (fun T hT X => by obtain ⟨cb, r1, r2, r3⟩ := xb_recv (ci := 9) hR rfl hk1 (by decide); exact xt_invV X hx hown (hts _ m_68178929) (hts _ m_04538489) (hts _ m_d01df5e4) (xt_sigOf (hts _ m_ae7ee52c)) nm_Exact_take (by rw [hT]; exact r1) r2 r3 (g := F0 m 227 ls [.int (xb_i h12 x0 10), .long (xb_l h12 x0 9), .ref x0]) rfl (argsL := [.long (xb_l h12 x0 9), .int (xb_i h12 x0 10)]) (rest := []) rfl rfl (by rw [hb]; exact (xb_d D_Exact_sum 119 rfl))) (ok_Exact_take l hfl D A σ x0 (xb_l h12 x0 9) (xb_i h12 x0 10) h12 _ hw) (hml.trans hl.1.symm) (by rw [hb]; exact (xb_d D_Exact_sum 119 rfl)) (Nat.le_of_ble_eq_true rfl) (Nat.le_of_ble_eq_true rfl) (Nat.le_of_ble_eq_true rfl) (show k + 0 ≤ MC by omega) (show n + 0 ≤ MS by omega) (xt_w1 hB.1 m_ae7ee52c) (xt_cdOf hB.1 m_ae7ee52c) (hts _ m_b807310b) hB hR hS hA (fun vv h17 H locs hq hEh17 hR hS => ?_) (fun XX ax h17 H locs hq hEh17 hex hR hS => ?_)
                · obtain ⟨rfl, hw⟩ := hq
                  have hw := hw hEh17
                  have hE := hE.tr hEh17
                  refine W.eq (g2 := F0 m 230 ls []) rfl ?_
                  refine lv_goto (tgt := 245) hx hb (xb_d D_Exact_sum 120 rfl) rfl ?_
                  exact am_Exact_sum_L245 l hfl D A σ MC MS h0 Qr x0 v9 h17 hw p e s m args below meth c hC H locs ls k n hE (lv_sub hl [1, 0] rfl) hR hS (by omega) (by omega)
                · exact False.elim hq
            · exact False.elim hq
          · exact False.elim hq
        · exact False.elim hq
      · exact False.elim hq
    · have hw := hw.2 hc4
      exact am_Exact_sum_L152 l hfl D A σ MC MS h0 Qr x0 x1 x3 h2 hw p e s m args below meth c hC H locs ls k n hE (lv_sub hl [0, 1, 2] rfl) hR hS (by omega) (by omega)
  · exact False.elim hq

set_option maxHeartbeats 4000000 in
set_option maxRecDepth 100000 in
theorem am_Exact_sum_L122 (l : Launch) (hfl : l.flags = pinnedFlags ++ [noTraceFlag]) (D : va_G) (A : Nat → Prop) (σ MC MS : Nat) (h0 : xb_H) (Qr : Int64 → xb_H → Prop) (x0 : Nat) (x1 : Int64) (x3 : Int64) (x6 : Int64) (x8 : Int64) (y0 : Int32) (h : xb_H) (hw : w_Exact_sum_L122 Qr x0 x1 x3 x6 x8 y0 h) : xb_am l D A σ 5 MC MS h0 (fun v h => ∃ r, v = some (.long r) ∧ Qr r h) (fun _ _ => False) y_Exact_sum.cls y_Exact_sum.name b_Exact_sum 12 ([] : List ExceptionTableEntry) (some .long) 122 [(0, .ref x0), (1, .long x1), (3, .long x3), (6, .long x6), (8, .long x8)] [.int y0] h 0 0 := by
  unfold w_Exact_sum_L122 at hw
  intro p e s m args below meth c hC H locs ls k n hE hl hR hS hk hn
  obtain ⟨hx, hb, hown, hlocks, htab, hml, hr, hB, hA, hnm⟩ := id hC
  have hts := hB.1.1.at args
  refine lv_istore hx hb (xb_d D_Exact_sum 65 rfl) hl (by decide) rfl (fun ls hl => ?_)
  have hl : lv_has ls 12 [(10, .int y0), (0, .ref x0), (1, .long x1), (3, .long x3), (6, .long x6), (8, .long x8)] := hl
  refine lv_aload_n hx hb (xb_d D_Exact_sum 66 rfl) rfl (lv_at hl 1 rfl) ?_
  refine lv_lload_n hx hb (xb_d D_Exact_sum 67 rfl) rfl (lv_at hl 2 rfl) ?_
  obtain ⟨hk1, hw⟩ := hw
  refine xb_call (D := D) (A := A) (σ := σ) (h := h) (d := 2) (mc := 0) (ms := 0) (maxL := 3) (rest := []) (av := [.ref x0, .long x1]) (fun T hT X => by obtain ⟨cb, r1, r2, r3⟩ := xb_recv (ci := 9) hR rfl hk1 (by decide); exact xt_invV X hx hown (hts _ m_4c81fbb0) (hts _ m_fb12fd6e) (hts _ m_e5146b3f) (xt_sigOf (hts _ m_7f30805a)) nm_Exact_size (by rw [hT]; exact r1) r2 r3 (g := F0 m 126 ls [.long x1, .ref x0]) rfl (argsL := [.long x1]) (rest := []) rfl rfl (by rw [hb]; exact (xb_d D_Exact_sum 68 rfl))) (ok_Exact_size l hfl D A σ x0 x1 h _ hw) (hml.trans hl.1.symm) (by rw [hb]; exact (xb_d D_Exact_sum 68 rfl)) (Nat.le_of_ble_eq_true rfl) (Nat.le_of_ble_eq_true rfl) (Nat.le_of_ble_eq_true rfl) (show k + 0 ≤ MC by omega) (show n + 0 ≤ MS by omega) (xt_w1 hB.1 m_7f30805a) (xt_cdOf hB.1 m_7f30805a) (hts _ m_b807310b) hB hR hS hA (fun vv h2 H locs hq hEh2 hR hS => ?_) (fun XX ax h2 H locs hq hEh2 hex hR hS => ?_)
  · obtain ⟨r3, rfl, hw⟩ := hq
    have hw := hw hEh2
    have hE := hE.tr hEh2
    refine W.eq (g2 := F0 m 129 ls [.long r3]) rfl ?_
    refine lv_aload_n hx hb (xb_d D_Exact_sum 69 rfl) rfl (lv_at hl 1 rfl) ?_
    refine lv_lload_n hx hb (xb_d D_Exact_sum 70 rfl) rfl (lv_at hl 3 rfl) ?_
    have hk1 : xb_k h2 x0 = 10 := hEh2.k hk1
    refine xb_call (D := D) (A := A) (σ := σ) (h := h2) (d := 2) (mc := 0) (ms := 0) (maxL := 3) (rest := [.long r3]) (av := [.ref x0, .long x3]) (fun T hT X => by obtain ⟨cb, r1, r2, r3⟩ := xb_recv (ci := 9) hR rfl hk1 (by decide); exact xt_invV X hx hown (hts _ m_4c81fbb0) (hts _ m_fb12fd6e) (hts _ m_e5146b3f) (xt_sigOf (hts _ m_7f30805a)) nm_Exact_size (by rw [hT]; exact r1) r2 r3 (g := F0 m 131 ls [.long x3, .ref x0, .long r3]) rfl (argsL := [.long x3]) (rest := [.long r3]) rfl rfl (by rw [hb]; exact (xb_d D_Exact_sum 71 rfl))) (ok_Exact_size l hfl D A σ x0 x3 h2 _ hw) (hml.trans hl.1.symm) (by rw [hb]; exact (xb_d D_Exact_sum 71 rfl)) (Nat.le_of_ble_eq_true rfl) (Nat.le_of_ble_eq_true rfl) (Nat.le_of_ble_eq_true rfl) (show k + 0 ≤ MC by omega) (show n + 0 ≤ MS by omega) (xt_w1 hB.1 m_7f30805a) (xt_cdOf hB.1 m_7f30805a) (hts _ m_b807310b) hB hR hS hA (fun vv h4 H locs hq hEh4 hR hS => ?_) (fun XX ax h4 H locs hq hEh4 hex hR hS => ?_)
    · obtain ⟨r5, rfl, hw⟩ := hq
      have hw := hw hEh4
      have hE := hE.tr hEh4
      refine W.eq (g2 := F0 m 134 ls [.long r5, .long r3]) rfl ?_
      refine xb_lc_ne (tgt := 143) hx hb (xb_d D_Exact_sum 72 rfl) (xb_d D_Exact_sum 73 rfl) rfl (fun hc6 => ?_) (fun hc6 => ?_)
      · have hw := hw.1 hc6
        exact am_Exact_sum_L143 l hfl D A σ MC MS h0 Qr x0 x1 x3 x6 x8 y0 h4 hw p e s m args below meth c hC H locs ls k n hE (lv_sub hl [1, 2, 3, 4, 5, 0] rfl) hR hS (by omega) (by omega)
      · have hw := hw.2 hc6
        refine lv_iload hx hb (xb_d D_Exact_sum 74 rfl) (lv_at hl 0 rfl) ?_
        refine lv_if_ne (tgt := 152) hx hb (xb_d D_Exact_sum 75 rfl) rfl (fun hc7 => ?_) (fun hc7 => ?_)
        · have hw := hw.1 hc7
          exact am_Exact_sum_L152 l hfl D A σ MC MS h0 Qr x0 x1 x3 h4 hw p e s m args below meth c hC H locs ls k n hE (lv_sub hl [1, 2, 3] rfl) hR hS (by omega) (by omega)
        · have hw := hw.2 hc7
          exact am_Exact_sum_L143 l hfl D A σ MC MS h0 Qr x0 x1 x3 x6 x8 y0 h4 hw p e s m args below meth c hC H locs ls k n hE (lv_sub hl [1, 2, 3, 4, 5, 0] rfl) hR hS (by omega) (by omega)
    · exact False.elim hq
  · exact False.elim hq

set_option maxHeartbeats 4000000 in
set_option maxRecDepth 100000 in
theorem am_Exact_sum_L102 (l : Launch) (hfl : l.flags = pinnedFlags ++ [noTraceFlag]) (D : va_G) (A : Nat → Prop) (σ MC MS : Nat) (h0 : xb_H) (Qr : Int64 → xb_H → Prop) (x0 : Nat) (x1 : Int64) (x3 : Int64) (x6 : Int64) (y0 : Int64) (h : xb_H) (hw : w_Exact_sum_L102 Qr x0 x1 x3 x6 y0 h) : xb_am l D A σ 5 MC MS h0 (fun v h => ∃ r, v = some (.long r) ∧ Qr r h) (fun _ _ => False) y_Exact_sum.cls y_Exact_sum.name b_Exact_sum 12 ([] : List ExceptionTableEntry) (some .long) 102 [(0, .ref x0), (1, .long x1), (3, .long x3), (6, .long x6)] [.long y0] h 0 0 := by
  unfold w_Exact_sum_L102 at hw
  intro p e s m args below meth c hC H locs ls k n hE hl hR hS hk hn
  obtain ⟨hx, hb, hown, hlocks, htab, hml, hr, hB, hA, hnm⟩ := id hC
  have hts := hB.1.1.at args
  refine lv_lstore hx hb (xb_d D_Exact_sum 54 rfl) hl (by decide) rfl (fun ls hl => ?_)
  have hl : lv_has ls 12 [(8, .long y0), (0, .ref x0), (1, .long x1), (3, .long x3), (6, .long x6)] := hl
  refine lv_aload_n hx hb (xb_d D_Exact_sum 55 rfl) rfl (lv_at hl 1 rfl) ?_
  refine lv_lload_n hx hb (xb_d D_Exact_sum 56 rfl) rfl (lv_at hl 2 rfl) ?_
  obtain ⟨hk1, hw⟩ := hw
  refine xb_call (D := D) (A := A) (σ := σ) (h := h) (d := 2) (mc := 0) (ms := 0) (maxL := 3) (rest := []) (av := [.ref x0, .long x1]) (fun T hT X => by obtain ⟨cb, r1, r2, r3⟩ := xb_recv (ci := 9) hR rfl hk1 (by decide); exact xt_invV X hx hown (hts _ m_de267fc4) (hts _ m_8cf2fba2) (hts _ m_e2188cdf) (xt_sigOf (hts _ m_25d2fde1)) nm_Exact_isMinus (by rw [hT]; exact r1) r2 r3 (g := F0 m 106 ls [.long x1, .ref x0]) rfl (argsL := [.long x1]) (rest := []) rfl rfl (by rw [hb]; exact (xb_d D_Exact_sum 57 rfl))) (ok_Exact_isMinus l hfl D A σ x0 x1 h _ hw) (hml.trans hl.1.symm) (by rw [hb]; exact (xb_d D_Exact_sum 57 rfl)) (Nat.le_of_ble_eq_true rfl) (Nat.le_of_ble_eq_true rfl) (Nat.le_of_ble_eq_true rfl) (show k + 0 ≤ MC by omega) (show n + 0 ≤ MS by omega) (xt_w1 hB.1 m_25d2fde1) (xt_cdOf hB.1 m_25d2fde1) (hts _ m_b807310b) hB hR hS hA (fun vv h2 H locs hq hEh2 hR hS => ?_) (fun XX ax h2 H locs hq hEh2 hex hR hS => ?_)
  · obtain ⟨r3, rfl, hw⟩ := hq
    have hw := hw hEh2
    have hE := hE.tr hEh2
    refine W.eq (g2 := F0 m 109 ls [.int r3]) rfl ?_
    refine lv_aload_n hx hb (xb_d D_Exact_sum 58 rfl) rfl (lv_at hl 1 rfl) ?_
    refine lv_lload_n hx hb (xb_d D_Exact_sum 59 rfl) rfl (lv_at hl 3 rfl) ?_
    have hk1 : xb_k h2 x0 = 10 := hEh2.k hk1
    refine xb_call (D := D) (A := A) (σ := σ) (h := h2) (d := 2) (mc := 0) (ms := 0) (maxL := 3) (rest := [.int r3]) (av := [.ref x0, .long x3]) (fun T hT X => by obtain ⟨cb, r1, r2, r3⟩ := xb_recv (ci := 9) hR rfl hk1 (by decide); exact xt_invV X hx hown (hts _ m_de267fc4) (hts _ m_8cf2fba2) (hts _ m_e2188cdf) (xt_sigOf (hts _ m_25d2fde1)) nm_Exact_isMinus (by rw [hT]; exact r1) r2 r3 (g := F0 m 111 ls [.long x3, .ref x0, .int r3]) rfl (argsL := [.long x3]) (rest := [.int r3]) rfl rfl (by rw [hb]; exact (xb_d D_Exact_sum 60 rfl))) (ok_Exact_isMinus l hfl D A σ x0 x3 h2 _ hw) (hml.trans hl.1.symm) (by rw [hb]; exact (xb_d D_Exact_sum 60 rfl)) (Nat.le_of_ble_eq_true rfl) (Nat.le_of_ble_eq_true rfl) (Nat.le_of_ble_eq_true rfl) (show k + 0 ≤ MC by omega) (show n + 0 ≤ MS by omega) (xt_w1 hB.1 m_25d2fde1) (xt_cdOf hB.1 m_25d2fde1) (hts _ m_b807310b) hB hR hS hA (fun vv h4 H locs hq hEh4 hR hS => ?_) (fun XX ax h4 H locs hq hEh4 hex hR hS => ?_)
    · obtain ⟨r5, rfl, hw⟩ := hq
      have hw := hw hEh4
      have hE := hE.tr hEh4
      refine W.eq (g2 := F0 m 114 ls [.int r5, .int r3]) rfl ?_
      refine lv_icmp_eq (tgt := 121) hx hb (xb_d D_Exact_sum 61 rfl) rfl (fun hc6 => ?_) (fun hc6 => ?_)
      · have hw := hw.1 hc6
        refine lv_iconst (v := 0) hx hb (xb_d D_Exact_sum 64 rfl) (by decide) ?_
        exact am_Exact_sum_L122 l hfl D A σ MC MS h0 Qr x0 x1 x3 x6 y0 0 h4 hw p e s m args below meth c hC H locs ls k n hE (lv_sub hl [1, 2, 3, 4, 0] rfl) hR hS (by omega) (by omega)
      · have hw := hw.2 hc6
        refine lv_iconst (v := 1) hx hb (xb_d D_Exact_sum 62 rfl) (by decide) ?_
        refine lv_goto (tgt := 122) hx hb (xb_d D_Exact_sum 63 rfl) rfl ?_
        exact am_Exact_sum_L122 l hfl D A σ MC MS h0 Qr x0 x1 x3 x6 y0 1 h4 hw p e s m args below meth c hC H locs ls k n hE (lv_sub hl [1, 2, 3, 4, 0] rfl) hR hS (by omega) (by omega)
    · exact False.elim hq
  · exact False.elim hq

set_option maxHeartbeats 4000000 in
set_option maxRecDepth 100000 in
theorem am_Exact_sum_L90 (l : Launch) (hfl : l.flags = pinnedFlags ++ [noTraceFlag]) (D : va_G) (A : Nat → Prop) (σ MC MS : Nat) (h0 : xb_H) (Qr : Int64 → xb_H → Prop) (x0 : Nat) (x1 : Int64) (x3 : Int64) (x5 : Int32) (y0 : Int64) (h : xb_H) (hw : w_Exact_sum_L90 Qr x0 x1 x3 x5 y0 h) : xb_am l D A σ 5 MC MS h0 (fun v h => ∃ r, v = some (.long r) ∧ Qr r h) (fun _ _ => False) y_Exact_sum.cls y_Exact_sum.name b_Exact_sum 12 ([] : List ExceptionTableEntry) (some .long) 90 [(0, .ref x0), (1, .long x1), (3, .long x3), (5, .int x5)] [.long y0] h 0 0 := by
  unfold w_Exact_sum_L90 at hw
  intro p e s m args below meth c hC H locs ls k n hE hl hR hS hk hn
  obtain ⟨hx, hb, hown, hlocks, htab, hml, hr, hB, hA, hnm⟩ := id hC
  have hts := hB.1.1.at args
  refine lv_lstore hx hb (xb_d D_Exact_sum 48 rfl) hl (by decide) rfl (fun ls hl => ?_)
  have hl : lv_has ls 12 [(6, .long y0), (0, .ref x0), (1, .long x1), (3, .long x3), (5, .int x5)] := hl
  refine lv_iload hx hb (xb_d D_Exact_sum 49 rfl) (lv_at hl 4 rfl) ?_
  refine lv_if_eq (tgt := 101) hx hb (xb_d D_Exact_sum 50 rfl) rfl (fun hc1 => ?_) (fun hc1 => ?_)
  · have hw := hw.1 hc1
    refine lv_lload_n hx hb (xb_d D_Exact_sum 53 rfl) rfl (lv_at hl 3 rfl) ?_
    exact am_Exact_sum_L102 l hfl D A σ MC MS h0 Qr x0 x1 x3 y0 x3 h hw p e s m args below meth c hC H locs ls k n hE (lv_sub hl [1, 2, 3, 0] rfl) hR hS (by omega) (by omega)
  · have hw := hw.2 hc1
    refine lv_lload_n hx hb (xb_d D_Exact_sum 51 rfl) rfl (lv_at hl 2 rfl) ?_
    refine lv_goto (tgt := 102) hx hb (xb_d D_Exact_sum 52 rfl) rfl ?_
    exact am_Exact_sum_L102 l hfl D A σ MC MS h0 Qr x0 x1 x3 y0 x1 h hw p e s m args below meth c hC H locs ls k n hE (lv_sub hl [1, 2, 3, 0] rfl) hR hS (by omega) (by omega)

set_option maxHeartbeats 4000000 in
set_option maxRecDepth 100000 in
theorem am_Exact_sum_L78 (l : Launch) (hfl : l.flags = pinnedFlags ++ [noTraceFlag]) (D : va_G) (A : Nat → Prop) (σ MC MS : Nat) (h0 : xb_H) (Qr : Int64 → xb_H → Prop) (x0 : Nat) (x1 : Int64) (x3 : Int64) (y0 : Int32) (h : xb_H) (hw : w_Exact_sum_L78 Qr x0 x1 x3 y0 h) : xb_am l D A σ 5 MC MS h0 (fun v h => ∃ r, v = some (.long r) ∧ Qr r h) (fun _ _ => False) y_Exact_sum.cls y_Exact_sum.name b_Exact_sum 12 ([] : List ExceptionTableEntry) (some .long) 78 [(0, .ref x0), (1, .long x1), (3, .long x3)] [.int y0] h 0 0 := by
  unfold w_Exact_sum_L78 at hw
  intro p e s m args below meth c hC H locs ls k n hE hl hR hS hk hn
  obtain ⟨hx, hb, hown, hlocks, htab, hml, hr, hB, hA, hnm⟩ := id hC
  have hts := hB.1.1.at args
  refine lv_istore hx hb (xb_d D_Exact_sum 42 rfl) hl (by decide) rfl (fun ls hl => ?_)
  have hl : lv_has ls 12 [(5, .int y0), (0, .ref x0), (1, .long x1), (3, .long x3)] := hl
  refine lv_iload hx hb (xb_d D_Exact_sum 43 rfl) (lv_at hl 0 rfl) ?_
  refine lv_if_eq (tgt := 89) hx hb (xb_d D_Exact_sum 44 rfl) rfl (fun hc1 => ?_) (fun hc1 => ?_)
  · have hw := hw.1 hc1
    refine lv_lload_n hx hb (xb_d D_Exact_sum 47 rfl) rfl (lv_at hl 2 rfl) ?_
    exact am_Exact_sum_L90 l hfl D A σ MC MS h0 Qr x0 x1 x3 y0 x1 h hw p e s m args below meth c hC H locs ls k n hE (lv_sub hl [1, 2, 3, 0] rfl) hR hS (by omega) (by omega)
  · have hw := hw.2 hc1
    refine lv_lload_n hx hb (xb_d D_Exact_sum 45 rfl) rfl (lv_at hl 3 rfl) ?_
    refine lv_goto (tgt := 90) hx hb (xb_d D_Exact_sum 46 rfl) rfl ?_
    exact am_Exact_sum_L90 l hfl D A σ MC MS h0 Qr x0 x1 x3 y0 x3 h hw p e s m args below meth c hC H locs ls k n hE (lv_sub hl [1, 2, 3, 0] rfl) hR hS (by omega) (by omega)

set_option maxHeartbeats 4000000 in
set_option maxRecDepth 100000 in
theorem am_Exact_sum_L58 (l : Launch) (hfl : l.flags = pinnedFlags ++ [noTraceFlag]) (D : va_G) (A : Nat → Prop) (σ MC MS : Nat) (h0 : xb_H) (Qr : Int64 → xb_H → Prop) (y0 : Int64) (h : xb_H) (hw : w_Exact_sum_L58 Qr y0 h) : xb_am l D A σ 5 MC MS h0 (fun v h => ∃ r, v = some (.long r) ∧ Qr r h) (fun _ _ => False) y_Exact_sum.cls y_Exact_sum.name b_Exact_sum 12 ([] : List ExceptionTableEntry) (some .long) 58 [] [.long y0] h 0 0 := by
  unfold w_Exact_sum_L58 at hw
  intro p e s m args below meth c hC H locs ls k n hE hl hR hS hk hn
  obtain ⟨hx, hb, hown, hlocks, htab, hml, hr, hB, hA, hnm⟩ := id hC
  have hts := hB.1.1.at args
  exact xb_lret hx hb hr hlocks (show k ≤ MC by omega) (show n ≤ MS by omega) hE hR hS (xb_d D_Exact_sum 30 rfl) hw

set_option maxHeartbeats 4000000 in
set_option maxRecDepth 100000 in
theorem am_Exact_sum_L45 (l : Launch) (hfl : l.flags = pinnedFlags ++ [noTraceFlag]) (D : va_G) (A : Nat → Prop) (σ MC MS : Nat) (h0 : xb_H) (Qr : Int64 → xb_H → Prop) (x0 : Nat) (x1 : Int64) (x3 : Int64) (h : xb_H) (hw : w_Exact_sum_L45 Qr x0 x1 x3 h) : xb_am l D A σ 5 MC MS h0 (fun v h => ∃ r, v = some (.long r) ∧ Qr r h) (fun _ _ => False) y_Exact_sum.cls y_Exact_sum.name b_Exact_sum 12 ([] : List ExceptionTableEntry) (some .long) 45 [(0, .ref x0), (1, .long x1), (3, .long x3)] [] h 0 0 := by
  unfold w_Exact_sum_L45 at hw
  intro p e s m args below meth c hC H locs ls k n hE hl hR hS hk hn
  obtain ⟨hx, hb, hown, hlocks, htab, hml, hr, hB, hA, hnm⟩ := id hC
  have hts := hB.1.1.at args
  refine lv_aload_n hx hb (xb_d D_Exact_sum 23 rfl) rfl (lv_at hl 0 rfl) ?_
  refine lv_lload_n hx hb (xb_d D_Exact_sum 24 rfl) rfl (lv_at hl 1 rfl) ?_
  obtain ⟨hk1, hw⟩ := hw
  refine xb_call (D := D) (A := A) (σ := σ) (h := h) (d := 4) (mc := 0) (ms := 0) (maxL := 3) (rest := []) (av := [.ref x0, .long x1]) (fun T hT X => by obtain ⟨cb, r1, r2, r3⟩ := xb_recv (ci := 9) hR rfl hk1 (by decide); exact xt_invV X hx hown (hts _ m_4d51455e) (hts _ m_6f0f72ed) (hts _ m_54335684) (xt_sigOf (hts _ m_c0f31264)) nm_Exact_isInfinite (by rw [hT]; exact r1) r2 r3 (g := F0 m 47 ls [.long x1, .ref x0]) rfl (argsL := [.long x1]) (rest := []) rfl rfl (by rw [hb]; exact (xb_d D_Exact_sum 25 rfl))) (ok_Exact_isInfinite l hfl D A σ x0 x1 h _ hw) (hml.trans hl.1.symm) (by rw [hb]; exact (xb_d D_Exact_sum 25 rfl)) (Nat.le_of_ble_eq_true rfl) (Nat.le_of_ble_eq_true rfl) (Nat.le_of_ble_eq_true rfl) (show k + 0 ≤ MC by omega) (show n + 0 ≤ MS by omega) (xt_w1 hB.1 m_c0f31264) (xt_cdOf hB.1 m_c0f31264) (hts _ m_b807310b) hB hR hS hA (fun vv h2 H locs hq hEh2 hR hS => ?_) (fun XX ax h2 H locs hq hEh2 hex hR hS => ?_)
  · obtain ⟨r3, rfl, hw⟩ := hq
    have hw := hw hEh2
    have hE := hE.tr hEh2
    refine W.eq (g2 := F0 m 50 ls [.int r3]) rfl ?_
    refine lv_if_eq (tgt := 57) hx hb (xb_d D_Exact_sum 26 rfl) rfl (fun hc4 => ?_) (fun hc4 => ?_)
    · have hw := hw.1 hc4
      refine lv_lload_n hx hb (xb_d D_Exact_sum 29 rfl) rfl (lv_at hl 2 rfl) ?_
      exact am_Exact_sum_L58 l hfl D A σ MC MS h0 Qr x3 h2 hw p e s m args below meth c hC H locs ls k n hE (lv_sub hl [] rfl) hR hS (by omega) (by omega)
    · have hw := hw.2 hc4
      refine lv_lload_n hx hb (xb_d D_Exact_sum 27 rfl) rfl (lv_at hl 1 rfl) ?_
      refine lv_goto (tgt := 58) hx hb (xb_d D_Exact_sum 28 rfl) rfl ?_
      exact am_Exact_sum_L58 l hfl D A σ MC MS h0 Qr x1 h2 hw p e s m args below meth c hC H locs ls k n hE (lv_sub hl [] rfl) hR hS (by omega) (by omega)
  · exact False.elim hq

set_option maxHeartbeats 4000000 in
set_option maxRecDepth 100000 in
theorem am_Exact_sum_L16 (l : Launch) (hfl : l.flags = pinnedFlags ++ [noTraceFlag]) (D : va_G) (A : Nat → Prop) (σ MC MS : Nat) (h0 : xb_H) (Qr : Int64 → xb_H → Prop) (x0 : Nat) (x1 : Int64) (x3 : Int64) (h : xb_H) (hw : w_Exact_sum_L16 Qr x0 x1 x3 h) : xb_am l D A σ 5 MC MS h0 (fun v h => ∃ r, v = some (.long r) ∧ Qr r h) (fun _ _ => False) y_Exact_sum.cls y_Exact_sum.name b_Exact_sum 12 ([] : List ExceptionTableEntry) (some .long) 16 [(0, .ref x0), (1, .long x1), (3, .long x3)] [] h 0 0 := by
  unfold w_Exact_sum_L16 at hw
  intro p e s m args below meth c hC H locs ls k n hE hl hR hS hk hn
  obtain ⟨hx, hb, hown, hlocks, htab, hml, hr, hB, hA, hnm⟩ := id hC
  have hts := hB.1.1.at args
  refine lv_aload_n hx hb (xb_d D_Exact_sum 8 rfl) rfl (lv_at hl 0 rfl) ?_
  refine lv_lload_n hx hb (xb_d D_Exact_sum 9 rfl) rfl (lv_at hl 1 rfl) ?_
  obtain ⟨hk1, hw⟩ := hw
  refine xb_call (D := D) (A := A) (σ := σ) (h := h) (d := 4) (mc := 0) (ms := 0) (maxL := 3) (rest := []) (av := [.ref x0, .long x1]) (fun T hT X => by obtain ⟨cb, r1, r2, r3⟩ := xb_recv (ci := 9) hR rfl hk1 (by decide); exact xt_invV X hx hown (hts _ m_4d51455e) (hts _ m_6f0f72ed) (hts _ m_54335684) (xt_sigOf (hts _ m_c0f31264)) nm_Exact_isInfinite (by rw [hT]; exact r1) r2 r3 (g := F0 m 18 ls [.long x1, .ref x0]) rfl (argsL := [.long x1]) (rest := []) rfl rfl (by rw [hb]; exact (xb_d D_Exact_sum 10 rfl))) (ok_Exact_isInfinite l hfl D A σ x0 x1 h _ hw) (hml.trans hl.1.symm) (by rw [hb]; exact (xb_d D_Exact_sum 10 rfl)) (Nat.le_of_ble_eq_true rfl) (Nat.le_of_ble_eq_true rfl) (Nat.le_of_ble_eq_true rfl) (show k + 0 ≤ MC by omega) (show n + 0 ≤ MS by omega) (xt_w1 hB.1 m_c0f31264) (xt_cdOf hB.1 m_c0f31264) (hts _ m_b807310b) hB hR hS hA (fun vv h2 H locs hq hEh2 hR hS => ?_) (fun XX ax h2 H locs hq hEh2 hex hR hS => ?_)
  · obtain ⟨r3, rfl, hw⟩ := hq
    have hw := hw hEh2
    have hE := hE.tr hEh2
    refine W.eq (g2 := F0 m 21 ls [.int r3]) rfl ?_
    refine lv_if_eq (tgt := 45) hx hb (xb_d D_Exact_sum 11 rfl) rfl (fun hc4 => ?_) (fun hc4 => ?_)
    · have hw := hw.1 hc4
      exact am_Exact_sum_L45 l hfl D A σ MC MS h0 Qr x0 x1 x3 h2 hw p e s m args below meth c hC H locs ls k n hE (lv_sub hl [0, 1, 2] rfl) hR hS (by omega) (by omega)
    · have hw := hw.2 hc4
      refine lv_aload_n hx hb (xb_d D_Exact_sum 12 rfl) rfl (lv_at hl 0 rfl) ?_
      refine lv_lload_n hx hb (xb_d D_Exact_sum 13 rfl) rfl (lv_at hl 2 rfl) ?_
      have hk1 : xb_k h2 x0 = 10 := hEh2.k hk1
      refine xb_call (D := D) (A := A) (σ := σ) (h := h2) (d := 4) (mc := 0) (ms := 0) (maxL := 3) (rest := []) (av := [.ref x0, .long x3]) (fun T hT X => by obtain ⟨cb, r1, r2, r3⟩ := xb_recv (ci := 9) hR rfl hk1 (by decide); exact xt_invV X hx hown (hts _ m_4d51455e) (hts _ m_6f0f72ed) (hts _ m_54335684) (xt_sigOf (hts _ m_c0f31264)) nm_Exact_isInfinite (by rw [hT]; exact r1) r2 r3 (g := F0 m 26 ls [.long x3, .ref x0]) rfl (argsL := [.long x3]) (rest := []) rfl rfl (by rw [hb]; exact (xb_d D_Exact_sum 14 rfl))) (ok_Exact_isInfinite l hfl D A σ x0 x3 h2 _ hw) (hml.trans hl.1.symm) (by rw [hb]; exact (xb_d D_Exact_sum 14 rfl)) (Nat.le_of_ble_eq_true rfl) (Nat.le_of_ble_eq_true rfl) (Nat.le_of_ble_eq_true rfl) (show k + 0 ≤ MC by omega) (show n + 0 ≤ MS by omega) (xt_w1 hB.1 m_c0f31264) (xt_cdOf hB.1 m_c0f31264) (hts _ m_b807310b) hB hR hS hA (fun vv h5 H locs hq hEh5 hR hS => ?_) (fun XX ax h5 H locs hq hEh5 hex hR hS => ?_)
      · obtain ⟨r6, rfl, hw⟩ := hq
        have hw := hw hEh5
        have hE := hE.tr hEh5
        refine W.eq (g2 := F0 m 29 ls [.int r6]) rfl ?_
        refine lv_if_eq (tgt := 45) hx hb (xb_d D_Exact_sum 15 rfl) rfl (fun hc7 => ?_) (fun hc7 => ?_)
        · have hw := hw.1 hc7
          exact am_Exact_sum_L45 l hfl D A σ MC MS h0 Qr x0 x1 x3 h5 hw p e s m args below meth c hC H locs ls k n hE (lv_sub hl [0, 1, 2] rfl) hR hS (by omega) (by omega)
        · have hw := hw.2 hc7
          refine lv_lload_n hx hb (xb_d D_Exact_sum 16 rfl) rfl (lv_at hl 1 rfl) ?_
          refine lv_lload_n hx hb (xb_d D_Exact_sum 17 rfl) rfl (lv_at hl 2 rfl) ?_
          refine xb_lc_eq (tgt := 45) hx hb (xb_d D_Exact_sum 18 rfl) (xb_d D_Exact_sum 19 rfl) rfl (fun hc8 => ?_) (fun hc8 => ?_)
          · have hw := hw.1 hc8
            exact am_Exact_sum_L45 l hfl D A σ MC MS h0 Qr x0 x1 x3 h5 hw p e s m args below meth c hC H locs ls k n hE (lv_sub hl [0, 1, 2] rfl) hR hS (by omega) (by omega)
          · have hw := hw.2 hc8
            refine lv_aload_n hx hb (xb_d D_Exact_sum 20 rfl) rfl (lv_at hl 0 rfl) ?_
            have hk1 : xb_k h5 x0 = 10 := hEh5.k hk1
            refine xb_call (D := D) (A := A) (σ := σ) (h := h5) (d := 2) (mc := 0) (ms := 0) (maxL := 1) (rest := []) (av := [.ref x0]) (fun T hT X => by obtain ⟨cb, r1, r2, r3⟩ := xb_recv (ci := 9) hR rfl hk1 (by decide); exact xt_invV X hx hown (hts _ m_3b77e327) (hts _ m_488d5ec7) (hts _ m_8dd38d5e) (xt_sigOf (hts _ m_291300c8)) nm_Exact_noNumber (by rw [hT]; exact r1) r2 r3 (g := F0 m 39 ls [.ref x0]) rfl (argsL := []) (rest := []) rfl rfl (by rw [hb]; exact (xb_d D_Exact_sum 21 rfl))) (ok_Exact_noNumber l hfl D A σ x0 h5 _ hw) (hml.trans hl.1.symm) (by rw [hb]; exact (xb_d D_Exact_sum 21 rfl)) (Nat.le_of_ble_eq_true rfl) (Nat.le_of_ble_eq_true rfl) (Nat.le_of_ble_eq_true rfl) (show k + 0 ≤ MC by omega) (show n + 0 ≤ MS by omega) (xt_w1 hB.1 m_291300c8) (xt_cdOf hB.1 m_291300c8) (hts _ m_b807310b) hB hR hS hA (fun vv h9 H locs hq hEh9 hR hS => ?_) (fun XX ax h9 H locs hq hEh9 hex hR hS => ?_)
            · obtain ⟨r10, rfl, hw⟩ := hq
              have hw := hw hEh9
              have hE := hE.tr hEh9
              refine W.eq (g2 := F0 m 42 ls [.long r10]) rfl ?_
              refine lv_goto (tgt := 58) hx hb (xb_d D_Exact_sum 22 rfl) rfl ?_
              exact am_Exact_sum_L58 l hfl D A σ MC MS h0 Qr r10 h9 hw p e s m args below meth c hC H locs ls k n hE (lv_sub hl [] rfl) hR hS (by omega) (by omega)
            · exact False.elim hq
      · exact False.elim hq
  · exact False.elim hq

set_option maxHeartbeats 4000000 in
set_option maxRecDepth 100000 in
theorem ok_Exact_sum (l : Launch) (hfl : l.flags = pinnedFlags ++ [noTraceFlag]) (D : va_G) (A : Nat → Prop) (σ : Nat) (x0 : Nat) (x1 : Int64) (x3 : Int64) (h : xb_H) (Qr : Int64 → xb_H → Prop) (hw : w_Exact_sum x0 x1 x3 h Qr) : xt_Met l y_Exact_sum [.code y_Exact_sum b_Exact_sum 12 (some .long)] (xb_rm 5 0 0) (xb_Pc D A σ h [.ref x0, .long x1, .long x3]) (xb_Qc D A h (fun v h => ∃ r, v = some (.long r) ∧ Qr r h) (fun _ _ => False)) 0 0 A := by
  refine xb_ofAm (cc := b_Exact_sum) (by decide) (Nat.le_of_ble_eq_true rfl) ?_
  unfold w_Exact_sum at hw
  show xb_am l D A σ 5 0 0 h (fun v h => ∃ r, v = some (.long r) ∧ Qr r h) (fun _ _ => False) y_Exact_sum.cls y_Exact_sum.name b_Exact_sum 12 ([] : List ExceptionTableEntry) (some .long) 0 [(0, .ref x0), (1, .long x1), (3, .long x3)] [] h 0 0
  obtain ⟨MC, hMC⟩ : ∃ x, x = 0 := ⟨_, rfl⟩
  obtain ⟨MS, hMS⟩ : ∃ x, x = 0 := ⟨_, rfl⟩
  rw [show xb_am l D A σ 5 0 0 = xb_am l D A σ 5 MC MS by rw [hMC, hMS]]
  obtain ⟨h0, hh0⟩ : ∃ x, x = h := ⟨_, rfl⟩
  rw [show xb_am l D A σ 5 MC MS h = xb_am l D A σ 5 MC MS h0 by rw [hh0]]
  intro p e s m args below meth c hC H locs ls k n hE hl hR hS hk hn
  obtain ⟨hx, hb, hown, hlocks, htab, hml, hr, hB, hA, hnm⟩ := id hC
  have hts := hB.1.1.at args
  refine lv_aload_n hx hb (xb_d D_Exact_sum 0 rfl) rfl (lv_at hl 0 rfl) ?_
  refine lv_lload_n hx hb (xb_d D_Exact_sum 1 rfl) rfl (lv_at hl 1 rfl) ?_
  obtain ⟨hk1, hw⟩ := hw
  refine xb_call (D := D) (A := A) (σ := σ) (h := h) (d := 4) (mc := 0) (ms := 0) (maxL := 3) (rest := []) (av := [.ref x0, .long x1]) (fun T hT X => by obtain ⟨cb, r1, r2, r3⟩ := xb_recv (ci := 9) hR rfl hk1 (by decide); exact xt_invV X hx hown (hts _ m_4d51455e) (hts _ m_6f0f72ed) (hts _ m_54335684) (xt_sigOf (hts _ m_c0f31264)) nm_Exact_isInfinite (by rw [hT]; exact r1) r2 r3 (g := F0 m 2 ls [.long x1, .ref x0]) rfl (argsL := [.long x1]) (rest := []) rfl rfl (by rw [hb]; exact (xb_d D_Exact_sum 2 rfl))) (ok_Exact_isInfinite l hfl D A σ x0 x1 h _ hw) (hml.trans hl.1.symm) (by rw [hb]; exact (xb_d D_Exact_sum 2 rfl)) (Nat.le_of_ble_eq_true rfl) (Nat.le_of_ble_eq_true rfl) (Nat.le_of_ble_eq_true rfl) (show k + 0 ≤ MC by omega) (show n + 0 ≤ MS by omega) (xt_w1 hB.1 m_c0f31264) (xt_cdOf hB.1 m_c0f31264) (hts _ m_b807310b) hB hR hS hA (fun vv h2 H locs hq hEh2 hR hS => ?_) (fun XX ax h2 H locs hq hEh2 hex hR hS => ?_)
  · obtain ⟨r3, rfl, hw⟩ := hq
    have hw := hw hEh2
    have hE := hE.tr hEh2
    refine W.eq (g2 := F0 m 5 ls [.int r3]) rfl ?_
    refine lv_if_ne (tgt := 16) hx hb (xb_d D_Exact_sum 3 rfl) rfl (fun hc4 => ?_) (fun hc4 => ?_)
    · have hw := hw.1 hc4
      exact am_Exact_sum_L16 l hfl D A σ MC MS h0 Qr x0 x1 x3 h2 hw p e s m args below meth c hC H locs ls k n hE (lv_sub hl [0, 1, 2] rfl) hR hS (by omega) (by omega)
    · have hw := hw.2 hc4
      refine lv_aload_n hx hb (xb_d D_Exact_sum 4 rfl) rfl (lv_at hl 0 rfl) ?_
      refine lv_lload_n hx hb (xb_d D_Exact_sum 5 rfl) rfl (lv_at hl 2 rfl) ?_
      have hk1 : xb_k h2 x0 = 10 := hEh2.k hk1
      refine xb_call (D := D) (A := A) (σ := σ) (h := h2) (d := 4) (mc := 0) (ms := 0) (maxL := 3) (rest := []) (av := [.ref x0, .long x3]) (fun T hT X => by obtain ⟨cb, r1, r2, r3⟩ := xb_recv (ci := 9) hR rfl hk1 (by decide); exact xt_invV X hx hown (hts _ m_4d51455e) (hts _ m_6f0f72ed) (hts _ m_54335684) (xt_sigOf (hts _ m_c0f31264)) nm_Exact_isInfinite (by rw [hT]; exact r1) r2 r3 (g := F0 m 10 ls [.long x3, .ref x0]) rfl (argsL := [.long x3]) (rest := []) rfl rfl (by rw [hb]; exact (xb_d D_Exact_sum 6 rfl))) (ok_Exact_isInfinite l hfl D A σ x0 x3 h2 _ hw) (hml.trans hl.1.symm) (by rw [hb]; exact (xb_d D_Exact_sum 6 rfl)) (Nat.le_of_ble_eq_true rfl) (Nat.le_of_ble_eq_true rfl) (Nat.le_of_ble_eq_true rfl) (show k + 0 ≤ MC by omega) (show n + 0 ≤ MS by omega) (xt_w1 hB.1 m_c0f31264) (xt_cdOf hB.1 m_c0f31264) (hts _ m_b807310b) hB hR hS hA (fun vv h5 H locs hq hEh5 hR hS => ?_) (fun XX ax h5 H locs hq hEh5 hex hR hS => ?_)
      · obtain ⟨r6, rfl, hw⟩ := hq
        have hw := hw hEh5
        have hE := hE.tr hEh5
        refine W.eq (g2 := F0 m 13 ls [.int r6]) rfl ?_
        refine lv_if_eq (tgt := 59) hx hb (xb_d D_Exact_sum 7 rfl) rfl (fun hc7 => ?_) (fun hc7 => ?_)
        · have hw := hw.1 hc7
          refine lv_aload_n hx hb (xb_d D_Exact_sum 31 rfl) rfl (lv_at hl 0 rfl) ?_
          refine lv_lload_n hx hb (xb_d D_Exact_sum 32 rfl) rfl (lv_at hl 2 rfl) ?_
          have hk1 : xb_k h5 x0 = 10 := hEh5.k hk1
          refine xb_call (D := D) (A := A) (σ := σ) (h := h5) (d := 2) (mc := 0) (ms := 0) (maxL := 3) (rest := []) (av := [.ref x0, .long x3]) (fun T hT X => by obtain ⟨cb, r1, r2, r3⟩ := xb_recv (ci := 9) hR rfl hk1 (by decide); exact xt_invV X hx hown (hts _ m_4c81fbb0) (hts _ m_fb12fd6e) (hts _ m_e5146b3f) (xt_sigOf (hts _ m_7f30805a)) nm_Exact_size (by rw [hT]; exact r1) r2 r3 (g := F0 m 61 ls [.long x3, .ref x0]) rfl (argsL := [.long x3]) (rest := []) rfl rfl (by rw [hb]; exact (xb_d D_Exact_sum 33 rfl))) (ok_Exact_size l hfl D A σ x0 x3 h5 _ hw) (hml.trans hl.1.symm) (by rw [hb]; exact (xb_d D_Exact_sum 33 rfl)) (Nat.le_of_ble_eq_true rfl) (Nat.le_of_ble_eq_true rfl) (Nat.le_of_ble_eq_true rfl) (show k + 0 ≤ MC by omega) (show n + 0 ≤ MS by omega) (xt_w1 hB.1 m_7f30805a) (xt_cdOf hB.1 m_7f30805a) (hts _ m_b807310b) hB hR hS hA (fun vv h8 H locs hq hEh8 hR hS => ?_) (fun XX ax h8 H locs hq hEh8 hex hR hS => ?_)
          · obtain ⟨r9, rfl, hw⟩ := hq
            have hw := hw hEh8
            have hE := hE.tr hEh8
            refine W.eq (g2 := F0 m 64 ls [.long r9]) rfl ?_
            refine lv_aload_n hx hb (xb_d D_Exact_sum 34 rfl) rfl (lv_at hl 0 rfl) ?_
            refine lv_lload_n hx hb (xb_d D_Exact_sum 35 rfl) rfl (lv_at hl 1 rfl) ?_
            have hk1 : xb_k h8 x0 = 10 := hEh8.k hk1
            refine xb_call (D := D) (A := A) (σ := σ) (h := h8) (d := 2) (mc := 0) (ms := 0) (maxL := 3) (rest := [.long r9]) (av := [.ref x0, .long x1]) (fun T hT X => by obtain ⟨cb, r1, r2, r3⟩ := xb_recv (ci := 9) hR rfl hk1 (by decide); exact xt_invV X hx hown (hts _ m_4c81fbb0) (hts _ m_fb12fd6e) (hts _ m_e5146b3f) (xt_sigOf (hts _ m_7f30805a)) nm_Exact_size (by rw [hT]; exact r1) r2 r3 (g := F0 m 66 ls [.long x1, .ref x0, .long r9]) rfl (argsL := [.long x1]) (rest := [.long r9]) rfl rfl (by rw [hb]; exact (xb_d D_Exact_sum 36 rfl))) (ok_Exact_size l hfl D A σ x0 x1 h8 _ hw) (hml.trans hl.1.symm) (by rw [hb]; exact (xb_d D_Exact_sum 36 rfl)) (Nat.le_of_ble_eq_true rfl) (Nat.le_of_ble_eq_true rfl) (Nat.le_of_ble_eq_true rfl) (show k + 0 ≤ MC by omega) (show n + 0 ≤ MS by omega) (xt_w1 hB.1 m_7f30805a) (xt_cdOf hB.1 m_7f30805a) (hts _ m_b807310b) hB hR hS hA (fun vv h10 H locs hq hEh10 hR hS => ?_) (fun XX ax h10 H locs hq hEh10 hex hR hS => ?_)
            · obtain ⟨r11, rfl, hw⟩ := hq
              have hw := hw hEh10
              have hE := hE.tr hEh10
              refine W.eq (g2 := F0 m 69 ls [.long r11, .long r9]) rfl ?_
              refine xb_lc_le (tgt := 77) hx hb (xb_d D_Exact_sum 37 rfl) (xb_d D_Exact_sum 38 rfl) rfl (fun hc12 => ?_) (fun hc12 => ?_)
              · have hw := hw.1 hc12
                refine lv_iconst (v := 0) hx hb (xb_d D_Exact_sum 41 rfl) (by decide) ?_
                exact am_Exact_sum_L78 l hfl D A σ MC MS h0 Qr x0 x1 x3 0 h10 hw p e s m args below meth c hC H locs ls k n hE (lv_sub hl [0, 1, 2] rfl) hR hS (by omega) (by omega)
              · have hw := hw.2 hc12
                refine lv_iconst (v := 1) hx hb (xb_d D_Exact_sum 39 rfl) (by decide) ?_
                refine lv_goto (tgt := 78) hx hb (xb_d D_Exact_sum 40 rfl) rfl ?_
                exact am_Exact_sum_L78 l hfl D A σ MC MS h0 Qr x0 x1 x3 1 h10 hw p e s m args below meth c hC H locs ls k n hE (lv_sub hl [0, 1, 2] rfl) hR hS (by omega) (by omega)
            · exact False.elim hq
          · exact False.elim hq
        · have hw := hw.2 hc7
          exact am_Exact_sum_L16 l hfl D A σ MC MS h0 Qr x0 x1 x3 h5 hw p e s m args below meth c hC H locs ls k n hE (lv_sub hl [0, 1, 2] rfl) hR hS (by omega) (by omega)
      · exact False.elim hq
  · exact False.elim hq

set_option maxRecDepth 100000 in
def T_Exact_whole : List (Nat × Instr × Nat) := [(0, .aload_n 0, 1), (1, .lload_n 2, 1), (2, .invokevirtual 97, 3), (5, .ifCond .ne 11, 3), (8, .aload_n 0, 1), (9, .lload_n 2, 1), (10, .invokevirtual 104, 3), (13, .ifCond .eq 5, 3), (16, .lload_n 2, 1), (17, .lreturn, 1), (18, .aload_n 0, 1), (19, .lload_n 2, 1), (20, .invokevirtual 110, 3), (23, .aload_n 0, 1), (24, .getfield 87, 3), (27, .ifCond .lt 5, 3), (30, .lload_n 2, 1), (31, .lreturn, 1), (32, .aload_n 0, 1), (33, .getfield 87, 3), (36, .ineg, 1), (37, .bipush 62, 2), (39, .if_icmp .le 7, 3), (42, .lconst 0, 1), (43, .goto 13, 3), (46, .aload_n 0, 1), (47, .getfield 83, 3), (50, .aload_n 0, 1), (51, .getfield 87, 3), (54, .ineg, 1), (55, .lshr, 1), (56, .lstore 4, 2), (58, .aload_n 0, 1), (59, .getfield 87, 3), (62, .ineg, 1), (63, .bipush 62, 2), (65, .if_icmp .gt 19, 3), (68, .aload_n 0, 1), (69, .getfield 83, 3), (72, .lload 4, 2), (74, .aload_n 0, 1), (75, .getfield 87, 3), (78, .ineg, 1), (79, .lshl, 1), (80, .lcmp, 1), (81, .ifCond .eq 7, 3), (84, .iconst 1, 1), (85, .goto 4, 3), (88, .iconst 0, 1), (89, .istore 6, 2), (91, .aload_n 0, 1), (92, .getfield 87, 3), (95, .ineg, 1), (96, .bipush 63, 2), (98, .if_icmp .gt 26, 3), (101, .aload_n 0, 1), (102, .getfield 83, 3), (105, .aload_n 0, 1), (106, .getfield 87, 3), (109, .ineg, 1), (110, .iconst 1, 1), (111, .isub, 1), (112, .lshr, 1), (113, .lconst 1, 1), (114, .land, 1), (115, .lconst 1, 1), (116, .lcmp, 1), (117, .ifCond .ne 7, 3), (120, .iconst 1, 1), (121, .goto 4, 3), (124, .iconst 0, 1), (125, .istore 7, 2), (127, .iload 7, 2), (129, .ifCond .eq 31, 3), (132, .aload_n 0, 1), (133, .getfield 83, 3), (136, .ldc2_w 50, 3), (139, .lload 4, 2), (141, .lmul, 1), (142, .lconst 1, 1), (143, .ladd, 1), (144, .aload_n 0, 1), (145, .getfield 87, 3), (148, .ineg, 1), (149, .iconst 1, 1), (150, .isub, 1), (151, .lshl, 1), (152, .lcmp, 1), (153, .ifCond .eq 7, 3), (156, .iconst 1, 1), (157, .goto 4, 3), (160, .iconst 0, 1), (161, .istore 8, 2), (163, .iload_n 1, 1), (164, .iconst 3, 1), (165, .if_icmp .ne 23, 3), (168, .iload 6, 2), (170, .ifCond .eq 14, 3), (173, .aload_n 0, 1), (174, .getfield 80, 3), (177, .ifCond .ne 7, 3), (180, .iconst 1, 1), (181, .goto 62, 3), (184, .iconst 0, 1), (185, .goto 58, 3), (188, .iload_n 1, 1), (189, .iconst 4, 1), (190, .if_icmp .ne 23, 3), (193, .iload 6, 2), (195, .ifCond .eq 14, 3), (198, .aload_n 0, 1), (199, .getfield 80, 3), (202, .ifCond .eq 7, 3), (205, .iconst 1, 1), (206, .goto 37, 3), (209, .iconst 0, 1), (210, .goto 33, 3), (213, .iload_n 1, 1), (214, .bipush 6, 2), (216, .if_icmp .ne 26, 3), (219, .iload 7, 2), (221, .ifCond .eq 21, 3), (224, .iload 8, 2), (226, .ifCond .ne 12, 3), (229, .lload 4, 2), (231, .lconst 1, 1), (232, .land, 1), (233, .lconst 1, 1), (234, .lcmp, 1), (235, .ifCond .ne 7, 3), (238, .iconst 1, 1), (239, .goto 4, 3), (242, .iconst 0, 1), (243, .istore 9, 2), (245, .iload 9, 2), (247, .ifCond .eq 10, 3), (250, .lload 4, 2), (252, .lconst 1, 1), (253, .ladd, 1), (254, .goto 5, 3), (257, .lload 4, 2), (259, .lstore 4, 2), (261, .lload 4, 2), (263, .lconst 0, 1), (264, .lcmp, 1), (265, .ifCond .ne 13, 3), (268, .aload_n 0, 1), (269, .lconst 0, 1), (270, .aload_n 0, 1), (271, .getfield 80, 3), (274, .invokevirtual 52, 3), (277, .lreturn, 1), (278, .aload_n 0, 1), (279, .getfield 80, 3), (282, .istore 10, 2), (284, .aload_n 0, 1), (285, .invokevirtual 107, 3), (288, .aload_n 0, 1), (289, .lload 4, 2), (291, .iconst 0, 1), (292, .invokevirtual 114, 3), (295, .aload_n 0, 1), (296, .iload 10, 2), (298, .invokevirtual 121, 3), (301, .lreturn, 1)]
theorem D_Exact_whole : ∀ q ∈ T_Exact_whole, decode b_Exact_whole q.1 = .ok (q.2.1, q.2.2) := by decide +kernel
def w_Exact_whole_L259 (Qr : Int64 → xb_H → Prop) (x0 : Nat) (y0 : Int64) (h : xb_H) : Prop :=
    ((¬ y0 = (0 : Int64) → xb_k h x0 = 10 ∧ ∀ v3 : Int32, v3 = (xb_i h x0 8) → w_Exact_clear x0 h (fun (h4 : xb_H) => xb_ext h h4 → w_Exact_add x0 y0 0 h4 (fun (h6 : xb_H) => xb_ext h4 h6 → w_Exact_rounded x0 v3 h6 (fun (r9 : Int64) (h8 : xb_H) => xb_ext h6 h8 → Qr r9 h8)))) ∧ (y0 = (0 : Int64) → xb_k h x0 = 10 ∧ w_Exact_signed x0 0 (xb_i h x0 8) h (fun (r12 : Int64) (h11 : xb_H) => xb_ext h h11 → Qr r12 h11)))

def w_Exact_whole_L243 (Qr : Int64 → xb_H → Prop) (x0 : Nat) (x4 : Int64) (y0 : Int32) (h : xb_H) : Prop :=
    ((y0 = (0 : Int32) → w_Exact_whole_L259 Qr x0 x4 h) ∧ (¬ y0 = (0 : Int32) → w_Exact_whole_L259 Qr x0 (x4 + 1) h))

def w_Exact_whole_L242 (Qr : Int64 → xb_H → Prop) (x0 : Nat) (x4 : Int64) (h : xb_H) : Prop :=
    w_Exact_whole_L243 Qr x0 x4 0 h

def w_Exact_whole_L238 (Qr : Int64 → xb_H → Prop) (x0 : Nat) (x4 : Int64) (h : xb_H) : Prop :=
    w_Exact_whole_L243 Qr x0 x4 1 h

def w_Exact_whole_L209 (Qr : Int64 → xb_H → Prop) (x0 : Nat) (x4 : Int64) (h : xb_H) : Prop :=
    w_Exact_whole_L243 Qr x0 x4 0 h

def w_Exact_whole_L184 (Qr : Int64 → xb_H → Prop) (x0 : Nat) (x4 : Int64) (h : xb_H) : Prop :=
    w_Exact_whole_L243 Qr x0 x4 0 h

def w_Exact_whole_L161 (Qr : Int64 → xb_H → Prop) (x0 : Nat) (x1 : Int32) (x4 : Int64) (x6 : Int32) (x7 : Int32) (y0 : Int32) (h : xb_H) : Prop :=
    ((¬ x1 = (3 : Int32) → ((¬ x1 = (4 : Int32) → ((¬ x1 = (6 : Int32) → w_Exact_whole_L242 Qr x0 x4 h) ∧ (x1 = (6 : Int32) → ((x7 = (0 : Int32) → w_Exact_whole_L242 Qr x0 x4 h) ∧ (¬ x7 = (0 : Int32) → ((¬ y0 = (0 : Int32) → w_Exact_whole_L238 Qr x0 x4 h) ∧ (y0 = (0 : Int32) → ((¬ (x4 &&& 1) = (1 : Int64) → w_Exact_whole_L242 Qr x0 x4 h) ∧ ((x4 &&& 1) = (1 : Int64) → w_Exact_whole_L238 Qr x0 x4 h))))))))) ∧ (x1 = (4 : Int32) → ((x6 = (0 : Int32) → w_Exact_whole_L209 Qr x0 x4 h) ∧ (¬ x6 = (0 : Int32) → xb_k h x0 = 10 ∧ (((xb_i h x0 8) = (0 : Int32) → w_Exact_whole_L209 Qr x0 x4 h) ∧ (¬ (xb_i h x0 8) = (0 : Int32) → w_Exact_whole_L243 Qr x0 x4 1 h))))))) ∧ (x1 = (3 : Int32) → ((x6 = (0 : Int32) → w_Exact_whole_L184 Qr x0 x4 h) ∧ (¬ x6 = (0 : Int32) → xb_k h x0 = 10 ∧ ((¬ (xb_i h x0 8) = (0 : Int32) → w_Exact_whole_L184 Qr x0 x4 h) ∧ ((xb_i h x0 8) = (0 : Int32) → w_Exact_whole_L243 Qr x0 x4 1 h))))))

def w_Exact_whole_L160 (Qr : Int64 → xb_H → Prop) (x0 : Nat) (x1 : Int32) (x4 : Int64) (x6 : Int32) (x7 : Int32) (h : xb_H) : Prop :=
    w_Exact_whole_L161 Qr x0 x1 x4 x6 x7 0 h

def w_Exact_whole_L125 (Qr : Int64 → xb_H → Prop) (x0 : Nat) (x1 : Int32) (x4 : Int64) (x6 : Int32) (y0 : Int32) (h : xb_H) : Prop :=
    ((y0 = (0 : Int32) → w_Exact_whole_L160 Qr x0 x1 x4 x6 y0 h) ∧ (¬ y0 = (0 : Int32) → xb_k h x0 = 10 ∧ (((xb_l h x0 9) = (xb_lshl ((2 * x4) + 1) ((-(xb_i h x0 10)) - 1)) → w_Exact_whole_L160 Qr x0 x1 x4 x6 y0 h) ∧ (¬ (xb_l h x0 9) = (xb_lshl ((2 * x4) + 1) ((-(xb_i h x0 10)) - 1)) → w_Exact_whole_L161 Qr x0 x1 x4 x6 y0 1 h))))

def w_Exact_whole_L124 (Qr : Int64 → xb_H → Prop) (x0 : Nat) (x1 : Int32) (x4 : Int64) (x6 : Int32) (h : xb_H) : Prop :=
    w_Exact_whole_L125 Qr x0 x1 x4 x6 0 h

def w_Exact_whole_L89 (Qr : Int64 → xb_H → Prop) (x0 : Nat) (x1 : Int32) (x4 : Int64) (y0 : Int32) (h : xb_H) : Prop :=
    xb_k h x0 = 10 ∧ (((63 : Int32) < (-(xb_i h x0 10)) → w_Exact_whole_L124 Qr x0 x1 x4 y0 h) ∧ (¬ (63 : Int32) < (-(xb_i h x0 10)) → ((¬ ((xb_lshr (xb_l h x0 9) ((-(xb_i h x0 10)) - 1)) &&& 1) = (1 : Int64) → w_Exact_whole_L124 Qr x0 x1 x4 y0 h) ∧ (((xb_lshr (xb_l h x0 9) ((-(xb_i h x0 10)) - 1)) &&& 1) = (1 : Int64) → w_Exact_whole_L125 Qr x0 x1 x4 y0 1 h))))

def w_Exact_whole_L84 (Qr : Int64 → xb_H → Prop) (x0 : Nat) (x1 : Int32) (x4 : Int64) (h : xb_H) : Prop :=
    w_Exact_whole_L89 Qr x0 x1 x4 1 h

def w_Exact_whole_L56 (Qr : Int64 → xb_H → Prop) (x0 : Nat) (x1 : Int32) (y0 : Int64) (h : xb_H) : Prop :=
    xb_k h x0 = 10 ∧ (((62 : Int32) < (-(xb_i h x0 10)) → w_Exact_whole_L84 Qr x0 x1 y0 h) ∧ (¬ (62 : Int32) < (-(xb_i h x0 10)) → (((xb_l h x0 9) = (xb_lshl y0 (-(xb_i h x0 10))) → w_Exact_whole_L89 Qr x0 x1 y0 0 h) ∧ (¬ (xb_l h x0 9) = (xb_lshl y0 (-(xb_i h x0 10))) → w_Exact_whole_L84 Qr x0 x1 y0 h))))

def w_Exact_whole_L16 (Qr : Int64 → xb_H → Prop) (x2 : Int64) (h : xb_H) : Prop :=
    Qr x2 h

def w_Exact_whole (x0 : Nat) (x1 : Int32) (x2 : Int64) (h : xb_H) (Qr : Int64 → xb_H → Prop) : Prop :=
    xb_k h x0 = 10 ∧ w_Exact_isInfinite x0 x2 h (fun (r3 : Int32) (h2 : xb_H) => xb_ext h h2 → ((¬ r3 = (0 : Int32) → w_Exact_whole_L16 Qr x2 h2) ∧ (r3 = (0 : Int32) → w_Exact_isZero x0 x2 h2 (fun (r6 : Int32) (h5 : xb_H) => xb_ext h2 h5 → ((r6 = (0 : Int32) → w_Exact_split x0 x2 h5 (fun (h8 : xb_H) => xb_ext h5 h8 → (((xb_i h8 x0 10) < (0 : Int32) → (((-(xb_i h8 x0 10)) ≤ (62 : Int32) → w_Exact_whole_L56 Qr x0 x1 (xb_lshr (xb_l h8 x0 9) (-(xb_i h8 x0 10))) h8) ∧ (¬ (-(xb_i h8 x0 10)) ≤ (62 : Int32) → w_Exact_whole_L56 Qr x0 x1 0 h8))) ∧ (¬ (xb_i h8 x0 10) < (0 : Int32) → Qr x2 h8)))) ∧ (¬ r6 = (0 : Int32) → w_Exact_whole_L16 Qr x2 h5))))))

set_option maxHeartbeats 4000000 in
set_option maxRecDepth 100000 in
theorem am_Exact_whole_L259 (l : Launch) (hfl : l.flags = pinnedFlags ++ [noTraceFlag]) (D : va_G) (A : Nat → Prop) (σ MC MS : Nat) (h0 : xb_H) (Qr : Int64 → xb_H → Prop) (x0 : Nat) (y0 : Int64) (h : xb_H) (hw : w_Exact_whole_L259 Qr x0 y0 h) : xb_am l D A σ 5 MC MS h0 (fun v h => ∃ r, v = some (.long r) ∧ Qr r h) (fun _ _ => False) y_Exact_whole.cls y_Exact_whole.name b_Exact_whole 11 ([] : List ExceptionTableEntry) (some .long) 259 [(0, .ref x0)] [.long y0] h 0 0 := by
  unfold w_Exact_whole_L259 at hw
  intro p e s m args below meth c hC H locs ls k n hE hl hR hS hk hn
  obtain ⟨hx, hb, hown, hlocks, htab, hml, hr, hB, hA, hnm⟩ := id hC
  have hts := hB.1.1.at args
  refine lv_lstore hx hb (xb_d D_Exact_whole 141 rfl) hl (by decide) rfl (fun ls hl => ?_)
  have hl : lv_has ls 11 [(4, .long y0), (0, .ref x0)] := hl
  refine lv_lload hx hb (xb_d D_Exact_whole 142 rfl) (lv_at hl 0 rfl) ?_
  refine lv_lconst (v := 0) hx hb (xb_d D_Exact_whole 143 rfl) (by decide) ?_
  refine xb_lc_ne (tgt := 278) hx hb (xb_d D_Exact_whole 144 rfl) (xb_d D_Exact_whole 145 rfl) rfl (fun hc1 => ?_) (fun hc1 => ?_)
  · have hw := hw.1 hc1
    refine lv_aload_n hx hb (xb_d D_Exact_whole 152 rfl) rfl (lv_at hl 1 rfl) ?_
    obtain ⟨hk2, hw⟩ := hw
    refine xb_getI (C := R_Exact) (T := F_Exact) (N := 11) hx hb 9 8 hts fin_Exact hown hR hk2 (by decide) rfl (by decide) rfl (hts _ m_124dafb0) (fun _ h9 => h9) (xb_d D_Exact_whole 153 rfl) ?_
    obtain ⟨v3, ev3⟩ : ∃ x : Int32, x = (xb_i h x0 8) := ⟨_, rfl⟩
    have hw := hw v3 ev3
    refine xt_numi (y := v3) ev3.symm ?_
    refine lv_istore hx hb (xb_d D_Exact_whole 154 rfl) hl (by decide) rfl (fun ls hl => ?_)
    have hl : lv_has ls 11 [(10, .int v3), (4, .long y0), (0, .ref x0)] := hl
    refine lv_aload_n hx hb (xb_d D_Exact_whole 155 rfl) rfl (lv_at hl 2 rfl) ?_
    refine xb_call (D := D) (A := A) (σ := σ) (h := h) (d := 2) (mc := 0) (ms := 0) (maxL := 2) (rest := []) (av := [.ref x0]) (fun T hT X => by obtain ⟨cb, r1, r2, r3⟩ := xb_recv (ci := 9) hR rfl hk2 (by decide); exact xt_invV X hx hown (hts _ m_65d93325) (hts _ m_c4de73f8) (hts _ m_b3f48cc1) (xt_sigOf (hts _ m_b0daac26)) nm_Exact_clear (by rw [hT]; exact r1) r2 r3 (g := F0 m 285 ls [.ref x0]) rfl (argsL := []) (rest := []) rfl rfl (by rw [hb]; exact (xb_d D_Exact_whole 156 rfl))) (ok_Exact_clear l hfl D A σ x0 h _ hw) (hml.trans hl.1.symm) (by rw [hb]; exact (xb_d D_Exact_whole 156 rfl)) (Nat.le_of_ble_eq_true rfl) (Nat.le_of_ble_eq_true rfl) (Nat.le_of_ble_eq_true rfl) (show k + 0 ≤ MC by omega) (show n + 0 ≤ MS by omega) (xt_w1 hB.1 m_b0daac26) (xt_cdOf hB.1 m_b0daac26) (hts _ m_b807310b) hB hR hS hA (fun vv h4 H locs hq hEh4 hR hS => ?_) (fun XX ax h4 H locs hq hEh4 hex hR hS => ?_)
    · obtain ⟨rfl, hw⟩ := hq
      have hw := hw hEh4
      have hE := hE.tr hEh4
      refine W.eq (g2 := F0 m 288 ls []) rfl ?_
      refine lv_aload_n hx hb (xb_d D_Exact_whole 157 rfl) rfl (lv_at hl 2 rfl) ?_
      refine lv_lload hx hb (xb_d D_Exact_whole 158 rfl) (lv_at hl 1 rfl) ?_
      refine lv_iconst (v := 0) hx hb (xb_d D_Exact_whole 159 rfl) (by decide) ?_
      have hk2 : xb_k h4 x0 = 10 := hEh4.k hk2
      refine xb_call (D := D) (A := A) (σ := σ) (h := h4) (d := 3) (mc := 0) (ms := 0) (maxL := 9) (rest := []) (av := [.ref x0, .long y0, .int 0]) (fun T hT X => by obtain ⟨cb, r1, r2, r3⟩ := xb_recv (ci := 9) hR rfl hk2 (by decide); exact xt_invV X hx hown (hts _ m_547afbfb) (hts _ m_d4b837ea) (hts _ m_b818cb8b) (xt_sigOf (hts _ m_59b46d39)) nm_Exact_add (by rw [hT]; exact r1) r2 r3 (g := F0 m 292 ls [.int 0, .long y0, .ref x0]) rfl (argsL := [.long y0, .int 0]) (rest := []) rfl rfl (by rw [hb]; exact (xb_d D_Exact_whole 160 rfl))) (ok_Exact_add l hfl D A σ x0 y0 0 h4 _ hw) (hml.trans hl.1.symm) (by rw [hb]; exact (xb_d D_Exact_whole 160 rfl)) (Nat.le_of_ble_eq_true rfl) (Nat.le_of_ble_eq_true rfl) (Nat.le_of_ble_eq_true rfl) (show k + 0 ≤ MC by omega) (show n + 0 ≤ MS by omega) (xt_w1 hB.1 m_59b46d39) (xt_cdOf hB.1 m_59b46d39) (hts _ m_b807310b) hB hR hS hA (fun vv h6 H locs hq hEh6 hR hS => ?_) (fun XX ax h6 H locs hq hEh6 hex hR hS => ?_)
      · obtain ⟨rfl, hw⟩ := hq
        have hw := hw hEh6
        have hE := hE.tr hEh6
        refine W.eq (g2 := F0 m 295 ls []) rfl ?_
        refine lv_aload_n hx hb (xb_d D_Exact_whole 161 rfl) rfl (lv_at hl 2 rfl) ?_
        refine lv_iload hx hb (xb_d D_Exact_whole 162 rfl) (lv_at hl 0 rfl) ?_
        have hk2 : xb_k h6 x0 = 10 := hEh6.k hk2
        refine xb_call (D := D) (A := A) (σ := σ) (h := h6) (d := 4) (mc := 0) (ms := 0) (maxL := 10) (rest := []) (av := [.ref x0, .int v3]) (fun T hT X => by obtain ⟨cb, r1, r2, r3⟩ := xb_recv (ci := 9) hR rfl hk2 (by decide); exact xt_invV X hx hown (hts _ m_2aa5d168) (hts _ m_a9d2c1e2) (hts _ m_665f83d8) (xt_sigOf (hts _ m_bb0adfae)) nm_Exact_rounded (by rw [hT]; exact r1) r2 r3 (g := F0 m 298 ls [.int v3, .ref x0]) rfl (argsL := [.int v3]) (rest := []) rfl rfl (by rw [hb]; exact (xb_d D_Exact_whole 163 rfl))) (ok_Exact_rounded l hfl D A σ x0 v3 h6 _ hw) (hml.trans hl.1.symm) (by rw [hb]; exact (xb_d D_Exact_whole 163 rfl)) (Nat.le_of_ble_eq_true rfl) (Nat.le_of_ble_eq_true rfl) (Nat.le_of_ble_eq_true rfl) (show k + 0 ≤ MC by omega) (show n + 0 ≤ MS by omega) (xt_w1 hB.1 m_bb0adfae) (xt_cdOf hB.1 m_bb0adfae) (hts _ m_b807310b) hB hR hS hA (fun vv h8 H locs hq hEh8 hR hS => ?_) (fun XX ax h8 H locs hq hEh8 hex hR hS => ?_)
        · obtain ⟨r9, rfl, hw⟩ := hq
          have hw := hw hEh8
          have hE := hE.tr hEh8
          refine W.eq (g2 := F0 m 301 ls [.long r9]) rfl ?_
          exact xb_lret hx hb hr hlocks (show k ≤ MC by omega) (show n ≤ MS by omega) hE hR hS (xb_d D_Exact_whole 164 rfl) hw
        · exact False.elim hq
      · exact False.elim hq
    · exact False.elim hq
  · have hw := hw.2 hc1
    refine lv_aload_n hx hb (xb_d D_Exact_whole 146 rfl) rfl (lv_at hl 1 rfl) ?_
    refine lv_lconst (v := 0) hx hb (xb_d D_Exact_whole 147 rfl) (by decide) ?_
    refine lv_aload_n hx hb (xb_d D_Exact_whole 148 rfl) rfl (lv_at hl 1 rfl) ?_
    obtain ⟨hk10, hw⟩ := hw
    refine xb_getI (C := R_Exact) (T := F_Exact) (N := 11) hx hb 9 8 hts fin_Exact hown hR hk10 (by decide) rfl (by decide) rfl (hts _ m_124dafb0) (fun _ h9 => h9) (xb_d D_Exact_whole 149 rfl) ?_
    refine xb_call (D := D) (A := A) (σ := σ) (h := h) (d := 2) (mc := 0) (ms := 0) (maxL := 4) (rest := []) (av := [.ref x0, .long 0, .int (xb_i h x0 8)]) (fun T hT X => by obtain ⟨cb, r1, r2, r3⟩ := xb_recv (ci := 9) hR rfl hk10 (by decide); exact xt_invV X hx hown (hts _ m_7b6c7353) (hts _ m_28babb18) (hts _ m_243e01d5) (xt_sigOf (hts _ m_88c0fc78)) nm_Exact_signed (by rw [hT]; exact r1) r2 r3 (g := F0 m 274 ls [.int (xb_i h x0 8), .long 0, .ref x0]) rfl (argsL := [.long 0, .int (xb_i h x0 8)]) (rest := []) rfl rfl (by rw [hb]; exact (xb_d D_Exact_whole 150 rfl))) (ok_Exact_signed l hfl D A σ x0 0 (xb_i h x0 8) h _ hw) (hml.trans hl.1.symm) (by rw [hb]; exact (xb_d D_Exact_whole 150 rfl)) (Nat.le_of_ble_eq_true rfl) (Nat.le_of_ble_eq_true rfl) (Nat.le_of_ble_eq_true rfl) (show k + 0 ≤ MC by omega) (show n + 0 ≤ MS by omega) (xt_w1 hB.1 m_88c0fc78) (xt_cdOf hB.1 m_88c0fc78) (hts _ m_b807310b) hB hR hS hA (fun vv h11 H locs hq hEh11 hR hS => ?_) (fun XX ax h11 H locs hq hEh11 hex hR hS => ?_)
    · obtain ⟨r12, rfl, hw⟩ := hq
      have hw := hw hEh11
      have hE := hE.tr hEh11
      refine W.eq (g2 := F0 m 277 ls [.long r12]) rfl ?_
      exact xb_lret hx hb hr hlocks (show k ≤ MC by omega) (show n ≤ MS by omega) hE hR hS (xb_d D_Exact_whole 151 rfl) hw
    · exact False.elim hq

set_option maxHeartbeats 4000000 in
set_option maxRecDepth 100000 in
theorem am_Exact_whole_L243 (l : Launch) (hfl : l.flags = pinnedFlags ++ [noTraceFlag]) (D : va_G) (A : Nat → Prop) (σ MC MS : Nat) (h0 : xb_H) (Qr : Int64 → xb_H → Prop) (x0 : Nat) (x4 : Int64) (y0 : Int32) (h : xb_H) (hw : w_Exact_whole_L243 Qr x0 x4 y0 h) : xb_am l D A σ 5 MC MS h0 (fun v h => ∃ r, v = some (.long r) ∧ Qr r h) (fun _ _ => False) y_Exact_whole.cls y_Exact_whole.name b_Exact_whole 11 ([] : List ExceptionTableEntry) (some .long) 243 [(0, .ref x0), (4, .long x4)] [.int y0] h 0 0 := by
  unfold w_Exact_whole_L243 at hw
  intro p e s m args below meth c hC H locs ls k n hE hl hR hS hk hn
  obtain ⟨hx, hb, hown, hlocks, htab, hml, hr, hB, hA, hnm⟩ := id hC
  have hts := hB.1.1.at args
  refine lv_istore hx hb (xb_d D_Exact_whole 133 rfl) hl (by decide) rfl (fun ls hl => ?_)
  have hl : lv_has ls 11 [(9, .int y0), (0, .ref x0), (4, .long x4)] := hl
  refine lv_iload hx hb (xb_d D_Exact_whole 134 rfl) (lv_at hl 0 rfl) ?_
  refine lv_if_eq (tgt := 257) hx hb (xb_d D_Exact_whole 135 rfl) rfl (fun hc1 => ?_) (fun hc1 => ?_)
  · have hw := hw.1 hc1
    refine lv_lload hx hb (xb_d D_Exact_whole 140 rfl) (lv_at hl 2 rfl) ?_
    exact am_Exact_whole_L259 l hfl D A σ MC MS h0 Qr x0 x4 h hw p e s m args below meth c hC H locs ls k n hE (lv_sub hl [1] rfl) hR hS (by omega) (by omega)
  · have hw := hw.2 hc1
    refine lv_lload hx hb (xb_d D_Exact_whole 136 rfl) (lv_at hl 2 rfl) ?_
    refine lv_lconst (v := 1) hx hb (xb_d D_Exact_whole 137 rfl) (by decide) ?_
    refine lv_ladd hx hb (xb_d D_Exact_whole 138 rfl) ?_
    refine lv_goto (tgt := 259) hx hb (xb_d D_Exact_whole 139 rfl) rfl ?_
    exact am_Exact_whole_L259 l hfl D A σ MC MS h0 Qr x0 (x4 + 1) h hw p e s m args below meth c hC H locs ls k n hE (lv_sub hl [1] rfl) hR hS (by omega) (by omega)

set_option maxHeartbeats 4000000 in
set_option maxRecDepth 100000 in
theorem am_Exact_whole_L242 (l : Launch) (hfl : l.flags = pinnedFlags ++ [noTraceFlag]) (D : va_G) (A : Nat → Prop) (σ MC MS : Nat) (h0 : xb_H) (Qr : Int64 → xb_H → Prop) (x0 : Nat) (x4 : Int64) (h : xb_H) (hw : w_Exact_whole_L242 Qr x0 x4 h) : xb_am l D A σ 5 MC MS h0 (fun v h => ∃ r, v = some (.long r) ∧ Qr r h) (fun _ _ => False) y_Exact_whole.cls y_Exact_whole.name b_Exact_whole 11 ([] : List ExceptionTableEntry) (some .long) 242 [(0, .ref x0), (4, .long x4)] [] h 0 0 := by
  unfold w_Exact_whole_L242 at hw
  intro p e s m args below meth c hC H locs ls k n hE hl hR hS hk hn
  obtain ⟨hx, hb, hown, hlocks, htab, hml, hr, hB, hA, hnm⟩ := id hC
  have hts := hB.1.1.at args
  refine lv_iconst (v := 0) hx hb (xb_d D_Exact_whole 132 rfl) (by decide) ?_
  exact am_Exact_whole_L243 l hfl D A σ MC MS h0 Qr x0 x4 0 h hw p e s m args below meth c hC H locs ls k n hE (lv_sub hl [0, 1] rfl) hR hS (by omega) (by omega)

set_option maxHeartbeats 4000000 in
set_option maxRecDepth 100000 in
theorem am_Exact_whole_L238 (l : Launch) (hfl : l.flags = pinnedFlags ++ [noTraceFlag]) (D : va_G) (A : Nat → Prop) (σ MC MS : Nat) (h0 : xb_H) (Qr : Int64 → xb_H → Prop) (x0 : Nat) (x4 : Int64) (h : xb_H) (hw : w_Exact_whole_L238 Qr x0 x4 h) : xb_am l D A σ 5 MC MS h0 (fun v h => ∃ r, v = some (.long r) ∧ Qr r h) (fun _ _ => False) y_Exact_whole.cls y_Exact_whole.name b_Exact_whole 11 ([] : List ExceptionTableEntry) (some .long) 238 [(0, .ref x0), (4, .long x4)] [] h 0 0 := by
  unfold w_Exact_whole_L238 at hw
  intro p e s m args below meth c hC H locs ls k n hE hl hR hS hk hn
  obtain ⟨hx, hb, hown, hlocks, htab, hml, hr, hB, hA, hnm⟩ := id hC
  have hts := hB.1.1.at args
  refine lv_iconst (v := 1) hx hb (xb_d D_Exact_whole 130 rfl) (by decide) ?_
  refine lv_goto (tgt := 243) hx hb (xb_d D_Exact_whole 131 rfl) rfl ?_
  exact am_Exact_whole_L243 l hfl D A σ MC MS h0 Qr x0 x4 1 h hw p e s m args below meth c hC H locs ls k n hE (lv_sub hl [0, 1] rfl) hR hS (by omega) (by omega)

set_option maxHeartbeats 4000000 in
set_option maxRecDepth 100000 in
theorem am_Exact_whole_L209 (l : Launch) (hfl : l.flags = pinnedFlags ++ [noTraceFlag]) (D : va_G) (A : Nat → Prop) (σ MC MS : Nat) (h0 : xb_H) (Qr : Int64 → xb_H → Prop) (x0 : Nat) (x4 : Int64) (h : xb_H) (hw : w_Exact_whole_L209 Qr x0 x4 h) : xb_am l D A σ 5 MC MS h0 (fun v h => ∃ r, v = some (.long r) ∧ Qr r h) (fun _ _ => False) y_Exact_whole.cls y_Exact_whole.name b_Exact_whole 11 ([] : List ExceptionTableEntry) (some .long) 209 [(0, .ref x0), (4, .long x4)] [] h 0 0 := by
  unfold w_Exact_whole_L209 at hw
  intro p e s m args below meth c hC H locs ls k n hE hl hR hS hk hn
  obtain ⟨hx, hb, hown, hlocks, htab, hml, hr, hB, hA, hnm⟩ := id hC
  have hts := hB.1.1.at args
  refine lv_iconst (v := 0) hx hb (xb_d D_Exact_whole 115 rfl) (by decide) ?_
  refine lv_goto (tgt := 243) hx hb (xb_d D_Exact_whole 116 rfl) rfl ?_
  exact am_Exact_whole_L243 l hfl D A σ MC MS h0 Qr x0 x4 0 h hw p e s m args below meth c hC H locs ls k n hE (lv_sub hl [0, 1] rfl) hR hS (by omega) (by omega)

set_option maxHeartbeats 4000000 in
set_option maxRecDepth 100000 in
theorem am_Exact_whole_L184 (l : Launch) (hfl : l.flags = pinnedFlags ++ [noTraceFlag]) (D : va_G) (A : Nat → Prop) (σ MC MS : Nat) (h0 : xb_H) (Qr : Int64 → xb_H → Prop) (x0 : Nat) (x4 : Int64) (h : xb_H) (hw : w_Exact_whole_L184 Qr x0 x4 h) : xb_am l D A σ 5 MC MS h0 (fun v h => ∃ r, v = some (.long r) ∧ Qr r h) (fun _ _ => False) y_Exact_whole.cls y_Exact_whole.name b_Exact_whole 11 ([] : List ExceptionTableEntry) (some .long) 184 [(0, .ref x0), (4, .long x4)] [] h 0 0 := by
  unfold w_Exact_whole_L184 at hw
  intro p e s m args below meth c hC H locs ls k n hE hl hR hS hk hn
  obtain ⟨hx, hb, hown, hlocks, htab, hml, hr, hB, hA, hnm⟩ := id hC
  have hts := hB.1.1.at args
  refine lv_iconst (v := 0) hx hb (xb_d D_Exact_whole 103 rfl) (by decide) ?_
  refine lv_goto (tgt := 243) hx hb (xb_d D_Exact_whole 104 rfl) rfl ?_
  exact am_Exact_whole_L243 l hfl D A σ MC MS h0 Qr x0 x4 0 h hw p e s m args below meth c hC H locs ls k n hE (lv_sub hl [0, 1] rfl) hR hS (by omega) (by omega)

set_option maxHeartbeats 4000000 in
set_option maxRecDepth 100000 in
theorem am_Exact_whole_L161 (l : Launch) (hfl : l.flags = pinnedFlags ++ [noTraceFlag]) (D : va_G) (A : Nat → Prop) (σ MC MS : Nat) (h0 : xb_H) (Qr : Int64 → xb_H → Prop) (x0 : Nat) (x1 : Int32) (x4 : Int64) (x6 : Int32) (x7 : Int32) (y0 : Int32) (h : xb_H) (hw : w_Exact_whole_L161 Qr x0 x1 x4 x6 x7 y0 h) : xb_am l D A σ 5 MC MS h0 (fun v h => ∃ r, v = some (.long r) ∧ Qr r h) (fun _ _ => False) y_Exact_whole.cls y_Exact_whole.name b_Exact_whole 11 ([] : List ExceptionTableEntry) (some .long) 161 [(0, .ref x0), (1, .int x1), (4, .long x4), (6, .int x6), (7, .int x7)] [.int y0] h 0 0 := by
  unfold w_Exact_whole_L161 at hw
  intro p e s m args below meth c hC H locs ls k n hE hl hR hS hk hn
  obtain ⟨hx, hb, hown, hlocks, htab, hml, hr, hB, hA, hnm⟩ := id hC
  have hts := hB.1.1.at args
  refine lv_istore hx hb (xb_d D_Exact_whole 92 rfl) hl (by decide) rfl (fun ls hl => ?_)
  have hl : lv_has ls 11 [(8, .int y0), (0, .ref x0), (1, .int x1), (4, .long x4), (6, .int x6), (7, .int x7)] := hl
  refine lv_iload_n hx hb (xb_d D_Exact_whole 93 rfl) rfl (lv_at hl 2 rfl) ?_
  refine lv_iconst (v := 3) hx hb (xb_d D_Exact_whole 94 rfl) (by decide) ?_
  refine lv_icmp_ne (tgt := 188) hx hb (xb_d D_Exact_whole 95 rfl) rfl (fun hc1 => ?_) (fun hc1 => ?_)
  · have hw := hw.1 hc1
    refine lv_iload_n hx hb (xb_d D_Exact_whole 105 rfl) rfl (lv_at hl 2 rfl) ?_
    refine lv_iconst (v := 4) hx hb (xb_d D_Exact_whole 106 rfl) (by decide) ?_
    refine lv_icmp_ne (tgt := 213) hx hb (xb_d D_Exact_whole 107 rfl) rfl (fun hc2 => ?_) (fun hc2 => ?_)
    · have hw := hw.1 hc2
      refine lv_iload_n hx hb (xb_d D_Exact_whole 117 rfl) rfl (lv_at hl 2 rfl) ?_
      refine lv_bipush (v := 6) hx hb (xb_d D_Exact_whole 118 rfl) (by decide) ?_
      refine lv_icmp_ne (tgt := 242) hx hb (xb_d D_Exact_whole 119 rfl) rfl (fun hc3 => ?_) (fun hc3 => ?_)
      · have hw := hw.1 hc3
        exact am_Exact_whole_L242 l hfl D A σ MC MS h0 Qr x0 x4 h hw p e s m args below meth c hC H locs ls k n hE (lv_sub hl [1, 3] rfl) hR hS (by omega) (by omega)
      · have hw := hw.2 hc3
        refine lv_iload hx hb (xb_d D_Exact_whole 120 rfl) (lv_at hl 5 rfl) ?_
        refine lv_if_eq (tgt := 242) hx hb (xb_d D_Exact_whole 121 rfl) rfl (fun hc4 => ?_) (fun hc4 => ?_)
        · have hw := hw.1 hc4
          exact am_Exact_whole_L242 l hfl D A σ MC MS h0 Qr x0 x4 h hw p e s m args below meth c hC H locs ls k n hE (lv_sub hl [1, 3] rfl) hR hS (by omega) (by omega)
        · have hw := hw.2 hc4
          refine lv_iload hx hb (xb_d D_Exact_whole 122 rfl) (lv_at hl 0 rfl) ?_
          refine lv_if_ne (tgt := 238) hx hb (xb_d D_Exact_whole 123 rfl) rfl (fun hc5 => ?_) (fun hc5 => ?_)
          · have hw := hw.1 hc5
            exact am_Exact_whole_L238 l hfl D A σ MC MS h0 Qr x0 x4 h hw p e s m args below meth c hC H locs ls k n hE (lv_sub hl [1, 3] rfl) hR hS (by omega) (by omega)
          · have hw := hw.2 hc5
            refine lv_lload hx hb (xb_d D_Exact_whole 124 rfl) (lv_at hl 3 rfl) ?_
            refine lv_lconst (v := 1) hx hb (xb_d D_Exact_whole 125 rfl) (by decide) ?_
            refine lv_land hx hb (xb_d D_Exact_whole 126 rfl) ?_
            refine lv_lconst (v := 1) hx hb (xb_d D_Exact_whole 127 rfl) (by decide) ?_
            refine xb_lc_ne (tgt := 242) hx hb (xb_d D_Exact_whole 128 rfl) (xb_d D_Exact_whole 129 rfl) rfl (fun hc6 => ?_) (fun hc6 => ?_)
            · have hw := hw.1 hc6
              exact am_Exact_whole_L242 l hfl D A σ MC MS h0 Qr x0 x4 h hw p e s m args below meth c hC H locs ls k n hE (lv_sub hl [1, 3] rfl) hR hS (by omega) (by omega)
            · have hw := hw.2 hc6
              exact am_Exact_whole_L238 l hfl D A σ MC MS h0 Qr x0 x4 h hw p e s m args below meth c hC H locs ls k n hE (lv_sub hl [1, 3] rfl) hR hS (by omega) (by omega)
    · have hw := hw.2 hc2
      refine lv_iload hx hb (xb_d D_Exact_whole 108 rfl) (lv_at hl 4 rfl) ?_
      refine lv_if_eq (tgt := 209) hx hb (xb_d D_Exact_whole 109 rfl) rfl (fun hc7 => ?_) (fun hc7 => ?_)
      · have hw := hw.1 hc7
        exact am_Exact_whole_L209 l hfl D A σ MC MS h0 Qr x0 x4 h hw p e s m args below meth c hC H locs ls k n hE (lv_sub hl [1, 3] rfl) hR hS (by omega) (by omega)
      · have hw := hw.2 hc7
        refine lv_aload_n hx hb (xb_d D_Exact_whole 110 rfl) rfl (lv_at hl 1 rfl) ?_
        obtain ⟨hk8, hw⟩ := hw
        refine xb_getI (C := R_Exact) (T := F_Exact) (N := 11) hx hb 9 8 hts fin_Exact hown hR hk8 (by decide) rfl (by decide) rfl (hts _ m_124dafb0) (fun _ h9 => h9) (xb_d D_Exact_whole 111 rfl) ?_
        refine lv_if_eq (tgt := 209) hx hb (xb_d D_Exact_whole 112 rfl) rfl (fun hc9 => ?_) (fun hc9 => ?_)
        · have hw := hw.1 hc9
          exact am_Exact_whole_L209 l hfl D A σ MC MS h0 Qr x0 x4 h hw p e s m args below meth c hC H locs ls k n hE (lv_sub hl [1, 3] rfl) hR hS (by omega) (by omega)
        · have hw := hw.2 hc9
          refine lv_iconst (v := 1) hx hb (xb_d D_Exact_whole 113 rfl) (by decide) ?_
          refine lv_goto (tgt := 243) hx hb (xb_d D_Exact_whole 114 rfl) rfl ?_
          exact am_Exact_whole_L243 l hfl D A σ MC MS h0 Qr x0 x4 1 h hw p e s m args below meth c hC H locs ls k n hE (lv_sub hl [1, 3] rfl) hR hS (by omega) (by omega)
  · have hw := hw.2 hc1
    refine lv_iload hx hb (xb_d D_Exact_whole 96 rfl) (lv_at hl 4 rfl) ?_
    refine lv_if_eq (tgt := 184) hx hb (xb_d D_Exact_whole 97 rfl) rfl (fun hc10 => ?_) (fun hc10 => ?_)
    · have hw := hw.1 hc10
      exact am_Exact_whole_L184 l hfl D A σ MC MS h0 Qr x0 x4 h hw p e s m args below meth c hC H locs ls k n hE (lv_sub hl [1, 3] rfl) hR hS (by omega) (by omega)
    · have hw := hw.2 hc10
      refine lv_aload_n hx hb (xb_d D_Exact_whole 98 rfl) rfl (lv_at hl 1 rfl) ?_
      obtain ⟨hk11, hw⟩ := hw
      refine xb_getI (C := R_Exact) (T := F_Exact) (N := 11) hx hb 9 8 hts fin_Exact hown hR hk11 (by decide) rfl (by decide) rfl (hts _ m_124dafb0) (fun _ h9 => h9) (xb_d D_Exact_whole 99 rfl) ?_
      refine lv_if_ne (tgt := 184) hx hb (xb_d D_Exact_whole 100 rfl) rfl (fun hc12 => ?_) (fun hc12 => ?_)
      · have hw := hw.1 hc12
        exact am_Exact_whole_L184 l hfl D A σ MC MS h0 Qr x0 x4 h hw p e s m args below meth c hC H locs ls k n hE (lv_sub hl [1, 3] rfl) hR hS (by omega) (by omega)
      · have hw := hw.2 hc12
        refine lv_iconst (v := 1) hx hb (xb_d D_Exact_whole 101 rfl) (by decide) ?_
        refine lv_goto (tgt := 243) hx hb (xb_d D_Exact_whole 102 rfl) rfl ?_
        exact am_Exact_whole_L243 l hfl D A σ MC MS h0 Qr x0 x4 1 h hw p e s m args below meth c hC H locs ls k n hE (lv_sub hl [1, 3] rfl) hR hS (by omega) (by omega)

set_option maxHeartbeats 4000000 in
set_option maxRecDepth 100000 in
theorem am_Exact_whole_L160 (l : Launch) (hfl : l.flags = pinnedFlags ++ [noTraceFlag]) (D : va_G) (A : Nat → Prop) (σ MC MS : Nat) (h0 : xb_H) (Qr : Int64 → xb_H → Prop) (x0 : Nat) (x1 : Int32) (x4 : Int64) (x6 : Int32) (x7 : Int32) (h : xb_H) (hw : w_Exact_whole_L160 Qr x0 x1 x4 x6 x7 h) : xb_am l D A σ 5 MC MS h0 (fun v h => ∃ r, v = some (.long r) ∧ Qr r h) (fun _ _ => False) y_Exact_whole.cls y_Exact_whole.name b_Exact_whole 11 ([] : List ExceptionTableEntry) (some .long) 160 [(0, .ref x0), (1, .int x1), (4, .long x4), (6, .int x6), (7, .int x7)] [] h 0 0 := by
  unfold w_Exact_whole_L160 at hw
  intro p e s m args below meth c hC H locs ls k n hE hl hR hS hk hn
  obtain ⟨hx, hb, hown, hlocks, htab, hml, hr, hB, hA, hnm⟩ := id hC
  have hts := hB.1.1.at args
  refine lv_iconst (v := 0) hx hb (xb_d D_Exact_whole 91 rfl) (by decide) ?_
  exact am_Exact_whole_L161 l hfl D A σ MC MS h0 Qr x0 x1 x4 x6 x7 0 h hw p e s m args below meth c hC H locs ls k n hE (lv_sub hl [0, 1, 2, 3, 4] rfl) hR hS (by omega) (by omega)

set_option maxHeartbeats 4000000 in
set_option maxRecDepth 100000 in
theorem am_Exact_whole_L125 (l : Launch) (hfl : l.flags = pinnedFlags ++ [noTraceFlag]) (D : va_G) (A : Nat → Prop) (σ MC MS : Nat) (h0 : xb_H) (Qr : Int64 → xb_H → Prop) (x0 : Nat) (x1 : Int32) (x4 : Int64) (x6 : Int32) (y0 : Int32) (h : xb_H) (hw : w_Exact_whole_L125 Qr x0 x1 x4 x6 y0 h) : xb_am l D A σ 5 MC MS h0 (fun v h => ∃ r, v = some (.long r) ∧ Qr r h) (fun _ _ => False) y_Exact_whole.cls y_Exact_whole.name b_Exact_whole 11 ([] : List ExceptionTableEntry) (some .long) 125 [(0, .ref x0), (1, .int x1), (4, .long x4), (6, .int x6)] [.int y0] h 0 0 := by
  unfold w_Exact_whole_L125 at hw
  intro p e s m args below meth c hC H locs ls k n hE hl hR hS hk hn
  obtain ⟨hx, hb, hown, hlocks, htab, hml, hr, hB, hA, hnm⟩ := id hC
  have hts := hB.1.1.at args
  refine lv_istore hx hb (xb_d D_Exact_whole 71 rfl) hl (by decide) rfl (fun ls hl => ?_)
  have hl : lv_has ls 11 [(7, .int y0), (0, .ref x0), (1, .int x1), (4, .long x4), (6, .int x6)] := hl
  refine lv_iload hx hb (xb_d D_Exact_whole 72 rfl) (lv_at hl 0 rfl) ?_
  refine lv_if_eq (tgt := 160) hx hb (xb_d D_Exact_whole 73 rfl) rfl (fun hc1 => ?_) (fun hc1 => ?_)
  · have hw := hw.1 hc1
    exact am_Exact_whole_L160 l hfl D A σ MC MS h0 Qr x0 x1 x4 x6 y0 h hw p e s m args below meth c hC H locs ls k n hE (lv_sub hl [1, 2, 3, 4, 0] rfl) hR hS (by omega) (by omega)
  · have hw := hw.2 hc1
    refine lv_aload_n hx hb (xb_d D_Exact_whole 74 rfl) rfl (lv_at hl 1 rfl) ?_
    obtain ⟨hk2, hw⟩ := hw
    refine xb_getL (C := R_Exact) (T := F_Exact) (N := 11) hx hb 9 9 hts fin_Exact hown hR hk2 (by decide) rfl (by decide) rfl (hts _ m_183e6a18) (fun _ h9 => h9) (xb_d D_Exact_whole 75 rfl) ?_
    refine lv_ldc2 (v := 2) hx hb hown (hts _ m_9070420a) (xb_d D_Exact_whole 76 rfl) ?_
    refine lv_lload hx hb (xb_d D_Exact_whole 77 rfl) (lv_at hl 3 rfl) ?_
    refine lv_lmul hx hb (xb_d D_Exact_whole 78 rfl) ?_
    refine lv_lconst (v := 1) hx hb (xb_d D_Exact_whole 79 rfl) (by decide) ?_
    refine lv_ladd hx hb (xb_d D_Exact_whole 80 rfl) ?_
    refine lv_aload_n hx hb (xb_d D_Exact_whole 81 rfl) rfl (lv_at hl 1 rfl) ?_
    refine xb_getI (C := R_Exact) (T := F_Exact) (N := 11) hx hb 9 10 hts fin_Exact hown hR hk2 (by decide) rfl (by decide) rfl (hts _ m_a62210ac) (fun _ h9 => h9) (xb_d D_Exact_whole 82 rfl) ?_
    refine lv_ineg hx hb (xb_d D_Exact_whole 83 rfl) ?_
    refine lv_iconst (v := 1) hx hb (xb_d D_Exact_whole 84 rfl) (by decide) ?_
    refine lv_isub hx hb (xb_d D_Exact_whole 85 rfl) ?_
    refine lv_lshl (v := (xb_lshl ((2 * x4) + 1) ((-(xb_i h x0 10)) - 1))) hx hb (xb_d D_Exact_whole 86 rfl) rfl ?_
    refine xb_lc_eq (tgt := 160) hx hb (xb_d D_Exact_whole 87 rfl) (xb_d D_Exact_whole 88 rfl) rfl (fun hc3 => ?_) (fun hc3 => ?_)
    · have hw := hw.1 hc3
      exact am_Exact_whole_L160 l hfl D A σ MC MS h0 Qr x0 x1 x4 x6 y0 h hw p e s m args below meth c hC H locs ls k n hE (lv_sub hl [1, 2, 3, 4, 0] rfl) hR hS (by omega) (by omega)
    · have hw := hw.2 hc3
      refine lv_iconst (v := 1) hx hb (xb_d D_Exact_whole 89 rfl) (by decide) ?_
      refine lv_goto (tgt := 161) hx hb (xb_d D_Exact_whole 90 rfl) rfl ?_
      exact am_Exact_whole_L161 l hfl D A σ MC MS h0 Qr x0 x1 x4 x6 y0 1 h hw p e s m args below meth c hC H locs ls k n hE (lv_sub hl [1, 2, 3, 4, 0] rfl) hR hS (by omega) (by omega)

set_option maxHeartbeats 4000000 in
set_option maxRecDepth 100000 in
theorem am_Exact_whole_L124 (l : Launch) (hfl : l.flags = pinnedFlags ++ [noTraceFlag]) (D : va_G) (A : Nat → Prop) (σ MC MS : Nat) (h0 : xb_H) (Qr : Int64 → xb_H → Prop) (x0 : Nat) (x1 : Int32) (x4 : Int64) (x6 : Int32) (h : xb_H) (hw : w_Exact_whole_L124 Qr x0 x1 x4 x6 h) : xb_am l D A σ 5 MC MS h0 (fun v h => ∃ r, v = some (.long r) ∧ Qr r h) (fun _ _ => False) y_Exact_whole.cls y_Exact_whole.name b_Exact_whole 11 ([] : List ExceptionTableEntry) (some .long) 124 [(0, .ref x0), (1, .int x1), (4, .long x4), (6, .int x6)] [] h 0 0 := by
  unfold w_Exact_whole_L124 at hw
  intro p e s m args below meth c hC H locs ls k n hE hl hR hS hk hn
  obtain ⟨hx, hb, hown, hlocks, htab, hml, hr, hB, hA, hnm⟩ := id hC
  have hts := hB.1.1.at args
  refine lv_iconst (v := 0) hx hb (xb_d D_Exact_whole 70 rfl) (by decide) ?_
  exact am_Exact_whole_L125 l hfl D A σ MC MS h0 Qr x0 x1 x4 x6 0 h hw p e s m args below meth c hC H locs ls k n hE (lv_sub hl [0, 1, 2, 3] rfl) hR hS (by omega) (by omega)

set_option maxHeartbeats 4000000 in
set_option maxRecDepth 100000 in
theorem am_Exact_whole_L89 (l : Launch) (hfl : l.flags = pinnedFlags ++ [noTraceFlag]) (D : va_G) (A : Nat → Prop) (σ MC MS : Nat) (h0 : xb_H) (Qr : Int64 → xb_H → Prop) (x0 : Nat) (x1 : Int32) (x4 : Int64) (y0 : Int32) (h : xb_H) (hw : w_Exact_whole_L89 Qr x0 x1 x4 y0 h) : xb_am l D A σ 5 MC MS h0 (fun v h => ∃ r, v = some (.long r) ∧ Qr r h) (fun _ _ => False) y_Exact_whole.cls y_Exact_whole.name b_Exact_whole 11 ([] : List ExceptionTableEntry) (some .long) 89 [(0, .ref x0), (1, .int x1), (4, .long x4)] [.int y0] h 0 0 := by
  unfold w_Exact_whole_L89 at hw
  intro p e s m args below meth c hC H locs ls k n hE hl hR hS hk hn
  obtain ⟨hx, hb, hown, hlocks, htab, hml, hr, hB, hA, hnm⟩ := id hC
  have hts := hB.1.1.at args
  refine lv_istore hx hb (xb_d D_Exact_whole 49 rfl) hl (by decide) rfl (fun ls hl => ?_)
  have hl : lv_has ls 11 [(6, .int y0), (0, .ref x0), (1, .int x1), (4, .long x4)] := hl
  refine lv_aload_n hx hb (xb_d D_Exact_whole 50 rfl) rfl (lv_at hl 1 rfl) ?_
  obtain ⟨hk1, hw⟩ := hw
  refine xb_getI (C := R_Exact) (T := F_Exact) (N := 11) hx hb 9 10 hts fin_Exact hown hR hk1 (by decide) rfl (by decide) rfl (hts _ m_a62210ac) (fun _ h9 => h9) (xb_d D_Exact_whole 51 rfl) ?_
  refine lv_ineg hx hb (xb_d D_Exact_whole 52 rfl) ?_
  refine lv_bipush (v := 63) hx hb (xb_d D_Exact_whole 53 rfl) (by decide) ?_
  refine lv_icmp_gt (tgt := 124) hx hb (xb_d D_Exact_whole 54 rfl) rfl (fun hc2 => ?_) (fun hc2 => ?_)
  · have hw := hw.1 hc2
    exact am_Exact_whole_L124 l hfl D A σ MC MS h0 Qr x0 x1 x4 y0 h hw p e s m args below meth c hC H locs ls k n hE (lv_sub hl [1, 2, 3, 0] rfl) hR hS (by omega) (by omega)
  · have hw := hw.2 hc2
    refine lv_aload_n hx hb (xb_d D_Exact_whole 55 rfl) rfl (lv_at hl 1 rfl) ?_
    refine xb_getL (C := R_Exact) (T := F_Exact) (N := 11) hx hb 9 9 hts fin_Exact hown hR hk1 (by decide) rfl (by decide) rfl (hts _ m_183e6a18) (fun _ h9 => h9) (xb_d D_Exact_whole 56 rfl) ?_
    refine lv_aload_n hx hb (xb_d D_Exact_whole 57 rfl) rfl (lv_at hl 1 rfl) ?_
    refine xb_getI (C := R_Exact) (T := F_Exact) (N := 11) hx hb 9 10 hts fin_Exact hown hR hk1 (by decide) rfl (by decide) rfl (hts _ m_a62210ac) (fun _ h9 => h9) (xb_d D_Exact_whole 58 rfl) ?_
    refine lv_ineg hx hb (xb_d D_Exact_whole 59 rfl) ?_
    refine lv_iconst (v := 1) hx hb (xb_d D_Exact_whole 60 rfl) (by decide) ?_
    refine lv_isub hx hb (xb_d D_Exact_whole 61 rfl) ?_
    refine lv_lshr (v := (xb_lshr (xb_l h x0 9) ((-(xb_i h x0 10)) - 1))) hx hb (xb_d D_Exact_whole 62 rfl) rfl ?_
    refine lv_lconst (v := 1) hx hb (xb_d D_Exact_whole 63 rfl) (by decide) ?_
    refine lv_land hx hb (xb_d D_Exact_whole 64 rfl) ?_
    refine lv_lconst (v := 1) hx hb (xb_d D_Exact_whole 65 rfl) (by decide) ?_
    refine xb_lc_ne (tgt := 124) hx hb (xb_d D_Exact_whole 66 rfl) (xb_d D_Exact_whole 67 rfl) rfl (fun hc3 => ?_) (fun hc3 => ?_)
    · have hw := hw.1 hc3
      exact am_Exact_whole_L124 l hfl D A σ MC MS h0 Qr x0 x1 x4 y0 h hw p e s m args below meth c hC H locs ls k n hE (lv_sub hl [1, 2, 3, 0] rfl) hR hS (by omega) (by omega)
    · have hw := hw.2 hc3
      refine lv_iconst (v := 1) hx hb (xb_d D_Exact_whole 68 rfl) (by decide) ?_
      refine lv_goto (tgt := 125) hx hb (xb_d D_Exact_whole 69 rfl) rfl ?_
      exact am_Exact_whole_L125 l hfl D A σ MC MS h0 Qr x0 x1 x4 y0 1 h hw p e s m args below meth c hC H locs ls k n hE (lv_sub hl [1, 2, 3, 0] rfl) hR hS (by omega) (by omega)

set_option maxHeartbeats 4000000 in
set_option maxRecDepth 100000 in
theorem am_Exact_whole_L84 (l : Launch) (hfl : l.flags = pinnedFlags ++ [noTraceFlag]) (D : va_G) (A : Nat → Prop) (σ MC MS : Nat) (h0 : xb_H) (Qr : Int64 → xb_H → Prop) (x0 : Nat) (x1 : Int32) (x4 : Int64) (h : xb_H) (hw : w_Exact_whole_L84 Qr x0 x1 x4 h) : xb_am l D A σ 5 MC MS h0 (fun v h => ∃ r, v = some (.long r) ∧ Qr r h) (fun _ _ => False) y_Exact_whole.cls y_Exact_whole.name b_Exact_whole 11 ([] : List ExceptionTableEntry) (some .long) 84 [(0, .ref x0), (1, .int x1), (4, .long x4)] [] h 0 0 := by
  unfold w_Exact_whole_L84 at hw
  intro p e s m args below meth c hC H locs ls k n hE hl hR hS hk hn
  obtain ⟨hx, hb, hown, hlocks, htab, hml, hr, hB, hA, hnm⟩ := id hC
  have hts := hB.1.1.at args
  refine lv_iconst (v := 1) hx hb (xb_d D_Exact_whole 46 rfl) (by decide) ?_
  refine lv_goto (tgt := 89) hx hb (xb_d D_Exact_whole 47 rfl) rfl ?_
  exact am_Exact_whole_L89 l hfl D A σ MC MS h0 Qr x0 x1 x4 1 h hw p e s m args below meth c hC H locs ls k n hE (lv_sub hl [0, 1, 2] rfl) hR hS (by omega) (by omega)

set_option maxHeartbeats 4000000 in
set_option maxRecDepth 100000 in
theorem am_Exact_whole_L56 (l : Launch) (hfl : l.flags = pinnedFlags ++ [noTraceFlag]) (D : va_G) (A : Nat → Prop) (σ MC MS : Nat) (h0 : xb_H) (Qr : Int64 → xb_H → Prop) (x0 : Nat) (x1 : Int32) (y0 : Int64) (h : xb_H) (hw : w_Exact_whole_L56 Qr x0 x1 y0 h) : xb_am l D A σ 5 MC MS h0 (fun v h => ∃ r, v = some (.long r) ∧ Qr r h) (fun _ _ => False) y_Exact_whole.cls y_Exact_whole.name b_Exact_whole 11 ([] : List ExceptionTableEntry) (some .long) 56 [(0, .ref x0), (1, .int x1)] [.long y0] h 0 0 := by
  unfold w_Exact_whole_L56 at hw
  intro p e s m args below meth c hC H locs ls k n hE hl hR hS hk hn
  obtain ⟨hx, hb, hown, hlocks, htab, hml, hr, hB, hA, hnm⟩ := id hC
  have hts := hB.1.1.at args
  refine lv_lstore hx hb (xb_d D_Exact_whole 31 rfl) hl (by decide) rfl (fun ls hl => ?_)
  have hl : lv_has ls 11 [(4, .long y0), (0, .ref x0), (1, .int x1)] := hl
  refine lv_aload_n hx hb (xb_d D_Exact_whole 32 rfl) rfl (lv_at hl 1 rfl) ?_
  obtain ⟨hk1, hw⟩ := hw
  refine xb_getI (C := R_Exact) (T := F_Exact) (N := 11) hx hb 9 10 hts fin_Exact hown hR hk1 (by decide) rfl (by decide) rfl (hts _ m_a62210ac) (fun _ h9 => h9) (xb_d D_Exact_whole 33 rfl) ?_
  refine lv_ineg hx hb (xb_d D_Exact_whole 34 rfl) ?_
  refine lv_bipush (v := 62) hx hb (xb_d D_Exact_whole 35 rfl) (by decide) ?_
  refine lv_icmp_gt (tgt := 84) hx hb (xb_d D_Exact_whole 36 rfl) rfl (fun hc2 => ?_) (fun hc2 => ?_)
  · have hw := hw.1 hc2
    exact am_Exact_whole_L84 l hfl D A σ MC MS h0 Qr x0 x1 y0 h hw p e s m args below meth c hC H locs ls k n hE (lv_sub hl [1, 2, 0] rfl) hR hS (by omega) (by omega)
  · have hw := hw.2 hc2
    refine lv_aload_n hx hb (xb_d D_Exact_whole 37 rfl) rfl (lv_at hl 1 rfl) ?_
    refine xb_getL (C := R_Exact) (T := F_Exact) (N := 11) hx hb 9 9 hts fin_Exact hown hR hk1 (by decide) rfl (by decide) rfl (hts _ m_183e6a18) (fun _ h9 => h9) (xb_d D_Exact_whole 38 rfl) ?_
    refine lv_lload hx hb (xb_d D_Exact_whole 39 rfl) (lv_at hl 0 rfl) ?_
    refine lv_aload_n hx hb (xb_d D_Exact_whole 40 rfl) rfl (lv_at hl 1 rfl) ?_
    refine xb_getI (C := R_Exact) (T := F_Exact) (N := 11) hx hb 9 10 hts fin_Exact hown hR hk1 (by decide) rfl (by decide) rfl (hts _ m_a62210ac) (fun _ h9 => h9) (xb_d D_Exact_whole 41 rfl) ?_
    refine lv_ineg hx hb (xb_d D_Exact_whole 42 rfl) ?_
    refine lv_lshl (v := (xb_lshl y0 (-(xb_i h x0 10)))) hx hb (xb_d D_Exact_whole 43 rfl) rfl ?_
    refine xb_lc_eq (tgt := 88) hx hb (xb_d D_Exact_whole 44 rfl) (xb_d D_Exact_whole 45 rfl) rfl (fun hc3 => ?_) (fun hc3 => ?_)
    · have hw := hw.1 hc3
      refine lv_iconst (v := 0) hx hb (xb_d D_Exact_whole 48 rfl) (by decide) ?_
      exact am_Exact_whole_L89 l hfl D A σ MC MS h0 Qr x0 x1 y0 0 h hw p e s m args below meth c hC H locs ls k n hE (lv_sub hl [1, 2, 0] rfl) hR hS (by omega) (by omega)
    · have hw := hw.2 hc3
      exact am_Exact_whole_L84 l hfl D A σ MC MS h0 Qr x0 x1 y0 h hw p e s m args below meth c hC H locs ls k n hE (lv_sub hl [1, 2, 0] rfl) hR hS (by omega) (by omega)

set_option maxHeartbeats 4000000 in
set_option maxRecDepth 100000 in
theorem am_Exact_whole_L16 (l : Launch) (hfl : l.flags = pinnedFlags ++ [noTraceFlag]) (D : va_G) (A : Nat → Prop) (σ MC MS : Nat) (h0 : xb_H) (Qr : Int64 → xb_H → Prop) (x2 : Int64) (h : xb_H) (hw : w_Exact_whole_L16 Qr x2 h) : xb_am l D A σ 5 MC MS h0 (fun v h => ∃ r, v = some (.long r) ∧ Qr r h) (fun _ _ => False) y_Exact_whole.cls y_Exact_whole.name b_Exact_whole 11 ([] : List ExceptionTableEntry) (some .long) 16 [(2, .long x2)] [] h 0 0 := by
  unfold w_Exact_whole_L16 at hw
  intro p e s m args below meth c hC H locs ls k n hE hl hR hS hk hn
  obtain ⟨hx, hb, hown, hlocks, htab, hml, hr, hB, hA, hnm⟩ := id hC
  have hts := hB.1.1.at args
  refine lv_lload_n hx hb (xb_d D_Exact_whole 8 rfl) rfl (lv_at hl 0 rfl) ?_
  exact xb_lret hx hb hr hlocks (show k ≤ MC by omega) (show n ≤ MS by omega) hE hR hS (xb_d D_Exact_whole 9 rfl) hw

set_option maxHeartbeats 4000000 in
set_option maxRecDepth 100000 in
theorem ok_Exact_whole (l : Launch) (hfl : l.flags = pinnedFlags ++ [noTraceFlag]) (D : va_G) (A : Nat → Prop) (σ : Nat) (x0 : Nat) (x1 : Int32) (x2 : Int64) (h : xb_H) (Qr : Int64 → xb_H → Prop) (hw : w_Exact_whole x0 x1 x2 h Qr) : xt_Met l y_Exact_whole [.code y_Exact_whole b_Exact_whole 11 (some .long)] (xb_rm 5 0 0) (xb_Pc D A σ h [.ref x0, .int x1, .long x2]) (xb_Qc D A h (fun v h => ∃ r, v = some (.long r) ∧ Qr r h) (fun _ _ => False)) 0 0 A := by
  refine xb_ofAm (cc := b_Exact_whole) (by decide) (Nat.le_of_ble_eq_true rfl) ?_
  unfold w_Exact_whole at hw
  show xb_am l D A σ 5 0 0 h (fun v h => ∃ r, v = some (.long r) ∧ Qr r h) (fun _ _ => False) y_Exact_whole.cls y_Exact_whole.name b_Exact_whole 11 ([] : List ExceptionTableEntry) (some .long) 0 [(0, .ref x0), (1, .int x1), (2, .long x2)] [] h 0 0
  obtain ⟨MC, hMC⟩ : ∃ x, x = 0 := ⟨_, rfl⟩
  obtain ⟨MS, hMS⟩ : ∃ x, x = 0 := ⟨_, rfl⟩
  rw [show xb_am l D A σ 5 0 0 = xb_am l D A σ 5 MC MS by rw [hMC, hMS]]
  obtain ⟨h0, hh0⟩ : ∃ x, x = h := ⟨_, rfl⟩
  rw [show xb_am l D A σ 5 MC MS h = xb_am l D A σ 5 MC MS h0 by rw [hh0]]
  intro p e s m args below meth c hC H locs ls k n hE hl hR hS hk hn
  obtain ⟨hx, hb, hown, hlocks, htab, hml, hr, hB, hA, hnm⟩ := id hC
  have hts := hB.1.1.at args
  refine lv_aload_n hx hb (xb_d D_Exact_whole 0 rfl) rfl (lv_at hl 0 rfl) ?_
  refine lv_lload_n hx hb (xb_d D_Exact_whole 1 rfl) rfl (lv_at hl 2 rfl) ?_
  obtain ⟨hk1, hw⟩ := hw
  refine xb_call (D := D) (A := A) (σ := σ) (h := h) (d := 4) (mc := 0) (ms := 0) (maxL := 3) (rest := []) (av := [.ref x0, .long x2]) (fun T hT X => by obtain ⟨cb, r1, r2, r3⟩ := xb_recv (ci := 9) hR rfl hk1 (by decide); exact xt_invV X hx hown (hts _ m_4d51455e) (hts _ m_6f0f72ed) (hts _ m_54335684) (xt_sigOf (hts _ m_c0f31264)) nm_Exact_isInfinite (by rw [hT]; exact r1) r2 r3 (g := F0 m 2 ls [.long x2, .ref x0]) rfl (argsL := [.long x2]) (rest := []) rfl rfl (by rw [hb]; exact (xb_d D_Exact_whole 2 rfl))) (ok_Exact_isInfinite l hfl D A σ x0 x2 h _ hw) (hml.trans hl.1.symm) (by rw [hb]; exact (xb_d D_Exact_whole 2 rfl)) (Nat.le_of_ble_eq_true rfl) (Nat.le_of_ble_eq_true rfl) (Nat.le_of_ble_eq_true rfl) (show k + 0 ≤ MC by omega) (show n + 0 ≤ MS by omega) (xt_w1 hB.1 m_c0f31264) (xt_cdOf hB.1 m_c0f31264) (hts _ m_b807310b) hB hR hS hA (fun vv h2 H locs hq hEh2 hR hS => ?_) (fun XX ax h2 H locs hq hEh2 hex hR hS => ?_)
  · obtain ⟨r3, rfl, hw⟩ := hq
    have hw := hw hEh2
    have hE := hE.tr hEh2
    refine W.eq (g2 := F0 m 5 ls [.int r3]) rfl ?_
    refine lv_if_ne (tgt := 16) hx hb (xb_d D_Exact_whole 3 rfl) rfl (fun hc4 => ?_) (fun hc4 => ?_)
    · have hw := hw.1 hc4
      exact am_Exact_whole_L16 l hfl D A σ MC MS h0 Qr x2 h2 hw p e s m args below meth c hC H locs ls k n hE (lv_sub hl [2] rfl) hR hS (by omega) (by omega)
    · have hw := hw.2 hc4
      refine lv_aload_n hx hb (xb_d D_Exact_whole 4 rfl) rfl (lv_at hl 0 rfl) ?_
      refine lv_lload_n hx hb (xb_d D_Exact_whole 5 rfl) rfl (lv_at hl 2 rfl) ?_
      have hk1 : xb_k h2 x0 = 10 := hEh2.k hk1
      refine xb_call (D := D) (A := A) (σ := σ) (h := h2) (d := 3) (mc := 0) (ms := 0) (maxL := 3) (rest := []) (av := [.ref x0, .long x2]) (fun T hT X => by obtain ⟨cb, r1, r2, r3⟩ := xb_recv (ci := 9) hR rfl hk1 (by decide); exact xt_invV X hx hown (hts _ m_f9e5bce2) (hts _ m_d4ccf81e) (hts _ m_870ffa92) (xt_sigOf (hts _ m_b231eb2b)) nm_Exact_isZero (by rw [hT]; exact r1) r2 r3 (g := F0 m 10 ls [.long x2, .ref x0]) rfl (argsL := [.long x2]) (rest := []) rfl rfl (by rw [hb]; exact (xb_d D_Exact_whole 6 rfl))) (ok_Exact_isZero l hfl D A σ x0 x2 h2 _ hw) (hml.trans hl.1.symm) (by rw [hb]; exact (xb_d D_Exact_whole 6 rfl)) (Nat.le_of_ble_eq_true rfl) (Nat.le_of_ble_eq_true rfl) (Nat.le_of_ble_eq_true rfl) (show k + 0 ≤ MC by omega) (show n + 0 ≤ MS by omega) (xt_w1 hB.1 m_b231eb2b) (xt_cdOf hB.1 m_b231eb2b) (hts _ m_b807310b) hB hR hS hA (fun vv h5 H locs hq hEh5 hR hS => ?_) (fun XX ax h5 H locs hq hEh5 hex hR hS => ?_)
      · obtain ⟨r6, rfl, hw⟩ := hq
        have hw := hw hEh5
        have hE := hE.tr hEh5
        refine W.eq (g2 := F0 m 13 ls [.int r6]) rfl ?_
        refine lv_if_eq (tgt := 18) hx hb (xb_d D_Exact_whole 7 rfl) rfl (fun hc7 => ?_) (fun hc7 => ?_)
        · have hw := hw.1 hc7
          refine lv_aload_n hx hb (xb_d D_Exact_whole 10 rfl) rfl (lv_at hl 0 rfl) ?_
          refine lv_lload_n hx hb (xb_d D_Exact_whole 11 rfl) rfl (lv_at hl 2 rfl) ?_
          have hk1 : xb_k h5 x0 = 10 := hEh5.k hk1
          refine xb_call (D := D) (A := A) (σ := σ) (h := h5) (d := 3) (mc := 0) (ms := 0) (maxL := 7) (rest := []) (av := [.ref x0, .long x2]) (fun T hT X => by obtain ⟨cb, r1, r2, r3⟩ := xb_recv (ci := 9) hR rfl hk1 (by decide); exact xt_invV X hx hown (hts _ m_26946ca5) (hts _ m_c8f41404) (hts _ m_e3ba6af7) (xt_sigOf (hts _ m_921646f3)) nm_Exact_split (by rw [hT]; exact r1) r2 r3 (g := F0 m 20 ls [.long x2, .ref x0]) rfl (argsL := [.long x2]) (rest := []) rfl rfl (by rw [hb]; exact (xb_d D_Exact_whole 12 rfl))) (ok_Exact_split l hfl D A σ x0 x2 h5 _ hw) (hml.trans hl.1.symm) (by rw [hb]; exact (xb_d D_Exact_whole 12 rfl)) (Nat.le_of_ble_eq_true rfl) (Nat.le_of_ble_eq_true rfl) (Nat.le_of_ble_eq_true rfl) (show k + 0 ≤ MC by omega) (show n + 0 ≤ MS by omega) (xt_w1 hB.1 m_921646f3) (xt_cdOf hB.1 m_921646f3) (hts _ m_b807310b) hB hR hS hA (fun vv h8 H locs hq hEh8 hR hS => ?_) (fun XX ax h8 H locs hq hEh8 hex hR hS => ?_)
          · obtain ⟨rfl, hw⟩ := hq
            have hw := hw hEh8
            have hE := hE.tr hEh8
            refine W.eq (g2 := F0 m 23 ls []) rfl ?_
            refine lv_aload_n hx hb (xb_d D_Exact_whole 13 rfl) rfl (lv_at hl 0 rfl) ?_
            have hk1 : xb_k h8 x0 = 10 := hEh8.k hk1
            refine xb_getI (C := R_Exact) (T := F_Exact) (N := 11) hx hb 9 10 hts fin_Exact hown hR hk1 (by decide) rfl (by decide) rfl (hts _ m_a62210ac) (fun _ h9 => h9) (xb_d D_Exact_whole 14 rfl) ?_
            refine lv_if_lt (tgt := 32) hx hb (xb_d D_Exact_whole 15 rfl) rfl (fun hc10 => ?_) (fun hc10 => ?_)
            · have hw := hw.1 hc10
              refine lv_aload_n hx hb (xb_d D_Exact_whole 18 rfl) rfl (lv_at hl 0 rfl) ?_
              refine xb_getI (C := R_Exact) (T := F_Exact) (N := 11) hx hb 9 10 hts fin_Exact hown hR hk1 (by decide) rfl (by decide) rfl (hts _ m_a62210ac) (fun _ h9 => h9) (xb_d D_Exact_whole 19 rfl) ?_
              refine lv_ineg hx hb (xb_d D_Exact_whole 20 rfl) ?_
              refine lv_bipush (v := 62) hx hb (xb_d D_Exact_whole 21 rfl) (by decide) ?_
              refine lv_icmp_le (tgt := 46) hx hb (xb_d D_Exact_whole 22 rfl) rfl (fun hc11 => ?_) (fun hc11 => ?_)
              · have hw := hw.1 hc11
                refine lv_aload_n hx hb (xb_d D_Exact_whole 25 rfl) rfl (lv_at hl 0 rfl) ?_
                refine xb_getL (C := R_Exact) (T := F_Exact) (N := 11) hx hb 9 9 hts fin_Exact hown hR hk1 (by decide) rfl (by decide) rfl (hts _ m_183e6a18) (fun _ h9 => h9) (xb_d D_Exact_whole 26 rfl) ?_
                refine lv_aload_n hx hb (xb_d D_Exact_whole 27 rfl) rfl (lv_at hl 0 rfl) ?_
                refine xb_getI (C := R_Exact) (T := F_Exact) (N := 11) hx hb 9 10 hts fin_Exact hown hR hk1 (by decide) rfl (by decide) rfl (hts _ m_a62210ac) (fun _ h9 => h9) (xb_d D_Exact_whole 28 rfl) ?_
                refine lv_ineg hx hb (xb_d D_Exact_whole 29 rfl) ?_
                refine lv_lshr (v := (xb_lshr (xb_l h8 x0 9) (-(xb_i h8 x0 10)))) hx hb (xb_d D_Exact_whole 30 rfl) rfl ?_
                exact am_Exact_whole_L56 l hfl D A σ MC MS h0 Qr x0 x1 (xb_lshr (xb_l h8 x0 9) (-(xb_i h8 x0 10))) h8 hw p e s m args below meth c hC H locs ls k n hE (lv_sub hl [0, 1] rfl) hR hS (by omega) (by omega)
              · have hw := hw.2 hc11
                refine lv_lconst (v := 0) hx hb (xb_d D_Exact_whole 23 rfl) (by decide) ?_
                refine lv_goto (tgt := 56) hx hb (xb_d D_Exact_whole 24 rfl) rfl ?_
                exact am_Exact_whole_L56 l hfl D A σ MC MS h0 Qr x0 x1 0 h8 hw p e s m args below meth c hC H locs ls k n hE (lv_sub hl [0, 1] rfl) hR hS (by omega) (by omega)
            · have hw := hw.2 hc10
              refine lv_lload_n hx hb (xb_d D_Exact_whole 16 rfl) rfl (lv_at hl 2 rfl) ?_
              exact xb_lret hx hb hr hlocks (show k ≤ MC by omega) (show n ≤ MS by omega) hE hR hS (xb_d D_Exact_whole 17 rfl) hw
          · exact False.elim hq
        · have hw := hw.2 hc7
          exact am_Exact_whole_L16 l hfl D A σ MC MS h0 Qr x2 h5 hw p e s m args below meth c hC H locs ls k n hE (lv_sub hl [2] rfl) hR hS (by omega) (by omega)
      · exact False.elim hq
  · exact False.elim hq

theorem m_7caf537c : (.methodLink "StackHost" 207 y_World_addName : Cond) ∈ xt_tbl := xt_in (xt_t7 (List.mem_of_getElem? (i := 132) (by decide +kernel))) (by decide +kernel)
theorem m_7323471a : (.instanceMethod y_World_addName : Cond) ∈ xt_tbl := xt_in (xt_t7 (List.mem_of_getElem? (i := 133) (by decide +kernel))) (by decide +kernel)
theorem m_eaab6220 : (.selects "StackHost$World" y_World_addName y_World_addName : Cond) ∈ xt_tbl := xt_in (xt_t7 (List.mem_of_getElem? (i := 134) (by decide +kernel))) (by decide +kernel)
theorem m_dafd6dc6 : (.code y_World_addName b_World_addName 4 none : Cond) ∈ xt_tbl := xt_in (xt_t7 (List.mem_of_getElem? (i := 135) (by decide +kernel))) (by decide +kernel)
theorem nm_World_addName : xt_nm y_World_addName 3 := ⟨by decide +kernel, by decide +kernel⟩
set_option maxRecDepth 100000 in
def T_H_name : List (Nat × Instr × Nat) := [(0, .aload_n 0, 1), (1, .iload_n 1, 1), (2, .invokevirtual 200, 3), (5, .astore_n 2, 1), (6, .aload_n 0, 1), (7, .getfield 36, 3), (10, .aload_n 2, 1), (11, .getfield 204, 3), (14, .aload_n 0, 1), (15, .getfield 9, 3), (18, .aload_n 0, 1), (19, .getfield 58, 3), (22, .invokevirtual 207, 3), (25, .aload_n 0, 1), (26, .iconst 0, 1), (27, .putfield 58, 3), (30, .return_, 1)]
theorem D_H_name : ∀ q ∈ T_H_name, decode b_H_name q.1 = .ok (q.2.1, q.2.2) := by decide +kernel
def w_H_name (x0 : Nat) (x1 : Int32) (h : xb_H) (bc : Nat) (bs : Nat) (Qr : xb_H → Prop) (Qt : String → xb_H → Prop) : Prop :=
    xb_k h x0 = 1 ∧ ∃ c4 sc4 : Nat, c4 ≤ bc ∧ sc4 ≤ bs ∧ w_H_instanceNumbered x0 x1 h c4 sc4 (fun (r3 : Nat) (h2 : xb_H) => xb_ext h h2 → ∃ b5 : Nat, (xb_r h2 x0 6) = some b5 ∧ xb_k h2 r3 = 11 ∧ ∃ b7 : Nat, (xb_r h2 x0 0) = some b7 ∧ xb_k h2 b5 = 7 ∧ ∃ c11 sc11 : Nat, c11 ≤ (bc - c4) ∧ sc11 ≤ (bs - sc4) ∧ w_World_addName b5 (xb_i h2 r3 0) b7 (xb_i h2 x0 1) h2 c11 sc11 (fun (h9 : xb_H) => xb_ext h2 h9 → ∀ h12 : xb_H, h12 = xb_I h9 x0 1 0 → Qr h12)) Qt

set_option maxHeartbeats 4000000 in
set_option maxRecDepth 100000 in
theorem ok_H_name (l : Launch) (hfl : l.flags = pinnedFlags ++ [noTraceFlag]) (D : va_G) (A : Nat → Prop) (σ : Nat) (x0 : Nat) (x1 : Int32) (h : xb_H) (bc : Nat) (bs : Nat) (Qr : xb_H → Prop) (Qt : String → xb_H → Prop) (hw : w_H_name x0 x1 h bc bs Qr Qt) : xt_Met l y_H_name [.code y_H_name b_H_name 3 none] (xb_rm 6 bc bs) (xb_Pc D A σ h [.ref x0, .int x1]) (xb_Qc D A h (fun v h => v = none ∧ Qr h) Qt) bc bs A := by
  refine xb_ofAm (cc := b_H_name) (by decide) (Nat.le_of_ble_eq_true rfl) ?_
  unfold w_H_name at hw
  show xb_am l D A σ 6 bc bs h (fun v h => v = none ∧ Qr h) Qt y_H_name.cls y_H_name.name b_H_name 3 ([] : List ExceptionTableEntry) none 0 [(0, .ref x0), (1, .int x1)] [] h bc bs
  obtain ⟨MC, hMC⟩ : ∃ x, x = bc := ⟨_, rfl⟩
  obtain ⟨MS, hMS⟩ : ∃ x, x = bs := ⟨_, rfl⟩
  rw [show xb_am l D A σ 6 bc bs = xb_am l D A σ 6 MC MS by rw [hMC, hMS]]
  obtain ⟨h0, hh0⟩ : ∃ x, x = h := ⟨_, rfl⟩
  rw [show xb_am l D A σ 6 MC MS h = xb_am l D A σ 6 MC MS h0 by rw [hh0]]
  intro p e s m args below meth c hC H locs ls k n hE hl hR hS hk hn
  obtain ⟨hx, hb, hown, hlocks, htab, hml, hr, hB, hA, hnm⟩ := id hC
  have hts := hB.1.1.at args
  refine lv_aload_n hx hb (xb_d D_H_name 0 rfl) rfl (lv_at hl 0 rfl) ?_
  refine lv_iload_n hx hb (xb_d D_H_name 1 rfl) rfl (lv_at hl 1 rfl) ?_
  obtain ⟨hk1, hw⟩ := hw
  obtain ⟨c4, sc4, hlc4, hlsc4, hw⟩ := hw
  refine xb_call (D := D) (A := A) (σ := σ) (h := h) (d := 2) (mc := c4) (ms := sc4) (maxL := 2) (rest := []) (av := [.ref x0, .int x1]) (fun T hT X => by obtain ⟨cb, r1, r2, r3⟩ := xb_recv (ci := 0) hR rfl hk1 (by decide); exact xt_invV X hx hown (hts _ m_63e9a525) (hts _ m_93abae91) (hts _ m_f44e4f6a) (xt_sigOf (hts _ m_925de4f3)) nm_H_instanceNumbered (by rw [hT]; exact r1) r2 r3 (g := F0 m 2 ls [.int x1, .ref x0]) rfl (argsL := [.int x1]) (rest := []) rfl rfl (by rw [hb]; exact (xb_d D_H_name 2 rfl))) (ok_H_instanceNumbered l hfl D A σ x0 x1 h c4 sc4 _ _ hw) (hml.trans hl.1.symm) (by rw [hb]; exact (xb_d D_H_name 2 rfl)) (Nat.le_of_ble_eq_true rfl) (Nat.le_of_ble_eq_true rfl) (Nat.le_of_ble_eq_true rfl) (show k + c4 ≤ MC by omega) (show n + sc4 ≤ MS by omega) (xt_w1 hB.1 m_925de4f3) (xt_cdOf hB.1 m_925de4f3) (hts _ m_ba0734f5) hB hR hS hA (fun vv h2 H locs hq hEh2 hR hS => ?_) (fun XX ax h2 H locs hq hEh2 hex hR hS => ?_)
  · obtain ⟨r3, rfl, hw⟩ := hq
    have hw := hw hEh2
    have hE := hE.tr hEh2
    refine W.eq (g2 := F0 m 5 ls [.ref r3]) rfl ?_
    refine lv_astore_n hx hb (xb_d D_H_name 3 rfl) rfl hl (by decide) rfl (fun ls hl => ?_)
    have hl : lv_has ls 3 [(2, .ref r3), (0, .ref x0), (1, .int x1)] := hl
    refine lv_aload_n hx hb (xb_d D_H_name 4 rfl) rfl (lv_at hl 1 rfl) ?_
    have hk1 : xb_k h2 x0 = 1 := hEh2.k hk1
    refine xb_getP (C := R_H) (T := F_H) (N := 11) hx hb 0 6 hts fin_H hown hR hk1 (by decide) rfl (by decide) rfl (hts _ m_3ac6c4ed) (fun _ h9 => h9) (xb_d D_H_name 5 rfl) ?_
    obtain ⟨b5, eb5, hw⟩ := hw
    refine xb_some eb5 ?_
    refine lv_aload_n hx hb (xb_d D_H_name 6 rfl) rfl (lv_at hl 0 rfl) ?_
    obtain ⟨hk6, hw⟩ := hw
    refine xb_getI (C := R_Instance) (T := F_Instance) (N := 8) hx hb 10 0 hts fin_Instance hown hR hk6 (by decide) rfl (by decide) rfl (hts _ m_20b89c04) (fun _ h9 => h9) (xb_d D_H_name 7 rfl) ?_
    refine lv_aload_n hx hb (xb_d D_H_name 8 rfl) rfl (lv_at hl 1 rfl) ?_
    refine xb_getP (C := R_H) (T := F_H) (N := 11) hx hb 0 0 hts fin_H hown hR hk1 (by decide) rfl (by decide) rfl (hts _ m_4570233e) (fun _ h9 => h9) (xb_d D_H_name 9 rfl) ?_
    obtain ⟨b7, eb7, hw⟩ := hw
    refine xb_some eb7 ?_
    refine lv_aload_n hx hb (xb_d D_H_name 10 rfl) rfl (lv_at hl 1 rfl) ?_
    refine xb_getI (C := R_H) (T := F_H) (N := 11) hx hb 0 1 hts fin_H hown hR hk1 (by decide) rfl (by decide) rfl (hts _ m_1ee8d2b8) (fun _ h9 => h9) (xb_d D_H_name 11 rfl) ?_
    obtain ⟨hk8, hw⟩ := hw
    obtain ⟨c11, sc11, hlc11, hlsc11, hw⟩ := hw
    refine xb_call (D := D) (A := A) (σ := σ) (h := h2) (d := 5) (mc := c11) (ms := sc11) (maxL := 4) (rest := []) (av := [.ref b5, .int (xb_i h2 r3 0), .ref b7, .int (xb_i h2 x0 1)]) (fun T hT X => by obtain ⟨cb, r1, r2, r3⟩ := xb_recv (ci := 6) hR rfl hk8 (by decide); exact xt_invV X hx hown (hts _ m_7caf537c) (hts _ m_7323471a) (hts _ m_eaab6220) (xt_sigOf (hts _ m_dafd6dc6)) nm_World_addName (by rw [hT]; exact r1) r2 r3 (g := F0 m 22 ls [.int (xb_i h2 x0 1), .ref b7, .int (xb_i h2 r3 0), .ref b5]) rfl (argsL := [.int (xb_i h2 r3 0), .ref b7, .int (xb_i h2 x0 1)]) (rest := []) rfl rfl (by rw [hb]; exact (xb_d D_H_name 12 rfl))) (ok_World_addName l hfl D A σ b5 (xb_i h2 r3 0) b7 (xb_i h2 x0 1) h2 c11 sc11 _ hw) (hml.trans hl.1.symm) (by rw [hb]; exact (xb_d D_H_name 12 rfl)) (Nat.le_of_ble_eq_true rfl) (Nat.le_of_ble_eq_true rfl) (Nat.le_of_ble_eq_true rfl) (show (k + c4) + c11 ≤ MC by omega) (show (n + sc4) + sc11 ≤ MS by omega) (xt_w1 hB.1 m_dafd6dc6) (xt_cdOf hB.1 m_dafd6dc6) (hts _ m_4534b440) hB hR hS hA (fun vv h9 H locs hq hEh9 hR hS => ?_) (fun XX ax h9 H locs hq hEh9 hex hR hS => ?_)
    · obtain ⟨rfl, hw⟩ := hq
      have hw := hw hEh9
      have hE := hE.tr hEh9
      refine W.eq (g2 := F0 m 25 ls []) rfl ?_
      refine lv_aload_n hx hb (xb_d D_H_name 13 rfl) rfl (lv_at hl 1 rfl) ?_
      refine lv_iconst (v := 0) hx hb (xb_d D_H_name 14 rfl) (by decide) ?_
      have hk1 : xb_k h9 x0 = 1 := hEh9.k hk1
      refine xb_putI (C := R_H) (T := F_H) (N := 11) (ty := .int) (x := 0) hx hb 0 1 hts fin_H t_H t_H_ok n_H hown hR hS hk1 (by decide) rfl (by decide) rfl (hts _ m_1ee8d2b8) (fun _ h9 => h9) rfl (by decide +kernel) rfl rfl (xb_d D_H_name 15 rfl) (fun H locs hR hS => ?_)
      obtain ⟨h12, eh12⟩ : ∃ x : xb_H, x = xb_I h9 x0 1 0 := ⟨_, rfl⟩
      rw [← eh12] at hR
      have hw := hw h12 eh12
      have hE : xb_ext h0 h12 := by rw [eh12]; exact hE
      exact xb_vret hx hb hr hlocks (show ((k + c4) + c11) ≤ MC by omega) (show ((n + sc4) + sc11) ≤ MS by omega) hE hR hS (xb_d D_H_name 16 rfl) hw
    · exact False.elim hq
  · exact xb_pass hlocks (fun x hx9 => by rw [htab] at hx9; first | cases hx9 | (simp [tableOf] at hx9; rcases hx9 with rfl | rfl | rfl <;> decide)) (show (k + c4) ≤ MC by omega) (show (n + sc4) ≤ MS by omega) (hE.tr hEh2) hR hS hex hq

theorem m_897fa4ea : (.methodLink "StackHost$Checker" 245 y_Checker_checkControl : Cond) ∈ xt_tbl := xt_in (xt_t6 (List.mem_of_getElem? (i := 7) (by decide +kernel))) (by decide +kernel)
theorem m_59e31100 : (.instanceMethod y_Checker_checkControl : Cond) ∈ xt_tbl := xt_in (xt_t6 (List.mem_of_getElem? (i := 9) (by decide +kernel))) (by decide +kernel)
theorem m_145563ec : (.selects "StackHost$Checker" y_Checker_checkControl y_Checker_checkControl : Cond) ∈ xt_tbl := xt_in (xt_v4 (q := (⟨"StackHost$Checker", "checkControl", "(I)V"⟩, 17)) (List.mem_of_getElem? (i := 6) (by decide +kernel))) (by decide +kernel)
theorem m_ecd41808 : (.code y_Checker_checkControl b_Checker_checkControl 2 none : Cond) ∈ xt_tbl := xt_in (xt_t6 (List.mem_of_getElem? (i := 10) (by decide +kernel))) (by decide +kernel)
theorem m_bcef3570 : (.methodLink "StackHost$Checker" 242 y_Checker_checkNamed : Cond) ∈ xt_tbl := xt_in (xt_t5 (List.mem_of_getElem? (i := 239) (by decide +kernel))) (by decide +kernel)
theorem m_b474e2fe : (.instanceMethod y_Checker_checkNamed : Cond) ∈ xt_tbl := xt_in (xt_t6 (List.mem_of_getElem? (i := 1) (by decide +kernel))) (by decide +kernel)
theorem m_364d3df2 : (.selects "StackHost$Checker" y_Checker_checkNamed y_Checker_checkNamed : Cond) ∈ xt_tbl := xt_in (xt_v4 (q := (⟨"StackHost$Checker", "checkNamed", "(I)V"⟩, 17)) (List.mem_of_getElem? (i := 5) (by decide +kernel))) (by decide +kernel)
theorem m_27ca5a7b : (.code y_Checker_checkNamed b_Checker_checkNamed 5 none : Cond) ∈ xt_tbl := xt_in (xt_t6 (List.mem_of_getElem? (i := 2) (by decide +kernel))) (by decide +kernel)
theorem m_ddd4342a : (.methodLink "StackHost$Checker" 239 y_Checker_checkMemory : Cond) ∈ xt_tbl := xt_in (xt_t5 (List.mem_of_getElem? (i := 227) (by decide +kernel))) (by decide +kernel)
theorem m_76a9e7e1 : (.instanceMethod y_Checker_checkMemory : Cond) ∈ xt_tbl := xt_in (xt_t5 (List.mem_of_getElem? (i := 229) (by decide +kernel))) (by decide +kernel)
theorem m_a374eefa : (.selects "StackHost$Checker" y_Checker_checkMemory y_Checker_checkMemory : Cond) ∈ xt_tbl := xt_in (xt_v4 (q := (⟨"StackHost$Checker", "checkMemory", "(I)V"⟩, 17)) (List.mem_of_getElem? (i := 3) (by decide +kernel))) (by decide +kernel)
theorem m_6f4c0c06 : (.code y_Checker_checkMemory b_Checker_checkMemory 4 none : Cond) ∈ xt_tbl := xt_in (xt_t5 (List.mem_of_getElem? (i := 230) (by decide +kernel))) (by decide +kernel)
theorem m_2c5344b7 : (.methodLink "StackHost$Checker" 233 y_Checker_checkNumeric : Cond) ∈ xt_tbl := xt_in (xt_t5 (List.mem_of_getElem? (i := 212) (by decide +kernel))) (by decide +kernel)
theorem m_ca062f24 : (.instanceMethod y_Checker_checkNumeric : Cond) ∈ xt_tbl := xt_in (xt_t5 (List.mem_of_getElem? (i := 214) (by decide +kernel))) (by decide +kernel)
theorem m_140df817 : (.selects "StackHost$Checker" y_Checker_checkNumeric y_Checker_checkNumeric : Cond) ∈ xt_tbl := xt_in (xt_v4 (q := (⟨"StackHost$Checker", "checkNumeric", "(I)V"⟩, 17)) (List.mem_of_getElem? (i := 0) (by decide +kernel))) (by decide +kernel)
theorem m_830865be : (.code y_Checker_checkNumeric b_Checker_checkNumeric 4 none : Cond) ∈ xt_tbl := xt_in (xt_t5 (List.mem_of_getElem? (i := 215) (by decide +kernel))) (by decide +kernel)
theorem nm_Checker_checkControl : xt_nm y_Checker_checkControl 1 := ⟨by decide +kernel, by decide +kernel⟩
theorem nm_Checker_checkNamed : xt_nm y_Checker_checkNamed 1 := ⟨by decide +kernel, by decide +kernel⟩
theorem nm_Checker_checkMemory : xt_nm y_Checker_checkMemory 1 := ⟨by decide +kernel, by decide +kernel⟩
theorem nm_Checker_checkNumeric : xt_nm y_Checker_checkNumeric 1 := ⟨by decide +kernel, by decide +kernel⟩
set_option maxRecDepth 100000 in
def T_Checker_checkInstruction : List (Nat × Instr × Nat) := [(0, .iload_n 1, 1), (1, .bipush 69, 2), (3, .if_icmp .lt 11, 3), (6, .aload_n 0, 1), (7, .iload_n 1, 1), (8, .invokevirtual 233, 3), (11, .goto 56, 3), (14, .iload_n 1, 1), (15, .bipush 65, 2), (17, .if_icmp .lt 17, 3), (20, .aload_n 0, 1), (21, .bipush 127, 2), (23, .iload_n 1, 1), (24, .bipush 65, 2), (26, .isub, 1), (27, .isub, 1), (28, .invokevirtual 236, 3), (31, .goto 36, 3), (34, .iload_n 1, 1), (35, .bipush 40, 2), (37, .if_icmp .lt 11, 3), (40, .aload_n 0, 1), (41, .iload_n 1, 1), (42, .invokevirtual 239, 3), (45, .goto 22, 3), (48, .iload_n 1, 1), (49, .bipush 32, 2), (51, .if_icmp .lt 11, 3), (54, .aload_n 0, 1), (55, .iload_n 1, 1), (56, .invokevirtual 242, 3), (59, .goto 8, 3), (62, .aload_n 0, 1), (63, .iload_n 1, 1), (64, .invokevirtual 245, 3), (67, .return_, 1)]
theorem D_Checker_checkInstruction : ∀ q ∈ T_Checker_checkInstruction, decode b_Checker_checkInstruction q.1 = .ok (q.2.1, q.2.2) := by decide +kernel
def w_Checker_checkInstruction_L67 (Qr : xb_H → Prop) (Qt : String → xb_H → Prop) (h : xb_H) (bc : Nat) (bs : Nat) : Prop :=
    Qr h

def w_Checker_checkInstruction (x0 : Nat) (x1 : Int32) (h : xb_H) (bc : Nat) (bs : Nat) (Qr : xb_H → Prop) (Qt : String → xb_H → Prop) : Prop :=
    ((x1 < (69 : Int32) → ((x1 < (65 : Int32) → ((x1 < (40 : Int32) → ((x1 < (32 : Int32) → xb_k h x0 = 5 ∧ ∃ c8 sc8 : Nat, c8 ≤ bc ∧ sc8 ≤ bs ∧ w_Checker_checkControl x0 x1 h c8 sc8 (fun (h6 : xb_H) => xb_ext h h6 → w_Checker_checkInstruction_L67 Qr Qt h6 (bc - c8) (bs - sc8)) Qt) ∧ (¬ x1 < (32 : Int32) → xb_k h x0 = 5 ∧ ∃ c12 sc12 : Nat, c12 ≤ bc ∧ sc12 ≤ bs ∧ w_Checker_checkNamed x0 x1 h c12 sc12 (fun (h10 : xb_H) => xb_ext h h10 → w_Checker_checkInstruction_L67 Qr Qt h10 (bc - c12) (bs - sc12)) Qt))) ∧ (¬ x1 < (40 : Int32) → xb_k h x0 = 5 ∧ ∃ c16 sc16 : Nat, c16 ≤ bc ∧ sc16 ≤ bs ∧ w_Checker_checkMemory x0 x1 h c16 sc16 (fun (h14 : xb_H) => xb_ext h h14 → w_Checker_checkInstruction_L67 Qr Qt h14 (bc - c16) (bs - sc16)) Qt))) ∧ (¬ x1 < (65 : Int32) → xb_k h x0 = 5 ∧ w_Checker_put x0 (127 - (x1 - 65)) h (fun (h18 : xb_H) => xb_ext h h18 → w_Checker_checkInstruction_L67 Qr Qt h18 bc bs)))) ∧ (¬ x1 < (69 : Int32) → xb_k h x0 = 5 ∧ ∃ c23 sc23 : Nat, c23 ≤ bc ∧ sc23 ≤ bs ∧ w_Checker_checkNumeric x0 x1 h c23 sc23 (fun (h21 : xb_H) => xb_ext h h21 → w_Checker_checkInstruction_L67 Qr Qt h21 (bc - c23) (bs - sc23)) Qt))

set_option maxHeartbeats 4000000 in
set_option maxRecDepth 100000 in
theorem am_Checker_checkInstruction_L67 (l : Launch) (hfl : l.flags = pinnedFlags ++ [noTraceFlag]) (D : va_G) (A : Nat → Prop) (σ MC MS : Nat) (h0 : xb_H) (Qr : xb_H → Prop) (Qt : String → xb_H → Prop) (h : xb_H) (bc : Nat) (bs : Nat) (hw : w_Checker_checkInstruction_L67 Qr Qt h bc bs) : xb_am l D A σ 6 MC MS h0 (fun v h => v = none ∧ Qr h) Qt y_Checker_checkInstruction.cls y_Checker_checkInstruction.name b_Checker_checkInstruction 2 ([] : List ExceptionTableEntry) none 67 [] [] h bc bs := by
  unfold w_Checker_checkInstruction_L67 at hw
  intro p e s m args below meth c hC H locs ls k n hE hl hR hS hk hn
  obtain ⟨hx, hb, hown, hlocks, htab, hml, hr, hB, hA, hnm⟩ := id hC
  have hts := hB.1.1.at args
  exact xb_vret hx hb hr hlocks (show k ≤ MC by omega) (show n ≤ MS by omega) hE hR hS (xb_d D_Checker_checkInstruction 35 rfl) hw

set_option maxHeartbeats 4000000 in
set_option maxRecDepth 100000 in
theorem ok_Checker_checkInstruction (l : Launch) (hfl : l.flags = pinnedFlags ++ [noTraceFlag]) (D : va_G) (A : Nat → Prop) (σ : Nat) (x0 : Nat) (x1 : Int32) (h : xb_H) (bc : Nat) (bs : Nat) (Qr : xb_H → Prop) (Qt : String → xb_H → Prop) (hw : w_Checker_checkInstruction x0 x1 h bc bs Qr Qt) : xt_Met l y_Checker_checkInstruction [.code y_Checker_checkInstruction b_Checker_checkInstruction 2 none] (xb_rm 6 bc bs) (xb_Pc D A σ h [.ref x0, .int x1]) (xb_Qc D A h (fun v h => v = none ∧ Qr h) Qt) bc bs A := by
  refine xb_ofAm (cc := b_Checker_checkInstruction) (by decide) (Nat.le_of_ble_eq_true rfl) ?_
  unfold w_Checker_checkInstruction at hw
  show xb_am l D A σ 6 bc bs h (fun v h => v = none ∧ Qr h) Qt y_Checker_checkInstruction.cls y_Checker_checkInstruction.name b_Checker_checkInstruction 2 ([] : List ExceptionTableEntry) none 0 [(0, .ref x0), (1, .int x1)] [] h bc bs
  obtain ⟨MC, hMC⟩ : ∃ x, x = bc := ⟨_, rfl⟩
  obtain ⟨MS, hMS⟩ : ∃ x, x = bs := ⟨_, rfl⟩
  rw [show xb_am l D A σ 6 bc bs = xb_am l D A σ 6 MC MS by rw [hMC, hMS]]
  obtain ⟨h0, hh0⟩ : ∃ x, x = h := ⟨_, rfl⟩
  rw [show xb_am l D A σ 6 MC MS h = xb_am l D A σ 6 MC MS h0 by rw [hh0]]
  intro p e s m args below meth c hC H locs ls k n hE hl hR hS hk hn
  obtain ⟨hx, hb, hown, hlocks, htab, hml, hr, hB, hA, hnm⟩ := id hC
  have hts := hB.1.1.at args
  refine lv_iload_n hx hb (xb_d D_Checker_checkInstruction 0 rfl) rfl (lv_at hl 1 rfl) ?_
  refine lv_bipush (v := 69) hx hb (xb_d D_Checker_checkInstruction 1 rfl) (by decide) ?_
  refine lv_icmp_lt (tgt := 14) hx hb (xb_d D_Checker_checkInstruction 2 rfl) rfl (fun hc1 => ?_) (fun hc1 => ?_)
  · have hw := hw.1 hc1
    refine lv_iload_n hx hb (xb_d D_Checker_checkInstruction 7 rfl) rfl (lv_at hl 1 rfl) ?_
    refine lv_bipush (v := 65) hx hb (xb_d D_Checker_checkInstruction 8 rfl) (by decide) ?_
    refine lv_icmp_lt (tgt := 34) hx hb (xb_d D_Checker_checkInstruction 9 rfl) rfl (fun hc2 => ?_) (fun hc2 => ?_)
    · have hw := hw.1 hc2
      refine lv_iload_n hx hb (xb_d D_Checker_checkInstruction 18 rfl) rfl (lv_at hl 1 rfl) ?_
      refine lv_bipush (v := 40) hx hb (xb_d D_Checker_checkInstruction 19 rfl) (by decide) ?_
      refine lv_icmp_lt (tgt := 48) hx hb (xb_d D_Checker_checkInstruction 20 rfl) rfl (fun hc3 => ?_) (fun hc3 => ?_)
      · have hw := hw.1 hc3
        refine lv_iload_n hx hb (xb_d D_Checker_checkInstruction 25 rfl) rfl (lv_at hl 1 rfl) ?_
        refine lv_bipush (v := 32) hx hb (xb_d D_Checker_checkInstruction 26 rfl) (by decide) ?_
        refine lv_icmp_lt (tgt := 62) hx hb (xb_d D_Checker_checkInstruction 27 rfl) rfl (fun hc4 => ?_) (fun hc4 => ?_)
        · have hw := hw.1 hc4
          refine lv_aload_n hx hb (xb_d D_Checker_checkInstruction 32 rfl) rfl (lv_at hl 0 rfl) ?_
          refine lv_iload_n hx hb (xb_d D_Checker_checkInstruction 33 rfl) rfl (lv_at hl 1 rfl) ?_
          obtain ⟨hk5, hw⟩ := hw
          obtain ⟨c8, sc8, hlc8, hlsc8, hw⟩ := hw
          refine xb_call (D := D) (A := A) (σ := σ) (h := h) (d := 5) (mc := c8) (ms := sc8) (maxL := 2) (rest := []) (av := [.ref x0, .int x1]) (fun T hT X => by obtain ⟨cb, r1, r2, r3⟩ := xb_recv (ci := 4) hR rfl hk5 (by decide); exact xt_invV X hx hown (hts _ m_897fa4ea) (hts _ m_59e31100) (hts _ m_145563ec) (xt_sigOf (hts _ m_ecd41808)) nm_Checker_checkControl (by rw [hT]; exact r1) r2 r3 (g := F0 m 64 ls [.int x1, .ref x0]) rfl (argsL := [.int x1]) (rest := []) rfl rfl (by rw [hb]; exact (xb_d D_Checker_checkInstruction 34 rfl))) (ok_Checker_checkControl l hfl D A σ x0 x1 h c8 sc8 _ _ hw) (hml.trans hl.1.symm) (by rw [hb]; exact (xb_d D_Checker_checkInstruction 34 rfl)) (Nat.le_of_ble_eq_true rfl) (Nat.le_of_ble_eq_true rfl) (Nat.le_of_ble_eq_true rfl) (show k + c8 ≤ MC by omega) (show n + sc8 ≤ MS by omega) (xt_w1 hB.1 m_ecd41808) (xt_cdOf hB.1 m_ecd41808) (hts _ m_44748ce5) hB hR hS hA (fun vv h6 H locs hq hEh6 hR hS => ?_) (fun XX ax h6 H locs hq hEh6 hex hR hS => ?_)
          · obtain ⟨rfl, hw⟩ := hq
            have hw := hw hEh6
            have hE := hE.tr hEh6
            refine W.eq (g2 := F0 m 67 ls []) rfl ?_
            exact am_Checker_checkInstruction_L67 l hfl D A σ MC MS h0 Qr Qt h6 (bc - c8) (bs - sc8) hw p e s m args below meth c hC H locs ls (k + c8) (n + sc8) hE (lv_sub hl [] rfl) hR hS (by omega) (by omega)
          · exact xb_pass hlocks (fun x hx9 => by rw [htab] at hx9; first | cases hx9 | (simp [tableOf] at hx9; rcases hx9 with rfl | rfl | rfl <;> decide)) (show (k + c8) ≤ MC by omega) (show (n + sc8) ≤ MS by omega) (hE.tr hEh6) hR hS hex hq
        · have hw := hw.2 hc4
          refine lv_aload_n hx hb (xb_d D_Checker_checkInstruction 28 rfl) rfl (lv_at hl 0 rfl) ?_
          refine lv_iload_n hx hb (xb_d D_Checker_checkInstruction 29 rfl) rfl (lv_at hl 1 rfl) ?_
          obtain ⟨hk9, hw⟩ := hw
          obtain ⟨c12, sc12, hlc12, hlsc12, hw⟩ := hw
          refine xb_call (D := D) (A := A) (σ := σ) (h := h) (d := 4) (mc := c12) (ms := sc12) (maxL := 5) (rest := []) (av := [.ref x0, .int x1]) (fun T hT X => by obtain ⟨cb, r1, r2, r3⟩ := xb_recv (ci := 4) hR rfl hk9 (by decide); exact xt_invV X hx hown (hts _ m_bcef3570) (hts _ m_b474e2fe) (hts _ m_364d3df2) (xt_sigOf (hts _ m_27ca5a7b)) nm_Checker_checkNamed (by rw [hT]; exact r1) r2 r3 (g := F0 m 56 ls [.int x1, .ref x0]) rfl (argsL := [.int x1]) (rest := []) rfl rfl (by rw [hb]; exact (xb_d D_Checker_checkInstruction 30 rfl))) (ok_Checker_checkNamed l hfl D A σ x0 x1 h c12 sc12 _ _ hw) (hml.trans hl.1.symm) (by rw [hb]; exact (xb_d D_Checker_checkInstruction 30 rfl)) (Nat.le_of_ble_eq_true rfl) (Nat.le_of_ble_eq_true rfl) (Nat.le_of_ble_eq_true rfl) (show k + c12 ≤ MC by omega) (show n + sc12 ≤ MS by omega) (xt_w1 hB.1 m_27ca5a7b) (xt_cdOf hB.1 m_27ca5a7b) (hts _ m_44748ce5) hB hR hS hA (fun vv h10 H locs hq hEh10 hR hS => ?_) (fun XX ax h10 H locs hq hEh10 hex hR hS => ?_)
          · obtain ⟨rfl, hw⟩ := hq
            have hw := hw hEh10
            have hE := hE.tr hEh10
            refine W.eq (g2 := F0 m 59 ls []) rfl ?_
            refine lv_goto (tgt := 67) hx hb (xb_d D_Checker_checkInstruction 31 rfl) rfl ?_
            exact am_Checker_checkInstruction_L67 l hfl D A σ MC MS h0 Qr Qt h10 (bc - c12) (bs - sc12) hw p e s m args below meth c hC H locs ls (k + c12) (n + sc12) hE (lv_sub hl [] rfl) hR hS (by omega) (by omega)
          · exact xb_pass hlocks (fun x hx9 => by rw [htab] at hx9; first | cases hx9 | (simp [tableOf] at hx9; rcases hx9 with rfl | rfl | rfl <;> decide)) (show (k + c12) ≤ MC by omega) (show (n + sc12) ≤ MS by omega) (hE.tr hEh10) hR hS hex hq
      · have hw := hw.2 hc3
        refine lv_aload_n hx hb (xb_d D_Checker_checkInstruction 21 rfl) rfl (lv_at hl 0 rfl) ?_
        refine lv_iload_n hx hb (xb_d D_Checker_checkInstruction 22 rfl) rfl (lv_at hl 1 rfl) ?_
        obtain ⟨hk13, hw⟩ := hw
        obtain ⟨c16, sc16, hlc16, hlsc16, hw⟩ := hw
        refine xb_call (D := D) (A := A) (σ := σ) (h := h) (d := 4) (mc := c16) (ms := sc16) (maxL := 4) (rest := []) (av := [.ref x0, .int x1]) (fun T hT X => by obtain ⟨cb, r1, r2, r3⟩ := xb_recv (ci := 4) hR rfl hk13 (by decide); exact xt_invV X hx hown (hts _ m_ddd4342a) (hts _ m_76a9e7e1) (hts _ m_a374eefa) (xt_sigOf (hts _ m_6f4c0c06)) nm_Checker_checkMemory (by rw [hT]; exact r1) r2 r3 (g := F0 m 42 ls [.int x1, .ref x0]) rfl (argsL := [.int x1]) (rest := []) rfl rfl (by rw [hb]; exact (xb_d D_Checker_checkInstruction 23 rfl))) (ok_Checker_checkMemory l hfl D A σ x0 x1 h c16 sc16 _ _ hw) (hml.trans hl.1.symm) (by rw [hb]; exact (xb_d D_Checker_checkInstruction 23 rfl)) (Nat.le_of_ble_eq_true rfl) (Nat.le_of_ble_eq_true rfl) (Nat.le_of_ble_eq_true rfl) (show k + c16 ≤ MC by omega) (show n + sc16 ≤ MS by omega) (xt_w1 hB.1 m_6f4c0c06) (xt_cdOf hB.1 m_6f4c0c06) (hts _ m_44748ce5) hB hR hS hA (fun vv h14 H locs hq hEh14 hR hS => ?_) (fun XX ax h14 H locs hq hEh14 hex hR hS => ?_)
        · obtain ⟨rfl, hw⟩ := hq
          have hw := hw hEh14
          have hE := hE.tr hEh14
          refine W.eq (g2 := F0 m 45 ls []) rfl ?_
          refine lv_goto (tgt := 67) hx hb (xb_d D_Checker_checkInstruction 24 rfl) rfl ?_
          exact am_Checker_checkInstruction_L67 l hfl D A σ MC MS h0 Qr Qt h14 (bc - c16) (bs - sc16) hw p e s m args below meth c hC H locs ls (k + c16) (n + sc16) hE (lv_sub hl [] rfl) hR hS (by omega) (by omega)
        · exact xb_pass hlocks (fun x hx9 => by rw [htab] at hx9; first | cases hx9 | (simp [tableOf] at hx9; rcases hx9 with rfl | rfl | rfl <;> decide)) (show (k + c16) ≤ MC by omega) (show (n + sc16) ≤ MS by omega) (hE.tr hEh14) hR hS hex hq
    · have hw := hw.2 hc2
      refine lv_aload_n hx hb (xb_d D_Checker_checkInstruction 10 rfl) rfl (lv_at hl 0 rfl) ?_
      refine lv_bipush (v := 127) hx hb (xb_d D_Checker_checkInstruction 11 rfl) (by decide) ?_
      refine lv_iload_n hx hb (xb_d D_Checker_checkInstruction 12 rfl) rfl (lv_at hl 1 rfl) ?_
      refine lv_bipush (v := 65) hx hb (xb_d D_Checker_checkInstruction 13 rfl) (by decide) ?_
      refine lv_isub hx hb (xb_d D_Checker_checkInstruction 14 rfl) ?_
      refine lv_isub hx hb (xb_d D_Checker_checkInstruction 15 rfl) ?_
      obtain ⟨hk17, hw⟩ := hw
      refine xb_call (D := D) (A := A) (σ := σ) (h := h) (d := 2) (mc := 0) (ms := 0) (maxL := 2) (rest := []) (av := [.ref x0, .int (127 - (x1 - 65))]) (fun T hT X => by obtain ⟨cb, r1, r2, r3⟩ := xb_recv (ci := 4) hR rfl hk17 (by decide); exact xt_invV X hx hown (hts _ m_761ff7fc) (hts _ m_e867be1e) (hts _ m_098fc344) (xt_sigOf (hts _ m_43ff17c7)) nm_Checker_put (by rw [hT]; exact r1) r2 r3 (g := F0 m 28 ls [.int (127 - (x1 - 65)), .ref x0]) rfl (argsL := [.int (127 - (x1 - 65))]) (rest := []) rfl rfl (by rw [hb]; exact (xb_d D_Checker_checkInstruction 16 rfl))) (ok_Checker_put l hfl D A σ x0 (127 - (x1 - 65)) h _ hw) (hml.trans hl.1.symm) (by rw [hb]; exact (xb_d D_Checker_checkInstruction 16 rfl)) (Nat.le_of_ble_eq_true rfl) (Nat.le_of_ble_eq_true rfl) (Nat.le_of_ble_eq_true rfl) (show k + 0 ≤ MC by omega) (show n + 0 ≤ MS by omega) (xt_w1 hB.1 m_43ff17c7) (xt_cdOf hB.1 m_43ff17c7) (hts _ m_44748ce5) hB hR hS hA (fun vv h18 H locs hq hEh18 hR hS => ?_) (fun XX ax h18 H locs hq hEh18 hex hR hS => ?_)
      · obtain ⟨rfl, hw⟩ := hq
        have hw := hw hEh18
        have hE := hE.tr hEh18
        refine W.eq (g2 := F0 m 31 ls []) rfl ?_
        refine lv_goto (tgt := 67) hx hb (xb_d D_Checker_checkInstruction 17 rfl) rfl ?_
        exact am_Checker_checkInstruction_L67 l hfl D A σ MC MS h0 Qr Qt h18 bc bs hw p e s m args below meth c hC H locs ls k n hE (lv_sub hl [] rfl) hR hS (by omega) (by omega)
      · exact False.elim hq
  · have hw := hw.2 hc1
    refine lv_aload_n hx hb (xb_d D_Checker_checkInstruction 3 rfl) rfl (lv_at hl 0 rfl) ?_
    refine lv_iload_n hx hb (xb_d D_Checker_checkInstruction 4 rfl) rfl (lv_at hl 1 rfl) ?_
    obtain ⟨hk20, hw⟩ := hw
    obtain ⟨c23, sc23, hlc23, hlsc23, hw⟩ := hw
    refine xb_call (D := D) (A := A) (σ := σ) (h := h) (d := 4) (mc := c23) (ms := sc23) (maxL := 4) (rest := []) (av := [.ref x0, .int x1]) (fun T hT X => by obtain ⟨cb, r1, r2, r3⟩ := xb_recv (ci := 4) hR rfl hk20 (by decide); exact xt_invV X hx hown (hts _ m_2c5344b7) (hts _ m_ca062f24) (hts _ m_140df817) (xt_sigOf (hts _ m_830865be)) nm_Checker_checkNumeric (by rw [hT]; exact r1) r2 r3 (g := F0 m 8 ls [.int x1, .ref x0]) rfl (argsL := [.int x1]) (rest := []) rfl rfl (by rw [hb]; exact (xb_d D_Checker_checkInstruction 5 rfl))) (ok_Checker_checkNumeric l hfl D A σ x0 x1 h c23 sc23 _ _ hw) (hml.trans hl.1.symm) (by rw [hb]; exact (xb_d D_Checker_checkInstruction 5 rfl)) (Nat.le_of_ble_eq_true rfl) (Nat.le_of_ble_eq_true rfl) (Nat.le_of_ble_eq_true rfl) (show k + c23 ≤ MC by omega) (show n + sc23 ≤ MS by omega) (xt_w1 hB.1 m_830865be) (xt_cdOf hB.1 m_830865be) (hts _ m_44748ce5) hB hR hS hA (fun vv h21 H locs hq hEh21 hR hS => ?_) (fun XX ax h21 H locs hq hEh21 hex hR hS => ?_)
    · obtain ⟨rfl, hw⟩ := hq
      have hw := hw hEh21
      have hE := hE.tr hEh21
      refine W.eq (g2 := F0 m 11 ls []) rfl ?_
      refine lv_goto (tgt := 67) hx hb (xb_d D_Checker_checkInstruction 6 rfl) rfl ?_
      exact am_Checker_checkInstruction_L67 l hfl D A σ MC MS h0 Qr Qt h21 (bc - c23) (bs - sc23) hw p e s m args below meth c hC H locs ls (k + c23) (n + sc23) hE (lv_sub hl [] rfl) hR hS (by omega) (by omega)
    · exact xb_pass hlocks (fun x hx9 => by rw [htab] at hx9; first | cases hx9 | (simp [tableOf] at hx9; rcases hx9 with rfl | rfl | rfl <;> decide)) (show (k + c23) ≤ MC by omega) (show (n + sc23) ≤ MS by omega) (hE.tr hEh21) hR hS hex hq

