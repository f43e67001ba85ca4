theorem m_3957194a : (.fieldLink "StackHostModel$Exact" 157 "StackHostModel$Exact" "code" "I" : Cond) ∈ xt_tbl := xt_in (xt_t9 (List.mem_of_getElem? (i := 104) (by decide +kernel))) (by decide +kernel)
theorem m_4fe1e435 : (.methodLink "StackHostModel$Exact" 160 y_Exact_divided : Cond) ∈ xt_tbl := xt_in (xt_t13 (List.mem_of_getElem? (i := 102) (by decide +kernel))) (by decide +kernel)
theorem m_f0f72ab9 : (.static y_Exact_divided : Cond) ∈ xt_tbl := xt_in (xt_t13 (List.mem_of_getElem? (i := 103) (by decide +kernel))) (by decide +kernel)
theorem m_ebf6cc91 : (.code y_Exact_divided b_Exact_divided 11 (some .long) : Cond) ∈ xt_tbl := xt_in (xt_t13 (List.mem_of_getElem? (i := 104) (by decide +kernel))) (by decide +kernel)
theorem nm_Exact_divided : xt_nm y_Exact_divided 3 := ⟨by decide +kernel, by decide +kernel⟩
set_option maxRecDepth 100000 in
def T_Exact_byDivision : List (Nat × Instr × Nat) := [(0, .iload_n 1, 1), (1, .bipush 6, 2), (3, .if_icmp .eq 9, 3), (6, .iload_n 1, 1), (7, .bipush 8, 2), (9, .if_icmp .ne 7, 3), (12, .iconst 1, 1), (13, .goto 4, 3), (16, .iconst 0, 1), (17, .istore 7, 2), (19, .iload_n 1, 1), (20, .bipush 7, 2), (22, .if_icmp .le 7, 3), (25, .iconst 1, 1), (26, .goto 4, 3), (29, .iconst 0, 1), (30, .istore 8, 2), (32, .lload 5, 2), (34, .lconst 0, 1), (35, .lcmp, 1), (36, .ifCond .ne 10, 3), (39, .aload_n 0, 1), (40, .iconst 2, 1), (41, .putfield 157, 3), (44, .lconst 0, 1), (45, .lreturn, 1), (46, .iload 7, 2), (48, .ifCond .ne 12, 3), (51, .lload_n 3, 1), (52, .lload 5, 2), (54, .iload 8, 2), (56, .invokestatic 160, 3), (59, .lreturn, 1), (60, .lload_n 3, 1), (61, .iload_n 2, 1), (62, .invokestatic 164, 3), (65, .lstore 9, 2), (67, .lload 5, 2), (69, .iload_n 2, 1), (70, .invokestatic 164, 3), (73, .lstore 11, 2), (75, .lload 9, 2), (77, .lconst 0, 1), (78, .lcmp, 1), (79, .ifCond .ge 9, 3), (82, .lload 9, 2), (84, .lneg, 1), (85, .goto 5, 3), (88, .lload 9, 2), (90, .lload 11, 2), (92, .lconst 0, 1), (93, .lcmp, 1), (94, .ifCond .ge 9, 3), (97, .lload 11, 2), (99, .lneg, 1), (100, .goto 5, 3), (103, .lload 11, 2), (105, .iload 8, 2), (107, .invokestatic 160, 3), (110, .lstore 13, 2), (112, .iload 8, 2), (114, .ifCond .eq 18, 3), (117, .lload 9, 2), (119, .lconst 0, 1), (120, .lcmp, 1), (121, .ifCond .ge 7, 3), (124, .iconst 1, 1), (125, .goto 39, 3), (128, .iconst 0, 1), (129, .goto 35, 3), (132, .lload 9, 2), (134, .lconst 0, 1), (135, .lcmp, 1), (136, .ifCond .ge 7, 3), (139, .iconst 1, 1), (140, .goto 4, 3), (143, .iconst 0, 1), (144, .lload 11, 2), (146, .lconst 0, 1), (147, .lcmp, 1), (148, .ifCond .ge 7, 3), (151, .iconst 1, 1), (152, .goto 4, 3), (155, .iconst 0, 1), (156, .if_icmp .eq 7, 3), (159, .iconst 1, 1), (160, .goto 4, 3), (163, .iconst 0, 1), (164, .istore 15, 2), (166, .iload 8, 2), (168, .ifCond .ne 26, 3), (171, .iload 15, 2), (173, .ifCond .ne 21, 3), (176, .lload 13, 2), (178, .lconst 1, 1), (179, .iload_n 2, 1), (180, .iconst 1, 1), (181, .isub, 1), (182, .lshl, 1), (183, .lcmp, 1), (184, .ifCond .ne 10, 3), (187, .aload_n 0, 1), (188, .iconst 3, 1), (189, .putfield 157, 3), (192, .lconst 0, 1), (193, .lreturn, 1), (194, .iload 15, 2), (196, .ifCond .eq 9, 3), (199, .lload 13, 2), (201, .lneg, 1), (202, .goto 5, 3), (205, .lload 13, 2), (207, .lreturn, 1)]
theorem D_Exact_byDivision : ∀ q ∈ T_Exact_byDivision, decode b_Exact_byDivision q.1 = .ok (q.2.1, q.2.2) := by decide +kernel
def w_Exact_byDivision_L207 (Qr : Int64 → xb_H → Prop) (y0 : Int64) (h : xb_H) : Prop :=
    Qr y0 h

def w_Exact_byDivision_L194 (Qr : Int64 → xb_H → Prop) (x13 : Int64) (x15 : Int32) (h : xb_H) : Prop :=
    ((x15 = (0 : Int32) → w_Exact_byDivision_L207 Qr x13 h) ∧ (¬ x15 = (0 : Int32) → w_Exact_byDivision_L207 Qr (-x13) h))

def w_Exact_byDivision_L164 (Qr : Int64 → xb_H → Prop) (x0 : Nat) (x2 : Int32) (x8 : Int32) (x13 : Int64) (y0 : Int32) (h : xb_H) : Prop :=
    ((¬ x8 = (0 : Int32) → w_Exact_byDivision_L194 Qr x13 y0 h) ∧ (x8 = (0 : Int32) → ((¬ y0 = (0 : Int32) → w_Exact_byDivision_L194 Qr x13 y0 h) ∧ (y0 = (0 : Int32) → ((¬ x13 = (xb_lshl 1 (x2 - 1)) → w_Exact_byDivision_L194 Qr x13 y0 h) ∧ (x13 = (xb_lshl 1 (x2 - 1)) → xb_k h x0 = 10 ∧ ∀ h5 : xb_H, h5 = xb_I h x0 0 3 → Qr 0 h5))))))

def w_Exact_byDivision_L156 (Qr : Int64 → xb_H → Prop) (x0 : Nat) (x2 : Int32) (x8 : Int32) (x13 : Int64) (y0 : Int32) (y1 : Int32) (h : xb_H) : Prop :=
    ((y1 = y0 → w_Exact_byDivision_L164 Qr x0 x2 x8 x13 0 h) ∧ (¬ y1 = y0 → w_Exact_byDivision_L164 Qr x0 x2 x8 x13 1 h))

def w_Exact_byDivision_L144 (Qr : Int64 → xb_H → Prop) (x0 : Nat) (x2 : Int32) (x8 : Int32) (x11 : Int64) (x13 : Int64) (y0 : Int32) (h : xb_H) : Prop :=
    (((0 : Int64) ≤ x11 → w_Exact_byDivision_L156 Qr x0 x2 x8 x13 0 y0 h) ∧ (¬ (0 : Int64) ≤ x11 → w_Exact_byDivision_L156 Qr x0 x2 x8 x13 1 y0 h))

def w_Exact_byDivision_L105 (Qr : Int64 → xb_H → Prop) (x0 : Nat) (x2 : Int32) (x8 : Int32) (x9 : Int64) (x11 : Int64) (y0 : Int64) (y1 : Int64) (h : xb_H) : Prop :=
    w_Exact_divided y1 y0 x8 h (fun (r2 : Int64) (h1 : xb_H) => xb_ext h h1 → ((x8 = (0 : Int32) → (((0 : Int64) ≤ x9 → w_Exact_byDivision_L144 Qr x0 x2 x8 x11 r2 0 h1) ∧ (¬ (0 : Int64) ≤ x9 → w_Exact_byDivision_L144 Qr x0 x2 x8 x11 r2 1 h1))) ∧ (¬ x8 = (0 : Int32) → (((0 : Int64) ≤ x9 → w_Exact_byDivision_L164 Qr x0 x2 x8 r2 0 h1) ∧ (¬ (0 : Int64) ≤ x9 → w_Exact_byDivision_L164 Qr x0 x2 x8 r2 1 h1)))))

def w_Exact_byDivision_L90 (Qr : Int64 → xb_H → Prop) (x0 : Nat) (x2 : Int32) (x8 : Int32) (x9 : Int64) (x11 : Int64) (y0 : Int64) (h : xb_H) : Prop :=
    (((0 : Int64) ≤ x11 → w_Exact_byDivision_L105 Qr x0 x2 x8 x9 x11 x11 y0 h) ∧ (¬ (0 : Int64) ≤ x11 → w_Exact_byDivision_L105 Qr x0 x2 x8 x9 x11 (-x11) y0 h))

def w_Exact_byDivision_L30 (Qr : Int64 → xb_H → Prop) (x0 : Nat) (x2 : Int32) (x3 : Int64) (x5 : Int64) (x7 : Int32) (y0 : Int32) (h : xb_H) : Prop :=
    ((¬ x5 = (0 : Int64) → ((¬ x7 = (0 : Int32) → w_Exact_withSign x3 x2 h (fun (r4 : Int64) (h3 : xb_H) => xb_ext h h3 → w_Exact_withSign x5 x2 h3 (fun (r6 : Int64) (h5 : xb_H) => xb_ext h3 h5 → (((0 : Int64) ≤ r4 → w_Exact_byDivision_L90 Qr x0 x2 y0 r4 r6 r4 h5) ∧ (¬ (0 : Int64) ≤ r4 → w_Exact_byDivision_L90 Qr x0 x2 y0 r4 r6 (-r4) h5))))) ∧ (x7 = (0 : Int32) → w_Exact_divided x3 x5 y0 h (fun (r9 : Int64) (h8 : xb_H) => xb_ext h h8 → Qr r9 h8)))) ∧ (x5 = (0 : Int64) → xb_k h x0 = 10 ∧ ∀ h11 : xb_H, h11 = xb_I h x0 0 2 → Qr 0 h11))

def w_Exact_byDivision_L17 (Qr : Int64 → xb_H → Prop) (x0 : Nat) (x1 : Int32) (x2 : Int32) (x3 : Int64) (x5 : Int64) (y0 : Int32) (h : xb_H) : Prop :=
    ((x1 ≤ (7 : Int32) → w_Exact_byDivision_L30 Qr x0 x2 x3 x5 y0 0 h) ∧ (¬ x1 ≤ (7 : Int32) → w_Exact_byDivision_L30 Qr x0 x2 x3 x5 y0 1 h))

def w_Exact_byDivision_L12 (Qr : Int64 → xb_H → Prop) (x0 : Nat) (x1 : Int32) (x2 : Int32) (x3 : Int64) (x5 : Int64) (h : xb_H) : Prop :=
    w_Exact_byDivision_L17 Qr x0 x1 x2 x3 x5 1 h

def w_Exact_byDivision (x0 : Nat) (x1 : Int32) (x2 : Int32) (x3 : Int64) (x5 : Int64) (h : xb_H) (Qr : Int64 → xb_H → Prop) : Prop :=
    ((x1 = (6 : Int32) → w_Exact_byDivision_L12 Qr x0 x1 x2 x3 x5 h) ∧ (¬ x1 = (6 : Int32) → ((¬ x1 = (8 : Int32) → w_Exact_byDivision_L17 Qr x0 x1 x2 x3 x5 0 h) ∧ (x1 = (8 : Int32) → w_Exact_byDivision_L12 Qr x0 x1 x2 x3 x5 h))))

set_option maxHeartbeats 4000000 in
set_option maxRecDepth 100000 in
theorem am_Exact_byDivision_L207 (l : Launch) (hfl : l.flags = pinnedFlags ++ [noTraceFlag]) (D : va_G) (A : Nat → Prop) (σ MC MS : Nat) (h0 : xb_H) (Qr : Int64 → xb_H → Prop) (y0 : Int64) (h : xb_H) (hw : w_Exact_byDivision_L207 Qr y0 h) : xb_am l D A σ 4 MC MS h0 (fun v h => ∃ r, v = some (.long r) ∧ Qr r h) (fun _ _ => False) y_Exact_byDivision.cls y_Exact_byDivision.name b_Exact_byDivision 16 ([] : List ExceptionTableEntry) (some .long) 207 [] [.long y0] h 0 0 := by
  unfold w_Exact_byDivision_L207 at hw
  intro p e s m args below meth c hC H locs ls k n hE hl hR hS hk hn
  obtain ⟨hx, hb, hown, hlocks, htab, hml, hr, hB, hA, hnm⟩ := id hC
  have hts := hB.1.1.at args
  exact xb_lret hx hb hr hlocks (show k ≤ MC by omega) (show n ≤ MS by omega) hE hR hS (xb_d D_Exact_byDivision 112 rfl) hw

set_option maxHeartbeats 4000000 in
set_option maxRecDepth 100000 in
theorem am_Exact_byDivision_L194 (l : Launch) (hfl : l.flags = pinnedFlags ++ [noTraceFlag]) (D : va_G) (A : Nat → Prop) (σ MC MS : Nat) (h0 : xb_H) (Qr : Int64 → xb_H → Prop) (x13 : Int64) (x15 : Int32) (h : xb_H) (hw : w_Exact_byDivision_L194 Qr x13 x15 h) : xb_am l D A σ 4 MC MS h0 (fun v h => ∃ r, v = some (.long r) ∧ Qr r h) (fun _ _ => False) y_Exact_byDivision.cls y_Exact_byDivision.name b_Exact_byDivision 16 ([] : List ExceptionTableEntry) (some .long) 194 [(13, .long x13), (15, .int x15)] [] h 0 0 := by
  unfold w_Exact_byDivision_L194 at hw
  intro p e s m args below meth c hC H locs ls k n hE hl hR hS hk hn
  obtain ⟨hx, hb, hown, hlocks, htab, hml, hr, hB, hA, hnm⟩ := id hC
  have hts := hB.1.1.at args
  refine lv_iload hx hb (xb_d D_Exact_byDivision 106 rfl) (lv_at hl 1 rfl) ?_
  refine lv_if_eq (tgt := 205) hx hb (xb_d D_Exact_byDivision 107 rfl) rfl (fun hc1 => ?_) (fun hc1 => ?_)
  · have hw := hw.1 hc1
    refine lv_lload hx hb (xb_d D_Exact_byDivision 111 rfl) (lv_at hl 0 rfl) ?_
    exact am_Exact_byDivision_L207 l hfl D A σ MC MS h0 Qr x13 h hw p e s m args below meth c hC H locs ls k n hE (lv_sub hl [] rfl) hR hS (by omega) (by omega)
  · have hw := hw.2 hc1
    refine lv_lload hx hb (xb_d D_Exact_byDivision 108 rfl) (lv_at hl 0 rfl) ?_
    refine lv_lneg hx hb (xb_d D_Exact_byDivision 109 rfl) ?_
    refine lv_goto (tgt := 207) hx hb (xb_d D_Exact_byDivision 110 rfl) rfl ?_
    exact am_Exact_byDivision_L207 l hfl D A σ MC MS h0 Qr (-x13) h hw p e s m args below meth c hC H locs ls k n hE (lv_sub hl [] rfl) hR hS (by omega) (by omega)

set_option maxHeartbeats 4000000 in
set_option maxRecDepth 100000 in
theorem am_Exact_byDivision_L164 (l : Launch) (hfl : l.flags = pinnedFlags ++ [noTraceFlag]) (D : va_G) (A : Nat → Prop) (σ MC MS : Nat) (h0 : xb_H) (Qr : Int64 → xb_H → Prop) (x0 : Nat) (x2 : Int32) (x8 : Int32) (x13 : Int64) (y0 : Int32) (h : xb_H) (hw : w_Exact_byDivision_L164 Qr x0 x2 x8 x13 y0 h) : xb_am l D A σ 4 MC MS h0 (fun v h => ∃ r, v = some (.long r) ∧ Qr r h) (fun _ _ => False) y_Exact_byDivision.cls y_Exact_byDivision.name b_Exact_byDivision 16 ([] : List ExceptionTableEntry) (some .long) 164 [(0, .ref x0), (2, .int x2), (8, .int x8), (13, .long x13)] [.int y0] h 0 0 := by
  unfold w_Exact_byDivision_L164 at hw
  intro p e s m args below meth c hC H locs ls k n hE hl hR hS hk hn
  obtain ⟨hx, hb, hown, hlocks, htab, hml, hr, hB, hA, hnm⟩ := id hC
  have hts := hB.1.1.at args
  refine lv_istore hx hb (xb_d D_Exact_byDivision 88 rfl) hl (by decide) rfl (fun ls hl => ?_)
  have hl : lv_has ls 16 [(15, .int y0), (0, .ref x0), (2, .int x2), (8, .int x8), (13, .long x13)] := hl
  refine lv_iload hx hb (xb_d D_Exact_byDivision 89 rfl) (lv_at hl 3 rfl) ?_
  refine lv_if_ne (tgt := 194) hx hb (xb_d D_Exact_byDivision 90 rfl) rfl (fun hc1 => ?_) (fun hc1 => ?_)
  · have hw := hw.1 hc1
    exact am_Exact_byDivision_L194 l hfl D A σ MC MS h0 Qr x13 y0 h hw p e s m args below meth c hC H locs ls k n hE (lv_sub hl [4, 0] rfl) hR hS (by omega) (by omega)
  · have hw := hw.2 hc1
    refine lv_iload hx hb (xb_d D_Exact_byDivision 91 rfl) (lv_at hl 0 rfl) ?_
    refine lv_if_ne (tgt := 194) hx hb (xb_d D_Exact_byDivision 92 rfl) rfl (fun hc2 => ?_) (fun hc2 => ?_)
    · have hw := hw.1 hc2
      exact am_Exact_byDivision_L194 l hfl D A σ MC MS h0 Qr x13 y0 h hw p e s m args below meth c hC H locs ls k n hE (lv_sub hl [4, 0] rfl) hR hS (by omega) (by omega)
    · have hw := hw.2 hc2
      refine lv_lload hx hb (xb_d D_Exact_byDivision 93 rfl) (lv_at hl 4 rfl) ?_
      refine lv_lconst (v := 1) hx hb (xb_d D_Exact_byDivision 94 rfl) (by decide) ?_
      refine lv_iload_n hx hb (xb_d D_Exact_byDivision 95 rfl) rfl (lv_at hl 2 rfl) ?_
      refine lv_iconst (v := 1) hx hb (xb_d D_Exact_byDivision 96 rfl) (by decide) ?_
      refine lv_isub hx hb (xb_d D_Exact_byDivision 97 rfl) ?_
      refine lv_lshl (v := (xb_lshl 1 (x2 - 1))) hx hb (xb_d D_Exact_byDivision 98 rfl) rfl ?_
      refine xb_lc_ne (tgt := 194) hx hb (xb_d D_Exact_byDivision 99 rfl) (xb_d D_Exact_byDivision 100 rfl) rfl (fun hc3 => ?_) (fun hc3 => ?_)
      · have hw := hw.1 hc3
        exact am_Exact_byDivision_L194 l hfl D A σ MC MS h0 Qr x13 y0 h hw p e s m args below meth c hC H locs ls k n hE (lv_sub hl [4, 0] rfl) hR hS (by omega) (by omega)
      · have hw := hw.2 hc3
        refine lv_aload_n hx hb (xb_d D_Exact_byDivision 101 rfl) rfl (lv_at hl 1 rfl) ?_
        refine lv_iconst (v := 3) hx hb (xb_d D_Exact_byDivision 102 rfl) (by decide) ?_
        obtain ⟨hk4, hw⟩ := hw
        refine xb_putI (C := R_Exact) (T := F_Exact) (N := 11) (ty := .int) (x := 3) hx hb 9 0 hts fin_Exact t_Exact t_Exact_ok n_Exact hown hR hS hk4 (by decide) rfl (by decide) rfl (hts _ m_3957194a) (fun _ h9 => h9) rfl (by decide +kernel) rfl rfl (xb_d D_Exact_byDivision 103 rfl) (fun H locs hR hS => ?_)
        obtain ⟨h5, eh5⟩ : ∃ x : xb_H, x = xb_I h x0 0 3 := ⟨_, rfl⟩
        rw [← eh5] at hR
        have hw := hw h5 eh5
        have hE : xb_ext h0 h5 := by rw [eh5]; exact hE
        refine lv_lconst (v := 0) hx hb (xb_d D_Exact_byDivision 104 rfl) (by decide) ?_
        exact xb_lret hx hb hr hlocks (show k ≤ MC by omega) (show n ≤ MS by omega) hE hR hS (xb_d D_Exact_byDivision 105 rfl) hw

set_option maxHeartbeats 4000000 in
set_option maxRecDepth 100000 in
theorem am_Exact_byDivision_L156 (l : Launch) (hfl : l.flags = pinnedFlags ++ [noTraceFlag]) (D : va_G) (A : Nat → Prop) (σ MC MS : Nat) (h0 : xb_H) (Qr : Int64 → xb_H → Prop) (x0 : Nat) (x2 : Int32) (x8 : Int32) (x13 : Int64) (y0 : Int32) (y1 : Int32) (h : xb_H) (hw : w_Exact_byDivision_L156 Qr x0 x2 x8 x13 y0 y1 h) : xb_am l D A σ 4 MC MS h0 (fun v h => ∃ r, v = some (.long r) ∧ Qr r h) (fun _ _ => False) y_Exact_byDivision.cls y_Exact_byDivision.name b_Exact_byDivision 16 ([] : List ExceptionTableEntry) (some .long) 156 [(0, .ref x0), (2, .int x2), (8, .int x8), (13, .long x13)] [.int y0, .int y1] h 0 0 := by
  unfold w_Exact_byDivision_L156 at hw
  intro p e s m args below meth c hC H locs ls k n hE hl hR hS hk hn
  obtain ⟨hx, hb, hown, hlocks, htab, hml, hr, hB, hA, hnm⟩ := id hC
  have hts := hB.1.1.at args
  refine lv_icmp_eq (tgt := 163) hx hb (xb_d D_Exact_byDivision 84 rfl) rfl (fun hc1 => ?_) (fun hc1 => ?_)
  · have hw := hw.1 hc1
    refine lv_iconst (v := 0) hx hb (xb_d D_Exact_byDivision 87 rfl) (by decide) ?_
    exact am_Exact_byDivision_L164 l hfl D A σ MC MS h0 Qr x0 x2 x8 x13 0 h hw p e s m args below meth c hC H locs ls k n hE (lv_sub hl [0, 1, 2, 3] rfl) hR hS (by omega) (by omega)
  · have hw := hw.2 hc1
    refine lv_iconst (v := 1) hx hb (xb_d D_Exact_byDivision 85 rfl) (by decide) ?_
    refine lv_goto (tgt := 164) hx hb (xb_d D_Exact_byDivision 86 rfl) rfl ?_
    exact am_Exact_byDivision_L164 l hfl D A σ MC MS h0 Qr x0 x2 x8 x13 1 h hw p e s m args below meth c hC H locs ls k n hE (lv_sub hl [0, 1, 2, 3] rfl) hR hS (by omega) (by omega)

set_option maxHeartbeats 4000000 in
set_option maxRecDepth 100000 in
theorem am_Exact_byDivision_L144 (l : Launch) (hfl : l.flags = pinnedFlags ++ [noTraceFlag]) (D : va_G) (A : Nat → Prop) (σ MC MS : Nat) (h0 : xb_H) (Qr : Int64 → xb_H → Prop) (x0 : Nat) (x2 : Int32) (x8 : Int32) (x11 : Int64) (x13 : Int64) (y0 : Int32) (h : xb_H) (hw : w_Exact_byDivision_L144 Qr x0 x2 x8 x11 x13 y0 h) : xb_am l D A σ 4 MC MS h0 (fun v h => ∃ r, v = some (.long r) ∧ Qr r h) (fun _ _ => False) y_Exact_byDivision.cls y_Exact_byDivision.name b_Exact_byDivision 16 ([] : List ExceptionTableEntry) (some .long) 144 [(0, .ref x0), (2, .int x2), (8, .int x8), (11, .long x11), (13, .long x13)] [.int y0] h 0 0 := by
  unfold w_Exact_byDivision_L144 at hw
  intro p e s m args below meth c hC H locs ls k n hE hl hR hS hk hn
  obtain ⟨hx, hb, hown, hlocks, htab, hml, hr, hB, hA, hnm⟩ := id hC
  have hts := hB.1.1.at args
  refine lv_lload hx hb (xb_d D_Exact_byDivision 77 rfl) (lv_at hl 3 rfl) ?_
  refine lv_lconst (v := 0) hx hb (xb_d D_Exact_byDivision 78 rfl) (by decide) ?_
  refine xb_lc_ge (tgt := 155) hx hb (xb_d D_Exact_byDivision 79 rfl) (xb_d D_Exact_byDivision 80 rfl) rfl (fun hc1 => ?_) (fun hc1 => ?_)
  · have hw := hw.1 hc1
    refine lv_iconst (v := 0) hx hb (xb_d D_Exact_byDivision 83 rfl) (by decide) ?_
    exact am_Exact_byDivision_L156 l hfl D A σ MC MS h0 Qr x0 x2 x8 x13 0 y0 h hw p e s m args below meth c hC H locs ls k n hE (lv_sub hl [0, 1, 2, 4] rfl) hR hS (by omega) (by omega)
  · have hw := hw.2 hc1
    refine lv_iconst (v := 1) hx hb (xb_d D_Exact_byDivision 81 rfl) (by decide) ?_
    refine lv_goto (tgt := 156) hx hb (xb_d D_Exact_byDivision 82 rfl) rfl ?_
    exact am_Exact_byDivision_L156 l hfl D A σ MC MS h0 Qr x0 x2 x8 x13 1 y0 h hw p e s m args below meth c hC H locs ls k n hE (lv_sub hl [0, 1, 2, 4] rfl) hR hS (by omega) (by omega)

set_option maxHeartbeats 4000000 in
set_option maxRecDepth 100000 in
theorem am_Exact_byDivision_L105 (l : Launch) (hfl : l.flags = pinnedFlags ++ [noTraceFlag]) (D : va_G) (A : Nat → Prop) (σ MC MS : Nat) (h0 : xb_H) (Qr : Int64 → xb_H → Prop) (x0 : Nat) (x2 : Int32) (x8 : Int32) (x9 : Int64) (x11 : Int64) (y0 : Int64) (y1 : Int64) (h : xb_H) (hw : w_Exact_byDivision_L105 Qr x0 x2 x8 x9 x11 y0 y1 h) : xb_am l D A σ 4 MC MS h0 (fun v h => ∃ r, v = some (.long r) ∧ Qr r h) (fun _ _ => False) y_Exact_byDivision.cls y_Exact_byDivision.name b_Exact_byDivision 16 ([] : List ExceptionTableEntry) (some .long) 105 [(0, .ref x0), (2, .int x2), (8, .int x8), (9, .long x9), (11, .long x11)] [.long y0, .long y1] h 0 0 := by
  unfold w_Exact_byDivision_L105 at hw
  intro p e s m args below meth c hC H locs ls k n hE hl hR hS hk hn
  obtain ⟨hx, hb, hown, hlocks, htab, hml, hr, hB, hA, hnm⟩ := id hC
  have hts := hB.1.1.at args
  refine lv_iload hx hb (xb_d D_Exact_byDivision 57 rfl) (lv_at hl 2 rfl) ?_
  refine xb_call (D := D) (A := A) (σ := σ) (h := h) (d := 3) (mc := 0) (ms := 0) (maxL := 11) (rest := []) (av := [.long y1, .long y0, .int x8]) (fun T hT X => xt_invS X hx hown (hts _ m_4fe1e435) (hts _ m_f0f72ab9) (hts _ m_b807310b) (xt_sgS (hts _ m_ebf6cc91)).1 (xt_sgS (hts _ m_ebf6cc91)).2 nm_Exact_divided (g := F0 m 107 ls [.int x8, .long y0, .long y1]) rfl (argsL := [.long y1, .long y0, .int x8]) (rest := []) rfl rfl (by rw [hb]; exact (xb_d D_Exact_byDivision 58 rfl))) (ok_Exact_divided l hfl D A σ y1 y0 x8 h _ hw) (hml.trans hl.1.symm) (by rw [hb]; exact (xb_d D_Exact_byDivision 58 rfl)) (Nat.le_of_ble_eq_true rfl) (Nat.le_of_ble_eq_true rfl) (Nat.le_of_ble_eq_true rfl) (show k + 0 ≤ MC by omega) (show n + 0 ≤ MS by omega) (xt_w1 hB.1 m_ebf6cc91) (xt_cdOf hB.1 m_ebf6cc91) (hts _ m_b807310b) hB hR hS hA (fun vv h1 H locs hq hEh1 hR hS => ?_) (fun XX ax h1 H locs hq hEh1 hex hR hS => ?_)
  · obtain ⟨r2, rfl, hw⟩ := hq
    have hw := hw hEh1
    have hE := hE.tr hEh1
    refine W.eq (g2 := F0 m 110 ls [.long r2]) rfl ?_
    refine lv_lstore hx hb (xb_d D_Exact_byDivision 59 rfl) hl (by decide) rfl (fun ls hl => ?_)
    have hl : lv_has ls 16 [(13, .long r2), (0, .ref x0), (2, .int x2), (8, .int x8), (9, .long x9), (11, .long x11)] := hl
    refine lv_iload hx hb (xb_d D_Exact_byDivision 60 rfl) (lv_at hl 3 rfl) ?_
    refine lv_if_eq (tgt := 132) hx hb (xb_d D_Exact_byDivision 61 rfl) rfl (fun hc3 => ?_) (fun hc3 => ?_)
    · have hw := hw.1 hc3
      refine lv_lload hx hb (xb_d D_Exact_byDivision 70 rfl) (lv_at hl 4 rfl) ?_
      refine lv_lconst (v := 0) hx hb (xb_d D_Exact_byDivision 71 rfl) (by decide) ?_
      refine xb_lc_ge (tgt := 143) hx hb (xb_d D_Exact_byDivision 72 rfl) (xb_d D_Exact_byDivision 73 rfl) rfl (fun hc4 => ?_) (fun hc4 => ?_)
      · have hw := hw.1 hc4
        refine lv_iconst (v := 0) hx hb (xb_d D_Exact_byDivision 76 rfl) (by decide) ?_
        exact am_Exact_byDivision_L144 l hfl D A σ MC MS h0 Qr x0 x2 x8 x11 r2 0 h1 hw p e s m args below meth c hC H locs ls k n hE (lv_sub hl [1, 2, 3, 5, 0] rfl) hR hS (by omega) (by omega)
      · have hw := hw.2 hc4
        refine lv_iconst (v := 1) hx hb (xb_d D_Exact_byDivision 74 rfl) (by decide) ?_
        refine lv_goto (tgt := 144) hx hb (xb_d D_Exact_byDivision 75 rfl) rfl ?_
        exact am_Exact_byDivision_L144 l hfl D A σ MC MS h0 Qr x0 x2 x8 x11 r2 1 h1 hw p e s m args below meth c hC H locs ls k n hE (lv_sub hl [1, 2, 3, 5, 0] rfl) hR hS (by omega) (by omega)
    · have hw := hw.2 hc3
      refine lv_lload hx hb (xb_d D_Exact_byDivision 62 rfl) (lv_at hl 4 rfl) ?_
      refine lv_lconst (v := 0) hx hb (xb_d D_Exact_byDivision 63 rfl) (by decide) ?_
      refine xb_lc_ge (tgt := 128) hx hb (xb_d D_Exact_byDivision 64 rfl) (xb_d D_Exact_byDivision 65 rfl) rfl (fun hc5 => ?_) (fun hc5 => ?_)
      · have hw := hw.1 hc5
        refine lv_iconst (v := 0) hx hb (xb_d D_Exact_byDivision 68 rfl) (by decide) ?_
        refine lv_goto (tgt := 164) hx hb (xb_d D_Exact_byDivision 69 rfl) rfl ?_
        exact am_Exact_byDivision_L164 l hfl D A σ MC MS h0 Qr x0 x2 x8 r2 0 h1 hw p e s m args below meth c hC H locs ls k n hE (lv_sub hl [1, 2, 3, 0] rfl) hR hS (by omega) (by omega)
      · have hw := hw.2 hc5
        refine lv_iconst (v := 1) hx hb (xb_d D_Exact_byDivision 66 rfl) (by decide) ?_
        refine lv_goto (tgt := 164) hx hb (xb_d D_Exact_byDivision 67 rfl) rfl ?_
        exact am_Exact_byDivision_L164 l hfl D A σ MC MS h0 Qr x0 x2 x8 r2 1 h1 hw p e s m args below meth c hC H locs ls k n hE (lv_sub hl [1, 2, 3, 0] rfl) hR hS (by omega) (by omega)
  · exact False.elim hq

set_option maxHeartbeats 4000000 in
set_option maxRecDepth 100000 in
theorem am_Exact_byDivision_L90 (l : Launch) (hfl : l.flags = pinnedFlags ++ [noTraceFlag]) (D : va_G) (A : Nat → Prop) (σ MC MS : Nat) (h0 : xb_H) (Qr : Int64 → xb_H → Prop) (x0 : Nat) (x2 : Int32) (x8 : Int32) (x9 : Int64) (x11 : Int64) (y0 : Int64) (h : xb_H) (hw : w_Exact_byDivision_L90 Qr x0 x2 x8 x9 x11 y0 h) : xb_am l D A σ 4 MC MS h0 (fun v h => ∃ r, v = some (.long r) ∧ Qr r h) (fun _ _ => False) y_Exact_byDivision.cls y_Exact_byDivision.name b_Exact_byDivision 16 ([] : List ExceptionTableEntry) (some .long) 90 [(0, .ref x0), (2, .int x2), (8, .int x8), (9, .long x9), (11, .long x11)] [.long y0] h 0 0 := by
  unfold w_Exact_byDivision_L90 at hw
  intro p e s m args below meth c hC H locs ls k n hE hl hR hS hk hn
  obtain ⟨hx, hb, hown, hlocks, htab, hml, hr, hB, hA, hnm⟩ := id hC
  have hts := hB.1.1.at args
  refine lv_lload hx hb (xb_d D_Exact_byDivision 49 rfl) (lv_at hl 4 rfl) ?_
  refine lv_lconst (v := 0) hx hb (xb_d D_Exact_byDivision 50 rfl) (by decide) ?_
  refine xb_lc_ge (tgt := 103) hx hb (xb_d D_Exact_byDivision 51 rfl) (xb_d D_Exact_byDivision 52 rfl) rfl (fun hc1 => ?_) (fun hc1 => ?_)
  · have hw := hw.1 hc1
    refine lv_lload hx hb (xb_d D_Exact_byDivision 56 rfl) (lv_at hl 4 rfl) ?_
    exact am_Exact_byDivision_L105 l hfl D A σ MC MS h0 Qr x0 x2 x8 x9 x11 x11 y0 h hw p e s m args below meth c hC H locs ls k n hE (lv_sub hl [0, 1, 2, 3, 4] rfl) hR hS (by omega) (by omega)
  · have hw := hw.2 hc1
    refine lv_lload hx hb (xb_d D_Exact_byDivision 53 rfl) (lv_at hl 4 rfl) ?_
    refine lv_lneg hx hb (xb_d D_Exact_byDivision 54 rfl) ?_
    refine lv_goto (tgt := 105) hx hb (xb_d D_Exact_byDivision 55 rfl) rfl ?_
    exact am_Exact_byDivision_L105 l hfl D A σ MC MS h0 Qr x0 x2 x8 x9 x11 (-x11) y0 h hw p e s m args below meth c hC H locs ls k n hE (lv_sub hl [0, 1, 2, 3, 4] rfl) hR hS (by omega) (by omega)

set_option maxHeartbeats 4000000 in
set_option maxRecDepth 100000 in
theorem am_Exact_byDivision_L30 (l : Launch) (hfl : l.flags = pinnedFlags ++ [noTraceFlag]) (D : va_G) (A : Nat → Prop) (σ MC MS : Nat) (h0 : xb_H) (Qr : Int64 → xb_H → Prop) (x0 : Nat) (x2 : Int32) (x3 : Int64) (x5 : Int64) (x7 : Int32) (y0 : Int32) (h : xb_H) (hw : w_Exact_byDivision_L30 Qr x0 x2 x3 x5 x7 y0 h) : xb_am l D A σ 4 MC MS h0 (fun v h => ∃ r, v = some (.long r) ∧ Qr r h) (fun _ _ => False) y_Exact_byDivision.cls y_Exact_byDivision.name b_Exact_byDivision 16 ([] : List ExceptionTableEntry) (some .long) 30 [(0, .ref x0), (2, .int x2), (3, .long x3), (5, .long x5), (7, .int x7)] [.int y0] h 0 0 := by
  unfold w_Exact_byDivision_L30 at hw
  intro p e s m args below meth c hC H locs ls k n hE hl hR hS hk hn
  obtain ⟨hx, hb, hown, hlocks, htab, hml, hr, hB, hA, hnm⟩ := id hC
  have hts := hB.1.1.at args
  refine lv_istore hx hb (xb_d D_Exact_byDivision 16 rfl) hl (by decide) rfl (fun ls hl => ?_)
  have hl : lv_has ls 16 [(8, .int y0), (0, .ref x0), (2, .int x2), (3, .long x3), (5, .long x5), (7, .int x7)] := hl
  refine lv_lload hx hb (xb_d D_Exact_byDivision 17 rfl) (lv_at hl 4 rfl) ?_
  refine lv_lconst (v := 0) hx hb (xb_d D_Exact_byDivision 18 rfl) (by decide) ?_
  refine xb_lc_ne (tgt := 46) hx hb (xb_d D_Exact_byDivision 19 rfl) (xb_d D_Exact_byDivision 20 rfl) rfl (fun hc1 => ?_) (fun hc1 => ?_)
  · have hw := hw.1 hc1
    refine lv_iload hx hb (xb_d D_Exact_byDivision 26 rfl) (lv_at hl 5 rfl) ?_
    refine lv_if_ne (tgt := 60) hx hb (xb_d D_Exact_byDivision 27 rfl) rfl (fun hc2 => ?_) (fun hc2 => ?_)
    · have hw := hw.1 hc2
      refine lv_lload_n hx hb (xb_d D_Exact_byDivision 33 rfl) rfl (lv_at hl 3 rfl) ?_
      refine lv_iload_n hx hb (xb_d D_Exact_byDivision 34 rfl) rfl (lv_at hl 2 rfl) ?_
      refine xb_call (D := D) (A := A) (σ := σ) (h := h) (d := 2) (mc := 0) (ms := 0) (maxL := 3) (rest := []) (av := [.long x3, .int x2]) (fun T hT X => xt_invS X hx hown (hts _ m_a66ea30b) (hts _ m_ccb01543) (hts _ m_b807310b) (xt_sgS (hts _ m_dcff08ea)).1 (xt_sgS (hts _ m_dcff08ea)).2 nm_Exact_withSign (g := F0 m 62 ls [.int x2, .long x3]) rfl (argsL := [.long x3, .int x2]) (rest := []) rfl rfl (by rw [hb]; exact (xb_d D_Exact_byDivision 35 rfl))) (ok_Exact_withSign l hfl D A σ x3 x2 h _ hw) (hml.trans hl.1.symm) (by rw [hb]; exact (xb_d D_Exact_byDivision 35 rfl)) (Nat.le_of_ble_eq_true rfl) (Nat.le_of_ble_eq_true rfl) (Nat.le_of_ble_eq_true rfl) (show k + 0 ≤ MC by omega) (show n + 0 ≤ MS by omega) (xt_w1 hB.1 m_dcff08ea) (xt_cdOf hB.1 m_dcff08ea) (hts _ m_b807310b) hB hR hS hA (fun vv h3 H locs hq hEh3 hR hS => ?_) (fun XX ax h3 H locs hq hEh3 hex hR hS => ?_)
      · obtain ⟨r4, rfl, hw⟩ := hq
        have hw := hw hEh3
        have hE := hE.tr hEh3
        refine W.eq (g2 := F0 m 65 ls [.long r4]) rfl ?_
        refine lv_lstore hx hb (xb_d D_Exact_byDivision 36 rfl) hl (by decide) rfl (fun ls hl => ?_)
        have hl : lv_has ls 16 [(9, .long r4), (8, .int y0), (0, .ref x0), (2, .int x2), (3, .long x3), (5, .long x5), (7, .int x7)] := hl
        refine lv_lload hx hb (xb_d D_Exact_byDivision 37 rfl) (lv_at hl 5 rfl) ?_
        refine lv_iload_n hx hb (xb_d D_Exact_byDivision 38 rfl) rfl (lv_at hl 3 rfl) ?_
        refine xb_call (D := D) (A := A) (σ := σ) (h := h3) (d := 2) (mc := 0) (ms := 0) (maxL := 3) (rest := []) (av := [.long x5, .int x2]) (fun T hT X => xt_invS X hx hown (hts _ m_a66ea30b) (hts _ m_ccb01543) (hts _ m_b807310b) (xt_sgS (hts _ m_dcff08ea)).1 (xt_sgS (hts _ m_dcff08ea)).2 nm_Exact_withSign (g := F0 m 70 ls [.int x2, .long x5]) rfl (argsL := [.long x5, .int x2]) (rest := []) rfl rfl (by rw [hb]; exact (xb_d D_Exact_byDivision 39 rfl))) (ok_Exact_withSign l hfl D A σ x5 x2 h3 _ hw) (hml.trans hl.1.symm) (by rw [hb]; exact (xb_d D_Exact_byDivision 39 rfl)) (Nat.le_of_ble_eq_true rfl) (Nat.le_of_ble_eq_true rfl) (Nat.le_of_ble_eq_true rfl) (show k + 0 ≤ MC by omega) (show n + 0 ≤ MS by omega) (xt_w1 hB.1 m_dcff08ea) (xt_cdOf hB.1 m_dcff08ea) (hts _ m_b807310b) hB hR hS hA (fun vv h5 H locs hq hEh5 hR hS => ?_) (fun XX ax h5 H locs hq hEh5 hex hR hS => ?_)
        · obtain ⟨r6, rfl, hw⟩ := hq
          have hw := hw hEh5
          have hE := hE.tr hEh5
          refine W.eq (g2 := F0 m 73 ls [.long r6]) rfl ?_
          refine lv_lstore hx hb (xb_d D_Exact_byDivision 40 rfl) hl (by decide) rfl (fun ls hl => ?_)
          have hl : lv_has ls 16 [(11, .long r6), (9, .long r4), (8, .int y0), (0, .ref x0), (2, .int x2), (3, .long x3), (5, .long x5), (7, .int x7)] := hl
          refine lv_lload hx hb (xb_d D_Exact_byDivision 41 rfl) (lv_at hl 1 rfl) ?_
          refine lv_lconst (v := 0) hx hb (xb_d D_Exact_byDivision 42 rfl) (by decide) ?_
          refine xb_lc_ge (tgt := 88) hx hb (xb_d D_Exact_byDivision 43 rfl) (xb_d D_Exact_byDivision 44 rfl) rfl (fun hc7 => ?_) (fun hc7 => ?_)
          · have hw := hw.1 hc7
            refine lv_lload hx hb (xb_d D_Exact_byDivision 48 rfl) (lv_at hl 1 rfl) ?_
            exact am_Exact_byDivision_L90 l hfl D A σ MC MS h0 Qr x0 x2 y0 r4 r6 r4 h5 hw p e s m args below meth c hC H locs ls k n hE (lv_sub hl [3, 4, 2, 1, 0] rfl) hR hS (by omega) (by omega)
          · have hw := hw.2 hc7
            refine lv_lload hx hb (xb_d D_Exact_byDivision 45 rfl) (lv_at hl 1 rfl) ?_
            refine lv_lneg hx hb (xb_d D_Exact_byDivision 46 rfl) ?_
            refine lv_goto (tgt := 90) hx hb (xb_d D_Exact_byDivision 47 rfl) rfl ?_
            exact am_Exact_byDivision_L90 l hfl D A σ MC MS h0 Qr x0 x2 y0 r4 r6 (-r4) h5 hw p e s m args below meth c hC H locs ls k n hE (lv_sub hl [3, 4, 2, 1, 0] rfl) hR hS (by omega) (by omega)
        · exact False.elim hq
      · exact False.elim hq
    · have hw := hw.2 hc2
      refine lv_lload_n hx hb (xb_d D_Exact_byDivision 28 rfl) rfl (lv_at hl 3 rfl) ?_
      refine lv_lload hx hb (xb_d D_Exact_byDivision 29 rfl) (lv_at hl 4 rfl) ?_
      refine lv_iload hx hb (xb_d D_Exact_byDivision 30 rfl) (lv_at hl 0 rfl) ?_
      refine xb_call (D := D) (A := A) (σ := σ) (h := h) (d := 3) (mc := 0) (ms := 0) (maxL := 11) (rest := []) (av := [.long x3, .long x5, .int y0]) (fun T hT X => xt_invS X hx hown (hts _ m_4fe1e435) (hts _ m_f0f72ab9) (hts _ m_b807310b) (xt_sgS (hts _ m_ebf6cc91)).1 (xt_sgS (hts _ m_ebf6cc91)).2 nm_Exact_divided (g := F0 m 56 ls [.int y0, .long x5, .long x3]) rfl (argsL := [.long x3, .long x5, .int y0]) (rest := []) rfl rfl (by rw [hb]; exact (xb_d D_Exact_byDivision 31 rfl))) (ok_Exact_divided l hfl D A σ x3 x5 y0 h _ hw) (hml.trans hl.1.symm) (by rw [hb]; exact (xb_d D_Exact_byDivision 31 rfl)) (Nat.le_of_ble_eq_true rfl) (Nat.le_of_ble_eq_true rfl) (Nat.le_of_ble_eq_true rfl) (show k + 0 ≤ MC by omega) (show n + 0 ≤ MS by omega) (xt_w1 hB.1 m_ebf6cc91) (xt_cdOf hB.1 m_ebf6cc91) (hts _ m_b807310b) hB hR hS hA (fun vv h8 H locs hq hEh8 hR hS => ?_) (fun XX ax h8 H locs hq hEh8 hex hR hS => ?_)
      · obtain ⟨r9, rfl, hw⟩ := hq
        have hw := hw hEh8
        have hE := hE.tr hEh8
        refine W.eq (g2 := F0 m 59 ls [.long r9]) rfl ?_
        exact xb_lret hx hb hr hlocks (show k ≤ MC by omega) (show n ≤ MS by omega) hE hR hS (xb_d D_Exact_byDivision 32 rfl) hw
      · exact False.elim hq
  · have hw := hw.2 hc1
    refine lv_aload_n hx hb (xb_d D_Exact_byDivision 21 rfl) rfl (lv_at hl 1 rfl) ?_
    refine lv_iconst (v := 2) hx hb (xb_d D_Exact_byDivision 22 rfl) (by decide) ?_
    obtain ⟨hk10, hw⟩ := hw
    refine xb_putI (C := R_Exact) (T := F_Exact) (N := 11) (ty := .int) (x := 2) hx hb 9 0 hts fin_Exact t_Exact t_Exact_ok n_Exact hown hR hS hk10 (by decide) rfl (by decide) rfl (hts _ m_3957194a) (fun _ h9 => h9) rfl (by decide +kernel) rfl rfl (xb_d D_Exact_byDivision 23 rfl) (fun H locs hR hS => ?_)
    obtain ⟨h11, eh11⟩ : ∃ x : xb_H, x = xb_I h x0 0 2 := ⟨_, rfl⟩
    rw [← eh11] at hR
    have hw := hw h11 eh11
    have hE : xb_ext h0 h11 := by rw [eh11]; exact hE
    refine lv_lconst (v := 0) hx hb (xb_d D_Exact_byDivision 24 rfl) (by decide) ?_
    exact xb_lret hx hb hr hlocks (show k ≤ MC by omega) (show n ≤ MS by omega) hE hR hS (xb_d D_Exact_byDivision 25 rfl) hw

set_option maxHeartbeats 4000000 in
set_option maxRecDepth 100000 in
theorem am_Exact_byDivision_L17 (l : Launch) (hfl : l.flags = pinnedFlags ++ [noTraceFlag]) (D : va_G) (A : Nat → Prop) (σ MC MS : Nat) (h0 : xb_H) (Qr : Int64 → xb_H → Prop) (x0 : Nat) (x1 : Int32) (x2 : Int32) (x3 : Int64) (x5 : Int64) (y0 : Int32) (h : xb_H) (hw : w_Exact_byDivision_L17 Qr x0 x1 x2 x3 x5 y0 h) : xb_am l D A σ 4 MC MS h0 (fun v h => ∃ r, v = some (.long r) ∧ Qr r h) (fun _ _ => False) y_Exact_byDivision.cls y_Exact_byDivision.name b_Exact_byDivision 16 ([] : List ExceptionTableEntry) (some .long) 17 [(0, .ref x0), (1, .int x1), (2, .int x2), (3, .long x3), (5, .long x5)] [.int y0] h 0 0 := by
  unfold w_Exact_byDivision_L17 at hw
  intro p e s m args below meth c hC H locs ls k n hE hl hR hS hk hn
  obtain ⟨hx, hb, hown, hlocks, htab, hml, hr, hB, hA, hnm⟩ := id hC
  have hts := hB.1.1.at args
  refine lv_istore hx hb (xb_d D_Exact_byDivision 9 rfl) hl (by decide) rfl (fun ls hl => ?_)
  have hl : lv_has ls 16 [(7, .int y0), (0, .ref x0), (1, .int x1), (2, .int x2), (3, .long x3), (5, .long x5)] := hl
  refine lv_iload_n hx hb (xb_d D_Exact_byDivision 10 rfl) rfl (lv_at hl 2 rfl) ?_
  refine lv_bipush (v := 7) hx hb (xb_d D_Exact_byDivision 11 rfl) (by decide) ?_
  refine lv_icmp_le (tgt := 29) hx hb (xb_d D_Exact_byDivision 12 rfl) rfl (fun hc1 => ?_) (fun hc1 => ?_)
  · have hw := hw.1 hc1
    refine lv_iconst (v := 0) hx hb (xb_d D_Exact_byDivision 15 rfl) (by decide) ?_
    exact am_Exact_byDivision_L30 l hfl D A σ MC MS h0 Qr x0 x2 x3 x5 y0 0 h hw p e s m args below meth c hC H locs ls k n hE (lv_sub hl [1, 3, 4, 5, 0] rfl) hR hS (by omega) (by omega)
  · have hw := hw.2 hc1
    refine lv_iconst (v := 1) hx hb (xb_d D_Exact_byDivision 13 rfl) (by decide) ?_
    refine lv_goto (tgt := 30) hx hb (xb_d D_Exact_byDivision 14 rfl) rfl ?_
    exact am_Exact_byDivision_L30 l hfl D A σ MC MS h0 Qr x0 x2 x3 x5 y0 1 h hw p e s m args below meth c hC H locs ls k n hE (lv_sub hl [1, 3, 4, 5, 0] rfl) hR hS (by omega) (by omega)

set_option maxHeartbeats 4000000 in
set_option maxRecDepth 100000 in
theorem am_Exact_byDivision_L12 (l : Launch) (hfl : l.flags = pinnedFlags ++ [noTraceFlag]) (D : va_G) (A : Nat → Prop) (σ MC MS : Nat) (h0 : xb_H) (Qr : Int64 → xb_H → Prop) (x0 : Nat) (x1 : Int32) (x2 : Int32) (x3 : Int64) (x5 : Int64) (h : xb_H) (hw : w_Exact_byDivision_L12 Qr x0 x1 x2 x3 x5 h) : xb_am l D A σ 4 MC MS h0 (fun v h => ∃ r, v = some (.long r) ∧ Qr r h) (fun _ _ => False) y_Exact_byDivision.cls y_Exact_byDivision.name b_Exact_byDivision 16 ([] : List ExceptionTableEntry) (some .long) 12 [(0, .ref x0), (1, .int x1), (2, .int x2), (3, .long x3), (5, .long x5)] [] h 0 0 := by
  unfold w_Exact_byDivision_L12 at hw
  intro p e s m args below meth c hC H locs ls k n hE hl hR hS hk hn
  obtain ⟨hx, hb, hown, hlocks, htab, hml, hr, hB, hA, hnm⟩ := id hC
  have hts := hB.1.1.at args
  refine lv_iconst (v := 1) hx hb (xb_d D_Exact_byDivision 6 rfl) (by decide) ?_
  refine lv_goto (tgt := 17) hx hb (xb_d D_Exact_byDivision 7 rfl) rfl ?_
  exact am_Exact_byDivision_L17 l hfl D A σ MC MS h0 Qr x0 x1 x2 x3 x5 1 h hw p e s m args below meth c hC H locs ls k n hE (lv_sub hl [0, 1, 2, 3, 4] rfl) hR hS (by omega) (by omega)

set_option maxHeartbeats 4000000 in
set_option maxRecDepth 100000 in
theorem ok_Exact_byDivision (l : Launch) (hfl : l.flags = pinnedFlags ++ [noTraceFlag]) (D : va_G) (A : Nat → Prop) (σ : Nat) (x0 : Nat) (x1 : Int32) (x2 : Int32) (x3 : Int64) (x5 : Int64) (h : xb_H) (Qr : Int64 → xb_H → Prop) (hw : w_Exact_byDivision x0 x1 x2 x3 x5 h Qr) : xt_Met l y_Exact_byDivision [.code y_Exact_byDivision b_Exact_byDivision 16 (some .long)] (xb_rm 4 0 0) (xb_Pc D A σ h [.ref x0, .int x1, .int x2, .long x3, .long x5]) (xb_Qc D A h (fun v h => ∃ r, v = some (.long r) ∧ Qr r h) (fun _ _ => False)) 0 0 A := by
  refine xb_ofAm (cc := b_Exact_byDivision) (by decide) (Nat.le_of_ble_eq_true rfl) ?_
  unfold w_Exact_byDivision at hw
  show xb_am l D A σ 4 0 0 h (fun v h => ∃ r, v = some (.long r) ∧ Qr r h) (fun _ _ => False) y_Exact_byDivision.cls y_Exact_byDivision.name b_Exact_byDivision 16 ([] : List ExceptionTableEntry) (some .long) 0 [(0, .ref x0), (1, .int x1), (2, .int x2), (3, .long x3), (5, .long x5)] [] h 0 0
  obtain ⟨MC, hMC⟩ : ∃ x, x = 0 := ⟨_, rfl⟩
  obtain ⟨MS, hMS⟩ : ∃ x, x = 0 := ⟨_, rfl⟩
  rw [show xb_am l D A σ 4 0 0 = xb_am l D A σ 4 MC MS by rw [hMC, hMS]]
  obtain ⟨h0, hh0⟩ : ∃ x, x = h := ⟨_, rfl⟩
  rw [show xb_am l D A σ 4 MC MS h = xb_am l D A σ 4 MC MS h0 by rw [hh0]]
  intro p e s m args below meth c hC H locs ls k n hE hl hR hS hk hn
  obtain ⟨hx, hb, hown, hlocks, htab, hml, hr, hB, hA, hnm⟩ := id hC
  have hts := hB.1.1.at args
  refine lv_iload_n hx hb (xb_d D_Exact_byDivision 0 rfl) rfl (lv_at hl 1 rfl) ?_
  refine lv_bipush (v := 6) hx hb (xb_d D_Exact_byDivision 1 rfl) (by decide) ?_
  refine lv_icmp_eq (tgt := 12) hx hb (xb_d D_Exact_byDivision 2 rfl) rfl (fun hc1 => ?_) (fun hc1 => ?_)
  · have hw := hw.1 hc1
    exact am_Exact_byDivision_L12 l hfl D A σ MC MS h0 Qr x0 x1 x2 x3 x5 h hw p e s m args below meth c hC H locs ls k n hE (lv_sub hl [0, 1, 2, 3, 4] rfl) hR hS (by omega) (by omega)
  · have hw := hw.2 hc1
    refine lv_iload_n hx hb (xb_d D_Exact_byDivision 3 rfl) rfl (lv_at hl 1 rfl) ?_
    refine lv_bipush (v := 8) hx hb (xb_d D_Exact_byDivision 4 rfl) (by decide) ?_
    refine lv_icmp_ne (tgt := 16) hx hb (xb_d D_Exact_byDivision 5 rfl) rfl (fun hc2 => ?_) (fun hc2 => ?_)
    · have hw := hw.1 hc2
      refine lv_iconst (v := 0) hx hb (xb_d D_Exact_byDivision 8 rfl) (by decide) ?_
      exact am_Exact_byDivision_L17 l hfl D A σ MC MS h0 Qr x0 x1 x2 x3 x5 0 h hw p e s m args below meth c hC H locs ls k n hE (lv_sub hl [0, 1, 2, 3, 4] rfl) hR hS (by omega) (by omega)
    · have hw := hw.2 hc2
      exact am_Exact_byDivision_L12 l hfl D A σ MC MS h0 Qr x0 x1 x2 x3 x5 h hw p e s m args below meth c hC H locs ls k n hE (lv_sub hl [0, 1, 2, 3, 4] rfl) hR hS (by omega) (by omega)

theorem m_c1bdecd7 : (.methodLink "StackHostModel$Exact" 64 y_Exact_infinite : Cond) ∈ xt_tbl := xt_in (xt_t12 (List.mem_of_getElem? (i := 222) (by decide +kernel))) (by decide +kernel)
theorem m_3ecdf3c0 : (.instanceMethod y_Exact_infinite : Cond) ∈ xt_tbl := xt_in (xt_t12 (List.mem_of_getElem? (i := 224) (by decide +kernel))) (by decide +kernel)
theorem m_93791b31 : (.selects "StackHostModel$Exact" y_Exact_infinite y_Exact_infinite : Cond) ∈ xt_tbl := xt_in (xt_v15 (q := (⟨"StackHostModel$Exact", "infinite", "(Z)J"⟩, 11)) (List.mem_of_getElem? (i := 7) (by decide +kernel))) (by decide +kernel)
theorem m_99b71483 : (.code y_Exact_infinite b_Exact_infinite 2 (some .long) : Cond) ∈ xt_tbl := xt_in (xt_t12 (List.mem_of_getElem? (i := 225) (by decide +kernel))) (by decide +kernel)
theorem nm_Exact_infinite : xt_nm y_Exact_infinite 1 := ⟨by decide +kernel, by decide +kernel⟩
set_option maxRecDepth 100000 in
def T_Exact_isInfinite : List (Nat × Instr × Nat) := [(0, .aload_n 0, 1), (1, .lload_n 1, 1), (2, .invokevirtual 72, 3), (5, .aload_n 0, 1), (6, .iconst 0, 1), (7, .invokevirtual 64, 3), (10, .lcmp, 1), (11, .ifCond .ne 7, 3), (14, .iconst 1, 1), (15, .goto 4, 3), (18, .iconst 0, 1), (19, .ireturn, 1)]
theorem D_Exact_isInfinite : ∀ q ∈ T_Exact_isInfinite, decode b_Exact_isInfinite q.1 = .ok (q.2.1, q.2.2) := by decide +kernel
def w_Exact_isInfinite_L19 (Qr : Int32 → xb_H → Prop) (y0 : Int32) (h : xb_H) : Prop :=
    (y0 = 0 ∨ y0 = 1) ∧ Qr y0 h

def w_Exact_isInfinite (x0 : Nat) (x1 : Int64) (h : xb_H) (Qr : Int32 → xb_H → Prop) : Prop :=
    xb_k h x0 = 10 ∧ w_Exact_size x0 x1 h (fun (r3 : Int64) (h2 : xb_H) => xb_ext h h2 → w_Exact_infinite x0 0 h2 (fun (r5 : Int64) (h4 : xb_H) => xb_ext h2 h4 → ((¬ r3 = r5 → w_Exact_isInfinite_L19 Qr 0 h4) ∧ (r3 = r5 → w_Exact_isInfinite_L19 Qr 1 h4))))

set_option maxHeartbeats 4000000 in
set_option maxRecDepth 100000 in
theorem am_Exact_isInfinite_L19 (l : Launch) (hfl : l.flags = pinnedFlags ++ [noTraceFlag]) (D : va_G) (A : Nat → Prop) (σ MC MS : Nat) (h0 : xb_H) (Qr : Int32 → xb_H → Prop) (y0 : Int32) (h : xb_H) (hw : w_Exact_isInfinite_L19 Qr y0 h) : xb_am l D A σ 4 MC MS h0 (fun v h => ∃ r, v = some (.int r) ∧ Qr r h) (fun _ _ => False) y_Exact_isInfinite.cls y_Exact_isInfinite.name b_Exact_isInfinite 3 ([] : List ExceptionTableEntry) (some .boolean) 19 [] [.int y0] h 0 0 := by
  unfold w_Exact_isInfinite_L19 at hw
  intro p e s m args below meth c hC H locs ls k n hE hl hR hS hk hn
  obtain ⟨hx, hb, hown, hlocks, htab, hml, hr, hB, hA, hnm⟩ := id hC
  have hts := hB.1.1.at args
  exact xb_zret hx hb hr hlocks (show k ≤ MC by omega) (show n ≤ MS by omega) hw.1 hE hR hS (xb_d D_Exact_isInfinite 11 rfl) hw.2

set_option maxHeartbeats 4000000 in
set_option maxRecDepth 100000 in
theorem ok_Exact_isInfinite (l : Launch) (hfl : l.flags = pinnedFlags ++ [noTraceFlag]) (D : va_G) (A : Nat → Prop) (σ : Nat) (x0 : Nat) (x1 : Int64) (h : xb_H) (Qr : Int32 → xb_H → Prop) (hw : w_Exact_isInfinite x0 x1 h Qr) : xt_Met l y_Exact_isInfinite [.code y_Exact_isInfinite b_Exact_isInfinite 3 (some .boolean)] (xb_rm 4 0 0) (xb_Pc D A σ h [.ref x0, .long x1]) (xb_Qc D A h (fun v h => ∃ r, v = some (.int r) ∧ Qr r h) (fun _ _ => False)) 0 0 A := by
  refine xb_ofAm (cc := b_Exact_isInfinite) (by decide) (Nat.le_of_ble_eq_true rfl) ?_
  unfold w_Exact_isInfinite at hw
  show xb_am l D A σ 4 0 0 h (fun v h => ∃ r, v = some (.int r) ∧ Qr r h) (fun _ _ => False) y_Exact_isInfinite.cls y_Exact_isInfinite.name b_Exact_isInfinite 3 ([] : List ExceptionTableEntry) (some .boolean) 0 [(0, .ref x0), (1, .long x1)] [] h 0 0
  obtain ⟨MC, hMC⟩ : ∃ x, x = 0 := ⟨_, rfl⟩
  obtain ⟨MS, hMS⟩ : ∃ x, x = 0 := ⟨_, rfl⟩
  rw [show xb_am l D A σ 4 0 0 = xb_am l D A σ 4 MC MS by rw [hMC, hMS]]
  obtain ⟨h0, hh0⟩ : ∃ x, x = h := ⟨_, rfl⟩
  rw [show xb_am l D A σ 4 MC MS h = xb_am l D A σ 4 MC MS h0 by rw [hh0]]
  intro p e s m args below meth c hC H locs ls k n hE hl hR hS hk hn
  obtain ⟨hx, hb, hown, hlocks, htab, hml, hr, hB, hA, hnm⟩ := id hC
  have hts := hB.1.1.at args
  refine lv_aload_n hx hb (xb_d D_Exact_isInfinite 0 rfl) rfl (lv_at hl 0 rfl) ?_
  refine lv_lload_n hx hb (xb_d D_Exact_isInfinite 1 rfl) rfl (lv_at hl 1 rfl) ?_
  obtain ⟨hk1, hw⟩ := hw
  refine xb_call (D := D) (A := A) (σ := σ) (h := h) (d := 2) (mc := 0) (ms := 0) (maxL := 3) (rest := []) (av := [.ref x0, .long x1]) (fun T hT X => by obtain ⟨cb, r1, r2, r3⟩ := xb_recv (ci := 9) hR rfl hk1 (by decide); exact xt_invV X hx hown (hts _ m_4c81fbb0) (hts _ m_fb12fd6e) (hts _ m_e5146b3f) (xt_sigOf (hts _ m_7f30805a)) nm_Exact_size (by rw [hT]; exact r1) r2 r3 (g := F0 m 2 ls [.long x1, .ref x0]) rfl (argsL := [.long x1]) (rest := []) rfl rfl (by rw [hb]; exact (xb_d D_Exact_isInfinite 2 rfl))) (ok_Exact_size l hfl D A σ x0 x1 h _ hw) (hml.trans hl.1.symm) (by rw [hb]; exact (xb_d D_Exact_isInfinite 2 rfl)) (Nat.le_of_ble_eq_true rfl) (Nat.le_of_ble_eq_true rfl) (Nat.le_of_ble_eq_true rfl) (show k + 0 ≤ MC by omega) (show n + 0 ≤ MS by omega) (xt_w1 hB.1 m_7f30805a) (xt_cdOf hB.1 m_7f30805a) (hts _ m_b807310b) hB hR hS hA (fun vv h2 H locs hq hEh2 hR hS => ?_) (fun XX ax h2 H locs hq hEh2 hex hR hS => ?_)
  · obtain ⟨r3, rfl, hw⟩ := hq
    have hw := hw hEh2
    have hE := hE.tr hEh2
    refine W.eq (g2 := F0 m 5 ls [.long r3]) rfl ?_
    refine lv_aload_n hx hb (xb_d D_Exact_isInfinite 3 rfl) rfl (lv_at hl 0 rfl) ?_
    refine lv_iconst (v := 0) hx hb (xb_d D_Exact_isInfinite 4 rfl) (by decide) ?_
    have hk1 : xb_k h2 x0 = 10 := hEh2.k hk1
    refine xb_call (D := D) (A := A) (σ := σ) (h := h2) (d := 3) (mc := 0) (ms := 0) (maxL := 2) (rest := [.long r3]) (av := [.ref x0, .int 0]) (fun T hT X => by obtain ⟨cb, r1, r2, r3⟩ := xb_recv (ci := 9) hR rfl hk1 (by decide); exact xt_invV X hx hown (hts _ m_c1bdecd7) (hts _ m_3ecdf3c0) (hts _ m_93791b31) (xt_sigOf (hts _ m_99b71483)) nm_Exact_infinite (by rw [hT]; exact r1) r2 r3 (g := F0 m 7 ls [.int 0, .ref x0, .long r3]) rfl (argsL := [.int 0]) (rest := [.long r3]) rfl rfl (by rw [hb]; exact (xb_d D_Exact_isInfinite 5 rfl))) (ok_Exact_infinite l hfl D A σ x0 0 h2 _ hw) (hml.trans hl.1.symm) (by rw [hb]; exact (xb_d D_Exact_isInfinite 5 rfl)) (Nat.le_of_ble_eq_true rfl) (Nat.le_of_ble_eq_true rfl) (Nat.le_of_ble_eq_true rfl) (show k + 0 ≤ MC by omega) (show n + 0 ≤ MS by omega) (xt_w1 hB.1 m_99b71483) (xt_cdOf hB.1 m_99b71483) (hts _ m_b807310b) hB hR hS hA (fun vv h4 H locs hq hEh4 hR hS => ?_) (fun XX ax h4 H locs hq hEh4 hex hR hS => ?_)
    · obtain ⟨r5, rfl, hw⟩ := hq
      have hw := hw hEh4
      have hE := hE.tr hEh4
      refine W.eq (g2 := F0 m 10 ls [.long r5, .long r3]) rfl ?_
      refine xb_lc_ne (tgt := 18) hx hb (xb_d D_Exact_isInfinite 6 rfl) (xb_d D_Exact_isInfinite 7 rfl) rfl (fun hc6 => ?_) (fun hc6 => ?_)
      · have hw := hw.1 hc6
        refine lv_iconst (v := 0) hx hb (xb_d D_Exact_isInfinite 10 rfl) (by decide) ?_
        exact am_Exact_isInfinite_L19 l hfl D A σ MC MS h0 Qr 0 h4 hw p e s m args below meth c hC H locs ls k n hE (lv_sub hl [] rfl) hR hS (by omega) (by omega)
      · have hw := hw.2 hc6
        refine lv_iconst (v := 1) hx hb (xb_d D_Exact_isInfinite 8 rfl) (by decide) ?_
        refine lv_goto (tgt := 19) hx hb (xb_d D_Exact_isInfinite 9 rfl) rfl ?_
        exact am_Exact_isInfinite_L19 l hfl D A σ MC MS h0 Qr 1 h4 hw p e s m args below meth c hC H locs ls k n hE (lv_sub hl [] rfl) hR hS (by omega) (by omega)
    · exact False.elim hq
  · exact False.elim hq

set_option maxRecDepth 100000 in
def T_Exact_isNone : List (Nat × Instr × Nat) := [(0, .aload_n 0, 1), (1, .lload_n 1, 1), (2, .invokevirtual 72, 3), (5, .aload_n 0, 1), (6, .iconst 0, 1), (7, .invokevirtual 64, 3), (10, .lcmp, 1), (11, .ifCond .le 7, 3), (14, .iconst 1, 1), (15, .goto 4, 3), (18, .iconst 0, 1), (19, .ireturn, 1)]
theorem D_Exact_isNone : ∀ q ∈ T_Exact_isNone, decode b_Exact_isNone q.1 = .ok (q.2.1, q.2.2) := by decide +kernel
def w_Exact_isNone_L19 (Qr : Int32 → xb_H → Prop) (y0 : Int32) (h : xb_H) : Prop :=
    (y0 = 0 ∨ y0 = 1) ∧ Qr y0 h

def w_Exact_isNone (x0 : Nat) (x1 : Int64) (h : xb_H) (Qr : Int32 → xb_H → Prop) : Prop :=
    xb_k h x0 = 10 ∧ w_Exact_size x0 x1 h (fun (r3 : Int64) (h2 : xb_H) => xb_ext h h2 → w_Exact_infinite x0 0 h2 (fun (r5 : Int64) (h4 : xb_H) => xb_ext h2 h4 → ((r3 ≤ r5 → w_Exact_isNone_L19 Qr 0 h4) ∧ (¬ r3 ≤ r5 → w_Exact_isNone_L19 Qr 1 h4))))

set_option maxHeartbeats 4000000 in
set_option maxRecDepth 100000 in
theorem am_Exact_isNone_L19 (l : Launch) (hfl : l.flags = pinnedFlags ++ [noTraceFlag]) (D : va_G) (A : Nat → Prop) (σ MC MS : Nat) (h0 : xb_H) (Qr : Int32 → xb_H → Prop) (y0 : Int32) (h : xb_H) (hw : w_Exact_isNone_L19 Qr y0 h) : xb_am l D A σ 4 MC MS h0 (fun v h => ∃ r, v = some (.int r) ∧ Qr r h) (fun _ _ => False) y_Exact_isNone.cls y_Exact_isNone.name b_Exact_isNone 3 ([] : List ExceptionTableEntry) (some .boolean) 19 [] [.int y0] h 0 0 := by
  unfold w_Exact_isNone_L19 at hw
  intro p e s m args below meth c hC H locs ls k n hE hl hR hS hk hn
  obtain ⟨hx, hb, hown, hlocks, htab, hml, hr, hB, hA, hnm⟩ := id hC
  have hts := hB.1.1.at args
  exact xb_zret hx hb hr hlocks (show k ≤ MC by omega) (show n ≤ MS by omega) hw.1 hE hR hS (xb_d D_Exact_isNone 11 rfl) hw.2

set_option maxHeartbeats 4000000 in
set_option maxRecDepth 100000 in
theorem ok_Exact_isNone (l : Launch) (hfl : l.flags = pinnedFlags ++ [noTraceFlag]) (D : va_G) (A : Nat → Prop) (σ : Nat) (x0 : Nat) (x1 : Int64) (h : xb_H) (Qr : Int32 → xb_H → Prop) (hw : w_Exact_isNone x0 x1 h Qr) : xt_Met l y_Exact_isNone [.code y_Exact_isNone b_Exact_isNone 3 (some .boolean)] (xb_rm 4 0 0) (xb_Pc D A σ h [.ref x0, .long x1]) (xb_Qc D A h (fun v h => ∃ r, v = some (.int r) ∧ Qr r h) (fun _ _ => False)) 0 0 A := by
  refine xb_ofAm (cc := b_Exact_isNone) (by decide) (Nat.le_of_ble_eq_true rfl) ?_
  unfold w_Exact_isNone at hw
  show xb_am l D A σ 4 0 0 h (fun v h => ∃ r, v = some (.int r) ∧ Qr r h) (fun _ _ => False) y_Exact_isNone.cls y_Exact_isNone.name b_Exact_isNone 3 ([] : List ExceptionTableEntry) (some .boolean) 0 [(0, .ref x0), (1, .long x1)] [] h 0 0
  obtain ⟨MC, hMC⟩ : ∃ x, x = 0 := ⟨_, rfl⟩
  obtain ⟨MS, hMS⟩ : ∃ x, x = 0 := ⟨_, rfl⟩
  rw [show xb_am l D A σ 4 0 0 = xb_am l D A σ 4 MC MS by rw [hMC, hMS]]
  obtain ⟨h0, hh0⟩ : ∃ x, x = h := ⟨_, rfl⟩
  rw [show xb_am l D A σ 4 MC MS h = xb_am l D A σ 4 MC MS h0 by rw [hh0]]
  intro p e s m args below meth c hC H locs ls k n hE hl hR hS hk hn
  obtain ⟨hx, hb, hown, hlocks, htab, hml, hr, hB, hA, hnm⟩ := id hC
  have hts := hB.1.1.at args
  refine lv_aload_n hx hb (xb_d D_Exact_isNone 0 rfl) rfl (lv_at hl 0 rfl) ?_
  refine lv_lload_n hx hb (xb_d D_Exact_isNone 1 rfl) rfl (lv_at hl 1 rfl) ?_
  obtain ⟨hk1, hw⟩ := hw
  refine xb_call (D := D) (A := A) (σ := σ) (h := h) (d := 2) (mc := 0) (ms := 0) (maxL := 3) (rest := []) (av := [.ref x0, .long x1]) (fun T hT X => by obtain ⟨cb, r1, r2, r3⟩ := xb_recv (ci := 9) hR rfl hk1 (by decide); exact xt_invV X hx hown (hts _ m_4c81fbb0) (hts _ m_fb12fd6e) (hts _ m_e5146b3f) (xt_sigOf (hts _ m_7f30805a)) nm_Exact_size (by rw [hT]; exact r1) r2 r3 (g := F0 m 2 ls [.long x1, .ref x0]) rfl (argsL := [.long x1]) (rest := []) rfl rfl (by rw [hb]; exact (xb_d D_Exact_isNone 2 rfl))) (ok_Exact_size l hfl D A σ x0 x1 h _ hw) (hml.trans hl.1.symm) (by rw [hb]; exact (xb_d D_Exact_isNone 2 rfl)) (Nat.le_of_ble_eq_true rfl) (Nat.le_of_ble_eq_true rfl) (Nat.le_of_ble_eq_true rfl) (show k + 0 ≤ MC by omega) (show n + 0 ≤ MS by omega) (xt_w1 hB.1 m_7f30805a) (xt_cdOf hB.1 m_7f30805a) (hts _ m_b807310b) hB hR hS hA (fun vv h2 H locs hq hEh2 hR hS => ?_) (fun XX ax h2 H locs hq hEh2 hex hR hS => ?_)
  · obtain ⟨r3, rfl, hw⟩ := hq
    have hw := hw hEh2
    have hE := hE.tr hEh2
    refine W.eq (g2 := F0 m 5 ls [.long r3]) rfl ?_
    refine lv_aload_n hx hb (xb_d D_Exact_isNone 3 rfl) rfl (lv_at hl 0 rfl) ?_
    refine lv_iconst (v := 0) hx hb (xb_d D_Exact_isNone 4 rfl) (by decide) ?_
    have hk1 : xb_k h2 x0 = 10 := hEh2.k hk1
    refine xb_call (D := D) (A := A) (σ := σ) (h := h2) (d := 3) (mc := 0) (ms := 0) (maxL := 2) (rest := [.long r3]) (av := [.ref x0, .int 0]) (fun T hT X => by obtain ⟨cb, r1, r2, r3⟩ := xb_recv (ci := 9) hR rfl hk1 (by decide); exact xt_invV X hx hown (hts _ m_c1bdecd7) (hts _ m_3ecdf3c0) (hts _ m_93791b31) (xt_sigOf (hts _ m_99b71483)) nm_Exact_infinite (by rw [hT]; exact r1) r2 r3 (g := F0 m 7 ls [.int 0, .ref x0, .long r3]) rfl (argsL := [.int 0]) (rest := [.long r3]) rfl rfl (by rw [hb]; exact (xb_d D_Exact_isNone 5 rfl))) (ok_Exact_infinite l hfl D A σ x0 0 h2 _ hw) (hml.trans hl.1.symm) (by rw [hb]; exact (xb_d D_Exact_isNone 5 rfl)) (Nat.le_of_ble_eq_true rfl) (Nat.le_of_ble_eq_true rfl) (Nat.le_of_ble_eq_true rfl) (show k + 0 ≤ MC by omega) (show n + 0 ≤ MS by omega) (xt_w1 hB.1 m_99b71483) (xt_cdOf hB.1 m_99b71483) (hts _ m_b807310b) hB hR hS hA (fun vv h4 H locs hq hEh4 hR hS => ?_) (fun XX ax h4 H locs hq hEh4 hex hR hS => ?_)
    · obtain ⟨r5, rfl, hw⟩ := hq
      have hw := hw hEh4
      have hE := hE.tr hEh4
      refine W.eq (g2 := F0 m 10 ls [.long r5, .long r3]) rfl ?_
      refine xb_lc_le (tgt := 18) hx hb (xb_d D_Exact_isNone 6 rfl) (xb_d D_Exact_isNone 7 rfl) rfl (fun hc6 => ?_) (fun hc6 => ?_)
      · have hw := hw.1 hc6
        refine lv_iconst (v := 0) hx hb (xb_d D_Exact_isNone 10 rfl) (by decide) ?_
        exact am_Exact_isNone_L19 l hfl D A σ MC MS h0 Qr 0 h4 hw p e s m args below meth c hC H locs ls k n hE (lv_sub hl [] rfl) hR hS (by omega) (by omega)
      · have hw := hw.2 hc6
        refine lv_iconst (v := 1) hx hb (xb_d D_Exact_isNone 8 rfl) (by decide) ?_
        refine lv_goto (tgt := 19) hx hb (xb_d D_Exact_isNone 9 rfl) rfl ?_
        exact am_Exact_isNone_L19 l hfl D A σ MC MS h0 Qr 1 h4 hw p e s m args below meth c hC H locs ls k n hE (lv_sub hl [] rfl) hR hS (by omega) (by omega)
    · exact False.elim hq
  · exact False.elim hq

theorem m_eb5d6020 : (.methodLink "StackHostModel$Exact" 93 y_Exact_less : Cond) ∈ xt_tbl := xt_in (xt_t13 (List.mem_of_getElem? (i := 87) (by decide +kernel))) (by decide +kernel)
theorem m_a6ef2795 : (.instanceMethod y_Exact_less : Cond) ∈ xt_tbl := xt_in (xt_t13 (List.mem_of_getElem? (i := 89) (by decide +kernel))) (by decide +kernel)
theorem m_a49f9496 : (.selects "StackHostModel$Exact" y_Exact_less y_Exact_less : Cond) ∈ xt_tbl := xt_in (xt_v16 (q := (⟨"StackHostModel$Exact", "less", "(JZJ)Z"⟩, 11)) (List.mem_of_getElem? (i := 14) (by decide +kernel))) (by decide +kernel)
theorem m_68c5032f : (.code y_Exact_less b_Exact_less 10 (some .boolean) : Cond) ∈ xt_tbl := xt_in (xt_t13 (List.mem_of_getElem? (i := 90) (by decide +kernel))) (by decide +kernel)
theorem m_f9e5bce2 : (.methodLink "StackHostModel$Exact" 104 y_Exact_isZero : Cond) ∈ xt_tbl := xt_in (xt_t13 (List.mem_of_getElem? (i := 43) (by decide +kernel))) (by decide +kernel)
theorem m_d4ccf81e : (.instanceMethod y_Exact_isZero : Cond) ∈ xt_tbl := xt_in (xt_t13 (List.mem_of_getElem? (i := 45) (by decide +kernel))) (by decide +kernel)
theorem m_870ffa92 : (.selects "StackHostModel$Exact" y_Exact_isZero y_Exact_isZero : Cond) ∈ xt_tbl := xt_in (xt_v16 (q := (⟨"StackHostModel$Exact", "isZero", "(J)Z"⟩, 11)) (List.mem_of_getElem? (i := 4) (by decide +kernel))) (by decide +kernel)
theorem m_b231eb2b : (.code y_Exact_isZero b_Exact_isZero 3 (some .boolean) : Cond) ∈ xt_tbl := xt_in (xt_t13 (List.mem_of_getElem? (i := 46) (by decide +kernel))) (by decide +kernel)
theorem nm_Exact_less : xt_nm y_Exact_less 3 := ⟨by decide +kernel, by decide +kernel⟩
theorem nm_Exact_isZero : xt_nm y_Exact_isZero 1 := ⟨by decide +kernel, by decide +kernel⟩
set_option maxRecDepth 100000 in
def T_Exact_lesser : List (Nat × Instr × Nat) := [(0, .aload_n 0, 1), (1, .lload_n 2, 1), (2, .invokevirtual 104, 3), (5, .ifCond .eq 74, 3), (8, .aload_n 0, 1), (9, .lload 4, 2), (11, .invokevirtual 104, 3), (14, .ifCond .eq 65, 3), (17, .iload_n 1, 1), (18, .ifCond .eq 33, 3), (21, .aload_n 0, 1), (22, .lconst 0, 1), (23, .aload_n 0, 1), (24, .lload_n 2, 1), (25, .invokevirtual 76, 3), (28, .ifCond .eq 16, 3), (31, .aload_n 0, 1), (32, .lload 4, 2), (34, .invokevirtual 76, 3), (37, .ifCond .eq 7, 3), (40, .iconst 1, 1), (41, .goto 4, 3), (44, .iconst 0, 1), (45, .invokevirtual 52, 3), (48, .goto 30, 3), (51, .aload_n 0, 1), (52, .lconst 0, 1), (53, .aload_n 0, 1), (54, .lload_n 2, 1), (55, .invokevirtual 76, 3), (58, .ifCond .ne 12, 3), (61, .aload_n 0, 1), (62, .lload 4, 2), (64, .invokevirtual 76, 3), (67, .ifCond .eq 7, 3), (70, .iconst 1, 1), (71, .goto 4, 3), (74, .iconst 0, 1), (75, .invokevirtual 52, 3), (78, .lreturn, 1), (79, .aload_n 0, 1), (80, .lload_n 2, 1), (81, .iconst 1, 1), (82, .lload 4, 2), (84, .invokevirtual 93, 3), (87, .iload_n 1, 1), (88, .if_icmp .eq 7, 3), (91, .lload_n 2, 1), (92, .goto 5, 3), (95, .lload 4, 2), (97, .lreturn, 1)]
theorem D_Exact_lesser : ∀ q ∈ T_Exact_lesser, decode b_Exact_lesser q.1 = .ok (q.2.1, q.2.2) := by decide +kernel
def w_Exact_lesser_L97 (Qr : Int64 → xb_H → Prop) (y0 : Int64) (h : xb_H) : Prop :=
    Qr y0 h

def w_Exact_lesser_L79 (Qr : Int64 → xb_H → Prop) (x0 : Nat) (x1 : Int32) (x2 : Int64) (x4 : Int64) (h : xb_H) : Prop :=
    xb_k h x0 = 10 ∧ w_Exact_less x0 x2 1 x4 h (fun (r3 : Int32) (h2 : xb_H) => xb_ext h h2 → ((r3 = x1 → w_Exact_lesser_L97 Qr x4 h2) ∧ (¬ r3 = x1 → w_Exact_lesser_L97 Qr x2 h2)))

def w_Exact_lesser_L78 (Qr : Int64 → xb_H → Prop) (y0 : Int64) (h : xb_H) : Prop :=
    Qr y0 h

def w_Exact_lesser_L75 (Qr : Int64 → xb_H → Prop) (y0 : Int32) (y1 : Int64) (y2 : Nat) (h : xb_H) : Prop :=
    xb_k h y2 = 10 ∧ w_Exact_signed y2 y1 y0 h (fun (r3 : Int64) (h2 : xb_H) => xb_ext h h2 → w_Exact_lesser_L78 Qr r3 h2)

def w_Exact_lesser_L70 (Qr : Int64 → xb_H → Prop) (y0 : Int64) (y1 : Nat) (h : xb_H) : Prop :=
    w_Exact_lesser_L75 Qr 1 y0 y1 h

def w_Exact_lesser_L45 (Qr : Int64 → xb_H → Prop) (y0 : Int32) (y1 : Int64) (y2 : Nat) (h : xb_H) : Prop :=
    xb_k h y2 = 10 ∧ w_Exact_signed y2 y1 y0 h (fun (r3 : Int64) (h2 : xb_H) => xb_ext h h2 → w_Exact_lesser_L78 Qr r3 h2)

def w_Exact_lesser_L44 (Qr : Int64 → xb_H → Prop) (y0 : Int64) (y1 : Nat) (h : xb_H) : Prop :=
    w_Exact_lesser_L45 Qr 0 y0 y1 h

def w_Exact_lesser (x0 : Nat) (x1 : Int32) (x2 : Int64) (x4 : Int64) (h : xb_H) (Qr : Int64 → xb_H → Prop) : Prop :=
    xb_k h x0 = 10 ∧ w_Exact_isZero x0 x2 h (fun (r3 : Int32) (h2 : xb_H) => xb_ext h h2 → ((r3 = (0 : Int32) → w_Exact_lesser_L79 Qr x0 x1 x2 x4 h2) ∧ (¬ r3 = (0 : Int32) → w_Exact_isZero x0 x4 h2 (fun (r6 : Int32) (h5 : xb_H) => xb_ext h2 h5 → ((r6 = (0 : Int32) → w_Exact_lesser_L79 Qr x0 x1 x2 x4 h5) ∧ (¬ r6 = (0 : Int32) → ((x1 = (0 : Int32) → w_Exact_isMinus x0 x2 h5 (fun (r10 : Int32) (h9 : xb_H) => xb_ext h5 h9 → ((¬ r10 = (0 : Int32) → w_Exact_lesser_L70 Qr 0 x0 h9) ∧ (r10 = (0 : Int32) → w_Exact_isMinus x0 x4 h9 (fun (r13 : Int32) (h12 : xb_H) => xb_ext h9 h12 → ((r13 = (0 : Int32) → w_Exact_lesser_L75 Qr 0 0 x0 h12) ∧ (¬ r13 = (0 : Int32) → w_Exact_lesser_L70 Qr 0 x0 h12))))))) ∧ (¬ x1 = (0 : Int32) → w_Exact_isMinus x0 x2 h5 (fun (r16 : Int32) (h15 : xb_H) => xb_ext h5 h15 → ((r16 = (0 : Int32) → w_Exact_lesser_L44 Qr 0 x0 h15) ∧ (¬ r16 = (0 : Int32) → w_Exact_isMinus x0 x4 h15 (fun (r19 : Int32) (h18 : xb_H) => xb_ext h15 h18 → ((r19 = (0 : Int32) → w_Exact_lesser_L44 Qr 0 x0 h18) ∧ (¬ r19 = (0 : Int32) → w_Exact_lesser_L45 Qr 1 0 x0 h18))))))))))))))

set_option maxHeartbeats 4000000 in
set_option maxRecDepth 100000 in
theorem am_Exact_lesser_L97 (l : Launch) (hfl : l.flags = pinnedFlags ++ [noTraceFlag]) (D : va_G) (A : Nat → Prop) (σ MC MS : Nat) (h0 : xb_H) (Qr : Int64 → xb_H → Prop) (y0 : Int64) (h : xb_H) (hw : w_Exact_lesser_L97 Qr y0 h) : xb_am l D A σ 4 MC MS h0 (fun v h => ∃ r, v = some (.long r) ∧ Qr r h) (fun _ _ => False) y_Exact_lesser.cls y_Exact_lesser.name b_Exact_lesser 6 ([] : List ExceptionTableEntry) (some .long) 97 [] [.long y0] h 0 0 := by
  unfold w_Exact_lesser_L97 at hw
  intro p e s m args below meth c hC H locs ls k n hE hl hR hS hk hn
  obtain ⟨hx, hb, hown, hlocks, htab, hml, hr, hB, hA, hnm⟩ := id hC
  have hts := hB.1.1.at args
  exact xb_lret hx hb hr hlocks (show k ≤ MC by omega) (show n ≤ MS by omega) hE hR hS (xb_d D_Exact_lesser 50 rfl) hw

set_option maxHeartbeats 4000000 in
set_option maxRecDepth 100000 in
theorem am_Exact_lesser_L79 (l : Launch) (hfl : l.flags = pinnedFlags ++ [noTraceFlag]) (D : va_G) (A : Nat → Prop) (σ MC MS : Nat) (h0 : xb_H) (Qr : Int64 → xb_H → Prop) (x0 : Nat) (x1 : Int32) (x2 : Int64) (x4 : Int64) (h : xb_H) (hw : w_Exact_lesser_L79 Qr x0 x1 x2 x4 h) : xb_am l D A σ 4 MC MS h0 (fun v h => ∃ r, v = some (.long r) ∧ Qr r h) (fun _ _ => False) y_Exact_lesser.cls y_Exact_lesser.name b_Exact_lesser 6 ([] : List ExceptionTableEntry) (some .long) 79 [(0, .ref x0), (1, .int x1), (2, .long x2), (4, .long x4)] [] h 0 0 := by
  unfold w_Exact_lesser_L79 at hw
  intro p e s m args below meth c hC H locs ls k n hE hl hR hS hk hn
  obtain ⟨hx, hb, hown, hlocks, htab, hml, hr, hB, hA, hnm⟩ := id hC
  have hts := hB.1.1.at args
  refine lv_aload_n hx hb (xb_d D_Exact_lesser 40 rfl) rfl (lv_at hl 0 rfl) ?_
  refine lv_lload_n hx hb (xb_d D_Exact_lesser 41 rfl) rfl (lv_at hl 2 rfl) ?_
  refine lv_iconst (v := 1) hx hb (xb_d D_Exact_lesser 42 rfl) (by decide) ?_
  refine lv_lload hx hb (xb_d D_Exact_lesser 43 rfl) (lv_at hl 3 rfl) ?_
  obtain ⟨hk1, hw⟩ := hw
  refine xb_call (D := D) (A := A) (σ := σ) (h := h) (d := 3) (mc := 0) (ms := 0) (maxL := 10) (rest := []) (av := [.ref x0, .long x2, .int 1, .long x4]) (fun T hT X => by obtain ⟨cb, r1, r2, r3⟩ := xb_recv (ci := 9) hR rfl hk1 (by decide); exact xt_invV X hx hown (hts _ m_eb5d6020) (hts _ m_a6ef2795) (hts _ m_a49f9496) (xt_sigOf (hts _ m_68c5032f)) nm_Exact_less (by rw [hT]; exact r1) r2 r3 (g := F0 m 84 ls [.long x4, .int 1, .long x2, .ref x0]) rfl (argsL := [.long x2, .int 1, .long x4]) (rest := []) rfl rfl (by rw [hb]; exact (xb_d D_Exact_lesser 44 rfl))) (ok_Exact_less l hfl D A σ x0 x2 1 x4 h _ hw) (hml.trans hl.1.symm) (by rw [hb]; exact (xb_d D_Exact_lesser 44 rfl)) (Nat.le_of_ble_eq_true rfl) (Nat.le_of_ble_eq_true rfl) (Nat.le_of_ble_eq_true rfl) (show k + 0 ≤ MC by omega) (show n + 0 ≤ MS by omega) (xt_w1 hB.1 m_68c5032f) (xt_cdOf hB.1 m_68c5032f) (hts _ m_b807310b) hB hR hS hA (fun vv h2 H locs hq hEh2 hR hS => ?_) (fun XX ax h2 H locs hq hEh2 hex hR hS => ?_)
  · obtain ⟨r3, rfl, hw⟩ := hq
    have hw := hw hEh2
    have hE := hE.tr hEh2
    refine W.eq (g2 := F0 m 87 ls [.int r3]) rfl ?_
    refine lv_iload_n hx hb (xb_d D_Exact_lesser 45 rfl) rfl (lv_at hl 1 rfl) ?_
    refine lv_icmp_eq (tgt := 95) hx hb (xb_d D_Exact_lesser 46 rfl) rfl (fun hc4 => ?_) (fun hc4 => ?_)
    · have hw := hw.1 hc4
      refine lv_lload hx hb (xb_d D_Exact_lesser 49 rfl) (lv_at hl 3 rfl) ?_
      exact am_Exact_lesser_L97 l hfl D A σ MC MS h0 Qr x4 h2 hw p e s m args below meth c hC H locs ls k n hE (lv_sub hl [] rfl) hR hS (by omega) (by omega)
    · have hw := hw.2 hc4
      refine lv_lload_n hx hb (xb_d D_Exact_lesser 47 rfl) rfl (lv_at hl 2 rfl) ?_
      refine lv_goto (tgt := 97) hx hb (xb_d D_Exact_lesser 48 rfl) rfl ?_
      exact am_Exact_lesser_L97 l hfl D A σ MC MS h0 Qr x2 h2 hw p e s m args below meth c hC H locs ls k n hE (lv_sub hl [] rfl) hR hS (by omega) (by omega)
  · exact False.elim hq

set_option maxHeartbeats 4000000 in
set_option maxRecDepth 100000 in
theorem am_Exact_lesser_L78 (l : Launch) (hfl : l.flags = pinnedFlags ++ [noTraceFlag]) (D : va_G) (A : Nat → Prop) (σ MC MS : Nat) (h0 : xb_H) (Qr : Int64 → xb_H → Prop) (y0 : Int64) (h : xb_H) (hw : w_Exact_lesser_L78 Qr y0 h) : xb_am l D A σ 4 MC MS h0 (fun v h => ∃ r, v = some (.long r) ∧ Qr r h) (fun _ _ => False) y_Exact_lesser.cls y_Exact_lesser.name b_Exact_lesser 6 ([] : List ExceptionTableEntry) (some .long) 78 [] [.long y0] h 0 0 := by
  unfold w_Exact_lesser_L78 at hw
  intro p e s m args below meth c hC H locs ls k n hE hl hR hS hk hn
  obtain ⟨hx, hb, hown, hlocks, htab, hml, hr, hB, hA, hnm⟩ := id hC
  have hts := hB.1.1.at args
  exact xb_lret hx hb hr hlocks (show k ≤ MC by omega) (show n ≤ MS by omega) hE hR hS (xb_d D_Exact_lesser 39 rfl) hw

set_option maxHeartbeats 4000000 in
set_option maxRecDepth 100000 in
theorem am_Exact_lesser_L75 (l : Launch) (hfl : l.flags = pinnedFlags ++ [noTraceFlag]) (D : va_G) (A : Nat → Prop) (σ MC MS : Nat) (h0 : xb_H) (Qr : Int64 → xb_H → Prop) (y0 : Int32) (y1 : Int64) (y2 : Nat) (h : xb_H) (hw : w_Exact_lesser_L75 Qr y0 y1 y2 h) : xb_am l D A σ 4 MC MS h0 (fun v h => ∃ r, v = some (.long r) ∧ Qr r h) (fun _ _ => False) y_Exact_lesser.cls y_Exact_lesser.name b_Exact_lesser 6 ([] : List ExceptionTableEntry) (some .long) 75 [] [.int y0, .long y1, .ref y2] h 0 0 := by
  unfold w_Exact_lesser_L75 at hw
  intro p e s m args below meth c hC H locs ls k n hE hl hR hS hk hn
  obtain ⟨hx, hb, hown, hlocks, htab, hml, hr, hB, hA, hnm⟩ := id hC
  have hts := hB.1.1.at args
  obtain ⟨hk1, hw⟩ := hw
  refine xb_call (D := D) (A := A) (σ := σ) (h := h) (d := 2) (mc := 0) (ms := 0) (maxL := 4) (rest := []) (av := [.ref y2, .long y1, .int y0]) (fun T hT X => by obtain ⟨cb, r1, r2, r3⟩ := xb_recv (ci := 9) hR rfl hk1 (by decide); exact xt_invV X hx hown (hts _ m_7b6c7353) (hts _ m_28babb18) (hts _ m_243e01d5) (xt_sigOf (hts _ m_88c0fc78)) nm_Exact_signed (by rw [hT]; exact r1) r2 r3 (g := F0 m 75 ls [.int y0, .long y1, .ref y2]) rfl (argsL := [.long y1, .int y0]) (rest := []) rfl rfl (by rw [hb]; exact (xb_d D_Exact_lesser 38 rfl))) (ok_Exact_signed l hfl D A σ y2 y1 y0 h _ hw) (hml.trans hl.1.symm) (by rw [hb]; exact (xb_d D_Exact_lesser 38 rfl)) (Nat.le_of_ble_eq_true rfl) (Nat.le_of_ble_eq_true rfl) (Nat.le_of_ble_eq_true rfl) (show k + 0 ≤ MC by omega) (show n + 0 ≤ MS by omega) (xt_w1 hB.1 m_88c0fc78) (xt_cdOf hB.1 m_88c0fc78) (hts _ m_b807310b) hB hR hS hA (fun vv h2 H locs hq hEh2 hR hS => ?_) (fun XX ax h2 H locs hq hEh2 hex hR hS => ?_)
  · obtain ⟨r3, rfl, hw⟩ := hq
    have hw := hw hEh2
    have hE := hE.tr hEh2
    refine W.eq (g2 := F0 m 78 ls [.long r3]) rfl ?_
    exact am_Exact_lesser_L78 l hfl D A σ MC MS h0 Qr r3 h2 hw p e s m args below meth c hC H locs ls k n hE (lv_sub hl [] rfl) hR hS (by omega) (by omega)
  · exact False.elim hq

set_option maxHeartbeats 4000000 in
set_option maxRecDepth 100000 in
theorem am_Exact_lesser_L70 (l : Launch) (hfl : l.flags = pinnedFlags ++ [noTraceFlag]) (D : va_G) (A : Nat → Prop) (σ MC MS : Nat) (h0 : xb_H) (Qr : Int64 → xb_H → Prop) (y0 : Int64) (y1 : Nat) (h : xb_H) (hw : w_Exact_lesser_L70 Qr y0 y1 h) : xb_am l D A σ 4 MC MS h0 (fun v h => ∃ r, v = some (.long r) ∧ Qr r h) (fun _ _ => False) y_Exact_lesser.cls y_Exact_lesser.name b_Exact_lesser 6 ([] : List ExceptionTableEntry) (some .long) 70 [] [.long y0, .ref y1] h 0 0 := by
  unfold w_Exact_lesser_L70 at hw
  intro p e s m args below meth c hC H locs ls k n hE hl hR hS hk hn
  obtain ⟨hx, hb, hown, hlocks, htab, hml, hr, hB, hA, hnm⟩ := id hC
  have hts := hB.1.1.at args
  refine lv_iconst (v := 1) hx hb (xb_d D_Exact_lesser 35 rfl) (by decide) ?_
  refine lv_goto (tgt := 75) hx hb (xb_d D_Exact_lesser 36 rfl) rfl ?_
  exact am_Exact_lesser_L75 l hfl D A σ MC MS h0 Qr 1 y0 y1 h hw p e s m args below meth c hC H locs ls k n hE (lv_sub hl [] rfl) hR hS (by omega) (by omega)

set_option maxHeartbeats 4000000 in
set_option maxRecDepth 100000 in
theorem am_Exact_lesser_L45 (l : Launch) (hfl : l.flags = pinnedFlags ++ [noTraceFlag]) (D : va_G) (A : Nat → Prop) (σ MC MS : Nat) (h0 : xb_H) (Qr : Int64 → xb_H → Prop) (y0 : Int32) (y1 : Int64) (y2 : Nat) (h : xb_H) (hw : w_Exact_lesser_L45 Qr y0 y1 y2 h) : xb_am l D A σ 4 MC MS h0 (fun v h => ∃ r, v = some (.long r) ∧ Qr r h) (fun _ _ => False) y_Exact_lesser.cls y_Exact_lesser.name b_Exact_lesser 6 ([] : List ExceptionTableEntry) (some .long) 45 [] [.int y0, .long y1, .ref y2] h 0 0 := by
  unfold w_Exact_lesser_L45 at hw
  intro p e s m args below meth c hC H locs ls k n hE hl hR hS hk hn
  obtain ⟨hx, hb, hown, hlocks, htab, hml, hr, hB, hA, hnm⟩ := id hC
  have hts := hB.1.1.at args
  obtain ⟨hk1, hw⟩ := hw
  refine xb_call (D := D) (A := A) (σ := σ) (h := h) (d := 2) (mc := 0) (ms := 0) (maxL := 4) (rest := []) (av := [.ref y2, .long y1, .int y0]) (fun T hT X => by obtain ⟨cb, r1, r2, r3⟩ := xb_recv (ci := 9) hR rfl hk1 (by decide); exact xt_invV X hx hown (hts _ m_7b6c7353) (hts _ m_28babb18) (hts _ m_243e01d5) (xt_sigOf (hts _ m_88c0fc78)) nm_Exact_signed (by rw [hT]; exact r1) r2 r3 (g := F0 m 45 ls [.int y0, .long y1, .ref y2]) rfl (argsL := [.long y1, .int y0]) (rest := []) rfl rfl (by rw [hb]; exact (xb_d D_Exact_lesser 23 rfl))) (ok_Exact_signed l hfl D A σ y2 y1 y0 h _ hw) (hml.trans hl.1.symm) (by rw [hb]; exact (xb_d D_Exact_lesser 23 rfl)) (Nat.le_of_ble_eq_true rfl) (Nat.le_of_ble_eq_true rfl) (Nat.le_of_ble_eq_true rfl) (show k + 0 ≤ MC by omega) (show n + 0 ≤ MS by omega) (xt_w1 hB.1 m_88c0fc78) (xt_cdOf hB.1 m_88c0fc78) (hts _ m_b807310b) hB hR hS hA (fun vv h2 H locs hq hEh2 hR hS => ?_) (fun XX ax h2 H locs hq hEh2 hex hR hS => ?_)
  · obtain ⟨r3, rfl, hw⟩ := hq
    have hw := hw hEh2
    have hE := hE.tr hEh2
    refine W.eq (g2 := F0 m 48 ls [.long r3]) rfl ?_
    refine lv_goto (tgt := 78) hx hb (xb_d D_Exact_lesser 24 rfl) rfl ?_
    exact am_Exact_lesser_L78 l hfl D A σ MC MS h0 Qr r3 h2 hw p e s m args below meth c hC H locs ls k n hE (lv_sub hl [] rfl) hR hS (by omega) (by omega)
  · exact False.elim hq

set_option maxHeartbeats 4000000 in
set_option maxRecDepth 100000 in
theorem am_Exact_lesser_L44 (l : Launch) (hfl : l.flags = pinnedFlags ++ [noTraceFlag]) (D : va_G) (A : Nat → Prop) (σ MC MS : Nat) (h0 : xb_H) (Qr : Int64 → xb_H → Prop) (y0 : Int64) (y1 : Nat) (h : xb_H) (hw : w_Exact_lesser_L44 Qr y0 y1 h) : xb_am l D A σ 4 MC MS h0 (fun v h => ∃ r, v = some (.long r) ∧ Qr r h) (fun _ _ => False) y_Exact_lesser.cls y_Exact_lesser.name b_Exact_lesser 6 ([] : List ExceptionTableEntry) (some .long) 44 [] [.long y0, .ref y1] h 0 0 := by
  unfold w_Exact_lesser_L44 at hw
  intro p e s m args below meth c hC H locs ls k n hE hl hR hS hk hn
  obtain ⟨hx, hb, hown, hlocks, htab, hml, hr, hB, hA, hnm⟩ := id hC
  have hts := hB.1.1.at args
  refine lv_iconst (v := 0) hx hb (xb_d D_Exact_lesser 22 rfl) (by decide) ?_
  exact am_Exact_lesser_L45 l hfl D A σ MC MS h0 Qr 0 y0 y1 h hw p e s m args below meth c hC H locs ls k n hE (lv_sub hl [] rfl) hR hS (by omega) (by omega)

set_option maxHeartbeats 4000000 in
set_option maxRecDepth 100000 in
theorem ok_Exact_lesser (l : Launch) (hfl : l.flags = pinnedFlags ++ [noTraceFlag]) (D : va_G) (A : Nat → Prop) (σ : Nat) (x0 : Nat) (x1 : Int32) (x2 : Int64) (x4 : Int64) (h : xb_H) (Qr : Int64 → xb_H → Prop) (hw : w_Exact_lesser x0 x1 x2 x4 h Qr) : xt_Met l y_Exact_lesser [.code y_Exact_lesser b_Exact_lesser 6 (some .long)] (xb_rm 4 0 0) (xb_Pc D A σ h [.ref x0, .int x1, .long x2, .long x4]) (xb_Qc D A h (fun v h => ∃ r, v = some (.long r) ∧ Qr r h) (fun _ _ => False)) 0 0 A := by
  refine xb_ofAm (cc := b_Exact_lesser) (by decide) (Nat.le_of_ble_eq_true rfl) ?_
  unfold w_Exact_lesser at hw
  show xb_am l D A σ 4 0 0 h (fun v h => ∃ r, v = some (.long r) ∧ Qr r h) (fun _ _ => False) y_Exact_lesser.cls y_Exact_lesser.name b_Exact_lesser 6 ([] : List ExceptionTableEntry) (some .long) 0 [(0, .ref x0), (1, .int x1), (2, .long x2), (4, .long x4)] [] h 0 0
  obtain ⟨MC, hMC⟩ : ∃ x, x = 0 := ⟨_, rfl⟩
  obtain ⟨MS, hMS⟩ : ∃ x, x = 0 := ⟨_, rfl⟩
  rw [show xb_am l D A σ 4 0 0 = xb_am l D A σ 4 MC MS by rw [hMC, hMS]]
  obtain ⟨h0, hh0⟩ : ∃ x, x = h := ⟨_, rfl⟩
  rw [show xb_am l D A σ 4 MC MS h = xb_am l D A σ 4 MC MS h0 by rw [hh0]]
  intro p e s m args below meth c hC H locs ls k n hE hl hR hS hk hn
  obtain ⟨hx, hb, hown, hlocks, htab, hml, hr, hB, hA, hnm⟩ := id hC
  have hts := hB.1.1.at args
  refine lv_aload_n hx hb (xb_d D_Exact_lesser 0 rfl) rfl (lv_at hl 0 rfl) ?_
  refine lv_lload_n hx hb (xb_d D_Exact_lesser 1 rfl) rfl (lv_at hl 2 rfl) ?_
  obtain ⟨hk1, hw⟩ := hw
  refine xb_call (D := D) (A := A) (σ := σ) (h := h) (d := 3) (mc := 0) (ms := 0) (maxL := 3) (rest := []) (av := [.ref x0, .long x2]) (fun T hT X => by obtain ⟨cb, r1, r2, r3⟩ := xb_recv (ci := 9) hR rfl hk1 (by decide); exact xt_invV X hx hown (hts _ m_f9e5bce2) (hts _ m_d4ccf81e) (hts _ m_870ffa92) (xt_sigOf (hts _ m_b231eb2b)) nm_Exact_isZero (by rw [hT]; exact r1) r2 r3 (g := F0 m 2 ls [.long x2, .ref x0]) rfl (argsL := [.long x2]) (rest := []) rfl rfl (by rw [hb]; exact (xb_d D_Exact_lesser 2 rfl))) (ok_Exact_isZero l hfl D A σ x0 x2 h _ hw) (hml.trans hl.1.symm) (by rw [hb]; exact (xb_d D_Exact_lesser 2 rfl)) (Nat.le_of_ble_eq_true rfl) (Nat.le_of_ble_eq_true rfl) (Nat.le_of_ble_eq_true rfl) (show k + 0 ≤ MC by omega) (show n + 0 ≤ MS by omega) (xt_w1 hB.1 m_b231eb2b) (xt_cdOf hB.1 m_b231eb2b) (hts _ m_b807310b) hB hR hS hA (fun vv h2 H locs hq hEh2 hR hS => ?_) (fun XX ax h2 H locs hq hEh2 hex hR hS => ?_)
  · obtain ⟨r3, rfl, hw⟩ := hq
    have hw := hw hEh2
    have hE := hE.tr hEh2
    refine W.eq (g2 := F0 m 5 ls [.int r3]) rfl ?_
    refine lv_if_eq (tgt := 79) hx hb (xb_d D_Exact_lesser 3 rfl) rfl (fun hc4 => ?_) (fun hc4 => ?_)
    · have hw := hw.1 hc4
      exact am_Exact_lesser_L79 l hfl D A σ MC MS h0 Qr x0 x1 x2 x4 h2 hw p e s m args below meth c hC H locs ls k n hE (lv_sub hl [0, 1, 2, 3] rfl) hR hS (by omega) (by omega)
    · have hw := hw.2 hc4
      refine lv_aload_n hx hb (xb_d D_Exact_lesser 4 rfl) rfl (lv_at hl 0 rfl) ?_
      refine lv_lload hx hb (xb_d D_Exact_lesser 5 rfl) (lv_at hl 3 rfl) ?_
      have hk1 : xb_k h2 x0 = 10 := hEh2.k hk1
      refine xb_call (D := D) (A := A) (σ := σ) (h := h2) (d := 3) (mc := 0) (ms := 0) (maxL := 3) (rest := []) (av := [.ref x0, .long x4]) (fun T hT X => by obtain ⟨cb, r1, r2, r3⟩ := xb_recv (ci := 9) hR rfl hk1 (by decide); exact xt_invV X hx hown (hts _ m_f9e5bce2) (hts _ m_d4ccf81e) (hts _ m_870ffa92) (xt_sigOf (hts _ m_b231eb2b)) nm_Exact_isZero (by rw [hT]; exact r1) r2 r3 (g := F0 m 11 ls [.long x4, .ref x0]) rfl (argsL := [.long x4]) (rest := []) rfl rfl (by rw [hb]; exact (xb_d D_Exact_lesser 6 rfl))) (ok_Exact_isZero l hfl D A σ x0 x4 h2 _ hw) (hml.trans hl.1.symm) (by rw [hb]; exact (xb_d D_Exact_lesser 6 rfl)) (Nat.le_of_ble_eq_true rfl) (Nat.le_of_ble_eq_true rfl) (Nat.le_of_ble_eq_true rfl) (show k + 0 ≤ MC by omega) (show n + 0 ≤ MS by omega) (xt_w1 hB.1 m_b231eb2b) (xt_cdOf hB.1 m_b231eb2b) (hts _ m_b807310b) hB hR hS hA (fun vv h5 H locs hq hEh5 hR hS => ?_) (fun XX ax h5 H locs hq hEh5 hex hR hS => ?_)
      · obtain ⟨r6, rfl, hw⟩ := hq
        have hw := hw hEh5
        have hE := hE.tr hEh5
        refine W.eq (g2 := F0 m 14 ls [.int r6]) rfl ?_
        refine lv_if_eq (tgt := 79) hx hb (xb_d D_Exact_lesser 7 rfl) rfl (fun hc7 => ?_) (fun hc7 => ?_)
        · have hw := hw.1 hc7
          exact am_Exact_lesser_L79 l hfl D A σ MC MS h0 Qr x0 x1 x2 x4 h5 hw p e s m args below meth c hC H locs ls k n hE (lv_sub hl [0, 1, 2, 3] rfl) hR hS (by omega) (by omega)
        · have hw := hw.2 hc7
          refine lv_iload_n hx hb (xb_d D_Exact_lesser 8 rfl) rfl (lv_at hl 1 rfl) ?_
          refine lv_if_eq (tgt := 51) hx hb (xb_d D_Exact_lesser 9 rfl) rfl (fun hc8 => ?_) (fun hc8 => ?_)
          · have hw := hw.1 hc8
            refine lv_aload_n hx hb (xb_d D_Exact_lesser 25 rfl) rfl (lv_at hl 0 rfl) ?_
            refine lv_lconst (v := 0) hx hb (xb_d D_Exact_lesser 26 rfl) (by decide) ?_
            refine lv_aload_n hx hb (xb_d D_Exact_lesser 27 rfl) rfl (lv_at hl 0 rfl) ?_
            refine lv_lload_n hx hb (xb_d D_Exact_lesser 28 rfl) rfl (lv_at hl 2 rfl) ?_
            have hk1 : xb_k h5 x0 = 10 := hEh5.k hk1
            refine xb_call (D := D) (A := A) (σ := σ) (h := h5) (d := 2) (mc := 0) (ms := 0) (maxL := 3) (rest := [.long 0, .ref x0]) (av := [.ref x0, .long x2]) (fun T hT X => by obtain ⟨cb, r1, r2, r3⟩ := xb_recv (ci := 9) hR rfl hk1 (by decide); exact xt_invV X hx hown (hts _ m_de267fc4) (hts _ m_8cf2fba2) (hts _ m_e2188cdf) (xt_sigOf (hts _ m_25d2fde1)) nm_Exact_isMinus (by rw [hT]; exact r1) r2 r3 (g := F0 m 55 ls [.long x2, .ref x0, .long 0, .ref x0]) rfl (argsL := [.long x2]) (rest := [.long 0, .ref x0]) rfl rfl (by rw [hb]; exact (xb_d D_Exact_lesser 29 rfl))) (ok_Exact_isMinus l hfl D A σ x0 x2 h5 _ hw) (hml.trans hl.1.symm) (by rw [hb]; exact (xb_d D_Exact_lesser 29 rfl)) (Nat.le_of_ble_eq_true rfl) (Nat.le_of_ble_eq_true rfl) (Nat.le_of_ble_eq_true rfl) (show k + 0 ≤ MC by omega) (show n + 0 ≤ MS by omega) (xt_w1 hB.1 m_25d2fde1) (xt_cdOf hB.1 m_25d2fde1) (hts _ m_b807310b) hB hR hS hA (fun vv h9 H locs hq hEh9 hR hS => ?_) (fun XX ax h9 H locs hq hEh9 hex hR hS => ?_)
            · obtain ⟨r10, rfl, hw⟩ := hq
              have hw := hw hEh9
              have hE := hE.tr hEh9
              refine W.eq (g2 := F0 m 58 ls [.int r10, .long 0, .ref x0]) rfl ?_
              refine lv_if_ne (tgt := 70) hx hb (xb_d D_Exact_lesser 30 rfl) rfl (fun hc11 => ?_) (fun hc11 => ?_)
              · have hw := hw.1 hc11
                exact am_Exact_lesser_L70 l hfl D A σ MC MS h0 Qr 0 x0 h9 hw p e s m args below meth c hC H locs ls k n hE (lv_sub hl [] rfl) hR hS (by omega) (by omega)
              · have hw := hw.2 hc11
                refine lv_aload_n hx hb (xb_d D_Exact_lesser 31 rfl) rfl (lv_at hl 0 rfl) ?_
                refine lv_lload hx hb (xb_d D_Exact_lesser 32 rfl) (lv_at hl 3 rfl) ?_
                have hk1 : xb_k h9 x0 = 10 := hEh9.k hk1
                refine xb_call (D := D) (A := A) (σ := σ) (h := h9) (d := 2) (mc := 0) (ms := 0) (maxL := 3) (rest := [.long 0, .ref x0]) (av := [.ref x0, .long x4]) (fun T hT X => by obtain ⟨cb, r1, r2, r3⟩ := xb_recv (ci := 9) hR rfl hk1 (by decide); exact xt_invV X hx hown (hts _ m_de267fc4) (hts _ m_8cf2fba2) (hts _ m_e2188cdf) (xt_sigOf (hts _ m_25d2fde1)) nm_Exact_isMinus (by rw [hT]; exact r1) r2 r3 (g := F0 m 64 ls [.long x4, .ref x0, .long 0, .ref x0]) rfl (argsL := [.long x4]) (rest := [.long 0, .ref x0]) rfl rfl (by rw [hb]; exact (xb_d D_Exact_lesser 33 rfl))) (ok_Exact_isMinus l hfl D A σ x0 x4 h9 _ hw) (hml.trans hl.1.symm) (by rw [hb]; exact (xb_d D_Exact_lesser 33 rfl)) (Nat.le_of_ble_eq_true rfl) (Nat.le_of_ble_eq_true rfl) (Nat.le_of_ble_eq_true rfl) (show k + 0 ≤ MC by omega) (show n + 0 ≤ MS by omega) (xt_w1 hB.1 m_25d2fde1) (xt_cdOf hB.1 m_25d2fde1) (hts _ m_b807310b) hB hR hS hA (fun vv h12 H locs hq hEh12 hR hS => ?_) (fun XX ax h12 H locs hq hEh12 hex hR hS => ?_)
                · obtain ⟨r13, rfl, hw⟩ := hq
                  have hw := hw hEh12
                  have hE := hE.tr hEh12
                  refine W.eq (g2 := F0 m 67 ls [.int r13, .long 0, .ref x0]) rfl ?_
                  refine lv_if_eq (tgt := 74) hx hb (xb_d D_Exact_lesser 34 rfl) rfl (fun hc14 => ?_) (fun hc14 => ?_)
                  · have hw := hw.1 hc14
                    refine lv_iconst (v := 0) hx hb (xb_d D_Exact_lesser 37 rfl) (by decide) ?_
                    exact am_Exact_lesser_L75 l hfl D A σ MC MS h0 Qr 0 0 x0 h12 hw p e s m args below meth c hC H locs ls k n hE (lv_sub hl [] rfl) hR hS (by omega) (by omega)
                  · have hw := hw.2 hc14
                    exact am_Exact_lesser_L70 l hfl D A σ MC MS h0 Qr 0 x0 h12 hw p e s m args below meth c hC H locs ls k n hE (lv_sub hl [] rfl) hR hS (by omega) (by omega)
                · exact False.elim hq
            · exact False.elim hq
          · have hw := hw.2 hc8
            refine lv_aload_n hx hb (xb_d D_Exact_lesser 10 rfl) rfl (lv_at hl 0 rfl) ?_
            refine lv_lconst (v := 0) hx hb (xb_d D_Exact_lesser 11 rfl) (by decide) ?_
            refine lv_aload_n hx hb (xb_d D_Exact_lesser 12 rfl) rfl (lv_at hl 0 rfl) ?_
            refine lv_lload_n hx hb (xb_d D_Exact_lesser 13 rfl) rfl (lv_at hl 2 rfl) ?_
            have hk1 : xb_k h5 x0 = 10 := hEh5.k hk1
            refine xb_call (D := D) (A := A) (σ := σ) (h := h5) (d := 2) (mc := 0) (ms := 0) (maxL := 3) (rest := [.long 0, .ref x0]) (av := [.ref x0, .long x2]) (fun T hT X => by obtain ⟨cb, r1, r2, r3⟩ := xb_recv (ci := 9) hR rfl hk1 (by decide); exact xt_invV X hx hown (hts _ m_de267fc4) (hts _ m_8cf2fba2) (hts _ m_e2188cdf) (xt_sigOf (hts _ m_25d2fde1)) nm_Exact_isMinus (by rw [hT]; exact r1) r2 r3 (g := F0 m 25 ls [.long x2, .ref x0, .long 0, .ref x0]) rfl (argsL := [.long x2]) (rest := [.long 0, .ref x0]) rfl rfl (by rw [hb]; exact (xb_d D_Exact_lesser 14 rfl))) (ok_Exact_isMinus l hfl D A σ x0 x2 h5 _ hw) (hml.trans hl.1.symm) (by rw [hb]; exact (xb_d D_Exact_lesser 14 rfl)) (Nat.le_of_ble_eq_true rfl) (Nat.le_of_ble_eq_true rfl) (Nat.le_of_ble_eq_true rfl) (show k + 0 ≤ MC by omega) (show n + 0 ≤ MS by omega) (xt_w1 hB.1 m_25d2fde1) (xt_cdOf hB.1 m_25d2fde1) (hts _ m_b807310b) hB hR hS hA (fun vv h15 H locs hq hEh15 hR hS => ?_) (fun XX ax h15 H locs hq hEh15 hex hR hS => ?_)
            · obtain ⟨r16, rfl, hw⟩ := hq
              have hw := hw hEh15
              have hE := hE.tr hEh15
              refine W.eq (g2 := F0 m 28 ls [.int r16, .long 0, .ref x0]) rfl ?_
              refine lv_if_eq (tgt := 44) hx hb (xb_d D_Exact_lesser 15 rfl) rfl (fun hc17 => ?_) (fun hc17 => ?_)
              · have hw := hw.1 hc17
                exact am_Exact_lesser_L44 l hfl D A σ MC MS h0 Qr 0 x0 h15 hw p e s m args below meth c hC H locs ls k n hE (lv_sub hl [] rfl) hR hS (by omega) (by omega)
              · have hw := hw.2 hc17
                refine lv_aload_n hx hb (xb_d D_Exact_lesser 16 rfl) rfl (lv_at hl 0 rfl) ?_
                refine lv_lload hx hb (xb_d D_Exact_lesser 17 rfl) (lv_at hl 3 rfl) ?_
                have hk1 : xb_k h15 x0 = 10 := hEh15.k hk1
                refine xb_call (D := D) (A := A) (σ := σ) (h := h15) (d := 2) (mc := 0) (ms := 0) (maxL := 3) (rest := [.long 0, .ref x0]) (av := [.ref x0, .long x4]) (fun T hT X => by obtain ⟨cb, r1, r2, r3⟩ := xb_recv (ci := 9) hR rfl hk1 (by decide); exact xt_invV X hx hown (hts _ m_de267fc4) (hts _ m_8cf2fba2) (hts _ m_e2188cdf) (xt_sigOf (hts _ m_25d2fde1)) nm_Exact_isMinus (by rw [hT]; exact r1) r2 r3 (g := F0 m 34 ls [.long x4, .ref x0, .long 0, .ref x0]) rfl (argsL := [.long x4]) (rest := [.long 0, .ref x0]) rfl rfl (by rw [hb]; exact (xb_d D_Exact_lesser 18 rfl))) (ok_Exact_isMinus l hfl D A σ x0 x4 h15 _ hw) (hml.trans hl.1.symm) (by rw [hb]; exact (xb_d D_Exact_lesser 18 rfl)) (Nat.le_of_ble_eq_true rfl) (Nat.le_of_ble_eq_true rfl) (Nat.le_of_ble_eq_true rfl) (show k + 0 ≤ MC by omega) (show n + 0 ≤ MS by omega) (xt_w1 hB.1 m_25d2fde1) (xt_cdOf hB.1 m_25d2fde1) (hts _ m_b807310b) hB hR hS hA (fun vv h18 H locs hq hEh18 hR hS => ?_) (fun XX ax h18 H locs hq hEh18 hex hR hS => ?_)
                · obtain ⟨r19, rfl, hw⟩ := hq
                  have hw := hw hEh18
                  have hE := hE.tr hEh18
                  refine W.eq (g2 := F0 m 37 ls [.int r19, .long 0, .ref x0]) rfl ?_
                  refine lv_if_eq (tgt := 44) hx hb (xb_d D_Exact_lesser 19 rfl) rfl (fun hc20 => ?_) (fun hc20 => ?_)
                  · have hw := hw.1 hc20
                    exact am_Exact_lesser_L44 l hfl D A σ MC MS h0 Qr 0 x0 h18 hw p e s m args below meth c hC H locs ls k n hE (lv_sub hl [] rfl) hR hS (by omega) (by omega)
                  · have hw := hw.2 hc20
                    refine lv_iconst (v := 1) hx hb (xb_d D_Exact_lesser 20 rfl) (by decide) ?_
                    refine lv_goto (tgt := 45) hx hb (xb_d D_Exact_lesser 21 rfl) rfl ?_
                    exact am_Exact_lesser_L45 l hfl D A σ MC MS h0 Qr 1 0 x0 h18 hw p e s m args below meth c hC H locs ls k n hE (lv_sub hl [] rfl) hR hS (by omega) (by omega)
                · exact False.elim hq
            · exact False.elim hq
      · exact False.elim hq
  · exact False.elim hq

theorem m_24974b85 : (.methodLink "StackHostModel$Exact" 60 y_Exact_isBelow : Cond) ∈ xt_tbl := xt_in (xt_t13 (List.mem_of_getElem? (i := 35) (by decide +kernel))) (by decide +kernel)
theorem m_a034788e : (.instanceMethod y_Exact_isBelow : Cond) ∈ xt_tbl := xt_in (xt_t13 (List.mem_of_getElem? (i := 37) (by decide +kernel))) (by decide +kernel)
theorem m_61a2f1f5 : (.selects "StackHostModel$Exact" y_Exact_isBelow y_Exact_isBelow : Cond) ∈ xt_tbl := xt_in (xt_v16 (q := (⟨"StackHostModel$Exact", "isBelow", "(I)Z"⟩, 11)) (List.mem_of_getElem? (i := 2) (by decide +kernel))) (by decide +kernel)
theorem m_e6aa3f0f : (.code y_Exact_isBelow b_Exact_isBelow 4 (some .boolean) : Cond) ∈ xt_tbl := xt_in (xt_t13 (List.mem_of_getElem? (i := 38) (by decide +kernel))) (by decide +kernel)
theorem m_66357da4 : (.methodLink "StackHostModel$Exact" 56 y_Exact_highest : Cond) ∈ xt_tbl := xt_in (xt_t13 (List.mem_of_getElem? (i := 31) (by decide +kernel))) (by decide +kernel)
theorem m_d0ac19e2 : (.instanceMethod y_Exact_highest : Cond) ∈ xt_tbl := xt_in (xt_t13 (List.mem_of_getElem? (i := 33) (by decide +kernel))) (by decide +kernel)
theorem m_efe18c85 : (.selects "StackHostModel$Exact" y_Exact_highest y_Exact_highest : Cond) ∈ xt_tbl := xt_in (xt_v16 (q := (⟨"StackHostModel$Exact", "highest", "()I"⟩, 11)) (List.mem_of_getElem? (i := 1) (by decide +kernel))) (by decide +kernel)
theorem m_586abdc5 : (.code y_Exact_highest b_Exact_highest 2 (some .int) : Cond) ∈ xt_tbl := xt_in (xt_t13 (List.mem_of_getElem? (i := 34) (by decide +kernel))) (by decide +kernel)
theorem nm_Exact_isBelow : xt_nm y_Exact_isBelow 1 := ⟨by decide +kernel, by decide +kernel⟩
theorem nm_Exact_highest : xt_nm y_Exact_highest 0 := ⟨by decide +kernel, by decide +kernel⟩
set_option maxRecDepth 100000 in
def T_Exact_rounded : List (Nat × Instr × Nat) := [(0, .aload_n 0, 1), (1, .invokevirtual 56, 3), (4, .istore_n 2, 1), (5, .sipush 2201, 3), (8, .aload_n 0, 1), (9, .getfield 47, 3), (12, .isub, 1), (13, .aload_n 0, 1), (14, .getfield 44, 3), (17, .isub, 1), (18, .istore_n 3, 1), (19, .iload_n 2, 1), (20, .aload_n 0, 1), (21, .getfield 44, 3), (24, .isub, 1), (25, .iload_n 3, 1), (26, .if_icmp .le 12, 3), (29, .iload_n 2, 1), (30, .aload_n 0, 1), (31, .getfield 44, 3), (34, .isub, 1), (35, .goto 4, 3), (38, .iload_n 3, 1), (39, .istore 4, 2), (41, .lconst 0, 1), (42, .lstore 5, 2), (44, .iload_n 2, 1), (45, .istore 7, 2), (47, .iload 7, 2), (49, .iload 4, 2), (51, .if_icmp .lt 26, 3), (54, .ldc2_w 50, 3), (57, .lload 5, 2), (59, .lmul, 1), (60, .aload_n 0, 1), (61, .getfield 9, 3), (64, .iload 7, 2), (66, .baload, 1), (67, .i2l, 1), (68, .ladd, 1), (69, .lstore 5, 2), (71, .iinc 7 (-1), 3), (74, .goto (-27), 3), (77, .iload 4, 2), (79, .ifCond .le 41, 3), (82, .iload 4, 2), (84, .iconst 1, 1), (85, .isub, 1), (86, .aload_n 0, 1), (87, .getfield 19, 3), (90, .if_icmp .gt 30, 3), (93, .iload 4, 2), (95, .iconst 1, 1), (96, .isub, 1), (97, .aload_n 0, 1), (98, .getfield 15, 3), (101, .if_icmp .lt 19, 3), (104, .aload_n 0, 1), (105, .getfield 9, 3), (108, .iload 4, 2), (110, .iconst 1, 1), (111, .isub, 1), (112, .baload, 1), (113, .ifCond .eq 7, 3), (116, .iconst 1, 1), (117, .goto 4, 3), (120, .iconst 0, 1), (121, .istore 7, 2), (123, .iload 7, 2), (125, .ifCond .eq 27, 3), (128, .aload_n 0, 1), (129, .iload 4, 2), (131, .iconst 1, 1), (132, .isub, 1), (133, .invokevirtual 60, 3), (136, .ifCond .ne 12, 3), (139, .lload 5, 2), (141, .lconst 1, 1), (142, .land, 1), (143, .lconst 1, 1), (144, .lcmp, 1), (145, .ifCond .ne 7, 3), (148, .iconst 1, 1), (149, .goto 4, 3), (152, .iconst 0, 1), (153, .istore 8, 2), (155, .iload 8, 2), (157, .ifCond .eq 10, 3), (160, .lload 5, 2), (162, .lconst 1, 1), (163, .ladd, 1), (164, .goto 5, 3), (167, .lload 5, 2), (169, .lstore 5, 2), (171, .iload 4, 2), (173, .iload_n 3, 1), (174, .isub, 1), (175, .istore 9, 2), (177, .lload 5, 2), (179, .aload_n 0, 1), (180, .getfield 44, 3), (183, .lshr, 1), (184, .ldc2_w 50, 3), (187, .lcmp, 1), (188, .ifCond .ne 12, 3), (191, .lload 5, 2), (193, .iconst 1, 1), (194, .lshr, 1), (195, .lstore 5, 2), (197, .iinc 9 1, 3), (200, .lload 5, 2), (202, .aload_n 0, 1), (203, .getfield 44, 3), (206, .lshr, 1), (207, .lconst 0, 1), (208, .lcmp, 1), (209, .ifCond .ne 11, 3), (212, .aload_n 0, 1), (213, .lload 5, 2), (215, .iload_n 1, 1), (216, .invokevirtual 52, 3), (219, .lreturn, 1), (220, .iload 9, 2), (222, .iconst 1, 1), (223, .iadd, 1), (224, .iconst 2, 1), (225, .aload_n 0, 1), (226, .getfield 47, 3), (229, .imul, 1), (230, .if_icmp .le 11, 3), (233, .aload_n 0, 1), (234, .iload_n 1, 1), (235, .invokevirtual 64, 3), (238, .goto 30, 3), (241, .aload_n 0, 1), (242, .iload 9, 2), (244, .iconst 1, 1), (245, .iadd, 1), (246, .i2l, 1), (247, .aload_n 0, 1), (248, .getfield 44, 3), (251, .lshl, 1), (252, .lload 5, 2), (254, .lconst 1, 1), (255, .aload_n 0, 1), (256, .getfield 44, 3), (259, .lshl, 1), (260, .lconst 1, 1), (261, .lsub, 1), (262, .land, 1), (263, .lor, 1), (264, .iload_n 1, 1), (265, .invokevirtual 52, 3), (268, .lreturn, 1)]
theorem D_Exact_rounded : ∀ q ∈ T_Exact_rounded, decode b_Exact_rounded q.1 = .ok (q.2.1, q.2.2) := by decide +kernel
def w_Exact_rounded_L268 (Qr : Int64 → xb_H → Prop) (y0 : Int64) (h : xb_H) : Prop :=
    Qr y0 h

def w_Exact_rounded_L200 (Qr : Int64 → xb_H → Prop) (x0 : Nat) (x1 : Int32) (x5 : Int64) (x9 : Int32) (h : xb_H) : Prop :=
    xb_k h x0 = 10 ∧ ((¬ (xb_lshr x5 (xb_i h x0 6)) = (0 : Int64) → (((x9 + 1) ≤ (2 * (xb_i h x0 7)) → w_Exact_signed x0 ((xb_lshl (Int32.toInt64 (x9 + 1)) (xb_i h x0 6)) ||| (x5 &&& ((xb_lshl 1 (xb_i h x0 6)) - 1))) x1 h (fun (r5 : Int64) (h4 : xb_H) => xb_ext h h4 → w_Exact_rounded_L268 Qr r5 h4)) ∧ (¬ (x9 + 1) ≤ (2 * (xb_i h x0 7)) → w_Exact_infinite x0 x1 h (fun (r7 : Int64) (h6 : xb_H) => xb_ext h h6 → w_Exact_rounded_L268 Qr r7 h6)))) ∧ ((xb_lshr x5 (xb_i h x0 6)) = (0 : Int64) → w_Exact_signed x0 x5 x1 h (fun (r9 : Int64) (h8 : xb_H) => xb_ext h h8 → Qr r9 h8)))

def w_Exact_rounded_L169 (Qr : Int64 → xb_H → Prop) (x0 : Nat) (x1 : Int32) (x3 : Int32) (x4 : Int32) (y0 : Int64) (h : xb_H) : Prop :=
    ∀ v1 : Int32, v1 = (x4 - x3) → xb_k h x0 = 10 ∧ ((¬ (xb_lshr y0 (xb_i h x0 6)) = (2 : Int64) → w_Exact_rounded_L200 Qr x0 x1 y0 v1 h) ∧ ((xb_lshr y0 (xb_i h x0 6)) = (2 : Int64) → ∀ v4 : Int64, v4 = (xb_lshr y0 1) → w_Exact_rounded_L200 Qr x0 x1 v4 (v1 + 1) h))

def w_Exact_rounded_L153 (Qr : Int64 → xb_H → Prop) (x0 : Nat) (x1 : Int32) (x3 : Int32) (x4 : Int32) (x5 : Int64) (y0 : Int32) (h : xb_H) : Prop :=
    ((y0 = (0 : Int32) → w_Exact_rounded_L169 Qr x0 x1 x3 x4 x5 h) ∧ (¬ y0 = (0 : Int32) → w_Exact_rounded_L169 Qr x0 x1 x3 x4 (x5 + 1) h))

def w_Exact_rounded_L152 (Qr : Int64 → xb_H → Prop) (x0 : Nat) (x1 : Int32) (x3 : Int32) (x4 : Int32) (x5 : Int64) (h : xb_H) : Prop :=
    w_Exact_rounded_L153 Qr x0 x1 x3 x4 x5 0 h

def w_Exact_rounded_L148 (Qr : Int64 → xb_H → Prop) (x0 : Nat) (x1 : Int32) (x3 : Int32) (x4 : Int32) (x5 : Int64) (h : xb_H) : Prop :=
    w_Exact_rounded_L153 Qr x0 x1 x3 x4 x5 1 h

def w_Exact_rounded_L121 (Qr : Int64 → xb_H → Prop) (x0 : Nat) (x1 : Int32) (x3 : Int32) (x4 : Int32) (x5 : Int64) (y0 : Int32) (h : xb_H) : Prop :=
    ((y0 = (0 : Int32) → w_Exact_rounded_L152 Qr x0 x1 x3 x4 x5 h) ∧ (¬ y0 = (0 : Int32) → xb_k h x0 = 10 ∧ w_Exact_isBelow x0 (x4 - 1) h (fun (r4 : Int32) (h3 : xb_H) => xb_ext h h3 → ((¬ r4 = (0 : Int32) → w_Exact_rounded_L148 Qr x0 x1 x3 x4 x5 h3) ∧ (r4 = (0 : Int32) → ((¬ (x5 &&& 1) = (1 : Int64) → w_Exact_rounded_L152 Qr x0 x1 x3 x4 x5 h3) ∧ ((x5 &&& 1) = (1 : Int64) → w_Exact_rounded_L148 Qr x0 x1 x3 x4 x5 h3)))))))

def w_Exact_rounded_L120 (Qr : Int64 → xb_H → Prop) (x0 : Nat) (x1 : Int32) (x3 : Int32) (x4 : Int32) (x5 : Int64) (h : xb_H) : Prop :=
    w_Exact_rounded_L121 Qr x0 x1 x3 x4 x5 0 h

def w_Exact_rounded_L47 (Qr : Int64 → xb_H → Prop) : Nat → Nat → Int32 → Int32 → Int32 → Int64 → Int32 → xb_H → Prop
  | 0, _, _, _, _, _, _, _ => False
  | n9 + 1, x0, x1, x3, x4, x5, x7, h =>
    ((x7 < x4 → ((x4 ≤ (0 : Int32) → w_Exact_rounded_L120 Qr x0 x1 x3 x4 x5 h) ∧ (¬ x4 ≤ (0 : Int32) → xb_k h x0 = 10 ∧ (((xb_i h x0 3) < (x4 - 1) → w_Exact_rounded_L120 Qr x0 x1 x3 x4 x5 h) ∧ (¬ (xb_i h x0 3) < (x4 - 1) → (((x4 - 1) < (xb_i h x0 2) → w_Exact_rounded_L120 Qr x0 x1 x3 x4 x5 h) ∧ (¬ (x4 - 1) < (xb_i h x0 2) → ∃ b6 : Nat, (xb_r h x0 1) = some b6 ∧ xb_k h b6 = 100 ∧ vp_in (x4 - 1) (xb_n h b6) ∧ (((xb_i h b6 (Int32.toNatClampNeg (x4 - 1))) = (0 : Int32) → w_Exact_rounded_L120 Qr x0 x1 x3 x4 x5 h) ∧ (¬ (xb_i h b6 (Int32.toNatClampNeg (x4 - 1))) = (0 : Int32) → w_Exact_rounded_L121 Qr x0 x1 x3 x4 x5 1 h))))))))) ∧ (¬ x7 < x4 → xb_k h x0 = 10 ∧ ∃ b11 : Nat, (xb_r h x0 1) = some b11 ∧ xb_k h b11 = 100 ∧ vp_in x7 (xb_n h b11) ∧ ∀ v14 : Int64, v14 = ((2 * x5) + (Int32.toInt64 (xb_i h b11 (Int32.toNatClampNeg x7)))) → w_Exact_rounded_L47 Qr n9 x0 x1 x3 x4 v14 (x7 + (-1)) h))

def w_Exact_rounded_L39 (Qr : Int64 → xb_H → Prop) (x0 : Nat) (x1 : Int32) (x2 : Int32) (x3 : Int32) (y0 : Int32) (h : xb_H) : Prop :=
    (∃ n8 : Nat, w_Exact_rounded_L47 Qr n8 x0 x1 x3 y0 0 x2 h)

def w_Exact_rounded (x0 : Nat) (x1 : Int32) (h : xb_H) (Qr : Int64 → xb_H → Prop) : Prop :=
    xb_k h x0 = 10 ∧ w_Exact_highest x0 h (fun (r3 : Int32) (h2 : xb_H) => xb_ext h h2 → ∀ v4 : Int32, v4 = ((2201 - (xb_i h2 x0 7)) - (xb_i h2 x0 6)) → (((r3 - (xb_i h2 x0 6)) ≤ v4 → w_Exact_rounded_L39 Qr x0 x1 r3 v4 v4 h2) ∧ (¬ (r3 - (xb_i h2 x0 6)) ≤ v4 → w_Exact_rounded_L39 Qr x0 x1 r3 v4 (r3 - (xb_i h2 x0 6)) h2)))

set_option maxHeartbeats 4000000 in
set_option maxRecDepth 100000 in
theorem am_Exact_rounded_L268 (l : Launch) (hfl : l.flags = pinnedFlags ++ [noTraceFlag]) (D : va_G) (A : Nat → Prop) (σ MC MS : Nat) (h0 : xb_H) (Qr : Int64 → xb_H → Prop) (y0 : Int64) (h : xb_H) (hw : w_Exact_rounded_L268 Qr y0 h) : xb_am l D A σ 4 MC MS h0 (fun v h => ∃ r, v = some (.long r) ∧ Qr r h) (fun _ _ => False) y_Exact_rounded.cls y_Exact_rounded.name b_Exact_rounded 10 ([] : List ExceptionTableEntry) (some .long) 268 [] [.long y0] h 0 0 := by
  unfold w_Exact_rounded_L268 at hw
  intro p e s m args below meth c hC H locs ls k n hE hl hR hS hk hn
  obtain ⟨hx, hb, hown, hlocks, htab, hml, hr, hB, hA, hnm⟩ := id hC
  have hts := hB.1.1.at args
  exact xb_lret hx hb hr hlocks (show k ≤ MC by omega) (show n ≤ MS by omega) hE hR hS (xb_d D_Exact_rounded 153 rfl) hw

set_option maxHeartbeats 4000000 in
set_option maxRecDepth 100000 in
theorem am_Exact_rounded_L200 (l : Launch) (hfl : l.flags = pinnedFlags ++ [noTraceFlag]) (D : va_G) (A : Nat → Prop) (σ MC MS : Nat) (h0 : xb_H) (Qr : Int64 → xb_H → Prop) (x0 : Nat) (x1 : Int32) (x5 : Int64) (x9 : Int32) (h : xb_H) (hw : w_Exact_rounded_L200 Qr x0 x1 x5 x9 h) : xb_am l D A σ 4 MC MS h0 (fun v h => ∃ r, v = some (.long r) ∧ Qr r h) (fun _ _ => False) y_Exact_rounded.cls y_Exact_rounded.name b_Exact_rounded 10 ([] : List ExceptionTableEntry) (some .long) 200 [(0, .ref x0), (1, .int x1), (5, .long x5), (9, .int x9)] [] h 0 0 := by
  unfold w_Exact_rounded_L200 at hw
  intro p e s m args below meth c hC H locs ls k n hE hl hR hS hk hn
  obtain ⟨hx, hb, hown, hlocks, htab, hml, hr, hB, hA, hnm⟩ := id hC
  have hts := hB.1.1.at args
  refine lv_lload hx hb (xb_d D_Exact_rounded 110 rfl) (lv_at hl 2 rfl) ?_
  refine lv_aload_n hx hb (xb_d D_Exact_rounded 111 rfl) rfl (lv_at hl 0 rfl) ?_
  obtain ⟨hk1, hw⟩ := hw
  refine xb_getI (C := R_Exact) (T := F_Exact) (N := 11) hx hb 9 6 hts fin_Exact hown hR hk1 (by decide) rfl (by decide) rfl (hts _ m_904a6bc5) (fun _ h9 => h9) (xb_d D_Exact_rounded 112 rfl) ?_
  refine lv_lshr (v := (xb_lshr x5 (xb_i h x0 6))) hx hb (xb_d D_Exact_rounded 113 rfl) rfl ?_
  refine lv_lconst (v := 0) hx hb (xb_d D_Exact_rounded 114 rfl) (by decide) ?_
  refine xb_lc_ne (tgt := 220) hx hb (xb_d D_Exact_rounded 115 rfl) (xb_d D_Exact_rounded 116 rfl) rfl (fun hc2 => ?_) (fun hc2 => ?_)
  · have hw := hw.1 hc2
    refine lv_iload hx hb (xb_d D_Exact_rounded 122 rfl) (lv_at hl 3 rfl) ?_
    refine lv_iconst (v := 1) hx hb (xb_d D_Exact_rounded 123 rfl) (by decide) ?_
    refine lv_iadd hx hb (xb_d D_Exact_rounded 124 rfl) ?_
    refine lv_iconst (v := 2) hx hb (xb_d D_Exact_rounded 125 rfl) (by decide) ?_
    refine lv_aload_n hx hb (xb_d D_Exact_rounded 126 rfl) rfl (lv_at hl 0 rfl) ?_
    refine xb_getI (C := R_Exact) (T := F_Exact) (N := 11) hx hb 9 7 hts fin_Exact hown hR hk1 (by decide) rfl (by decide) rfl (hts _ m_71f7a53b) (fun _ h9 => h9) (xb_d D_Exact_rounded 127 rfl) ?_
    refine lv_imul hx hb (xb_d D_Exact_rounded 128 rfl) ?_
    refine lv_icmp_le (tgt := 241) hx hb (xb_d D_Exact_rounded 129 rfl) rfl (fun hc3 => ?_) (fun hc3 => ?_)
    · have hw := hw.1 hc3
      refine lv_aload_n hx hb (xb_d D_Exact_rounded 134 rfl) rfl (lv_at hl 0 rfl) ?_
      refine lv_iload hx hb (xb_d D_Exact_rounded 135 rfl) (lv_at hl 3 rfl) ?_
      refine lv_iconst (v := 1) hx hb (xb_d D_Exact_rounded 136 rfl) (by decide) ?_
      refine lv_iadd hx hb (xb_d D_Exact_rounded 137 rfl) ?_
      refine lv_i2l hx hb (xb_d D_Exact_rounded 138 rfl) rfl ?_
      refine lv_aload_n hx hb (xb_d D_Exact_rounded 139 rfl) rfl (lv_at hl 0 rfl) ?_
      refine xb_getI (C := R_Exact) (T := F_Exact) (N := 11) hx hb 9 6 hts fin_Exact hown hR hk1 (by decide) rfl (by decide) rfl (hts _ m_904a6bc5) (fun _ h9 => h9) (xb_d D_Exact_rounded 140 rfl) ?_
      refine lv_lshl (v := (xb_lshl (Int32.toInt64 (x9 + 1)) (xb_i h x0 6))) hx hb (xb_d D_Exact_rounded 141 rfl) rfl ?_
      refine lv_lload hx hb (xb_d D_Exact_rounded 142 rfl) (lv_at hl 2 rfl) ?_
      refine lv_lconst (v := 1) hx hb (xb_d D_Exact_rounded 143 rfl) (by decide) ?_
      refine lv_aload_n hx hb (xb_d D_Exact_rounded 144 rfl) rfl (lv_at hl 0 rfl) ?_
      refine xb_getI (C := R_Exact) (T := F_Exact) (N := 11) hx hb 9 6 hts fin_Exact hown hR hk1 (by decide) rfl (by decide) rfl (hts _ m_904a6bc5) (fun _ h9 => h9) (xb_d D_Exact_rounded 145 rfl) ?_
      refine lv_lshl (v := (xb_lshl 1 (xb_i h x0 6))) hx hb (xb_d D_Exact_rounded 146 rfl) rfl ?_
      refine lv_lconst (v := 1) hx hb (xb_d D_Exact_rounded 147 rfl) (by decide) ?_
      refine lv_lsub hx hb (xb_d D_Exact_rounded 148 rfl) ?_
      refine lv_land hx hb (xb_d D_Exact_rounded 149 rfl) ?_
      refine lv_lor hx hb (xb_d D_Exact_rounded 150 rfl) ?_
      refine lv_iload_n hx hb (xb_d D_Exact_rounded 151 rfl) rfl (lv_at hl 1 rfl) ?_
      refine xb_call (D := D) (A := A) (σ := σ) (h := h) (d := 2) (mc := 0) (ms := 0) (maxL := 4) (rest := []) (av := [.ref x0, .long ((xb_lshl (Int32.toInt64 (x9 + 1)) (xb_i h x0 6)) ||| (x5 &&& ((xb_lshl 1 (xb_i h x0 6)) - 1))), .int x1]) (fun T hT X => by obtain ⟨cb, r1, r2, r3⟩ := xb_recv (ci := 9) hR rfl hk1 (by decide); exact xt_invV X hx hown (hts _ m_7b6c7353) (hts _ m_28babb18) (hts _ m_243e01d5) (xt_sigOf (hts _ m_88c0fc78)) nm_Exact_signed (by rw [hT]; exact r1) r2 r3 (g := F0 m 265 ls [.int x1, .long ((xb_lshl (Int32.toInt64 (x9 + 1)) (xb_i h x0 6)) ||| (x5 &&& ((xb_lshl 1 (xb_i h x0 6)) - 1))), .ref x0]) rfl (argsL := [.long ((xb_lshl (Int32.toInt64 (x9 + 1)) (xb_i h x0 6)) ||| (x5 &&& ((xb_lshl 1 (xb_i h x0 6)) - 1))), .int x1]) (rest := []) rfl rfl (by rw [hb]; exact (xb_d D_Exact_rounded 152 rfl))) (ok_Exact_signed l hfl D A σ x0 ((xb_lshl (Int32.toInt64 (x9 + 1)) (xb_i h x0 6)) ||| (x5 &&& ((xb_lshl 1 (xb_i h x0 6)) - 1))) x1 h _ hw) (hml.trans hl.1.symm) (by rw [hb]; exact (xb_d D_Exact_rounded 152 rfl)) (Nat.le_of_ble_eq_true rfl) (Nat.le_of_ble_eq_true rfl) (Nat.le_of_ble_eq_true rfl) (show k + 0 ≤ MC by omega) (show n + 0 ≤ MS by omega) (xt_w1 hB.1 m_88c0fc78) (xt_cdOf hB.1 m_88c0fc78) (hts _ m_b807310b) hB hR hS hA (fun vv h4 H locs hq hEh4 hR hS => ?_) (fun XX ax h4 H locs hq hEh4 hex hR hS => ?_)
      · obtain ⟨r5, rfl, hw⟩ := hq
        have hw := hw hEh4
        have hE := hE.tr hEh4
        refine W.eq (g2 := F0 m 268 ls [.long r5]) rfl ?_
        exact am_Exact_rounded_L268 l hfl D A σ MC MS h0 Qr r5 h4 hw p e s m args below meth c hC H locs ls k n hE (lv_sub hl [] rfl) hR hS (by omega) (by omega)
      · exact False.elim hq
    · have hw := hw.2 hc3
      refine lv_aload_n hx hb (xb_d D_Exact_rounded 130 rfl) rfl (lv_at hl 0 rfl) ?_
      refine lv_iload_n hx hb (xb_d D_Exact_rounded 131 rfl) rfl (lv_at hl 1 rfl) ?_
      refine xb_call (D := D) (A := A) (σ := σ) (h := h) (d := 3) (mc := 0) (ms := 0) (maxL := 2) (rest := []) (av := [.ref x0, .int x1]) (fun T hT X => by obtain ⟨cb, r1, r2, r3⟩ := xb_recv (ci := 9) hR rfl hk1 (by decide); exact xt_invV X hx hown (hts _ m_c1bdecd7) (hts _ m_3ecdf3c0) (hts _ m_93791b31) (xt_sigOf (hts _ m_99b71483)) nm_Exact_infinite (by rw [hT]; exact r1) r2 r3 (g := F0 m 235 ls [.int x1, .ref x0]) rfl (argsL := [.int x1]) (rest := []) rfl rfl (by rw [hb]; exact (xb_d D_Exact_rounded 132 rfl))) (ok_Exact_infinite l hfl D A σ x0 x1 h _ hw) (hml.trans hl.1.symm) (by rw [hb]; exact (xb_d D_Exact_rounded 132 rfl)) (Nat.le_of_ble_eq_true rfl) (Nat.le_of_ble_eq_true rfl) (Nat.le_of_ble_eq_true rfl) (show k + 0 ≤ MC by omega) (show n + 0 ≤ MS by omega) (xt_w1 hB.1 m_99b71483) (xt_cdOf hB.1 m_99b71483) (hts _ m_b807310b) hB hR hS hA (fun vv h6 H locs hq hEh6 hR hS => ?_) (fun XX ax h6 H locs hq hEh6 hex hR hS => ?_)
      · obtain ⟨r7, rfl, hw⟩ := hq
        have hw := hw hEh6
        have hE := hE.tr hEh6
        refine W.eq (g2 := F0 m 238 ls [.long r7]) rfl ?_
        refine lv_goto (tgt := 268) hx hb (xb_d D_Exact_rounded 133 rfl) rfl ?_
        exact am_Exact_rounded_L268 l hfl D A σ MC MS h0 Qr r7 h6 hw p e s m args below meth c hC H locs ls k n hE (lv_sub hl [] rfl) hR hS (by omega) (by omega)
      · exact False.elim hq
  · have hw := hw.2 hc2
    refine lv_aload_n hx hb (xb_d D_Exact_rounded 117 rfl) rfl (lv_at hl 0 rfl) ?_
    refine lv_lload hx hb (xb_d D_Exact_rounded 118 rfl) (lv_at hl 2 rfl) ?_
    refine lv_iload_n hx hb (xb_d D_Exact_rounded 119 rfl) rfl (lv_at hl 1 rfl) ?_
    refine xb_call (D := D) (A := A) (σ := σ) (h := h) (d := 2) (mc := 0) (ms := 0) (maxL := 4) (rest := []) (av := [.ref x0, .long x5, .int x1]) (fun T hT X => by obtain ⟨cb, r1, r2, r3⟩ := xb_recv (ci := 9) hR rfl hk1 (by decide); exact xt_invV X hx hown (hts _ m_7b6c7353) (hts _ m_28babb18) (hts _ m_243e01d5) (xt_sigOf (hts _ m_88c0fc78)) nm_Exact_signed (by rw [hT]; exact r1) r2 r3 (g := F0 m 216 ls [.int x1, .long x5, .ref x0]) rfl (argsL := [.long x5, .int x1]) (rest := []) rfl rfl (by rw [hb]; exact (xb_d D_Exact_rounded 120 rfl))) (ok_Exact_signed l hfl D A σ x0 x5 x1 h _ hw) (hml.trans hl.1.symm) (by rw [hb]; exact (xb_d D_Exact_rounded 120 rfl)) (Nat.le_of_ble_eq_true rfl) (Nat.le_of_ble_eq_true rfl) (Nat.le_of_ble_eq_true rfl) (show k + 0 ≤ MC by omega) (show n + 0 ≤ MS by omega) (xt_w1 hB.1 m_88c0fc78) (xt_cdOf hB.1 m_88c0fc78) (hts _ m_b807310b) hB hR hS hA (fun vv h8 H locs hq hEh8 hR hS => ?_) (fun XX ax h8 H locs hq hEh8 hex hR hS => ?_)
    · obtain ⟨r9, rfl, hw⟩ := hq
      have hw := hw hEh8
      have hE := hE.tr hEh8
      refine W.eq (g2 := F0 m 219 ls [.long r9]) rfl ?_
      exact xb_lret hx hb hr hlocks (show k ≤ MC by omega) (show n ≤ MS by omega) hE hR hS (xb_d D_Exact_rounded 121 rfl) hw
    · exact False.elim hq

set_option maxHeartbeats 4000000 in
set_option maxRecDepth 100000 in
theorem am_Exact_rounded_L169 (l : Launch) (hfl : l.flags = pinnedFlags ++ [noTraceFlag]) (D : va_G) (A : Nat → Prop) (σ MC MS : Nat) (h0 : xb_H) (Qr : Int64 → xb_H → Prop) (x0 : Nat) (x1 : Int32) (x3 : Int32) (x4 : Int32) (y0 : Int64) (h : xb_H) (hw : w_Exact_rounded_L169 Qr x0 x1 x3 x4 y0 h) : xb_am l D A σ 4 MC MS h0 (fun v h => ∃ r, v = some (.long r) ∧ Qr r h) (fun _ _ => False) y_Exact_rounded.cls y_Exact_rounded.name b_Exact_rounded 10 ([] : List ExceptionTableEntry) (some .long) 169 [(0, .ref x0), (1, .int x1), (3, .int x3), (4, .int x4)] [.long y0] h 0 0 := by
  unfold w_Exact_rounded_L169 at hw
  intro p e s m args below meth c hC H locs ls k n hE hl hR hS hk hn
  obtain ⟨hx, hb, hown, hlocks, htab, hml, hr, hB, hA, hnm⟩ := id hC
  have hts := hB.1.1.at args
  refine lv_lstore hx hb (xb_d D_Exact_rounded 93 rfl) hl (by decide) rfl (fun ls hl => ?_)
  have hl : lv_has ls 10 [(5, .long y0), (0, .ref x0), (1, .int x1), (3, .int x3), (4, .int x4)] := hl
  refine lv_iload hx hb (xb_d D_Exact_rounded 94 rfl) (lv_at hl 4 rfl) ?_
  refine lv_iload_n hx hb (xb_d D_Exact_rounded 95 rfl) rfl (lv_at hl 3 rfl) ?_
  refine lv_isub hx hb (xb_d D_Exact_rounded 96 rfl) ?_
  obtain ⟨v1, ev1⟩ : ∃ x : Int32, x = (x4 - x3) := ⟨_, rfl⟩
  have hw := hw v1 ev1
  refine xt_numi (y := v1) ev1.symm ?_
  refine lv_istore hx hb (xb_d D_Exact_rounded 97 rfl) hl (by decide) rfl (fun ls hl => ?_)
  have hl : lv_has ls 10 [(9, .int v1), (5, .long y0), (0, .ref x0), (1, .int x1), (3, .int x3), (4, .int x4)] := hl
  refine lv_lload hx hb (xb_d D_Exact_rounded 98 rfl) (lv_at hl 1 rfl) ?_
  refine lv_aload_n hx hb (xb_d D_Exact_rounded 99 rfl) rfl (lv_at hl 2 rfl) ?_
  obtain ⟨hk2, hw⟩ := hw
  refine xb_getI (C := R_Exact) (T := F_Exact) (N := 11) hx hb 9 6 hts fin_Exact hown hR hk2 (by decide) rfl (by decide) rfl (hts _ m_904a6bc5) (fun _ h9 => h9) (xb_d D_Exact_rounded 100 rfl) ?_
  refine lv_lshr (v := (xb_lshr y0 (xb_i h x0 6))) hx hb (xb_d D_Exact_rounded 101 rfl) rfl ?_
  refine lv_ldc2 (v := 2) hx hb hown (hts _ m_9070420a) (xb_d D_Exact_rounded 102 rfl) ?_
  refine xb_lc_ne (tgt := 200) hx hb (xb_d D_Exact_rounded 103 rfl) (xb_d D_Exact_rounded 104 rfl) rfl (fun hc3 => ?_) (fun hc3 => ?_)
  · have hw := hw.1 hc3
    exact am_Exact_rounded_L200 l hfl D A σ MC MS h0 Qr x0 x1 y0 v1 h hw p e s m args below meth c hC H locs ls k n hE (lv_sub hl [2, 3, 1, 0] rfl) hR hS (by omega) (by omega)
  · have hw := hw.2 hc3
    refine lv_lload hx hb (xb_d D_Exact_rounded 105 rfl) (lv_at hl 1 rfl) ?_
    refine lv_iconst (v := 1) hx hb (xb_d D_Exact_rounded 106 rfl) (by decide) ?_
    refine lv_lshr (v := (xb_lshr y0 1)) hx hb (xb_d D_Exact_rounded 107 rfl) rfl ?_
    obtain ⟨v4, ev4⟩ : ∃ x : Int64, x = (xb_lshr y0 1) := ⟨_, rfl⟩
    have hw := hw v4 ev4
    refine xt_numl (y := v4) ev4.symm ?_
    refine lv_lstore hx hb (xb_d D_Exact_rounded 108 rfl) hl (by decide) rfl (fun ls hl => ?_)
    have hl : lv_has ls 10 [(5, .long v4), (9, .int v1), (0, .ref x0), (1, .int x1), (3, .int x3), (4, .int x4)] := hl
    refine lv_iinc (v := (v1 + 1)) (k := 1) hx hb (xb_d D_Exact_rounded 109 rfl) hl rfl (by first | rfl | decide) (by decide) rfl (fun ls hl => ?_)
    have hl : lv_has ls 10 [(9, .int (v1 + 1)), (5, .long v4), (0, .ref x0), (1, .int x1), (3, .int x3), (4, .int x4)] := hl
    exact am_Exact_rounded_L200 l hfl D A σ MC MS h0 Qr x0 x1 v4 (v1 + 1) h hw p e s m args below meth c hC H locs ls k n hE (lv_sub hl [2, 3, 1, 0] rfl) hR hS (by omega) (by omega)

set_option maxHeartbeats 4000000 in
set_option maxRecDepth 100000 in
theorem am_Exact_rounded_L153 (l : Launch) (hfl : l.flags = pinnedFlags ++ [noTraceFlag]) (D : va_G) (A : Nat → Prop) (σ MC MS : Nat) (h0 : xb_H) (Qr : Int64 → xb_H → Prop) (x0 : Nat) (x1 : Int32) (x3 : Int32) (x4 : Int32) (x5 : Int64) (y0 : Int32) (h : xb_H) (hw : w_Exact_rounded_L153 Qr x0 x1 x3 x4 x5 y0 h) : xb_am l D A σ 4 MC MS h0 (fun v h => ∃ r, v = some (.long r) ∧ Qr r h) (fun _ _ => False) y_Exact_rounded.cls y_Exact_rounded.name b_Exact_rounded 10 ([] : List ExceptionTableEntry) (some .long) 153 [(0, .ref x0), (1, .int x1), (3, .int x3), (4, .int x4), (5, .long x5)] [.int y0] h 0 0 := by
  unfold w_Exact_rounded_L153 at hw
  intro p e s m args below meth c hC H locs ls k n hE hl hR hS hk hn
  obtain ⟨hx, hb, hown, hlocks, htab, hml, hr, hB, hA, hnm⟩ := id hC
  have hts := hB.1.1.at args
  refine lv_istore hx hb (xb_d D_Exact_rounded 85 rfl) hl (by decide) rfl (fun ls hl => ?_)
  have hl : lv_has ls 10 [(8, .int y0), (0, .ref x0), (1, .int x1), (3, .int x3), (4, .int x4), (5, .long x5)] := hl
  refine lv_iload hx hb (xb_d D_Exact_rounded 86 rfl) (lv_at hl 0 rfl) ?_
  refine lv_if_eq (tgt := 167) hx hb (xb_d D_Exact_rounded 87 rfl) rfl (fun hc1 => ?_) (fun hc1 => ?_)
  · have hw := hw.1 hc1
    refine lv_lload hx hb (xb_d D_Exact_rounded 92 rfl) (lv_at hl 5 rfl) ?_
    exact am_Exact_rounded_L169 l hfl D A σ MC MS h0 Qr x0 x1 x3 x4 x5 h hw p e s m args below meth c hC H locs ls k n hE (lv_sub hl [1, 2, 3, 4] rfl) hR hS (by omega) (by omega)
  · have hw := hw.2 hc1
    refine lv_lload hx hb (xb_d D_Exact_rounded 88 rfl) (lv_at hl 5 rfl) ?_
    refine lv_lconst (v := 1) hx hb (xb_d D_Exact_rounded 89 rfl) (by decide) ?_
    refine lv_ladd hx hb (xb_d D_Exact_rounded 90 rfl) ?_
    refine lv_goto (tgt := 169) hx hb (xb_d D_Exact_rounded 91 rfl) rfl ?_
    exact am_Exact_rounded_L169 l hfl D A σ MC MS h0 Qr x0 x1 x3 x4 (x5 + 1) h hw p e s m args below meth c hC H locs ls k n hE (lv_sub hl [1, 2, 3, 4] rfl) hR hS (by omega) (by omega)

set_option maxHeartbeats 4000000 in
set_option maxRecDepth 100000 in
theorem am_Exact_rounded_L152 (l : Launch) (hfl : l.flags = pinnedFlags ++ [noTraceFlag]) (D : va_G) (A : Nat → Prop) (σ MC MS : Nat) (h0 : xb_H) (Qr : Int64 → xb_H → Prop) (x0 : Nat) (x1 : Int32) (x3 : Int32) (x4 : Int32) (x5 : Int64) (h : xb_H) (hw : w_Exact_rounded_L152 Qr x0 x1 x3 x4 x5 h) : xb_am l D A σ 4 MC MS h0 (fun v h => ∃ r, v = some (.long r) ∧ Qr r h) (fun _ _ => False) y_Exact_rounded.cls y_Exact_rounded.name b_Exact_rounded 10 ([] : List ExceptionTableEntry) (some .long) 152 [(0, .ref x0), (1, .int x1), (3, .int x3), (4, .int x4), (5, .long x5)] [] h 0 0 := by
  unfold w_Exact_rounded_L152 at hw
  intro p e s m args below meth c hC H locs ls k n hE hl hR hS hk hn
  obtain ⟨hx, hb, hown, hlocks, htab, hml, hr, hB, hA, hnm⟩ := id hC
  have hts := hB.1.1.at args
  refine lv_iconst (v := 0) hx hb (xb_d D_Exact_rounded 84 rfl) (by decide) ?_
  exact am_Exact_rounded_L153 l hfl D A σ MC MS h0 Qr x0 x1 x3 x4 x5 0 h hw p e s m args below meth c hC H locs ls k n hE (lv_sub hl [0, 1, 2, 3, 4] rfl) hR hS (by omega) (by omega)

set_option maxHeartbeats 4000000 in
set_option maxRecDepth 100000 in
theorem am_Exact_rounded_L148 (l : Launch) (hfl : l.flags = pinnedFlags ++ [noTraceFlag]) (D : va_G) (A : Nat → Prop) (σ MC MS : Nat) (h0 : xb_H) (Qr : Int64 → xb_H → Prop) (x0 : Nat) (x1 : Int32) (x3 : Int32) (x4 : Int32) (x5 : Int64) (h : xb_H) (hw : w_Exact_rounded_L148 Qr x0 x1 x3 x4 x5 h) : xb_am l D A σ 4 MC MS h0 (fun v h => ∃ r, v = some (.long r) ∧ Qr r h) (fun _ _ => False) y_Exact_rounded.cls y_Exact_rounded.name b_Exact_rounded 10 ([] : List ExceptionTableEntry) (some .long) 148 [(0, .ref x0), (1, .int x1), (3, .int x3), (4, .int x4), (5, .long x5)] [] h 0 0 := by
  unfold w_Exact_rounded_L148 at hw
  intro p e s m args below meth c hC H locs ls k n hE hl hR hS hk hn
  obtain ⟨hx, hb, hown, hlocks, htab, hml, hr, hB, hA, hnm⟩ := id hC
  have hts := hB.1.1.at args
  refine lv_iconst (v := 1) hx hb (xb_d D_Exact_rounded 82 rfl) (by decide) ?_
  refine lv_goto (tgt := 153) hx hb (xb_d D_Exact_rounded 83 rfl) rfl ?_
  exact am_Exact_rounded_L153 l hfl D A σ MC MS h0 Qr x0 x1 x3 x4 x5 1 h hw p e s m args below meth c hC H locs ls k n hE (lv_sub hl [0, 1, 2, 3, 4] rfl) hR hS (by omega) (by omega)

set_option maxHeartbeats 4000000 in
set_option maxRecDepth 100000 in
theorem am_Exact_rounded_L121 (l : Launch) (hfl : l.flags = pinnedFlags ++ [noTraceFlag]) (D : va_G) (A : Nat → Prop) (σ MC MS : Nat) (h0 : xb_H) (Qr : Int64 → xb_H → Prop) (x0 : Nat) (x1 : Int32) (x3 : Int32) (x4 : Int32) (x5 : Int64) (y0 : Int32) (h : xb_H) (hw : w_Exact_rounded_L121 Qr x0 x1 x3 x4 x5 y0 h) : xb_am l D A σ 4 MC MS h0 (fun v h => ∃ r, v = some (.long r) ∧ Qr r h) (fun _ _ => False) y_Exact_rounded.cls y_Exact_rounded.name b_Exact_rounded 10 ([] : List ExceptionTableEntry) (some .long) 121 [(0, .ref x0), (1, .int x1), (3, .int x3), (4, .int x4), (5, .long x5)] [.int y0] h 0 0 := by
  unfold w_Exact_rounded_L121 at hw
  intro p e s m args below meth c hC H locs ls k n hE hl hR hS hk hn
  obtain ⟨hx, hb, hown, hlocks, htab, hml, hr, hB, hA, hnm⟩ := id hC
  have hts := hB.1.1.at args
  refine lv_istore hx hb (xb_d D_Exact_rounded 67 rfl) hl (by decide) rfl (fun ls hl => ?_)
  have hl : lv_has ls 10 [(7, .int y0), (0, .ref x0), (1, .int x1), (3, .int x3), (4, .int x4), (5, .long x5)] := hl
  refine lv_iload hx hb (xb_d D_Exact_rounded 68 rfl) (lv_at hl 0 rfl) ?_
  refine lv_if_eq (tgt := 152) hx hb (xb_d D_Exact_rounded 69 rfl) rfl (fun hc1 => ?_) (fun hc1 => ?_)
  · have hw := hw.1 hc1
    exact am_Exact_rounded_L152 l hfl D A σ MC MS h0 Qr x0 x1 x3 x4 x5 h hw p e s m args below meth c hC H locs ls k n hE (lv_sub hl [1, 2, 3, 4, 5] rfl) hR hS (by omega) (by omega)
  · have hw := hw.2 hc1
    refine lv_aload_n hx hb (xb_d D_Exact_rounded 70 rfl) rfl (lv_at hl 1 rfl) ?_
    refine lv_iload hx hb (xb_d D_Exact_rounded 71 rfl) (lv_at hl 4 rfl) ?_
    refine lv_iconst (v := 1) hx hb (xb_d D_Exact_rounded 72 rfl) (by decide) ?_
    refine lv_isub hx hb (xb_d D_Exact_rounded 73 rfl) ?_
    obtain ⟨hk2, hw⟩ := hw
    refine xb_call (D := D) (A := A) (σ := σ) (h := h) (d := 2) (mc := 0) (ms := 0) (maxL := 4) (rest := []) (av := [.ref x0, .int (x4 - 1)]) (fun T hT X => by obtain ⟨cb, r1, r2, r3⟩ := xb_recv (ci := 9) hR rfl hk2 (by decide); exact xt_invV X hx hown (hts _ m_24974b85) (hts _ m_a034788e) (hts _ m_61a2f1f5) (xt_sigOf (hts _ m_e6aa3f0f)) nm_Exact_isBelow (by rw [hT]; exact r1) r2 r3 (g := F0 m 133 ls [.int (x4 - 1), .ref x0]) rfl (argsL := [.int (x4 - 1)]) (rest := []) rfl rfl (by rw [hb]; exact (xb_d D_Exact_rounded 74 rfl))) (ok_Exact_isBelow l hfl D A σ x0 (x4 - 1) h _ hw) (hml.trans hl.1.symm) (by rw [hb]; exact (xb_d D_Exact_rounded 74 rfl)) (Nat.le_of_ble_eq_true rfl) (Nat.le_of_ble_eq_true rfl) (Nat.le_of_ble_eq_true rfl) (show k + 0 ≤ MC by omega) (show n + 0 ≤ MS by omega) (xt_w1 hB.1 m_e6aa3f0f) (xt_cdOf hB.1 m_e6aa3f0f) (hts _ m_b807310b) hB hR hS hA (fun vv h3 H locs hq hEh3 hR hS => ?_) (fun XX ax h3 H locs hq hEh3 hex hR hS => ?_)
    · obtain ⟨r4, rfl, hw⟩ := hq
      have hw := hw hEh3
      have hE := hE.tr hEh3
      refine W.eq (g2 := F0 m 136 ls [.int r4]) rfl ?_
      refine lv_if_ne (tgt := 148) hx hb (xb_d D_Exact_rounded 75 rfl) rfl (fun hc5 => ?_) (fun hc5 => ?_)
      · have hw := hw.1 hc5
        exact am_Exact_rounded_L148 l hfl D A σ MC MS h0 Qr x0 x1 x3 x4 x5 h3 hw p e s m args below meth c hC H locs ls k n hE (lv_sub hl [1, 2, 3, 4, 5] rfl) hR hS (by omega) (by omega)
      · have hw := hw.2 hc5
        refine lv_lload hx hb (xb_d D_Exact_rounded 76 rfl) (lv_at hl 5 rfl) ?_
        refine lv_lconst (v := 1) hx hb (xb_d D_Exact_rounded 77 rfl) (by decide) ?_
        refine lv_land hx hb (xb_d D_Exact_rounded 78 rfl) ?_
        refine lv_lconst (v := 1) hx hb (xb_d D_Exact_rounded 79 rfl) (by decide) ?_
        refine xb_lc_ne (tgt := 152) hx hb (xb_d D_Exact_rounded 80 rfl) (xb_d D_Exact_rounded 81 rfl) rfl (fun hc6 => ?_) (fun hc6 => ?_)
        · have hw := hw.1 hc6
          exact am_Exact_rounded_L152 l hfl D A σ MC MS h0 Qr x0 x1 x3 x4 x5 h3 hw p e s m args below meth c hC H locs ls k n hE (lv_sub hl [1, 2, 3, 4, 5] rfl) hR hS (by omega) (by omega)
        · have hw := hw.2 hc6
          exact am_Exact_rounded_L148 l hfl D A σ MC MS h0 Qr x0 x1 x3 x4 x5 h3 hw p e s m args below meth c hC H locs ls k n hE (lv_sub hl [1, 2, 3, 4, 5] rfl) hR hS (by omega) (by omega)
    · exact False.elim hq

set_option maxHeartbeats 4000000 in
set_option maxRecDepth 100000 in
theorem am_Exact_rounded_L120 (l : Launch) (hfl : l.flags = pinnedFlags ++ [noTraceFlag]) (D : va_G) (A : Nat → Prop) (σ MC MS : Nat) (h0 : xb_H) (Qr : Int64 → xb_H → Prop) (x0 : Nat) (x1 : Int32) (x3 : Int32) (x4 : Int32) (x5 : Int64) (h : xb_H) (hw : w_Exact_rounded_L120 Qr x0 x1 x3 x4 x5 h) : xb_am l D A σ 4 MC MS h0 (fun v h => ∃ r, v = some (.long r) ∧ Qr r h) (fun _ _ => False) y_Exact_rounded.cls y_Exact_rounded.name b_Exact_rounded 10 ([] : List ExceptionTableEntry) (some .long) 120 [(0, .ref x0), (1, .int x1), (3, .int x3), (4, .int x4), (5, .long x5)] [] h 0 0 := by
  unfold w_Exact_rounded_L120 at hw
  intro p e s m args below meth c hC H locs ls k n hE hl hR hS hk hn
  obtain ⟨hx, hb, hown, hlocks, htab, hml, hr, hB, hA, hnm⟩ := id hC
  have hts := hB.1.1.at args
  refine lv_iconst (v := 0) hx hb (xb_d D_Exact_rounded 66 rfl) (by decide) ?_
  exact am_Exact_rounded_L121 l hfl D A σ MC MS h0 Qr x0 x1 x3 x4 x5 0 h hw p e s m args below meth c hC H locs ls k n hE (lv_sub hl [0, 1, 2, 3, 4] rfl) hR hS (by omega) (by omega)

set_option maxHeartbeats 4000000 in
set_option maxRecDepth 100000 in
theorem am_Exact_rounded_L47 (l : Launch) (hfl : l.flags = pinnedFlags ++ [noTraceFlag]) (D : va_G) (A : Nat → Prop) (σ MC MS : Nat) (h0 : xb_H) (Qr : Int64 → xb_H → Prop) (n9 : Nat) : ∀ (x0 : Nat) (x1 : Int32) (x3 : Int32) (x4 : Int32) (x5 : Int64) (x7 : Int32) (h : xb_H), w_Exact_rounded_L47 Qr n9 x0 x1 x3 x4 x5 x7 h → xb_am l D A σ 4 MC MS h0 (fun v h => ∃ r, v = some (.long r) ∧ Qr r h) (fun _ _ => False) y_Exact_rounded.cls y_Exact_rounded.name b_Exact_rounded 10 ([] : List ExceptionTableEntry) (some .long) 47 [(0, .ref x0), (1, .int x1), (3, .int x3), (4, .int x4), (5, .long x5), (7, .int x7)] [] h 0 0 := by
  induction n9 with
  | zero => intro x0 x1 x3 x4 x5 x7 h hw; exact False.elim hw
  | succ n9 ih =>
    intro x0 x1 x3 x4 x5 x7 h hw
    unfold w_Exact_rounded_L47 at hw
    intro p e s m args below meth c hC H locs ls k n hE hl hR hS hk hn
    obtain ⟨hx, hb, hown, hlocks, htab, hml, hr, hB, hA, hnm⟩ := id hC
    have hts := hB.1.1.at args
    refine lv_iload hx hb (xb_d D_Exact_rounded 28 rfl) (lv_at hl 5 rfl) ?_
    refine lv_iload hx hb (xb_d D_Exact_rounded 29 rfl) (lv_at hl 3 rfl) ?_
    refine lv_icmp_lt (tgt := 77) hx hb (xb_d D_Exact_rounded 30 rfl) rfl (fun hc1 => ?_) (fun hc1 => ?_)
    · have hw := hw.1 hc1
      refine lv_iload hx hb (xb_d D_Exact_rounded 43 rfl) (lv_at hl 3 rfl) ?_
      refine lv_if_le (tgt := 120) hx hb (xb_d D_Exact_rounded 44 rfl) rfl (fun hc2 => ?_) (fun hc2 => ?_)
      · have hw := hw.1 hc2
        exact am_Exact_rounded_L120 l hfl D A σ MC MS h0 Qr x0 x1 x3 x4 x5 h hw p e s m args below meth c hC H locs ls k n hE (lv_sub hl [0, 1, 2, 3, 4] rfl) hR hS (by omega) (by omega)
      · have hw := hw.2 hc2
        refine lv_iload hx hb (xb_d D_Exact_rounded 45 rfl) (lv_at hl 3 rfl) ?_
        refine lv_iconst (v := 1) hx hb (xb_d D_Exact_rounded 46 rfl) (by decide) ?_
        refine lv_isub hx hb (xb_d D_Exact_rounded 47 rfl) ?_
        refine lv_aload_n hx hb (xb_d D_Exact_rounded 48 rfl) rfl (lv_at hl 0 rfl) ?_
        obtain ⟨hk3, hw⟩ := hw
        refine xb_getI (C := R_Exact) (T := F_Exact) (N := 11) hx hb 9 3 hts fin_Exact hown hR hk3 (by decide) rfl (by decide) rfl (hts _ m_ee80a7fc) (fun _ h9 => h9) (xb_d D_Exact_rounded 49 rfl) ?_
        refine lv_icmp_gt (tgt := 120) hx hb (xb_d D_Exact_rounded 50 rfl) rfl (fun hc4 => ?_) (fun hc4 => ?_)
        · have hw := hw.1 hc4
          exact am_Exact_rounded_L120 l hfl D A σ MC MS h0 Qr x0 x1 x3 x4 x5 h hw p e s m args below meth c hC H locs ls k n hE (lv_sub hl [0, 1, 2, 3, 4] rfl) hR hS (by omega) (by omega)
        · have hw := hw.2 hc4
          refine lv_iload hx hb (xb_d D_Exact_rounded 51 rfl) (lv_at hl 3 rfl) ?_
          refine lv_iconst (v := 1) hx hb (xb_d D_Exact_rounded 52 rfl) (by decide) ?_
          refine lv_isub hx hb (xb_d D_Exact_rounded 53 rfl) ?_
          refine lv_aload_n hx hb (xb_d D_Exact_rounded 54 rfl) rfl (lv_at hl 0 rfl) ?_
          refine xb_getI (C := R_Exact) (T := F_Exact) (N := 11) hx hb 9 2 hts fin_Exact hown hR hk3 (by decide) rfl (by decide) rfl (hts _ m_2f5dbefd) (fun _ h9 => h9) (xb_d D_Exact_rounded 55 rfl) ?_
          refine lv_icmp_lt (tgt := 120) hx hb (xb_d D_Exact_rounded 56 rfl) rfl (fun hc5 => ?_) (fun hc5 => ?_)
          · have hw := hw.1 hc5
            exact am_Exact_rounded_L120 l hfl D A σ MC MS h0 Qr x0 x1 x3 x4 x5 h hw p e s m args below meth c hC H locs ls k n hE (lv_sub hl [0, 1, 2, 3, 4] rfl) hR hS (by omega) (by omega)
          · have hw := hw.2 hc5
            refine lv_aload_n hx hb (xb_d D_Exact_rounded 57 rfl) rfl (lv_at hl 0 rfl) ?_
            refine xb_getP (C := R_Exact) (T := F_Exact) (N := 11) hx hb 9 1 hts fin_Exact hown hR hk3 (by decide) rfl (by decide) rfl (hts _ m_3ef37fb8) (fun _ h9 => h9) (xb_d D_Exact_rounded 58 rfl) ?_
            obtain ⟨b6, eb6, hw⟩ := hw
            refine xb_some eb6 ?_
            refine lv_iload hx hb (xb_d D_Exact_rounded 59 rfl) (lv_at hl 3 rfl) ?_
            refine lv_iconst (v := 1) hx hb (xb_d D_Exact_rounded 60 rfl) (by decide) ?_
            refine lv_isub hx hb (xb_d D_Exact_rounded 61 rfl) ?_
            obtain ⟨hk8, hw⟩ := hw
            obtain ⟨hi7, hw⟩ := hw
            refine xb_bald hx hb hR hk8 hi7 (xb_d D_Exact_rounded 62 rfl) ?_
            refine lv_if_eq (tgt := 120) hx hb (xb_d D_Exact_rounded 63 rfl) rfl (fun hc9 => ?_) (fun hc9 => ?_)
            · have hw := hw.1 hc9
              exact am_Exact_rounded_L120 l hfl D A σ MC MS h0 Qr x0 x1 x3 x4 x5 h hw p e s m args below meth c hC H locs ls k n hE (lv_sub hl [0, 1, 2, 3, 4] rfl) hR hS (by omega) (by omega)
            · have hw := hw.2 hc9
              refine lv_iconst (v := 1) hx hb (xb_d D_Exact_rounded 64 rfl) (by decide) ?_
              refine lv_goto (tgt := 121) hx hb (xb_d D_Exact_rounded 65 rfl) rfl ?_
              exact am_Exact_rounded_L121 l hfl D A σ MC MS h0 Qr x0 x1 x3 x4 x5 1 h hw p e s m args below meth c hC H locs ls k n hE (lv_sub hl [0, 1, 2, 3, 4] rfl) hR hS (by omega) (by omega)
    · have hw := hw.2 hc1
      refine lv_ldc2 (v := 2) hx hb hown (hts _ m_9070420a) (xb_d D_Exact_rounded 31 rfl) ?_
      refine lv_lload hx hb (xb_d D_Exact_rounded 32 rfl) (lv_at hl 4 rfl) ?_
      refine lv_lmul hx hb (xb_d D_Exact_rounded 33 rfl) ?_
      refine lv_aload_n hx hb (xb_d D_Exact_rounded 34 rfl) rfl (lv_at hl 0 rfl) ?_
      obtain ⟨hk10, hw⟩ := hw
      refine xb_getP (C := R_Exact) (T := F_Exact) (N := 11) hx hb 9 1 hts fin_Exact hown hR hk10 (by decide) rfl (by decide) rfl (hts _ m_3ef37fb8) (fun _ h9 => h9) (xb_d D_Exact_rounded 35 rfl) ?_
      obtain ⟨b11, eb11, hw⟩ := hw
      refine xb_some eb11 ?_
      refine lv_iload hx hb (xb_d D_Exact_rounded 36 rfl) (lv_at hl 5 rfl) ?_
      obtain ⟨hk13, hw⟩ := hw
      obtain ⟨hi12, hw⟩ := hw
      refine xb_bald hx hb hR hk13 hi12 (xb_d D_Exact_rounded 37 rfl) ?_
      refine lv_i2l hx hb (xb_d D_Exact_rounded 38 rfl) rfl ?_
      refine lv_ladd hx hb (xb_d D_Exact_rounded 39 rfl) ?_
      obtain ⟨v14, ev14⟩ : ∃ x : Int64, x = ((2 * x5) + (Int32.toInt64 (xb_i h b11 (Int32.toNatClampNeg x7)))) := ⟨_, rfl⟩
      have hw := hw v14 ev14
      refine xt_numl (y := v14) ev14.symm ?_
      refine lv_lstore hx hb (xb_d D_Exact_rounded 40 rfl) hl (by decide) rfl (fun ls hl => ?_)
      have hl : lv_has ls 10 [(5, .long v14), (0, .ref x0), (1, .int x1), (3, .int x3), (4, .int x4), (7, .int x7)] := hl
      refine lv_iinc (v := (x7 + (-1))) (k := 5) hx hb (xb_d D_Exact_rounded 41 rfl) hl rfl (by first | rfl | decide) (by decide) rfl (fun ls hl => ?_)
      have hl : lv_has ls 10 [(7, .int (x7 + (-1))), (5, .long v14), (0, .ref x0), (1, .int x1), (3, .int x3), (4, .int x4)] := hl
      refine lv_goto (tgt := 47) hx hb (xb_d D_Exact_rounded 42 rfl) rfl ?_
      exact ih x0 x1 x3 x4 v14 (x7 + (-1)) h hw p e s m args below meth c hC H locs ls k n hE (lv_sub hl [2, 3, 4, 5, 1, 0] rfl) hR hS (by omega) (by omega)

set_option maxHeartbeats 4000000 in
set_option maxRecDepth 100000 in
theorem am_Exact_rounded_L39 (l : Launch) (hfl : l.flags = pinnedFlags ++ [noTraceFlag]) (D : va_G) (A : Nat → Prop) (σ MC MS : Nat) (h0 : xb_H) (Qr : Int64 → xb_H → Prop) (x0 : Nat) (x1 : Int32) (x2 : Int32) (x3 : Int32) (y0 : Int32) (h : xb_H) (hw : w_Exact_rounded_L39 Qr x0 x1 x2 x3 y0 h) : xb_am l D A σ 4 MC MS h0 (fun v h => ∃ r, v = some (.long r) ∧ Qr r h) (fun _ _ => False) y_Exact_rounded.cls y_Exact_rounded.name b_Exact_rounded 10 ([] : List ExceptionTableEntry) (some .long) 39 [(0, .ref x0), (1, .int x1), (2, .int x2), (3, .int x3)] [.int y0] h 0 0 := by
  unfold w_Exact_rounded_L39 at hw
  intro p e s m args below meth c hC H locs ls k n hE hl hR hS hk hn
  obtain ⟨hx, hb, hown, hlocks, htab, hml, hr, hB, hA, hnm⟩ := id hC
  have hts := hB.1.1.at args
  refine lv_istore hx hb (xb_d D_Exact_rounded 23 rfl) hl (by decide) rfl (fun ls hl => ?_)
  have hl : lv_has ls 10 [(4, .int y0), (0, .ref x0), (1, .int x1), (2, .int x2), (3, .int x3)] := hl
  refine lv_lconst (v := 0) hx hb (xb_d D_Exact_rounded 24 rfl) (by decide) ?_
  refine lv_lstore hx hb (xb_d D_Exact_rounded 25 rfl) hl (by decide) rfl (fun ls hl => ?_)
  have hl : lv_has ls 10 [(5, .long 0), (4, .int y0), (0, .ref x0), (1, .int x1), (2, .int x2), (3, .int x3)] := hl
  refine lv_iload_n hx hb (xb_d D_Exact_rounded 26 rfl) rfl (lv_at hl 4 rfl) ?_
  refine lv_istore hx hb (xb_d D_Exact_rounded 27 rfl) hl (by decide) rfl (fun ls hl => ?_)
  have hl : lv_has ls 10 [(7, .int x2), (5, .long 0), (4, .int y0), (0, .ref x0), (1, .int x1), (2, .int x2), (3, .int x3)] := hl
  obtain ⟨n8, hw⟩ := hw
  exact am_Exact_rounded_L47 l hfl D A σ MC MS h0 Qr n8 x0 x1 x3 y0 0 x2 h hw p e s m args below meth c hC H locs ls k n hE (lv_sub hl [3, 4, 6, 2, 1, 0] rfl) hR hS (by omega) (by omega)

set_option maxHeartbeats 4000000 in
set_option maxRecDepth 100000 in
theorem ok_Exact_rounded (l : Launch) (hfl : l.flags = pinnedFlags ++ [noTraceFlag]) (D : va_G) (A : Nat → Prop) (σ : Nat) (x0 : Nat) (x1 : Int32) (h : xb_H) (Qr : Int64 → xb_H → Prop) (hw : w_Exact_rounded x0 x1 h Qr) : xt_Met l y_Exact_rounded [.code y_Exact_rounded b_Exact_rounded 10 (some .long)] (xb_rm 4 0 0) (xb_Pc D A σ h [.ref x0, .int x1]) (xb_Qc D A h (fun v h => ∃ r, v = some (.long r) ∧ Qr r h) (fun _ _ => False)) 0 0 A := by
  refine xb_ofAm (cc := b_Exact_rounded) (by decide) (Nat.le_of_ble_eq_true rfl) ?_
  unfold w_Exact_rounded at hw
  show xb_am l D A σ 4 0 0 h (fun v h => ∃ r, v = some (.long r) ∧ Qr r h) (fun _ _ => False) y_Exact_rounded.cls y_Exact_rounded.name b_Exact_rounded 10 ([] : List ExceptionTableEntry) (some .long) 0 [(0, .ref x0), (1, .int x1)] [] h 0 0
  obtain ⟨MC, hMC⟩ : ∃ x, x = 0 := ⟨_, rfl⟩
  obtain ⟨MS, hMS⟩ : ∃ x, x = 0 := ⟨_, rfl⟩
  rw [show xb_am l D A σ 4 0 0 = xb_am l D A σ 4 MC MS by rw [hMC, hMS]]
  obtain ⟨h0, hh0⟩ : ∃ x, x = h := ⟨_, rfl⟩
  rw [show xb_am l D A σ 4 MC MS h = xb_am l D A σ 4 MC MS h0 by rw [hh0]]
  intro p e s m args below meth c hC H locs ls k n hE hl hR hS hk hn
  obtain ⟨hx, hb, hown, hlocks, htab, hml, hr, hB, hA, hnm⟩ := id hC
  have hts := hB.1.1.at args
  refine lv_aload_n hx hb (xb_d D_Exact_rounded 0 rfl) rfl (lv_at hl 0 rfl) ?_
  obtain ⟨hk1, hw⟩ := hw
  refine xb_call (D := D) (A := A) (σ := σ) (h := h) (d := 2) (mc := 0) (ms := 0) (maxL := 2) (rest := []) (av := [.ref x0]) (fun T hT X => by obtain ⟨cb, r1, r2, r3⟩ := xb_recv (ci := 9) hR rfl hk1 (by decide); exact xt_invV X hx hown (hts _ m_66357da4) (hts _ m_d0ac19e2) (hts _ m_efe18c85) (xt_sigOf (hts _ m_586abdc5)) nm_Exact_highest (by rw [hT]; exact r1) r2 r3 (g := F0 m 1 ls [.ref x0]) rfl (argsL := []) (rest := []) rfl rfl (by rw [hb]; exact (xb_d D_Exact_rounded 1 rfl))) (ok_Exact_highest l hfl D A σ x0 h _ hw) (hml.trans hl.1.symm) (by rw [hb]; exact (xb_d D_Exact_rounded 1 rfl)) (Nat.le_of_ble_eq_true rfl) (Nat.le_of_ble_eq_true rfl) (Nat.le_of_ble_eq_true rfl) (show k + 0 ≤ MC by omega) (show n + 0 ≤ MS by omega) (xt_w1 hB.1 m_586abdc5) (xt_cdOf hB.1 m_586abdc5) (hts _ m_b807310b) hB hR hS hA (fun vv h2 H locs hq hEh2 hR hS => ?_) (fun XX ax h2 H locs hq hEh2 hex hR hS => ?_)
  · obtain ⟨r3, rfl, hw⟩ := hq
    have hw := hw hEh2
    have hE := hE.tr hEh2
    refine W.eq (g2 := F0 m 4 ls [.int r3]) rfl ?_
    refine lv_istore_n hx hb (xb_d D_Exact_rounded 2 rfl) rfl hl (by decide) rfl (fun ls hl => ?_)
    have hl : lv_has ls 10 [(2, .int r3), (0, .ref x0), (1, .int x1)] := hl
    refine lv_sipush (v := 2201) hx hb (xb_d D_Exact_rounded 3 rfl) (by decide) ?_
    refine lv_aload_n hx hb (xb_d D_Exact_rounded 4 rfl) rfl (lv_at hl 1 rfl) ?_
    have hk1 : xb_k h2 x0 = 10 := hEh2.k hk1
    refine xb_getI (C := R_Exact) (T := F_Exact) (N := 11) hx hb 9 7 hts fin_Exact hown hR hk1 (by decide) rfl (by decide) rfl (hts _ m_71f7a53b) (fun _ h9 => h9) (xb_d D_Exact_rounded 5 rfl) ?_
    refine lv_isub hx hb (xb_d D_Exact_rounded 6 rfl) ?_
    refine lv_aload_n hx hb (xb_d D_Exact_rounded 7 rfl) rfl (lv_at hl 1 rfl) ?_
    refine xb_getI (C := R_Exact) (T := F_Exact) (N := 11) hx hb 9 6 hts fin_Exact hown hR hk1 (by decide) rfl (by decide) rfl (hts _ m_904a6bc5) (fun _ h9 => h9) (xb_d D_Exact_rounded 8 rfl) ?_
    refine lv_isub hx hb (xb_d D_Exact_rounded 9 rfl) ?_
    obtain ⟨v4, ev4⟩ : ∃ x : Int32, x = ((2201 - (xb_i h2 x0 7)) - (xb_i h2 x0 6)) := ⟨_, rfl⟩
    have hw := hw v4 ev4
    refine xt_numi (y := v4) ev4.symm ?_
    refine lv_istore_n hx hb (xb_d D_Exact_rounded 10 rfl) rfl hl (by decide) rfl (fun ls hl => ?_)
    have hl : lv_has ls 10 [(3, .int v4), (2, .int r3), (0, .ref x0), (1, .int x1)] := hl
    refine lv_iload_n hx hb (xb_d D_Exact_rounded 11 rfl) rfl (lv_at hl 1 rfl) ?_
    refine lv_aload_n hx hb (xb_d D_Exact_rounded 12 rfl) rfl (lv_at hl 2 rfl) ?_
    refine xb_getI (C := R_Exact) (T := F_Exact) (N := 11) hx hb 9 6 hts fin_Exact hown hR hk1 (by decide) rfl (by decide) rfl (hts _ m_904a6bc5) (fun _ h9 => h9) (xb_d D_Exact_rounded 13 rfl) ?_
    refine lv_isub hx hb (xb_d D_Exact_rounded 14 rfl) ?_
    refine lv_iload_n hx hb (xb_d D_Exact_rounded 15 rfl) rfl (lv_at hl 0 rfl) ?_
    refine lv_icmp_le (tgt := 38) hx hb (xb_d D_Exact_rounded 16 rfl) rfl (fun hc5 => ?_) (fun hc5 => ?_)
    · have hw := hw.1 hc5
      refine lv_iload_n hx hb (xb_d D_Exact_rounded 22 rfl) rfl (lv_at hl 0 rfl) ?_
      exact am_Exact_rounded_L39 l hfl D A σ MC MS h0 Qr x0 x1 r3 v4 v4 h2 hw p e s m args below meth c hC H locs ls k n hE (lv_sub hl [2, 3, 1, 0] rfl) hR hS (by omega) (by omega)
    · have hw := hw.2 hc5
      refine lv_iload_n hx hb (xb_d D_Exact_rounded 17 rfl) rfl (lv_at hl 1 rfl) ?_
      refine lv_aload_n hx hb (xb_d D_Exact_rounded 18 rfl) rfl (lv_at hl 2 rfl) ?_
      refine xb_getI (C := R_Exact) (T := F_Exact) (N := 11) hx hb 9 6 hts fin_Exact hown hR hk1 (by decide) rfl (by decide) rfl (hts _ m_904a6bc5) (fun _ h9 => h9) (xb_d D_Exact_rounded 19 rfl) ?_
      refine lv_isub hx hb (xb_d D_Exact_rounded 20 rfl) ?_
      refine lv_goto (tgt := 39) hx hb (xb_d D_Exact_rounded 21 rfl) rfl ?_
      exact am_Exact_rounded_L39 l hfl D A σ MC MS h0 Qr x0 x1 r3 v4 (r3 - (xb_i h2 x0 6)) h2 hw p e s m args below meth c hC H locs ls k n hE (lv_sub hl [2, 3, 1, 0] rfl) hR hS (by omega) (by omega)
  · exact False.elim hq

theorem m_03c53ef9 : (.methodLink "StackHostModel$Exact" 30 y_Exact_first : Cond) ∈ xt_tbl := xt_in (xt_t11 (List.mem_of_getElem? (i := 167) (by decide +kernel))) (by decide +kernel)
theorem m_69a81f16 : (.static y_Exact_first : Cond) ∈ xt_tbl := xt_in (xt_t11 (List.mem_of_getElem? (i := 168) (by decide +kernel))) (by decide +kernel)
theorem m_4328253a : (.code y_Exact_first b_Exact_first 1 (some .int) : Cond) ∈ xt_tbl := xt_in (xt_t11 (List.mem_of_getElem? (i := 169) (by decide +kernel))) (by decide +kernel)
theorem m_7525be9c : (.methodLink "StackHostModel$Exact" 26 y_Exact_isIn : Cond) ∈ xt_tbl := xt_in (xt_t11 (List.mem_of_getElem? (i := 164) (by decide +kernel))) (by decide +kernel)
theorem m_6150176a : (.static y_Exact_isIn : Cond) ∈ xt_tbl := xt_in (xt_t11 (List.mem_of_getElem? (i := 165) (by decide +kernel))) (by decide +kernel)
theorem m_03fde057 : (.code y_Exact_isIn b_Exact_isIn 3 (some .boolean) : Cond) ∈ xt_tbl := xt_in (xt_t11 (List.mem_of_getElem? (i := 166) (by decide +kernel))) (by decide +kernel)
theorem nm_Exact_first : xt_nm y_Exact_first 1 := ⟨by decide +kernel, by decide +kernel⟩
theorem nm_Exact_isIn : xt_nm y_Exact_isIn 3 := ⟨by decide +kernel, by decide +kernel⟩
set_option maxRecDepth 100000 in
def T_Exact_second : List (Nat × Instr × Nat) := [(0, .iload_n 0, 1), (1, .bipush 70, 2), (3, .bipush 79, 2), (5, .invokestatic 26, 3), (8, .ifCond .ne 63, 3), (11, .iload_n 0, 1), (12, .bipush 81, 2), (14, .bipush 102, 2), (16, .invokestatic 26, 3), (19, .ifCond .ne 52, 3), (22, .iload_n 0, 1), (23, .bipush 106, 2), (25, .bipush 120, 2), (27, .invokestatic 26, 3), (30, .ifCond .ne 41, 3), (33, .iload_n 0, 1), (34, .bipush 124, 2), (36, .sipush 138, 3), (39, .invokestatic 26, 3), (42, .ifCond .ne 29, 3), (45, .iload_n 0, 1), (46, .sipush 146, 3), (49, .sipush 152, 3), (52, .invokestatic 26, 3), (55, .ifCond .ne 16, 3), (58, .iload_n 0, 1), (59, .sipush 160, 3), (62, .sipush 166, 3), (65, .invokestatic 26, 3), (68, .ifCond .eq 7, 3), (71, .iconst 1, 1), (72, .goto 4, 3), (75, .iconst 0, 1), (76, .istore_n 1, 1), (77, .iload_n 1, 1), (78, .ifCond .eq 10, 3), (81, .iload_n 0, 1), (82, .invokestatic 30, 3), (85, .goto 4, 3), (88, .iconst (-1), 1), (89, .ireturn, 1)]
theorem D_Exact_second : ∀ q ∈ T_Exact_second, decode b_Exact_second q.1 = .ok (q.2.1, q.2.2) := by decide +kernel
def w_Exact_second_L89 (Qr : Int32 → xb_H → Prop) (y0 : Int32) (h : xb_H) : Prop :=
    Qr y0 h

def w_Exact_second_L76 (Qr : Int32 → xb_H → Prop) (x0 : Int32) (y0 : Int32) (h : xb_H) : Prop :=
    ((y0 = (0 : Int32) → w_Exact_second_L89 Qr (-1) h) ∧ (¬ y0 = (0 : Int32) → w_Exact_first x0 h (fun (r3 : Int32) (h2 : xb_H) => xb_ext h h2 → w_Exact_second_L89 Qr r3 h2)))

def w_Exact_second_L71 (Qr : Int32 → xb_H → Prop) (x0 : Int32) (h : xb_H) : Prop :=
    w_Exact_second_L76 Qr x0 1 h

def w_Exact_second (x0 : Int32) (h : xb_H) (Qr : Int32 → xb_H → Prop) : Prop :=
    w_Exact_isIn x0 70 79 h (fun (r2 : Int32) (h1 : xb_H) => xb_ext h h1 → ((¬ r2 = (0 : Int32) → w_Exact_second_L71 Qr x0 h1) ∧ (r2 = (0 : Int32) → w_Exact_isIn x0 81 102 h1 (fun (r5 : Int32) (h4 : xb_H) => xb_ext h1 h4 → ((¬ r5 = (0 : Int32) → w_Exact_second_L71 Qr x0 h4) ∧ (r5 = (0 : Int32) → w_Exact_isIn x0 106 120 h4 (fun (r8 : Int32) (h7 : xb_H) => xb_ext h4 h7 → ((¬ r8 = (0 : Int32) → w_Exact_second_L71 Qr x0 h7) ∧ (r8 = (0 : Int32) → w_Exact_isIn x0 124 138 h7 (fun (r11 : Int32) (h10 : xb_H) => xb_ext h7 h10 → ((¬ r11 = (0 : Int32) → w_Exact_second_L71 Qr x0 h10) ∧ (r11 = (0 : Int32) → w_Exact_isIn x0 146 152 h10 (fun (r14 : Int32) (h13 : xb_H) => xb_ext h10 h13 → ((¬ r14 = (0 : Int32) → w_Exact_second_L71 Qr x0 h13) ∧ (r14 = (0 : Int32) → w_Exact_isIn x0 160 166 h13 (fun (r17 : Int32) (h16 : xb_H) => xb_ext h13 h16 → ((r17 = (0 : Int32) → w_Exact_second_L76 Qr x0 0 h16) ∧ (¬ r17 = (0 : Int32) → w_Exact_second_L71 Qr x0 h16))))))))))))))))))

set_option maxHeartbeats 4000000 in
set_option maxRecDepth 100000 in
theorem am_Exact_second_L89 (l : Launch) (hfl : l.flags = pinnedFlags ++ [noTraceFlag]) (D : va_G) (A : Nat → Prop) (σ MC MS : Nat) (h0 : xb_H) (Qr : Int32 → xb_H → Prop) (y0 : Int32) (h : xb_H) (hw : w_Exact_second_L89 Qr y0 h) : xb_am l D A σ 4 MC MS h0 (fun v h => ∃ r, v = some (.int r) ∧ Qr r h) (fun _ _ => False) y_Exact_second.cls y_Exact_second.name b_Exact_second 2 ([] : List ExceptionTableEntry) (some .int) 89 [] [.int y0] h 0 0 := by
  unfold w_Exact_second_L89 at hw
  intro p e s m args below meth c hC H locs ls k n hE hl hR hS hk hn
  obtain ⟨hx, hb, hown, hlocks, htab, hml, hr, hB, hA, hnm⟩ := id hC
  have hts := hB.1.1.at args
  exact xb_iret hx hb hr hlocks (show k ≤ MC by omega) (show n ≤ MS by omega) hE hR hS (xb_d D_Exact_second 40 rfl) hw

set_option maxHeartbeats 4000000 in
set_option maxRecDepth 100000 in
theorem am_Exact_second_L76 (l : Launch) (hfl : l.flags = pinnedFlags ++ [noTraceFlag]) (D : va_G) (A : Nat → Prop) (σ MC MS : Nat) (h0 : xb_H) (Qr : Int32 → xb_H → Prop) (x0 : Int32) (y0 : Int32) (h : xb_H) (hw : w_Exact_second_L76 Qr x0 y0 h) : xb_am l D A σ 4 MC MS h0 (fun v h => ∃ r, v = some (.int r) ∧ Qr r h) (fun _ _ => False) y_Exact_second.cls y_Exact_second.name b_Exact_second 2 ([] : List ExceptionTableEntry) (some .int) 76 [(0, .int x0)] [.int y0] h 0 0 := by
  unfold w_Exact_second_L76 at hw
  intro p e s m args below meth c hC H locs ls k n hE hl hR hS hk hn
  obtain ⟨hx, hb, hown, hlocks, htab, hml, hr, hB, hA, hnm⟩ := id hC
  have hts := hB.1.1.at args
  refine lv_istore_n hx hb (xb_d D_Exact_second 33 rfl) rfl hl (by decide) rfl (fun ls hl => ?_)
  have hl : lv_has ls 2 [(1, .int y0), (0, .int x0)] := hl
  refine lv_iload_n hx hb (xb_d D_Exact_second 34 rfl) rfl (lv_at hl 0 rfl) ?_
  refine lv_if_eq (tgt := 88) hx hb (xb_d D_Exact_second 35 rfl) rfl (fun hc1 => ?_) (fun hc1 => ?_)
  · have hw := hw.1 hc1
    refine lv_iconst (v := (-1)) hx hb (xb_d D_Exact_second 39 rfl) (by decide) ?_
    exact am_Exact_second_L89 l hfl D A σ MC MS h0 Qr (-1) h hw p e s m args below meth c hC H locs ls k n hE (lv_sub hl [] rfl) hR hS (by omega) (by omega)
  · have hw := hw.2 hc1
    refine lv_iload_n hx hb (xb_d D_Exact_second 36 rfl) rfl (lv_at hl 1 rfl) ?_
    refine xb_call (D := D) (A := A) (σ := σ) (h := h) (d := 3) (mc := 0) (ms := 0) (maxL := 1) (rest := []) (av := [.int x0]) (fun T hT X => xt_invS X hx hown (hts _ m_03c53ef9) (hts _ m_69a81f16) (hts _ m_b807310b) (xt_sgS (hts _ m_4328253a)).1 (xt_sgS (hts _ m_4328253a)).2 nm_Exact_first (g := F0 m 82 ls [.int x0]) rfl (argsL := [.int x0]) (rest := []) rfl rfl (by rw [hb]; exact (xb_d D_Exact_second 37 rfl))) (ok_Exact_first l hfl D A σ x0 h _ hw) (hml.trans hl.1.symm) (by rw [hb]; exact (xb_d D_Exact_second 37 rfl)) (Nat.le_of_ble_eq_true rfl) (Nat.le_of_ble_eq_true rfl) (Nat.le_of_ble_eq_true rfl) (show k + 0 ≤ MC by omega) (show n + 0 ≤ MS by omega) (xt_w1 hB.1 m_4328253a) (xt_cdOf hB.1 m_4328253a) (hts _ m_b807310b) hB hR hS hA (fun vv h2 H locs hq hEh2 hR hS => ?_) (fun XX ax h2 H locs hq hEh2 hex hR hS => ?_)
    · obtain ⟨r3, rfl, hw⟩ := hq
      have hw := hw hEh2
      have hE := hE.tr hEh2
      refine W.eq (g2 := F0 m 85 ls [.int r3]) rfl ?_
      refine lv_goto (tgt := 89) hx hb (xb_d D_Exact_second 38 rfl) rfl ?_
      exact am_Exact_second_L89 l hfl D A σ MC MS h0 Qr r3 h2 hw p e s m args below meth c hC H locs ls k n hE (lv_sub hl [] rfl) hR hS (by omega) (by omega)
    · exact False.elim hq

set_option maxHeartbeats 4000000 in
set_option maxRecDepth 100000 in
theorem am_Exact_second_L71 (l : Launch) (hfl : l.flags = pinnedFlags ++ [noTraceFlag]) (D : va_G) (A : Nat → Prop) (σ MC MS : Nat) (h0 : xb_H) (Qr : Int32 → xb_H → Prop) (x0 : Int32) (h : xb_H) (hw : w_Exact_second_L71 Qr x0 h) : xb_am l D A σ 4 MC MS h0 (fun v h => ∃ r, v = some (.int r) ∧ Qr r h) (fun _ _ => False) y_Exact_second.cls y_Exact_second.name b_Exact_second 2 ([] : List ExceptionTableEntry) (some .int) 71 [(0, .int x0)] [] h 0 0 := by
  unfold w_Exact_second_L71 at hw
  intro p e s m args below meth c hC H locs ls k n hE hl hR hS hk hn
  obtain ⟨hx, hb, hown, hlocks, htab, hml, hr, hB, hA, hnm⟩ := id hC
  have hts := hB.1.1.at args
  refine lv_iconst (v := 1) hx hb (xb_d D_Exact_second 30 rfl) (by decide) ?_
  refine lv_goto (tgt := 76) hx hb (xb_d D_Exact_second 31 rfl) rfl ?_
  exact am_Exact_second_L76 l hfl D A σ MC MS h0 Qr x0 1 h hw p e s m args below meth c hC H locs ls k n hE (lv_sub hl [0] rfl) hR hS (by omega) (by omega)

set_option maxHeartbeats 4000000 in
set_option maxRecDepth 100000 in
theorem ok_Exact_second (l : Launch) (hfl : l.flags = pinnedFlags ++ [noTraceFlag]) (D : va_G) (A : Nat → Prop) (σ : Nat) (x0 : Int32) (h : xb_H) (Qr : Int32 → xb_H → Prop) (hw : w_Exact_second x0 h Qr) : xt_Met l y_Exact_second [.code y_Exact_second b_Exact_second 2 (some .int)] (xb_rm 4 0 0) (xb_Pc D A σ h [.int x0]) (xb_Qc D A h (fun v h => ∃ r, v = some (.int r) ∧ Qr r h) (fun _ _ => False)) 0 0 A := by
  refine xb_ofAm (cc := b_Exact_second) (by decide) (Nat.le_of_ble_eq_true rfl) ?_
  unfold w_Exact_second at hw
  show xb_am l D A σ 4 0 0 h (fun v h => ∃ r, v = some (.int r) ∧ Qr r h) (fun _ _ => False) y_Exact_second.cls y_Exact_second.name b_Exact_second 2 ([] : List ExceptionTableEntry) (some .int) 0 [(0, .int x0)] [] h 0 0
  obtain ⟨MC, hMC⟩ : ∃ x, x = 0 := ⟨_, rfl⟩
  obtain ⟨MS, hMS⟩ : ∃ x, x = 0 := ⟨_, rfl⟩
  rw [show xb_am l D A σ 4 0 0 = xb_am l D A σ 4 MC MS by rw [hMC, hMS]]
  obtain ⟨h0, hh0⟩ : ∃ x, x = h := ⟨_, rfl⟩
  rw [show xb_am l D A σ 4 MC MS h = xb_am l D A σ 4 MC MS h0 by rw [hh0]]
  intro p e s m args below meth c hC H locs ls k n hE hl hR hS hk hn
  obtain ⟨hx, hb, hown, hlocks, htab, hml, hr, hB, hA, hnm⟩ := id hC
  have hts := hB.1.1.at args
  refine lv_iload_n hx hb (xb_d D_Exact_second 0 rfl) rfl (lv_at hl 0 rfl) ?_
  refine lv_bipush (v := 70) hx hb (xb_d D_Exact_second 1 rfl) (by decide) ?_
  refine lv_bipush (v := 79) hx hb (xb_d D_Exact_second 2 rfl) (by decide) ?_
  refine xb_call (D := D) (A := A) (σ := σ) (h := h) (d := 2) (mc := 0) (ms := 0) (maxL := 3) (rest := []) (av := [.int x0, .int 70, .int 79]) (fun T hT X => xt_invS X hx hown (hts _ m_7525be9c) (hts _ m_6150176a) (hts _ m_b807310b) (xt_sgS (hts _ m_03fde057)).1 (xt_sgS (hts _ m_03fde057)).2 nm_Exact_isIn (g := F0 m 5 ls [.int 79, .int 70, .int x0]) rfl (argsL := [.int x0, .int 70, .int 79]) (rest := []) rfl rfl (by rw [hb]; exact (xb_d D_Exact_second 3 rfl))) (ok_Exact_isIn l hfl D A σ x0 70 79 h _ hw) (hml.trans hl.1.symm) (by rw [hb]; exact (xb_d D_Exact_second 3 rfl)) (Nat.le_of_ble_eq_true rfl) (Nat.le_of_ble_eq_true rfl) (Nat.le_of_ble_eq_true rfl) (show k + 0 ≤ MC by omega) (show n + 0 ≤ MS by omega) (xt_w1 hB.1 m_03fde057) (xt_cdOf hB.1 m_03fde057) (hts _ m_b807310b) hB hR hS hA (fun vv h1 H locs hq hEh1 hR hS => ?_) (fun XX ax h1 H locs hq hEh1 hex hR hS => ?_)
  · obtain ⟨r2, rfl, hw⟩ := hq
    have hw := hw hEh1
    have hE := hE.tr hEh1
    refine W.eq (g2 := F0 m 8 ls [.int r2]) rfl ?_
    refine lv_if_ne (tgt := 71) hx hb (xb_d D_Exact_second 4 rfl) rfl (fun hc3 => ?_) (fun hc3 => ?_)
    · have hw := hw.1 hc3
      exact am_Exact_second_L71 l hfl D A σ MC MS h0 Qr x0 h1 hw p e s m args below meth c hC H locs ls k n hE (lv_sub hl [0] rfl) hR hS (by omega) (by omega)
    · have hw := hw.2 hc3
      refine lv_iload_n hx hb (xb_d D_Exact_second 5 rfl) rfl (lv_at hl 0 rfl) ?_
      refine lv_bipush (v := 81) hx hb (xb_d D_Exact_second 6 rfl) (by decide) ?_
      refine lv_bipush (v := 102) hx hb (xb_d D_Exact_second 7 rfl) (by decide) ?_
      refine xb_call (D := D) (A := A) (σ := σ) (h := h1) (d := 2) (mc := 0) (ms := 0) (maxL := 3) (rest := []) (av := [.int x0, .int 81, .int 102]) (fun T hT X => xt_invS X hx hown (hts _ m_7525be9c) (hts _ m_6150176a) (hts _ m_b807310b) (xt_sgS (hts _ m_03fde057)).1 (xt_sgS (hts _ m_03fde057)).2 nm_Exact_isIn (g := F0 m 16 ls [.int 102, .int 81, .int x0]) rfl (argsL := [.int x0, .int 81, .int 102]) (rest := []) rfl rfl (by rw [hb]; exact (xb_d D_Exact_second 8 rfl))) (ok_Exact_isIn l hfl D A σ x0 81 102 h1 _ hw) (hml.trans hl.1.symm) (by rw [hb]; exact (xb_d D_Exact_second 8 rfl)) (Nat.le_of_ble_eq_true rfl) (Nat.le_of_ble_eq_true rfl) (Nat.le_of_ble_eq_true rfl) (show k + 0 ≤ MC by omega) (show n + 0 ≤ MS by omega) (xt_w1 hB.1 m_03fde057) (xt_cdOf hB.1 m_03fde057) (hts _ m_b807310b) hB hR hS hA (fun vv h4 H locs hq hEh4 hR hS => ?_) (fun XX ax h4 H locs hq hEh4 hex hR hS => ?_)
      · obtain ⟨r5, rfl, hw⟩ := hq
        have hw := hw hEh4
        have hE := hE.tr hEh4
        refine W.eq (g2 := F0 m 19 ls [.int r5]) rfl ?_
        refine lv_if_ne (tgt := 71) hx hb (xb_d D_Exact_second 9 rfl) rfl (fun hc6 => ?_) (fun hc6 => ?_)
        · have hw := hw.1 hc6
          exact am_Exact_second_L71 l hfl D A σ MC MS h0 Qr x0 h4 hw p e s m args below meth c hC H locs ls k n hE (lv_sub hl [0] rfl) hR hS (by omega) (by omega)
        · have hw := hw.2 hc6
          refine lv_iload_n hx hb (xb_d D_Exact_second 10 rfl) rfl (lv_at hl 0 rfl) ?_
          refine lv_bipush (v := 106) hx hb (xb_d D_Exact_second 11 rfl) (by decide) ?_
          refine lv_bipush (v := 120) hx hb (xb_d D_Exact_second 12 rfl) (by decide) ?_
          refine xb_call (D := D) (A := A) (σ := σ) (h := h4) (d := 2) (mc := 0) (ms := 0) (maxL := 3) (rest := []) (av := [.int x0, .int 106, .int 120]) (fun T hT X => xt_invS X hx hown (hts _ m_7525be9c) (hts _ m_6150176a) (hts _ m_b807310b) (xt_sgS (hts _ m_03fde057)).1 (xt_sgS (hts _ m_03fde057)).2 nm_Exact_isIn (g := F0 m 27 ls [.int 120, .int 106, .int x0]) rfl (argsL := [.int x0, .int 106, .int 120]) (rest := []) rfl rfl (by rw [hb]; exact (xb_d D_Exact_second 13 rfl))) (ok_Exact_isIn l hfl D A σ x0 106 120 h4 _ hw) (hml.trans hl.1.symm) (by rw [hb]; exact (xb_d D_Exact_second 13 rfl)) (Nat.le_of_ble_eq_true rfl) (Nat.le_of_ble_eq_true rfl) (Nat.le_of_ble_eq_true rfl) (show k + 0 ≤ MC by omega) (show n + 0 ≤ MS by omega) (xt_w1 hB.1 m_03fde057) (xt_cdOf hB.1 m_03fde057) (hts _ m_b807310b) hB hR hS hA (fun vv h7 H locs hq hEh7 hR hS => ?_) (fun XX ax h7 H locs hq hEh7 hex hR hS => ?_)
          · obtain ⟨r8, rfl, hw⟩ := hq
            have hw := hw hEh7
            have hE := hE.tr hEh7
            refine W.eq (g2 := F0 m 30 ls [.int r8]) rfl ?_
            refine lv_if_ne (tgt := 71) hx hb (xb_d D_Exact_second 14 rfl) rfl (fun hc9 => ?_) (fun hc9 => ?_)
            · have hw := hw.1 hc9
              exact am_Exact_second_L71 l hfl D A σ MC MS h0 Qr x0 h7 hw p e s m args below meth c hC H locs ls k n hE (lv_sub hl [0] rfl) hR hS (by omega) (by omega)
            · have hw := hw.2 hc9
              refine lv_iload_n hx hb (xb_d D_Exact_second 15 rfl) rfl (lv_at hl 0 rfl) ?_
              refine lv_bipush (v := 124) hx hb (xb_d D_Exact_second 16 rfl) (by decide) ?_
              refine lv_sipush (v := 138) hx hb (xb_d D_Exact_second 17 rfl) (by decide) ?_
              refine xb_call (D := D) (A := A) (σ := σ) (h := h7) (d := 2) (mc := 0) (ms := 0) (maxL := 3) (rest := []) (av := [.int x0, .int 124, .int 138]) (fun T hT X => xt_invS X hx hown (hts _ m_7525be9c) (hts _ m_6150176a) (hts _ m_b807310b) (xt_sgS (hts _ m_03fde057)).1 (xt_sgS (hts _ m_03fde057)).2 nm_Exact_isIn (g := F0 m 39 ls [.int 138, .int 124, .int x0]) rfl (argsL := [.int x0, .int 124, .int 138]) (rest := []) rfl rfl (by rw [hb]; exact (xb_d D_Exact_second 18 rfl))) (ok_Exact_isIn l hfl D A σ x0 124 138 h7 _ hw) (hml.trans hl.1.symm) (by rw [hb]; exact (xb_d D_Exact_second 18 rfl)) (Nat.le_of_ble_eq_true rfl) (Nat.le_of_ble_eq_true rfl) (Nat.le_of_ble_eq_true rfl) (show k + 0 ≤ MC by omega) (show n + 0 ≤ MS by omega) (xt_w1 hB.1 m_03fde057) (xt_cdOf hB.1 m_03fde057) (hts _ m_b807310b) hB hR hS hA (fun vv h10 H locs hq hEh10 hR hS => ?_) (fun XX ax h10 H locs hq hEh10 hex hR hS => ?_)
              · obtain ⟨r11, rfl, hw⟩ := hq
                have hw := hw hEh10
                have hE := hE.tr hEh10
                refine W.eq (g2 := F0 m 42 ls [.int r11]) rfl ?_
                refine lv_if_ne (tgt := 71) hx hb (xb_d D_Exact_second 19 rfl) rfl (fun hc12 => ?_) (fun hc12 => ?_)
                · have hw := hw.1 hc12
                  exact am_Exact_second_L71 l hfl D A σ MC MS h0 Qr x0 h10 hw p e s m args below meth c hC H locs ls k n hE (lv_sub hl [0] rfl) hR hS (by omega) (by omega)
                · have hw := hw.2 hc12
                  refine lv_iload_n hx hb (xb_d D_Exact_second 20 rfl) rfl (lv_at hl 0 rfl) ?_
                  refine lv_sipush (v := 146) hx hb (xb_d D_Exact_second 21 rfl) (by decide) ?_
                  refine lv_sipush (v := 152) hx hb (xb_d D_Exact_second 22 rfl) (by decide) ?_
                  refine xb_call (D := D) (A := A) (σ := σ) (h := h10) (d := 2) (mc := 0) (ms := 0) (maxL := 3) (rest := []) (av := [.int x0, .int 146, .int 152]) (fun T hT X => xt_invS X hx hown (hts _ m_7525be9c) (hts _ m_6150176a) (hts _ m_b807310b) (xt_sgS (hts _ m_03fde057)).1 (xt_sgS (hts _ m_03fde057)).2 nm_Exact_isIn (g := F0 m 52 ls [.int 152, .int 146, .int x0]) rfl (argsL := [.int x0, .int 146, .int 152]) (rest := []) rfl rfl (by rw [hb]; exact (xb_d D_Exact_second 23 rfl))) (ok_Exact_isIn l hfl D A σ x0 146 152 h10 _ hw) (hml.trans hl.1.symm) (by rw [hb]; exact (xb_d D_Exact_second 23 rfl)) (Nat.le_of_ble_eq_true rfl) (Nat.le_of_ble_eq_true rfl) (Nat.le_of_ble_eq_true rfl) (show k + 0 ≤ MC by omega) (show n + 0 ≤ MS by omega) (xt_w1 hB.1 m_03fde057) (xt_cdOf hB.1 m_03fde057) (hts _ m_b807310b) hB hR hS hA (fun vv h13 H locs hq hEh13 hR hS => ?_) (fun XX ax h13 H locs hq hEh13 hex hR hS => ?_)
                  · obtain ⟨r14, rfl, hw⟩ := hq
                    have hw := hw hEh13
                    have hE := hE.tr hEh13
                    refine W.eq (g2 := F0 m 55 ls [.int r14]) rfl ?_
                    refine lv_if_ne (tgt := 71) hx hb (xb_d D_Exact_second 24 rfl) rfl (fun hc15 => ?_) (fun hc15 => ?_)
                    · have hw := hw.1 hc15
                      exact am_Exact_second_L71 l hfl D A σ MC MS h0 Qr x0 h13 hw p e s m args below meth c hC H locs ls k n hE (lv_sub hl [0] rfl) hR hS (by omega) (by omega)
                    · have hw := hw.2 hc15
                      refine lv_iload_n hx hb (xb_d D_Exact_second 25 rfl) rfl (lv_at hl 0 rfl) ?_
                      refine lv_sipush (v := 160) hx hb (xb_d D_Exact_second 26 rfl) (by decide) ?_
                      refine lv_sipush (v := 166) hx hb (xb_d D_Exact_second 27 rfl) (by decide) ?_
                      refine xb_call (D := D) (A := A) (σ := σ) (h := h13) (d := 2) (mc := 0) (ms := 0) (maxL := 3) (rest := []) (av := [.int x0, .int 160, .int 166]) (fun T hT X => xt_invS X hx hown (hts _ m_7525be9c) (hts _ m_6150176a) (hts _ m_b807310b) (xt_sgS (hts _ m_03fde057)).1 (xt_sgS (hts _ m_03fde057)).2 nm_Exact_isIn (g := F0 m 65 ls [.int 166, .int 160, .int x0]) rfl (argsL := [.int x0, .int 160, .int 166]) (rest := []) rfl rfl (by rw [hb]; exact (xb_d D_Exact_second 28 rfl))) (ok_Exact_isIn l hfl D A σ x0 160 166 h13 _ hw) (hml.trans hl.1.symm) (by rw [hb]; exact (xb_d D_Exact_second 28 rfl)) (Nat.le_of_ble_eq_true rfl) (Nat.le_of_ble_eq_true rfl) (Nat.le_of_ble_eq_true rfl) (show k + 0 ≤ MC by omega) (show n + 0 ≤ MS by omega) (xt_w1 hB.1 m_03fde057) (xt_cdOf hB.1 m_03fde057) (hts _ m_b807310b) hB hR hS hA (fun vv h16 H locs hq hEh16 hR hS => ?_) (fun XX ax h16 H locs hq hEh16 hex hR hS => ?_)
                      · obtain ⟨r17, rfl, hw⟩ := hq
                        have hw := hw hEh16
                        have hE := hE.tr hEh16
                        refine W.eq (g2 := F0 m 68 ls [.int r17]) rfl ?_
                        refine lv_if_eq (tgt := 75) hx hb (xb_d D_Exact_second 29 rfl) rfl (fun hc18 => ?_) (fun hc18 => ?_)
                        · have hw := hw.1 hc18
                          refine lv_iconst (v := 0) hx hb (xb_d D_Exact_second 32 rfl) (by decide) ?_
                          exact am_Exact_second_L76 l hfl D A σ MC MS h0 Qr x0 0 h16 hw p e s m args below meth c hC H locs ls k n hE (lv_sub hl [0] rfl) hR hS (by omega) (by omega)
                        · have hw := hw.2 hc18
                          exact am_Exact_second_L71 l hfl D A σ MC MS h0 Qr x0 h16 hw p e s m args below meth c hC H locs ls k n hE (lv_sub hl [0] rfl) hR hS (by omega) (by omega)
                      · exact False.elim hq
                  · exact False.elim hq
              · exact False.elim hq
          · exact False.elim hq
      · exact False.elim hq
  · exact False.elim hq

theorem m_e26b0532 : (.methodLink "StackHost" 220 y_StackModule_exportNamed : Cond) ∈ xt_tbl := xt_in (xt_t7 (List.mem_of_getElem? (i := 145) (by decide +kernel))) (by decide +kernel)
theorem m_56ec8fb6 : (.instanceMethod y_StackModule_exportNamed : Cond) ∈ xt_tbl := xt_in (xt_t6 (List.mem_of_getElem? (i := 157) (by decide +kernel))) (by decide +kernel)
theorem m_b1e53fc5 : (.selects "StackHost$StackModule" y_StackModule_exportNamed y_StackModule_exportNamed : Cond) ∈ xt_tbl := xt_in (xt_t6 (List.mem_of_getElem? (i := 158) (by decide +kernel))) (by decide +kernel)
theorem m_bdadcc5e : (.code y_StackModule_exportNamed b_StackModule_exportNamed 4 (some .int) : Cond) ∈ xt_tbl := xt_in (xt_t6 (List.mem_of_getElem? (i := 159) (by decide +kernel))) (by decide +kernel)
theorem nm_StackModule_exportNamed : xt_nm y_StackModule_exportNamed 3 := ⟨by decide +kernel, by decide +kernel⟩
set_option maxRecDepth 100000 in
def T_H_find : List (Nat × Instr × Nat) := [(0, .aload_n 0, 1), (1, .iload_n 1, 1), (2, .invokevirtual 200, 3), (5, .astore_n 2, 1), (6, .aload_n 0, 1), (7, .getfield 58, 3), (10, .istore_n 3, 1), (11, .aload_n 0, 1), (12, .iconst 0, 1), (13, .putfield 58, 3), (16, .aload_n 2, 1), (17, .getfield 216, 3), (20, .aload_n 0, 1), (21, .getfield 9, 3), (24, .iconst 0, 1), (25, .iload_n 3, 1), (26, .invokevirtual 220, 3), (29, .ireturn, 1)]
theorem D_H_find : ∀ q ∈ T_H_find, decode b_H_find q.1 = .ok (q.2.1, q.2.2) := by decide +kernel
def w_H_find (x0 : Nat) (x1 : Int32) (h : xb_H) (bc : Nat) (bs : Nat) (Qr : Int32 → xb_H → Prop) (Qt : String → xb_H → Prop) : Prop :=
    xb_k h x0 = 1 ∧ ∃ c4 sc4 : Nat, c4 ≤ bc ∧ sc4 ≤ bs ∧ w_H_instanceNumbered x0 x1 h c4 sc4 (fun (r3 : Nat) (h2 : xb_H) => xb_ext h h2 → ∀ v5 : Int32, v5 = (xb_i h2 x0 1) → ∀ h6 : xb_H, h6 = xb_I h2 x0 1 0 → xb_k h6 r3 = 11 ∧ ∃ b8 : Nat, (xb_r h6 r3 1) = some b8 ∧ ∃ b9 : Nat, (xb_r h6 x0 0) = some b9 ∧ xb_k h6 b8 = 3 ∧ w_StackModule_exportNamed b8 b9 0 v5 h6 (fun (r12 : Int32) (h11 : xb_H) => xb_ext h6 h11 → Qr r12 h11)) Qt

set_option maxHeartbeats 4000000 in
set_option maxRecDepth 100000 in
theorem ok_H_find (l : Launch) (hfl : l.flags = pinnedFlags ++ [noTraceFlag]) (D : va_G) (A : Nat → Prop) (σ : Nat) (x0 : Nat) (x1 : Int32) (h : xb_H) (bc : Nat) (bs : Nat) (Qr : Int32 → xb_H → Prop) (Qt : String → xb_H → Prop) (hw : w_H_find x0 x1 h bc bs Qr Qt) : xt_Met l y_H_find [.code y_H_find b_H_find 4 (some .int)] (xb_rm 5 bc bs) (xb_Pc D A σ h [.ref x0, .int x1]) (xb_Qc D A h (fun v h => ∃ r, v = some (.int r) ∧ Qr r h) Qt) bc bs A := by
  refine xb_ofAm (cc := b_H_find) (by decide) (Nat.le_of_ble_eq_true rfl) ?_
  unfold w_H_find at hw
  show xb_am l D A σ 5 bc bs h (fun v h => ∃ r, v = some (.int r) ∧ Qr r h) Qt y_H_find.cls y_H_find.name b_H_find 4 ([] : List ExceptionTableEntry) (some .int) 0 [(0, .ref x0), (1, .int x1)] [] h bc bs
  obtain ⟨MC, hMC⟩ : ∃ x, x = bc := ⟨_, rfl⟩
  obtain ⟨MS, hMS⟩ : ∃ x, x = bs := ⟨_, rfl⟩
  rw [show xb_am l D A σ 5 bc bs = xb_am l D A σ 5 MC MS by rw [hMC, hMS]]
  obtain ⟨h0, hh0⟩ : ∃ x, x = h := ⟨_, rfl⟩
  rw [show xb_am l D A σ 5 MC MS h = xb_am l D A σ 5 MC MS h0 by rw [hh0]]
  intro p e s m args below meth c hC H locs ls k n hE hl hR hS hk hn
  obtain ⟨hx, hb, hown, hlocks, htab, hml, hr, hB, hA, hnm⟩ := id hC
  have hts := hB.1.1.at args
  refine lv_aload_n hx hb (xb_d D_H_find 0 rfl) rfl (lv_at hl 0 rfl) ?_
  refine lv_iload_n hx hb (xb_d D_H_find 1 rfl) rfl (lv_at hl 1 rfl) ?_
  obtain ⟨hk1, hw⟩ := hw
  obtain ⟨c4, sc4, hlc4, hlsc4, hw⟩ := hw
  refine xb_call (D := D) (A := A) (σ := σ) (h := h) (d := 2) (mc := c4) (ms := sc4) (maxL := 2) (rest := []) (av := [.ref x0, .int x1]) (fun T hT X => by obtain ⟨cb, r1, r2, r3⟩ := xb_recv (ci := 0) hR rfl hk1 (by decide); exact xt_invV X hx hown (hts _ m_63e9a525) (hts _ m_93abae91) (hts _ m_f44e4f6a) (xt_sigOf (hts _ m_925de4f3)) nm_H_instanceNumbered (by rw [hT]; exact r1) r2 r3 (g := F0 m 2 ls [.int x1, .ref x0]) rfl (argsL := [.int x1]) (rest := []) rfl rfl (by rw [hb]; exact (xb_d D_H_find 2 rfl))) (ok_H_instanceNumbered l hfl D A σ x0 x1 h c4 sc4 _ _ hw) (hml.trans hl.1.symm) (by rw [hb]; exact (xb_d D_H_find 2 rfl)) (Nat.le_of_ble_eq_true rfl) (Nat.le_of_ble_eq_true rfl) (Nat.le_of_ble_eq_true rfl) (show k + c4 ≤ MC by omega) (show n + sc4 ≤ MS by omega) (xt_w1 hB.1 m_925de4f3) (xt_cdOf hB.1 m_925de4f3) (hts _ m_ba0734f5) hB hR hS hA (fun vv h2 H locs hq hEh2 hR hS => ?_) (fun XX ax h2 H locs hq hEh2 hex hR hS => ?_)
  · obtain ⟨r3, rfl, hw⟩ := hq
    have hw := hw hEh2
    have hE := hE.tr hEh2
    refine W.eq (g2 := F0 m 5 ls [.ref r3]) rfl ?_
    refine lv_astore_n hx hb (xb_d D_H_find 3 rfl) rfl hl (by decide) rfl (fun ls hl => ?_)
    have hl : lv_has ls 4 [(2, .ref r3), (0, .ref x0), (1, .int x1)] := hl
    refine lv_aload_n hx hb (xb_d D_H_find 4 rfl) rfl (lv_at hl 1 rfl) ?_
    have hk1 : xb_k h2 x0 = 1 := hEh2.k hk1
    refine xb_getI (C := R_H) (T := F_H) (N := 11) hx hb 0 1 hts fin_H hown hR hk1 (by decide) rfl (by decide) rfl (hts _ m_1ee8d2b8) (fun _ h9 => h9) (xb_d D_H_find 5 rfl) ?_
    obtain ⟨v5, ev5⟩ : ∃ x : Int32, x = (xb_i h2 x0 1) := ⟨_, rfl⟩
    have hw := hw v5 ev5
    refine xt_numi (y := v5) ev5.symm ?_
    refine lv_istore_n hx hb (xb_d D_H_find 6 rfl) rfl hl (by decide) rfl (fun ls hl => ?_)
    have hl : lv_has ls 4 [(3, .int v5), (2, .ref r3), (0, .ref x0), (1, .int x1)] := hl
    refine lv_aload_n hx hb (xb_d D_H_find 7 rfl) rfl (lv_at hl 2 rfl) ?_
    refine lv_iconst (v := 0) hx hb (xb_d D_H_find 8 rfl) (by decide) ?_
    refine xb_putI (C := R_H) (T := F_H) (N := 11) (ty := .int) (x := 0) hx hb 0 1 hts fin_H t_H t_H_ok n_H hown hR hS hk1 (by decide) rfl (by decide) rfl (hts _ m_1ee8d2b8) (fun _ h9 => h9) rfl (by decide +kernel) rfl rfl (xb_d D_H_find 9 rfl) (fun H locs hR hS => ?_)
    obtain ⟨h6, eh6⟩ : ∃ x : xb_H, x = xb_I h2 x0 1 0 := ⟨_, rfl⟩
    rw [← eh6] at hR
    have hw := hw h6 eh6
    have hE : xb_ext h0 h6 := by rw [eh6]; exact hE
    refine lv_aload_n hx hb (xb_d D_H_find 10 rfl) rfl (lv_at hl 1 rfl) ?_
    obtain ⟨hk7, hw⟩ := hw
    refine xb_getP (C := R_Instance) (T := F_Instance) (N := 8) hx hb 10 1 hts fin_Instance hown hR hk7 (by decide) rfl (by decide) rfl (hts _ m_105e0328) (fun _ h9 => h9) (xb_d D_H_find 11 rfl) ?_
    obtain ⟨b8, eb8, hw⟩ := hw
    refine xb_some eb8 ?_
    refine lv_aload_n hx hb (xb_d D_H_find 12 rfl) rfl (lv_at hl 2 rfl) ?_
    have hk1 : xb_k h6 x0 = 1 := by rw [eh6]; exact hk1
    refine xb_getP (C := R_H) (T := F_H) (N := 11) hx hb 0 0 hts fin_H hown hR hk1 (by decide) rfl (by decide) rfl (hts _ m_4570233e) (fun _ h9 => h9) (xb_d D_H_find 13 rfl) ?_
    obtain ⟨b9, eb9, hw⟩ := hw
    refine xb_some eb9 ?_
    refine lv_iconst (v := 0) hx hb (xb_d D_H_find 14 rfl) (by decide) ?_
    refine lv_iload_n hx hb (xb_d D_H_find 15 rfl) rfl (lv_at hl 0 rfl) ?_
    obtain ⟨hk10, hw⟩ := hw
    refine xb_call (D := D) (A := A) (σ := σ) (h := h6) (d := 4) (mc := 0) (ms := 0) (maxL := 4) (rest := []) (av := [.ref b8, .ref b9, .int 0, .int v5]) (fun T hT X => by obtain ⟨cb, r1, r2, r3⟩ := xb_recv (ci := 2) hR rfl hk10 (by decide); exact xt_invV X hx hown (hts _ m_e26b0532) (hts _ m_56ec8fb6) (hts _ m_b1e53fc5) (xt_sigOf (hts _ m_bdadcc5e)) nm_StackModule_exportNamed (by rw [hT]; exact r1) r2 r3 (g := F0 m 26 ls [.int v5, .int 0, .ref b9, .ref b8]) rfl (argsL := [.ref b9, .int 0, .int v5]) (rest := []) rfl rfl (by rw [hb]; exact (xb_d D_H_find 16 rfl))) (ok_StackModule_exportNamed l hfl D A σ b8 b9 0 v5 h6 _ hw) (hml.trans hl.1.symm) (by rw [hb]; exact (xb_d D_H_find 16 rfl)) (Nat.le_of_ble_eq_true rfl) (Nat.le_of_ble_eq_true rfl) (Nat.le_of_ble_eq_true rfl) (show (k + c4) + 0 ≤ MC by omega) (show (n + sc4) + 0 ≤ MS by omega) (xt_w1 hB.1 m_bdadcc5e) (xt_cdOf hB.1 m_bdadcc5e) (hts _ m_9c375545) hB hR hS hA (fun vv h11 H locs hq hEh11 hR hS => ?_) (fun XX ax h11 H locs hq hEh11 hex hR hS => ?_)
    · obtain ⟨r12, rfl, hw⟩ := hq
      have hw := hw hEh11
      have hE := hE.tr hEh11
      refine W.eq (g2 := F0 m 29 ls [.int r12]) rfl ?_
      exact xb_iret hx hb hr hlocks (show (k + c4) ≤ MC by omega) (show (n + sc4) ≤ MS by omega) hE hR hS (xb_d D_H_find 17 rfl) hw
    · exact False.elim hq
  · exact xb_pass hlocks (fun x hx9 => by rw [htab] at hx9; first | cases hx9 | (simp [tableOf] at hx9; rcases hx9 with rfl | rfl | rfl <;> decide)) (show (k + c4) ≤ MC by omega) (show (n + sc4) ≤ MS by omega) (hE.tr hEh2) hR hS hex hq

