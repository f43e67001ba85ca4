theorem m_e7d6b62e : (.methodLink "StackHost$Format" 42 y_Format_isNan : Cond) ∈ xt_tbl := xt_in (xt_t8 (List.mem_of_getElem? (i := 24) (by decide +kernel))) (by decide +kernel)
theorem m_28f89ecd : (.instanceMethod y_Format_isNan : Cond) ∈ xt_tbl := xt_in (xt_t8 (List.mem_of_getElem? (i := 26) (by decide +kernel))) (by decide +kernel)
theorem m_79f90d13 : (.selects "StackHost$Format" y_Format_isNan y_Format_isNan : Cond) ∈ xt_tbl := xt_in (xt_v7 (q := (⟨"StackHost$Format", "isNan", "(J)Z"⟩, 5)) (List.mem_of_getElem? (i := 0) (by decide +kernel))) (by decide +kernel)
theorem m_2f81ed74 : (.code y_Format_isNan b_Format_isNan 3 (some .boolean) : Cond) ∈ xt_tbl := xt_in (xt_t8 (List.mem_of_getElem? (i := 27) (by decide +kernel))) (by decide +kernel)
theorem nm_Format_isNan : xt_nm y_Format_isNan 1 := ⟨by decide +kernel, by decide +kernel⟩
set_option maxRecDepth 100000 in
def T_Format_holds : List (Nat × Instr × Nat) := [(0, .aload_n 0, 1), (1, .lload_n 2, 1), (2, .invokevirtual 42, 3), (5, .ifCond .ne 12, 3), (8, .aload_n 0, 1), (9, .lload 4, 2), (11, .invokevirtual 42, 3), (14, .ifCond .eq 14, 3), (17, .iload_n 1, 1), (18, .iconst 1, 1), (19, .if_icmp .ne 7, 3), (22, .iconst 1, 1), (23, .goto 4, 3), (26, .iconst 0, 1), (27, .ireturn, 1), (28, .aload_n 0, 1), (29, .lload_n 2, 1), (30, .invokevirtual 46, 3), (33, .lstore 6, 2), (35, .aload_n 0, 1), (36, .lload 4, 2), (38, .invokevirtual 46, 3), (41, .lstore 8, 2), (43, .iload_n 1, 1), (44, .tableswitch 106 0 4 #[36, 50, 64, 78, 92], 36), (80, .lload 6, 2), (82, .lload 8, 2), (84, .lcmp, 1), (85, .ifCond .ne 7, 3), (88, .iconst 1, 1), (89, .goto 4, 3), (92, .iconst 0, 1), (93, .ireturn, 1), (94, .lload 6, 2), (96, .lload 8, 2), (98, .lcmp, 1), (99, .ifCond .eq 7, 3), (102, .iconst 1, 1), (103, .goto 4, 3), (106, .iconst 0, 1), (107, .ireturn, 1), (108, .lload 6, 2), (110, .lload 8, 2), (112, .lcmp, 1), (113, .ifCond .ge 7, 3), (116, .iconst 1, 1), (117, .goto 4, 3), (120, .iconst 0, 1), (121, .ireturn, 1), (122, .lload 6, 2), (124, .lload 8, 2), (126, .lcmp, 1), (127, .ifCond .le 7, 3), (130, .iconst 1, 1), (131, .goto 4, 3), (134, .iconst 0, 1), (135, .ireturn, 1), (136, .lload 6, 2), (138, .lload 8, 2), (140, .lcmp, 1), (141, .ifCond .gt 7, 3), (144, .iconst 1, 1), (145, .goto 4, 3), (148, .iconst 0, 1), (149, .ireturn, 1), (150, .lload 6, 2), (152, .lload 8, 2), (154, .lcmp, 1), (155, .ifCond .lt 7, 3), (158, .iconst 1, 1), (159, .goto 4, 3), (162, .iconst 0, 1), (163, .ireturn, 1)]
theorem D_Format_holds : ∀ q ∈ T_Format_holds, decode b_Format_holds q.1 = .ok (q.2.1, q.2.2) := by decide +kernel

set_option maxHeartbeats 4000000 in
set_option maxRecDepth 100000 in
theorem am_Format_holds_L163 (l : Launch) (hfl : l.flags = pinnedFlags ++ [noTraceFlag]) (D : va_G) (A : Nat → Prop) (σ MC MS : Nat) (h0 : xb_H) (Qr : Int32 → xb_H → Prop) (y0 : Int32) (h : xb_H) (hw : w_Format_holds_L163 Qr y0 h) : xb_am l D A σ 4 MC MS h0 (fun v h _ _ => ∃ r, v = some (.int r) ∧ Qr r h) (fun _ _ _ _ => False) y_Format_holds.cls y_Format_holds.name b_Format_holds 10 ([] : List ExceptionTableEntry) (some .boolean) 163 [] [.int y0] h 0 0 := by
  unfold w_Format_holds_L163 at hw
  intro p e s m args below meth c hC H locs ls k n hE hl hR hS hk hn
  obtain ⟨hx, hb, hown, hlocks, htab, hml, hr, hB, hA, hnm⟩ := id hC
  have hts := hB.1.1.at args
  exact xb_zret 0 0 hx hb hr hlocks (show k + 0 ≤ MC by omega) (show n + 0 ≤ MS by omega) hw.1 hE hR hS (xb_d D_Format_holds 72 rfl) hw.2

set_option maxHeartbeats 4000000 in
set_option maxRecDepth 100000 in
theorem am_Format_holds_L149 (l : Launch) (hfl : l.flags = pinnedFlags ++ [noTraceFlag]) (D : va_G) (A : Nat → Prop) (σ MC MS : Nat) (h0 : xb_H) (Qr : Int32 → xb_H → Prop) (y0 : Int32) (h : xb_H) (hw : w_Format_holds_L149 Qr y0 h) : xb_am l D A σ 4 MC MS h0 (fun v h _ _ => ∃ r, v = some (.int r) ∧ Qr r h) (fun _ _ _ _ => False) y_Format_holds.cls y_Format_holds.name b_Format_holds 10 ([] : List ExceptionTableEntry) (some .boolean) 149 [] [.int y0] h 0 0 := by
  unfold w_Format_holds_L149 at hw
  intro p e s m args below meth c hC H locs ls k n hE hl hR hS hk hn
  obtain ⟨hx, hb, hown, hlocks, htab, hml, hr, hB, hA, hnm⟩ := id hC
  have hts := hB.1.1.at args
  exact xb_zret 0 0 hx hb hr hlocks (show k + 0 ≤ MC by omega) (show n + 0 ≤ MS by omega) hw.1 hE hR hS (xb_d D_Format_holds 64 rfl) hw.2

set_option maxHeartbeats 4000000 in
set_option maxRecDepth 100000 in
theorem am_Format_holds_L135 (l : Launch) (hfl : l.flags = pinnedFlags ++ [noTraceFlag]) (D : va_G) (A : Nat → Prop) (σ MC MS : Nat) (h0 : xb_H) (Qr : Int32 → xb_H → Prop) (y0 : Int32) (h : xb_H) (hw : w_Format_holds_L135 Qr y0 h) : xb_am l D A σ 4 MC MS h0 (fun v h _ _ => ∃ r, v = some (.int r) ∧ Qr r h) (fun _ _ _ _ => False) y_Format_holds.cls y_Format_holds.name b_Format_holds 10 ([] : List ExceptionTableEntry) (some .boolean) 135 [] [.int y0] h 0 0 := by
  unfold w_Format_holds_L135 at hw
  intro p e s m args below meth c hC H locs ls k n hE hl hR hS hk hn
  obtain ⟨hx, hb, hown, hlocks, htab, hml, hr, hB, hA, hnm⟩ := id hC
  have hts := hB.1.1.at args
  exact xb_zret 0 0 hx hb hr hlocks (show k + 0 ≤ MC by omega) (show n + 0 ≤ MS by omega) hw.1 hE hR hS (xb_d D_Format_holds 56 rfl) hw.2

set_option maxHeartbeats 4000000 in
set_option maxRecDepth 100000 in
theorem am_Format_holds_L121 (l : Launch) (hfl : l.flags = pinnedFlags ++ [noTraceFlag]) (D : va_G) (A : Nat → Prop) (σ MC MS : Nat) (h0 : xb_H) (Qr : Int32 → xb_H → Prop) (y0 : Int32) (h : xb_H) (hw : w_Format_holds_L121 Qr y0 h) : xb_am l D A σ 4 MC MS h0 (fun v h _ _ => ∃ r, v = some (.int r) ∧ Qr r h) (fun _ _ _ _ => False) y_Format_holds.cls y_Format_holds.name b_Format_holds 10 ([] : List ExceptionTableEntry) (some .boolean) 121 [] [.int y0] h 0 0 := by
  unfold w_Format_holds_L121 at hw
  intro p e s m args below meth c hC H locs ls k n hE hl hR hS hk hn
  obtain ⟨hx, hb, hown, hlocks, htab, hml, hr, hB, hA, hnm⟩ := id hC
  have hts := hB.1.1.at args
  exact xb_zret 0 0 hx hb hr hlocks (show k + 0 ≤ MC by omega) (show n + 0 ≤ MS by omega) hw.1 hE hR hS (xb_d D_Format_holds 48 rfl) hw.2

set_option maxHeartbeats 4000000 in
set_option maxRecDepth 100000 in
theorem am_Format_holds_L107 (l : Launch) (hfl : l.flags = pinnedFlags ++ [noTraceFlag]) (D : va_G) (A : Nat → Prop) (σ MC MS : Nat) (h0 : xb_H) (Qr : Int32 → xb_H → Prop) (y0 : Int32) (h : xb_H) (hw : w_Format_holds_L107 Qr y0 h) : xb_am l D A σ 4 MC MS h0 (fun v h _ _ => ∃ r, v = some (.int r) ∧ Qr r h) (fun _ _ _ _ => False) y_Format_holds.cls y_Format_holds.name b_Format_holds 10 ([] : List ExceptionTableEntry) (some .boolean) 107 [] [.int y0] h 0 0 := by
  unfold w_Format_holds_L107 at hw
  intro p e s m args below meth c hC H locs ls k n hE hl hR hS hk hn
  obtain ⟨hx, hb, hown, hlocks, htab, hml, hr, hB, hA, hnm⟩ := id hC
  have hts := hB.1.1.at args
  exact xb_zret 0 0 hx hb hr hlocks (show k + 0 ≤ MC by omega) (show n + 0 ≤ MS by omega) hw.1 hE hR hS (xb_d D_Format_holds 40 rfl) hw.2

set_option maxHeartbeats 4000000 in
set_option maxRecDepth 100000 in
theorem am_Format_holds_L93 (l : Launch) (hfl : l.flags = pinnedFlags ++ [noTraceFlag]) (D : va_G) (A : Nat → Prop) (σ MC MS : Nat) (h0 : xb_H) (Qr : Int32 → xb_H → Prop) (y0 : Int32) (h : xb_H) (hw : w_Format_holds_L93 Qr y0 h) : xb_am l D A σ 4 MC MS h0 (fun v h _ _ => ∃ r, v = some (.int r) ∧ Qr r h) (fun _ _ _ _ => False) y_Format_holds.cls y_Format_holds.name b_Format_holds 10 ([] : List ExceptionTableEntry) (some .boolean) 93 [] [.int y0] h 0 0 := by
  unfold w_Format_holds_L93 at hw
  intro p e s m args below meth c hC H locs ls k n hE hl hR hS hk hn
  obtain ⟨hx, hb, hown, hlocks, htab, hml, hr, hB, hA, hnm⟩ := id hC
  have hts := hB.1.1.at args
  exact xb_zret 0 0 hx hb hr hlocks (show k + 0 ≤ MC by omega) (show n + 0 ≤ MS by omega) hw.1 hE hR hS (xb_d D_Format_holds 32 rfl) hw.2

set_option maxHeartbeats 4000000 in
set_option maxRecDepth 100000 in
theorem am_Format_holds_L27 (l : Launch) (hfl : l.flags = pinnedFlags ++ [noTraceFlag]) (D : va_G) (A : Nat → Prop) (σ MC MS : Nat) (h0 : xb_H) (Qr : Int32 → xb_H → Prop) (y0 : Int32) (h : xb_H) (hw : w_Format_holds_L27 Qr y0 h) : xb_am l D A σ 4 MC MS h0 (fun v h _ _ => ∃ r, v = some (.int r) ∧ Qr r h) (fun _ _ _ _ => False) y_Format_holds.cls y_Format_holds.name b_Format_holds 10 ([] : List ExceptionTableEntry) (some .boolean) 27 [] [.int y0] h 0 0 := by
  unfold w_Format_holds_L27 at hw
  intro p e s m args below meth c hC H locs ls k n hE hl hR hS hk hn
  obtain ⟨hx, hb, hown, hlocks, htab, hml, hr, hB, hA, hnm⟩ := id hC
  have hts := hB.1.1.at args
  exact xb_zret 0 0 hx hb hr hlocks (show k + 0 ≤ MC by omega) (show n + 0 ≤ MS by omega) hw.1 hE hR hS (xb_d D_Format_holds 14 rfl) hw.2

set_option maxHeartbeats 4000000 in
set_option maxRecDepth 100000 in
theorem am_Format_holds_L17 (l : Launch) (hfl : l.flags = pinnedFlags ++ [noTraceFlag]) (D : va_G) (A : Nat → Prop) (σ MC MS : Nat) (h0 : xb_H) (Qr : Int32 → xb_H → Prop) (x1 : Int32) (h : xb_H) (hw : w_Format_holds_L17 Qr x1 h) : xb_am l D A σ 4 MC MS h0 (fun v h _ _ => ∃ r, v = some (.int r) ∧ Qr r h) (fun _ _ _ _ => False) y_Format_holds.cls y_Format_holds.name b_Format_holds 10 ([] : List ExceptionTableEntry) (some .boolean) 17 [(1, .int x1)] [] h 0 0 := by
  unfold w_Format_holds_L17 at hw
  intro p e s m args below meth c hC H locs ls k n hE hl hR hS hk hn
  obtain ⟨hx, hb, hown, hlocks, htab, hml, hr, hB, hA, hnm⟩ := id hC
  have hts := hB.1.1.at args
  refine lv_iload_n hx hb (xb_d D_Format_holds 8 rfl) rfl (lv_at hl 0 rfl) ?_
  refine lv_iconst (v := 1) hx hb (xb_d D_Format_holds 9 rfl) (by decide) ?_
  refine lv_icmp_ne (tgt := 26) hx hb (xb_d D_Format_holds 10 rfl) rfl (fun hc1 => ?_) (fun hc1 => ?_)
  · have hw := hw.1 hc1
    refine lv_iconst (v := 0) hx hb (xb_d D_Format_holds 13 rfl) (by decide) ?_
    exact am_Format_holds_L27 l hfl D A σ MC MS h0 Qr 0 h hw p e s m args below meth c hC H locs ls k n hE (lv_sub hl [] rfl) hR hS (by omega) (by omega)
  · have hw := hw.2 hc1
    refine lv_iconst (v := 1) hx hb (xb_d D_Format_holds 11 rfl) (by decide) ?_
    refine lv_goto (tgt := 27) hx hb (xb_d D_Format_holds 12 rfl) rfl ?_
    exact am_Format_holds_L27 l hfl D A σ MC MS h0 Qr 1 h hw p e s m args below meth c hC H locs ls k n hE (lv_sub hl [] rfl) hR hS (by omega) (by omega)

set_option maxHeartbeats 4000000 in
set_option maxRecDepth 100000 in
theorem ok_Format_holds (l : Launch) (hfl : l.flags = pinnedFlags ++ [noTraceFlag]) (D : va_G) (A : Nat → Prop) (σ : Nat) (x0 : Nat) (x1 : Int32) (x2 : Int64) (x4 : Int64) (h : xb_H) (Qr : Int32 → xb_H → Prop) (hw : w_Format_holds x0 x1 x2 x4 h Qr) : xb_Met l y_Format_holds [.code y_Format_holds b_Format_holds 10 (some .boolean)] (xb_rm 4 0 0) (xb_Pc D A σ h [.ref x0, .int x1, .long x2, .long x4]) (xb_Qc D A h 0 0 (fun v h _ _ => ∃ r, v = some (.int r) ∧ Qr r h) (fun _ _ _ _ => False)) A := by
  refine xb_ofAm (cc := b_Format_holds) (by decide) (Nat.le_of_ble_eq_true rfl) ?_
  unfold w_Format_holds at hw
  show xb_am l D A σ 4 0 0 h (fun v h _ _ => ∃ r, v = some (.int r) ∧ Qr r h) (fun _ _ _ _ => False) y_Format_holds.cls y_Format_holds.name b_Format_holds 10 ([] : List ExceptionTableEntry) (some .boolean) 0 [(0, .ref x0), (1, .int x1), (2, .long x2), (4, .long x4)] [] h 0 0
  obtain ⟨MC, hMC⟩ : ∃ x, x = 0 := ⟨_, rfl⟩
  obtain ⟨MS, hMS⟩ : ∃ x, x = 0 := ⟨_, rfl⟩
  rw [show xb_am l D A σ 4 0 0 = xb_am l D A σ 4 MC MS by rw [hMC, hMS]]
  obtain ⟨h0, hh0⟩ : ∃ x, x = h := ⟨_, rfl⟩
  rw [show xb_am l D A σ 4 MC MS h = xb_am l D A σ 4 MC MS h0 by rw [hh0]]
  intro p e s m args below meth c hC H locs ls k n hE hl hR hS hk hn
  obtain ⟨hx, hb, hown, hlocks, htab, hml, hr, hB, hA, hnm⟩ := id hC
  have hts := hB.1.1.at args
  refine lv_aload_n hx hb (xb_d D_Format_holds 0 rfl) rfl (lv_at hl 0 rfl) ?_
  refine lv_lload_n hx hb (xb_d D_Format_holds 1 rfl) rfl (lv_at hl 2 rfl) ?_
  obtain ⟨hk1, hw⟩ := hw
  refine xb_call0 (D := D) (A := A) (σ := σ) (h := h) (d := 2) (maxL := 3) (rest := []) (av := [.ref x0, .long x2]) (fun T hT X => by obtain ⟨cb9, ra9, rb9, rc9⟩ := xb_recv (ci := 5) hR rfl hk1 (by decide); exact xt_invV X hx hown (hts _ m_e7d6b62e) (hts _ m_28f89ecd) (hts _ m_79f90d13) (xt_sigOf (hts _ m_2f81ed74)) nm_Format_isNan (by rw [hT]; exact ra9) rb9 rc9 (g := F0 m 2 ls [.long x2, .ref x0]) rfl (argsL := [.long x2]) (rest := []) rfl rfl (by rw [hb]; exact (xb_d D_Format_holds 2 rfl))) (ok_Format_isNan l hfl D A σ x0 x2 h _ hw) (hml.trans hl.1.symm) (by rw [hb]; exact (xb_d D_Format_holds 2 rfl)) (Nat.le_of_ble_eq_true rfl) (Nat.le_of_ble_eq_true rfl) (Nat.le_of_ble_eq_true rfl) (show k ≤ MC by omega) (show n ≤ MS by omega) (xt_w1 hB.1 m_2f81ed74) (xt_cdOf hB.1 m_2f81ed74) (hts _ m_64857de5) hB hR hS hA (fun vv h2 H locs hq hEh2 hR hS => ?_)
  obtain ⟨r3, rfl, hw⟩ := hq
  have hw := hw hEh2
  have hE := hE.tr hEh2
  refine W.eq (g2 := F0 m 5 ls [.int r3]) rfl ?_
  refine lv_if_ne (tgt := 17) hx hb (xb_d D_Format_holds 3 rfl) rfl (fun hc4 => ?_) (fun hc4 => ?_)
  · have hw := hw.1 hc4
    exact am_Format_holds_L17 l hfl D A σ MC MS h0 Qr x1 h2 hw p e s m args below meth c hC H locs ls k n hE (lv_sub hl [1] rfl) hR hS (by omega) (by omega)
  · have hw := hw.2 hc4
    refine lv_aload_n hx hb (xb_d D_Format_holds 4 rfl) rfl (lv_at hl 0 rfl) ?_
    refine lv_lload hx hb (xb_d D_Format_holds 5 rfl) (lv_at hl 3 rfl) ?_
    have hk1 : xb_k h2 x0 = 6 := hEh2.k hk1
    refine xb_call0 (D := D) (A := A) (σ := σ) (h := h2) (d := 2) (maxL := 3) (rest := []) (av := [.ref x0, .long x4]) (fun T hT X => by obtain ⟨cb9, ra9, rb9, rc9⟩ := xb_recv (ci := 5) hR rfl hk1 (by decide); exact xt_invV X hx hown (hts _ m_e7d6b62e) (hts _ m_28f89ecd) (hts _ m_79f90d13) (xt_sigOf (hts _ m_2f81ed74)) nm_Format_isNan (by rw [hT]; exact ra9) rb9 rc9 (g := F0 m 11 ls [.long x4, .ref x0]) rfl (argsL := [.long x4]) (rest := []) rfl rfl (by rw [hb]; exact (xb_d D_Format_holds 6 rfl))) (ok_Format_isNan l hfl D A σ x0 x4 h2 _ hw) (hml.trans hl.1.symm) (by rw [hb]; exact (xb_d D_Format_holds 6 rfl)) (Nat.le_of_ble_eq_true rfl) (Nat.le_of_ble_eq_true rfl) (Nat.le_of_ble_eq_true rfl) (show k ≤ MC by omega) (show n ≤ MS by omega) (xt_w1 hB.1 m_2f81ed74) (xt_cdOf hB.1 m_2f81ed74) (hts _ m_64857de5) hB hR hS hA (fun vv h5 H locs hq hEh5 hR hS => ?_)
    obtain ⟨r6, rfl, hw⟩ := hq
    have hw := hw hEh5
    have hE := hE.tr hEh5
    refine W.eq (g2 := F0 m 14 ls [.int r6]) rfl ?_
    refine lv_if_eq (tgt := 28) hx hb (xb_d D_Format_holds 7 rfl) rfl (fun hc7 => ?_) (fun hc7 => ?_)
    · have hw := hw.1 hc7
      refine lv_aload_n hx hb (xb_d D_Format_holds 15 rfl) rfl (lv_at hl 0 rfl) ?_
      refine lv_lload_n hx hb (xb_d D_Format_holds 16 rfl) rfl (lv_at hl 2 rfl) ?_
      have hk1 : xb_k h5 x0 = 6 := hEh5.k hk1
      refine xb_call0 (D := D) (A := A) (σ := σ) (h := h5) (d := 3) (maxL := 3) (rest := []) (av := [.ref x0, .long x2]) (fun T hT X => by obtain ⟨cb9, ra9, rb9, rc9⟩ := xb_recv (ci := 5) hR rfl hk1 (by decide); exact xt_invV X hx hown (hts _ m_a5ad9417) (hts _ m_98331b4c) (hts _ m_04c4d5ab) (xt_sigOf (hts _ m_97b0f5b8)) nm_Format_ordered (by rw [hT]; exact ra9) rb9 rc9 (g := F0 m 30 ls [.long x2, .ref x0]) rfl (argsL := [.long x2]) (rest := []) rfl rfl (by rw [hb]; exact (xb_d D_Format_holds 17 rfl))) (ok_Format_ordered l hfl D A σ x0 x2 h5 _ hw) (hml.trans hl.1.symm) (by rw [hb]; exact (xb_d D_Format_holds 17 rfl)) (Nat.le_of_ble_eq_true rfl) (Nat.le_of_ble_eq_true rfl) (Nat.le_of_ble_eq_true rfl) (show k ≤ MC by omega) (show n ≤ MS by omega) (xt_w1 hB.1 m_97b0f5b8) (xt_cdOf hB.1 m_97b0f5b8) (hts _ m_64857de5) hB hR hS hA (fun vv h8 H locs hq hEh8 hR hS => ?_)
      obtain ⟨r9, rfl, hw⟩ := hq
      have hw := hw hEh8
      have hE := hE.tr hEh8
      refine W.eq (g2 := F0 m 33 ls [.long r9]) rfl ?_
      refine lv_lstore hx hb (xb_d D_Format_holds 18 rfl) hl (by decide) rfl (fun ls hl => ?_)
      have hl : lv_has ls 10 [(6, .long r9), (0, .ref x0), (1, .int x1), (2, .long x2), (4, .long x4)] := hl
      refine lv_aload_n hx hb (xb_d D_Format_holds 19 rfl) rfl (lv_at hl 1 rfl) ?_
      refine lv_lload hx hb (xb_d D_Format_holds 20 rfl) (lv_at hl 4 rfl) ?_
      have hk1 : xb_k h8 x0 = 6 := hEh8.k hk1
      refine xb_call0 (D := D) (A := A) (σ := σ) (h := h8) (d := 3) (maxL := 3) (rest := []) (av := [.ref x0, .long x4]) (fun T hT X => by obtain ⟨cb9, ra9, rb9, rc9⟩ := xb_recv (ci := 5) hR rfl hk1 (by decide); exact xt_invV X hx hown (hts _ m_a5ad9417) (hts _ m_98331b4c) (hts _ m_04c4d5ab) (xt_sigOf (hts _ m_97b0f5b8)) nm_Format_ordered (by rw [hT]; exact ra9) rb9 rc9 (g := F0 m 38 ls [.long x4, .ref x0]) rfl (argsL := [.long x4]) (rest := []) rfl rfl (by rw [hb]; exact (xb_d D_Format_holds 21 rfl))) (ok_Format_ordered l hfl D A σ x0 x4 h8 _ hw) (hml.trans hl.1.symm) (by rw [hb]; exact (xb_d D_Format_holds 21 rfl)) (Nat.le_of_ble_eq_true rfl) (Nat.le_of_ble_eq_true rfl) (Nat.le_of_ble_eq_true rfl) (show k ≤ MC by omega) (show n ≤ MS by omega) (xt_w1 hB.1 m_97b0f5b8) (xt_cdOf hB.1 m_97b0f5b8) (hts _ m_64857de5) hB hR hS hA (fun vv h10 H locs hq hEh10 hR hS => ?_)
      obtain ⟨r11, rfl, hw⟩ := hq
      have hw := hw hEh10
      have hE := hE.tr hEh10
      refine W.eq (g2 := F0 m 41 ls [.long r11]) rfl ?_
      refine lv_lstore hx hb (xb_d D_Format_holds 22 rfl) hl (by decide) rfl (fun ls hl => ?_)
      have hl : lv_has ls 10 [(8, .long r11), (6, .long r9), (0, .ref x0), (1, .int x1), (2, .long x2), (4, .long x4)] := hl
      refine lv_iload_n hx hb (xb_d D_Format_holds 23 rfl) rfl (lv_at hl 3 rfl) ?_
      by_cases hc12 : x1 = 0
      · have hw := hw.1 hc12
        refine xt_numi hc12 ?_
        refine lv_tableIn (off := 36) (tgt := 80) hx hb (xb_d D_Format_holds 24 rfl) (by decide +kernel) (by decide +kernel) (by decide +kernel) (by decide) ?_
        refine lv_lload hx hb (xb_d D_Format_holds 25 rfl) (lv_at hl 1 rfl) ?_
        refine lv_lload hx hb (xb_d D_Format_holds 26 rfl) (lv_at hl 0 rfl) ?_
        refine xb_lc_ne (tgt := 92) hx hb (xb_d D_Format_holds 27 rfl) (xb_d D_Format_holds 28 rfl) rfl (fun hc13 => ?_) (fun hc13 => ?_)
        · have hw := hw.1 hc13
          refine lv_iconst (v := 0) hx hb (xb_d D_Format_holds 31 rfl) (by decide) ?_
          exact am_Format_holds_L93 l hfl D A σ MC MS h0 Qr 0 h10 hw p e s m args below meth c hC H locs ls k n hE (lv_sub hl [] rfl) hR hS (by omega) (by omega)
        · have hw := hw.2 hc13
          refine lv_iconst (v := 1) hx hb (xb_d D_Format_holds 29 rfl) (by decide) ?_
          refine lv_goto (tgt := 93) hx hb (xb_d D_Format_holds 30 rfl) rfl ?_
          exact am_Format_holds_L93 l hfl D A σ MC MS h0 Qr 1 h10 hw p e s m args below meth c hC H locs ls k n hE (lv_sub hl [] rfl) hR hS (by omega) (by omega)
      have hw := hw.2
      by_cases hc14 : x1 = 1
      · have hw := hw.1 hc14
        refine xt_numi hc14 ?_
        refine lv_tableIn (off := 50) (tgt := 94) hx hb (xb_d D_Format_holds 24 rfl) (by decide +kernel) (by decide +kernel) (by decide +kernel) (by decide) ?_
        refine lv_lload hx hb (xb_d D_Format_holds 33 rfl) (lv_at hl 1 rfl) ?_
        refine lv_lload hx hb (xb_d D_Format_holds 34 rfl) (lv_at hl 0 rfl) ?_
        refine xb_lc_eq (tgt := 106) hx hb (xb_d D_Format_holds 35 rfl) (xb_d D_Format_holds 36 rfl) rfl (fun hc15 => ?_) (fun hc15 => ?_)
        · have hw := hw.1 hc15
          refine lv_iconst (v := 0) hx hb (xb_d D_Format_holds 39 rfl) (by decide) ?_
          exact am_Format_holds_L107 l hfl D A σ MC MS h0 Qr 0 h10 hw p e s m args below meth c hC H locs ls k n hE (lv_sub hl [] rfl) hR hS (by omega) (by omega)
        · have hw := hw.2 hc15
          refine lv_iconst (v := 1) hx hb (xb_d D_Format_holds 37 rfl) (by decide) ?_
          refine lv_goto (tgt := 107) hx hb (xb_d D_Format_holds 38 rfl) rfl ?_
          exact am_Format_holds_L107 l hfl D A σ MC MS h0 Qr 1 h10 hw p e s m args below meth c hC H locs ls k n hE (lv_sub hl [] rfl) hR hS (by omega) (by omega)
      have hw := hw.2
      by_cases hc16 : x1 = 2
      · have hw := hw.1 hc16
        refine xt_numi hc16 ?_
        refine lv_tableIn (off := 64) (tgt := 108) hx hb (xb_d D_Format_holds 24 rfl) (by decide +kernel) (by decide +kernel) (by decide +kernel) (by decide) ?_
        refine lv_lload hx hb (xb_d D_Format_holds 41 rfl) (lv_at hl 1 rfl) ?_
        refine lv_lload hx hb (xb_d D_Format_holds 42 rfl) (lv_at hl 0 rfl) ?_
        refine xb_lc_ge (tgt := 120) hx hb (xb_d D_Format_holds 43 rfl) (xb_d D_Format_holds 44 rfl) rfl (fun hc17 => ?_) (fun hc17 => ?_)
        · have hw := hw.1 hc17
          refine lv_iconst (v := 0) hx hb (xb_d D_Format_holds 47 rfl) (by decide) ?_
          exact am_Format_holds_L121 l hfl D A σ MC MS h0 Qr 0 h10 hw p e s m args below meth c hC H locs ls k n hE (lv_sub hl [] rfl) hR hS (by omega) (by omega)
        · have hw := hw.2 hc17
          refine lv_iconst (v := 1) hx hb (xb_d D_Format_holds 45 rfl) (by decide) ?_
          refine lv_goto (tgt := 121) hx hb (xb_d D_Format_holds 46 rfl) rfl ?_
          exact am_Format_holds_L121 l hfl D A σ MC MS h0 Qr 1 h10 hw p e s m args below meth c hC H locs ls k n hE (lv_sub hl [] rfl) hR hS (by omega) (by omega)
      have hw := hw.2
      by_cases hc18 : x1 = 3
      · have hw := hw.1 hc18
        refine xt_numi hc18 ?_
        refine lv_tableIn (off := 78) (tgt := 122) hx hb (xb_d D_Format_holds 24 rfl) (by decide +kernel) (by decide +kernel) (by decide +kernel) (by decide) ?_
        refine lv_lload hx hb (xb_d D_Format_holds 49 rfl) (lv_at hl 1 rfl) ?_
        refine lv_lload hx hb (xb_d D_Format_holds 50 rfl) (lv_at hl 0 rfl) ?_
        refine xb_lc_le (tgt := 134) hx hb (xb_d D_Format_holds 51 rfl) (xb_d D_Format_holds 52 rfl) rfl (fun hc19 => ?_) (fun hc19 => ?_)
        · have hw := hw.1 hc19
          refine lv_iconst (v := 0) hx hb (xb_d D_Format_holds 55 rfl) (by decide) ?_
          exact am_Format_holds_L135 l hfl D A σ MC MS h0 Qr 0 h10 hw p e s m args below meth c hC H locs ls k n hE (lv_sub hl [] rfl) hR hS (by omega) (by omega)
        · have hw := hw.2 hc19
          refine lv_iconst (v := 1) hx hb (xb_d D_Format_holds 53 rfl) (by decide) ?_
          refine lv_goto (tgt := 135) hx hb (xb_d D_Format_holds 54 rfl) rfl ?_
          exact am_Format_holds_L135 l hfl D A σ MC MS h0 Qr 1 h10 hw p e s m args below meth c hC H locs ls k n hE (lv_sub hl [] rfl) hR hS (by omega) (by omega)
      have hw := hw.2
      by_cases hc20 : x1 = 4
      · have hw := hw.1 hc20
        refine xt_numi hc20 ?_
        refine lv_tableIn (off := 92) (tgt := 136) hx hb (xb_d D_Format_holds 24 rfl) (by decide +kernel) (by decide +kernel) (by decide +kernel) (by decide) ?_
        refine lv_lload hx hb (xb_d D_Format_holds 57 rfl) (lv_at hl 1 rfl) ?_
        refine lv_lload hx hb (xb_d D_Format_holds 58 rfl) (lv_at hl 0 rfl) ?_
        refine xb_lc_gt (tgt := 148) hx hb (xb_d D_Format_holds 59 rfl) (xb_d D_Format_holds 60 rfl) rfl (fun hc21 => ?_) (fun hc21 => ?_)
        · have hw := hw.1 hc21
          refine lv_iconst (v := 0) hx hb (xb_d D_Format_holds 63 rfl) (by decide) ?_
          exact am_Format_holds_L149 l hfl D A σ MC MS h0 Qr 0 h10 hw p e s m args below meth c hC H locs ls k n hE (lv_sub hl [] rfl) hR hS (by omega) (by omega)
        · have hw := hw.2 hc21
          refine lv_iconst (v := 1) hx hb (xb_d D_Format_holds 61 rfl) (by decide) ?_
          refine lv_goto (tgt := 149) hx hb (xb_d D_Format_holds 62 rfl) rfl ?_
          exact am_Format_holds_L149 l hfl D A σ MC MS h0 Qr 1 h10 hw p e s m args below meth c hC H locs ls k n hE (lv_sub hl [] rfl) hR hS (by omega) (by omega)
      have hw := hw.2
      have hw := hw hc12 hc14 hc16 hc18 hc20
      refine lv_tableOut (tgt := 150) hx hb (xb_d D_Format_holds 24 rfl) (by have a0 := xb_nl (0) 0 (by decide) hc12; have a1 := xb_nl (1) 1 (by decide) hc14; have a2 := xb_nl (2) 2 (by decide) hc16; have a3 := xb_nl (3) 3 (by decide) hc18; have a4 := xb_nl (4) 4 (by decide) hc20; omega) (by decide) ?_
      refine lv_lload hx hb (xb_d D_Format_holds 65 rfl) (lv_at hl 1 rfl) ?_
      refine lv_lload hx hb (xb_d D_Format_holds 66 rfl) (lv_at hl 0 rfl) ?_
      refine xb_lc_lt (tgt := 162) hx hb (xb_d D_Format_holds 67 rfl) (xb_d D_Format_holds 68 rfl) rfl (fun hc22 => ?_) (fun hc22 => ?_)
      · have hw := hw.1 hc22
        refine lv_iconst (v := 0) hx hb (xb_d D_Format_holds 71 rfl) (by decide) ?_
        exact am_Format_holds_L163 l hfl D A σ MC MS h0 Qr 0 h10 hw p e s m args below meth c hC H locs ls k n hE (lv_sub hl [] rfl) hR hS (by omega) (by omega)
      · have hw := hw.2 hc22
        refine lv_iconst (v := 1) hx hb (xb_d D_Format_holds 69 rfl) (by decide) ?_
        refine lv_goto (tgt := 163) hx hb (xb_d D_Format_holds 70 rfl) rfl ?_
        exact am_Format_holds_L163 l hfl D A σ MC MS h0 Qr 1 h10 hw p e s m args below meth c hC H locs ls k n hE (lv_sub hl [] rfl) hR hS (by omega) (by omega)
    · have hw := hw.2 hc7
      exact am_Format_holds_L17 l hfl D A σ MC MS h0 Qr x1 h5 hw p e s m args below meth c hC H locs ls k n hE (lv_sub hl [1] rfl) hR hS (by omega) (by omega)

set_option maxRecDepth 100000 in
def T_Format_lesser : List (Nat × Instr × Nat) := [(0, .aload_n 0, 1), (1, .lload_n 1, 1), (2, .invokevirtual 46, 3), (5, .aload_n 0, 1), (6, .lload_n 3, 1), (7, .invokevirtual 46, 3), (10, .lcmp, 1), (11, .ifCond .ne 7, 3), (14, .lload_n 1, 1), (15, .lload_n 3, 1), (16, .lor, 1), (17, .lreturn, 1), (18, .aload_n 0, 1), (19, .lload_n 1, 1), (20, .invokevirtual 46, 3), (23, .aload_n 0, 1), (24, .lload_n 3, 1), (25, .invokevirtual 46, 3), (28, .lcmp, 1), (29, .ifCond .ge 7, 3), (32, .lload_n 1, 1), (33, .goto 4, 3), (36, .lload_n 3, 1), (37, .lreturn, 1)]
theorem D_Format_lesser : ∀ q ∈ T_Format_lesser, decode b_Format_lesser q.1 = .ok (q.2.1, q.2.2) := by decide +kernel

set_option maxHeartbeats 4000000 in
set_option maxRecDepth 100000 in
theorem am_Format_lesser_L37 (l : Launch) (hfl : l.flags = pinnedFlags ++ [noTraceFlag]) (D : va_G) (A : Nat → Prop) (σ MC MS : Nat) (h0 : xb_H) (Qr : Int64 → xb_H → Prop) (y0 : Int64) (h : xb_H) (hw : w_Format_lesser_L37 Qr y0 h) : xb_am l D A σ 4 MC MS h0 (fun v h _ _ => ∃ r, v = some (.long r) ∧ Qr r h) (fun _ _ _ _ => False) y_Format_lesser.cls y_Format_lesser.name b_Format_lesser 5 ([] : List ExceptionTableEntry) (some .long) 37 [] [.long y0] h 0 0 := by
  unfold w_Format_lesser_L37 at hw
  intro p e s m args below meth c hC H locs ls k n hE hl hR hS hk hn
  obtain ⟨hx, hb, hown, hlocks, htab, hml, hr, hB, hA, hnm⟩ := id hC
  have hts := hB.1.1.at args
  exact xb_lret 0 0 hx hb hr hlocks (show k + 0 ≤ MC by omega) (show n + 0 ≤ MS by omega) hE hR hS (xb_d D_Format_lesser 23 rfl) hw

set_option maxHeartbeats 4000000 in
set_option maxRecDepth 100000 in
theorem ok_Format_lesser (l : Launch) (hfl : l.flags = pinnedFlags ++ [noTraceFlag]) (D : va_G) (A : Nat → Prop) (σ : Nat) (x0 : Nat) (x1 : Int64) (x3 : Int64) (h : xb_H) (Qr : Int64 → xb_H → Prop) (hw : w_Format_lesser x0 x1 x3 h Qr) : xb_Met l y_Format_lesser [.code y_Format_lesser b_Format_lesser 5 (some .long)] (xb_rm 4 0 0) (xb_Pc D A σ h [.ref x0, .long x1, .long x3]) (xb_Qc D A h 0 0 (fun v h _ _ => ∃ r, v = some (.long r) ∧ Qr r h) (fun _ _ _ _ => False)) A := by
  refine xb_ofAm (cc := b_Format_lesser) (by decide) (Nat.le_of_ble_eq_true rfl) ?_
  unfold w_Format_lesser at hw
  show xb_am l D A σ 4 0 0 h (fun v h _ _ => ∃ r, v = some (.long r) ∧ Qr r h) (fun _ _ _ _ => False) y_Format_lesser.cls y_Format_lesser.name b_Format_lesser 5 ([] : List ExceptionTableEntry) (some .long) 0 [(0, .ref x0), (1, .long x1), (3, .long x3)] [] h 0 0
  obtain ⟨MC, hMC⟩ : ∃ x, x = 0 := ⟨_, rfl⟩
  obtain ⟨MS, hMS⟩ : ∃ x, x = 0 := ⟨_, rfl⟩
  rw [show xb_am l D A σ 4 0 0 = xb_am l D A σ 4 MC MS by rw [hMC, hMS]]
  obtain ⟨h0, hh0⟩ : ∃ x, x = h := ⟨_, rfl⟩
  rw [show xb_am l D A σ 4 MC MS h = xb_am l D A σ 4 MC MS h0 by rw [hh0]]
  intro p e s m args below meth c hC H locs ls k n hE hl hR hS hk hn
  obtain ⟨hx, hb, hown, hlocks, htab, hml, hr, hB, hA, hnm⟩ := id hC
  have hts := hB.1.1.at args
  refine lv_aload_n hx hb (xb_d D_Format_lesser 0 rfl) rfl (lv_at hl 0 rfl) ?_
  refine lv_lload_n hx hb (xb_d D_Format_lesser 1 rfl) rfl (lv_at hl 1 rfl) ?_
  obtain ⟨hk1, hw⟩ := hw
  refine xb_call0 (D := D) (A := A) (σ := σ) (h := h) (d := 3) (maxL := 3) (rest := []) (av := [.ref x0, .long x1]) (fun T hT X => by obtain ⟨cb9, ra9, rb9, rc9⟩ := xb_recv (ci := 5) hR rfl hk1 (by decide); exact xt_invV X hx hown (hts _ m_a5ad9417) (hts _ m_98331b4c) (hts _ m_04c4d5ab) (xt_sigOf (hts _ m_97b0f5b8)) nm_Format_ordered (by rw [hT]; exact ra9) rb9 rc9 (g := F0 m 2 ls [.long x1, .ref x0]) rfl (argsL := [.long x1]) (rest := []) rfl rfl (by rw [hb]; exact (xb_d D_Format_lesser 2 rfl))) (ok_Format_ordered l hfl D A σ x0 x1 h _ hw) (hml.trans hl.1.symm) (by rw [hb]; exact (xb_d D_Format_lesser 2 rfl)) (Nat.le_of_ble_eq_true rfl) (Nat.le_of_ble_eq_true rfl) (Nat.le_of_ble_eq_true rfl) (show k ≤ MC by omega) (show n ≤ MS by omega) (xt_w1 hB.1 m_97b0f5b8) (xt_cdOf hB.1 m_97b0f5b8) (hts _ m_64857de5) hB hR hS hA (fun vv h2 H locs hq hEh2 hR hS => ?_)
  obtain ⟨r3, rfl, hw⟩ := hq
  have hw := hw hEh2
  have hE := hE.tr hEh2
  refine W.eq (g2 := F0 m 5 ls [.long r3]) rfl ?_
  refine lv_aload_n hx hb (xb_d D_Format_lesser 3 rfl) rfl (lv_at hl 0 rfl) ?_
  refine lv_lload_n hx hb (xb_d D_Format_lesser 4 rfl) rfl (lv_at hl 2 rfl) ?_
  have hk1 : xb_k h2 x0 = 6 := hEh2.k hk1
  refine xb_call0 (D := D) (A := A) (σ := σ) (h := h2) (d := 3) (maxL := 3) (rest := [.long r3]) (av := [.ref x0, .long x3]) (fun T hT X => by obtain ⟨cb9, ra9, rb9, rc9⟩ := xb_recv (ci := 5) hR rfl hk1 (by decide); exact xt_invV X hx hown (hts _ m_a5ad9417) (hts _ m_98331b4c) (hts _ m_04c4d5ab) (xt_sigOf (hts _ m_97b0f5b8)) nm_Format_ordered (by rw [hT]; exact ra9) rb9 rc9 (g := F0 m 7 ls [.long x3, .ref x0, .long r3]) rfl (argsL := [.long x3]) (rest := [.long r3]) rfl rfl (by rw [hb]; exact (xb_d D_Format_lesser 5 rfl))) (ok_Format_ordered l hfl D A σ x0 x3 h2 _ hw) (hml.trans hl.1.symm) (by rw [hb]; exact (xb_d D_Format_lesser 5 rfl)) (Nat.le_of_ble_eq_true rfl) (Nat.le_of_ble_eq_true rfl) (Nat.le_of_ble_eq_true rfl) (show k ≤ MC by omega) (show n ≤ MS by omega) (xt_w1 hB.1 m_97b0f5b8) (xt_cdOf hB.1 m_97b0f5b8) (hts _ m_64857de5) hB hR hS hA (fun vv h4 H locs hq hEh4 hR hS => ?_)
  obtain ⟨r5, rfl, hw⟩ := hq
  have hw := hw hEh4
  have hE := hE.tr hEh4
  refine W.eq (g2 := F0 m 10 ls [.long r5, .long r3]) rfl ?_
  refine xb_lc_ne (tgt := 18) hx hb (xb_d D_Format_lesser 6 rfl) (xb_d D_Format_lesser 7 rfl) rfl (fun hc6 => ?_) (fun hc6 => ?_)
  · have hw := hw.1 hc6
    refine lv_aload_n hx hb (xb_d D_Format_lesser 12 rfl) rfl (lv_at hl 0 rfl) ?_
    refine lv_lload_n hx hb (xb_d D_Format_lesser 13 rfl) rfl (lv_at hl 1 rfl) ?_
    have hk1 : xb_k h4 x0 = 6 := hEh4.k hk1
    refine xb_call0 (D := D) (A := A) (σ := σ) (h := h4) (d := 3) (maxL := 3) (rest := []) (av := [.ref x0, .long x1]) (fun T hT X => by obtain ⟨cb9, ra9, rb9, rc9⟩ := xb_recv (ci := 5) hR rfl hk1 (by decide); exact xt_invV X hx hown (hts _ m_a5ad9417) (hts _ m_98331b4c) (hts _ m_04c4d5ab) (xt_sigOf (hts _ m_97b0f5b8)) nm_Format_ordered (by rw [hT]; exact ra9) rb9 rc9 (g := F0 m 20 ls [.long x1, .ref x0]) rfl (argsL := [.long x1]) (rest := []) rfl rfl (by rw [hb]; exact (xb_d D_Format_lesser 14 rfl))) (ok_Format_ordered l hfl D A σ x0 x1 h4 _ hw) (hml.trans hl.1.symm) (by rw [hb]; exact (xb_d D_Format_lesser 14 rfl)) (Nat.le_of_ble_eq_true rfl) (Nat.le_of_ble_eq_true rfl) (Nat.le_of_ble_eq_true rfl) (show k ≤ MC by omega) (show n ≤ MS by omega) (xt_w1 hB.1 m_97b0f5b8) (xt_cdOf hB.1 m_97b0f5b8) (hts _ m_64857de5) hB hR hS hA (fun vv h7 H locs hq hEh7 hR hS => ?_)
    obtain ⟨r8, rfl, hw⟩ := hq
    have hw := hw hEh7
    have hE := hE.tr hEh7
    refine W.eq (g2 := F0 m 23 ls [.long r8]) rfl ?_
    refine lv_aload_n hx hb (xb_d D_Format_lesser 15 rfl) rfl (lv_at hl 0 rfl) ?_
    refine lv_lload_n hx hb (xb_d D_Format_lesser 16 rfl) rfl (lv_at hl 2 rfl) ?_
    have hk1 : xb_k h7 x0 = 6 := hEh7.k hk1
    refine xb_call0 (D := D) (A := A) (σ := σ) (h := h7) (d := 3) (maxL := 3) (rest := [.long r8]) (av := [.ref x0, .long x3]) (fun T hT X => by obtain ⟨cb9, ra9, rb9, rc9⟩ := xb_recv (ci := 5) hR rfl hk1 (by decide); exact xt_invV X hx hown (hts _ m_a5ad9417) (hts _ m_98331b4c) (hts _ m_04c4d5ab) (xt_sigOf (hts _ m_97b0f5b8)) nm_Format_ordered (by rw [hT]; exact ra9) rb9 rc9 (g := F0 m 25 ls [.long x3, .ref x0, .long r8]) rfl (argsL := [.long x3]) (rest := [.long r8]) rfl rfl (by rw [hb]; exact (xb_d D_Format_lesser 17 rfl))) (ok_Format_ordered l hfl D A σ x0 x3 h7 _ hw) (hml.trans hl.1.symm) (by rw [hb]; exact (xb_d D_Format_lesser 17 rfl)) (Nat.le_of_ble_eq_true rfl) (Nat.le_of_ble_eq_true rfl) (Nat.le_of_ble_eq_true rfl) (show k ≤ MC by omega) (show n ≤ MS by omega) (xt_w1 hB.1 m_97b0f5b8) (xt_cdOf hB.1 m_97b0f5b8) (hts _ m_64857de5) hB hR hS hA (fun vv h9 H locs hq hEh9 hR hS => ?_)
    obtain ⟨r10, rfl, hw⟩ := hq
    have hw := hw hEh9
    have hE := hE.tr hEh9
    refine W.eq (g2 := F0 m 28 ls [.long r10, .long r8]) rfl ?_
    refine xb_lc_ge (tgt := 36) hx hb (xb_d D_Format_lesser 18 rfl) (xb_d D_Format_lesser 19 rfl) rfl (fun hc11 => ?_) (fun hc11 => ?_)
    · have hw := hw.1 hc11
      refine lv_lload_n hx hb (xb_d D_Format_lesser 22 rfl) rfl (lv_at hl 2 rfl) ?_
      exact am_Format_lesser_L37 l hfl D A σ MC MS h0 Qr x3 h9 hw p e s m args below meth c hC H locs ls k n hE (lv_sub hl [] rfl) hR hS (by omega) (by omega)
    · have hw := hw.2 hc11
      refine lv_lload_n hx hb (xb_d D_Format_lesser 20 rfl) rfl (lv_at hl 1 rfl) ?_
      refine lv_goto (tgt := 37) hx hb (xb_d D_Format_lesser 21 rfl) rfl ?_
      exact am_Format_lesser_L37 l hfl D A σ MC MS h0 Qr x1 h9 hw p e s m args below meth c hC H locs ls k n hE (lv_sub hl [] rfl) hR hS (by omega) (by omega)
  · have hw := hw.2 hc6
    refine lv_lload_n hx hb (xb_d D_Format_lesser 8 rfl) rfl (lv_at hl 1 rfl) ?_
    refine lv_lload_n hx hb (xb_d D_Format_lesser 9 rfl) rfl (lv_at hl 2 rfl) ?_
    refine lv_lor hx hb (xb_d D_Format_lesser 10 rfl) ?_
    exact xb_lret 0 0 hx hb hr hlocks (show k + 0 ≤ MC by omega) (show n + 0 ≤ MS by omega) hE hR hS (xb_d D_Format_lesser 11 rfl) hw

theorem m_d0153205 : (.methodLink "StackHost$Format" 83 y_Format_exponent : Cond) ∈ xt_tbl := xt_in (xt_t8 (List.mem_of_getElem? (i := 73) (by decide +kernel))) (by decide +kernel)
theorem m_2d8986b1 : (.instanceMethod y_Format_exponent : Cond) ∈ xt_tbl := xt_in (xt_t8 (List.mem_of_getElem? (i := 75) (by decide +kernel))) (by decide +kernel)
theorem m_b1d90305 : (.selects "StackHost$Format" y_Format_exponent y_Format_exponent : Cond) ∈ xt_tbl := xt_in (xt_v7 (q := (⟨"StackHost$Format", "exponent", "(J)I"⟩, 5)) (List.mem_of_getElem? (i := 7) (by decide +kernel))) (by decide +kernel)
theorem m_980e1e39 : (.code y_Format_exponent b_Format_exponent 7 (some .int) : Cond) ∈ xt_tbl := xt_in (xt_t8 (List.mem_of_getElem? (i := 76) (by decide +kernel))) (by decide +kernel)
theorem m_0dda6331 : (.methodLink "StackHost$Format" 80 y_Format_mantissa : Cond) ∈ xt_tbl := xt_in (xt_t8 (List.mem_of_getElem? (i := 78) (by decide +kernel))) (by decide +kernel)
theorem m_40be2e6d : (.instanceMethod y_Format_mantissa : Cond) ∈ xt_tbl := xt_in (xt_t8 (List.mem_of_getElem? (i := 80) (by decide +kernel))) (by decide +kernel)
theorem m_7a64b857 : (.selects "StackHost$Format" y_Format_mantissa y_Format_mantissa : Cond) ∈ xt_tbl := xt_in (xt_v7 (q := (⟨"StackHost$Format", "mantissa", "(J)J"⟩, 5)) (List.mem_of_getElem? (i := 8) (by decide +kernel))) (by decide +kernel)
theorem m_8bcfbce0 : (.code y_Format_mantissa b_Format_mantissa 7 (some .long) : Cond) ∈ xt_tbl := xt_in (xt_t8 (List.mem_of_getElem? (i := 81) (by decide +kernel))) (by decide +kernel)
theorem m_08178f23 : (.methodLink "StackHost$Format" 86 y_Format_nearest : Cond) ∈ xt_tbl := xt_in (xt_t8 (List.mem_of_getElem? (i := 50) (by decide +kernel))) (by decide +kernel)
theorem m_78208889 : (.instanceMethod y_Format_nearest : Cond) ∈ xt_tbl := xt_in (xt_t8 (List.mem_of_getElem? (i := 52) (by decide +kernel))) (by decide +kernel)
theorem m_f8745567 : (.selects "StackHost$Format" y_Format_nearest y_Format_nearest : Cond) ∈ xt_tbl := xt_in (xt_v7 (q := (⟨"StackHost$Format", "nearest", "(ZIJ)J"⟩, 5)) (List.mem_of_getElem? (i := 3) (by decide +kernel))) (by decide +kernel)
theorem m_a1b373a2 : (.code y_Format_nearest b_Format_nearest 20 (some .long) : Cond) ∈ xt_tbl := xt_in (xt_t8 (List.mem_of_getElem? (i := 53) (by decide +kernel))) (by decide +kernel)
theorem nm_Format_exponent : xt_nm y_Format_exponent 1 := ⟨by decide +kernel, by decide +kernel⟩
theorem nm_Format_mantissa : xt_nm y_Format_mantissa 1 := ⟨by decide +kernel, by decide +kernel⟩
theorem nm_Format_nearest : xt_nm y_Format_nearest 3 := ⟨by decide +kernel, by decide +kernel⟩
set_option maxRecDepth 100000 in
def T_Format_ofOther : List (Nat × Instr × Nat) := [(0, .aload_n 1, 1), (1, .lload_n 2, 1), (2, .invokevirtual 42, 3), (5, .ifCond .eq 8, 3), (8, .aload_n 0, 1), (9, .getfield 27, 3), (12, .lreturn, 1), (13, .aload_n 1, 1), (14, .lload_n 2, 1), (15, .invokevirtual 50, 3), (18, .istore 4, 2), (20, .aload_n 1, 1), (21, .lload_n 2, 1), (22, .invokevirtual 77, 3), (25, .ifCond .eq 14, 3), (28, .aload_n 0, 1), (29, .iload 4, 2), (31, .aload_n 0, 1), (32, .getfield 24, 3), (35, .invokevirtual 73, 3), (38, .lreturn, 1), (39, .aload_n 1, 1), (40, .lload_n 2, 1), (41, .invokevirtual 66, 3), (44, .ifCond .eq 11, 3), (47, .aload_n 0, 1), (48, .iload 4, 2), (50, .lconst 0, 1), (51, .invokevirtual 73, 3), (54, .lreturn, 1), (55, .aload_n 0, 1), (56, .iload 4, 2), (58, .aload_n 1, 1), (59, .lload_n 2, 1), (60, .invokevirtual 83, 3), (63, .aload_n 1, 1), (64, .lload_n 2, 1), (65, .invokevirtual 80, 3), (68, .invokevirtual 86, 3), (71, .lreturn, 1)]
theorem D_Format_ofOther : ∀ q ∈ T_Format_ofOther, decode b_Format_ofOther q.1 = .ok (q.2.1, q.2.2) := by decide +kernel

set_option maxHeartbeats 4000000 in
set_option maxRecDepth 100000 in
theorem ok_Format_ofOther (l : Launch) (hfl : l.flags = pinnedFlags ++ [noTraceFlag]) (D : va_G) (A : Nat → Prop) (σ : Nat) (x0 : Nat) (x1 : Nat) (x2 : Int64) (h : xb_H) (Qr : Int64 → xb_H → Prop) (hw : w_Format_ofOther x0 x1 x2 h Qr) : xb_Met l y_Format_ofOther [.code y_Format_ofOther b_Format_ofOther 5 (some .long)] (xb_rm 4 0 0) (xb_Pc D A σ h [.ref x0, .ref x1, .long x2]) (xb_Qc D A h 0 0 (fun v h _ _ => ∃ r, v = some (.long r) ∧ Qr r h) (fun _ _ _ _ => False)) A := by
  refine xb_ofAm (cc := b_Format_ofOther) (by decide) (Nat.le_of_ble_eq_true rfl) ?_
  unfold w_Format_ofOther at hw
  show xb_am l D A σ 4 0 0 h (fun v h _ _ => ∃ r, v = some (.long r) ∧ Qr r h) (fun _ _ _ _ => False) y_Format_ofOther.cls y_Format_ofOther.name b_Format_ofOther 5 ([] : List ExceptionTableEntry) (some .long) 0 [(0, .ref x0), (1, .ref x1), (2, .long x2)] [] h 0 0
  obtain ⟨MC, hMC⟩ : ∃ x, x = 0 := ⟨_, rfl⟩
  obtain ⟨MS, hMS⟩ : ∃ x, x = 0 := ⟨_, rfl⟩
  rw [show xb_am l D A σ 4 0 0 = xb_am l D A σ 4 MC MS by rw [hMC, hMS]]
  obtain ⟨h0, hh0⟩ : ∃ x, x = h := ⟨_, rfl⟩
  rw [show xb_am l D A σ 4 MC MS h = xb_am l D A σ 4 MC MS h0 by rw [hh0]]
  intro p e s m args below meth c hC H locs ls k n hE hl hR hS hk hn
  obtain ⟨hx, hb, hown, hlocks, htab, hml, hr, hB, hA, hnm⟩ := id hC
  have hts := hB.1.1.at args
  refine lv_aload_n hx hb (xb_d D_Format_ofOther 0 rfl) rfl (lv_at hl 1 rfl) ?_
  refine lv_lload_n hx hb (xb_d D_Format_ofOther 1 rfl) rfl (lv_at hl 2 rfl) ?_
  obtain ⟨hk1, hw⟩ := hw
  refine xb_call0 (D := D) (A := A) (σ := σ) (h := h) (d := 2) (maxL := 3) (rest := []) (av := [.ref x1, .long x2]) (fun T hT X => by obtain ⟨cb9, ra9, rb9, rc9⟩ := xb_recv (ci := 5) hR rfl hk1 (by decide); exact xt_invV X hx hown (hts _ m_e7d6b62e) (hts _ m_28f89ecd) (hts _ m_79f90d13) (xt_sigOf (hts _ m_2f81ed74)) nm_Format_isNan (by rw [hT]; exact ra9) rb9 rc9 (g := F0 m 2 ls [.long x2, .ref x1]) rfl (argsL := [.long x2]) (rest := []) rfl rfl (by rw [hb]; exact (xb_d D_Format_ofOther 2 rfl))) (ok_Format_isNan l hfl D A σ x1 x2 h _ hw) (hml.trans hl.1.symm) (by rw [hb]; exact (xb_d D_Format_ofOther 2 rfl)) (Nat.le_of_ble_eq_true rfl) (Nat.le_of_ble_eq_true rfl) (Nat.le_of_ble_eq_true rfl) (show k ≤ MC by omega) (show n ≤ MS by omega) (xt_w1 hB.1 m_2f81ed74) (xt_cdOf hB.1 m_2f81ed74) (hts _ m_64857de5) hB hR hS hA (fun vv h2 H locs hq hEh2 hR hS => ?_)
  obtain ⟨r3, rfl, hw⟩ := hq
  have hw := hw hEh2
  have hE := hE.tr hEh2
  refine W.eq (g2 := F0 m 5 ls [.int r3]) rfl ?_
  refine lv_if_eq (tgt := 13) hx hb (xb_d D_Format_ofOther 3 rfl) rfl (fun hc4 => ?_) (fun hc4 => ?_)
  · have hw := hw.1 hc4
    refine lv_aload_n hx hb (xb_d D_Format_ofOther 7 rfl) rfl (lv_at hl 1 rfl) ?_
    refine lv_lload_n hx hb (xb_d D_Format_ofOther 8 rfl) rfl (lv_at hl 2 rfl) ?_
    have hk1 : xb_k h2 x1 = 6 := hEh2.k hk1
    refine xb_call0 (D := D) (A := A) (σ := σ) (h := h2) (d := 2) (maxL := 3) (rest := []) (av := [.ref x1, .long x2]) (fun T hT X => by obtain ⟨cb9, ra9, rb9, rc9⟩ := xb_recv (ci := 5) hR rfl hk1 (by decide); exact xt_invV X hx hown (hts _ m_e7046197) (hts _ m_9e016368) (hts _ m_42f2e51b) (xt_sigOf (hts _ m_6ee44111)) nm_Format_isNegative (by rw [hT]; exact ra9) rb9 rc9 (g := F0 m 15 ls [.long x2, .ref x1]) rfl (argsL := [.long x2]) (rest := []) rfl rfl (by rw [hb]; exact (xb_d D_Format_ofOther 9 rfl))) (ok_Format_isNegative l hfl D A σ x1 x2 h2 _ hw) (hml.trans hl.1.symm) (by rw [hb]; exact (xb_d D_Format_ofOther 9 rfl)) (Nat.le_of_ble_eq_true rfl) (Nat.le_of_ble_eq_true rfl) (Nat.le_of_ble_eq_true rfl) (show k ≤ MC by omega) (show n ≤ MS by omega) (xt_w1 hB.1 m_6ee44111) (xt_cdOf hB.1 m_6ee44111) (hts _ m_64857de5) hB hR hS hA (fun vv h5 H locs hq hEh5 hR hS => ?_)
    obtain ⟨r6, rfl, hw⟩ := hq
    have hw := hw hEh5
    have hE := hE.tr hEh5
    refine W.eq (g2 := F0 m 18 ls [.int r6]) rfl ?_
    refine lv_istore hx hb (xb_d D_Format_ofOther 10 rfl) hl (by decide) rfl (fun ls hl => ?_)
    have hl : lv_has ls 5 [(4, .int r6), (0, .ref x0), (1, .ref x1), (2, .long x2)] := hl
    refine lv_aload_n hx hb (xb_d D_Format_ofOther 11 rfl) rfl (lv_at hl 2 rfl) ?_
    refine lv_lload_n hx hb (xb_d D_Format_ofOther 12 rfl) rfl (lv_at hl 3 rfl) ?_
    have hk1 : xb_k h5 x1 = 6 := hEh5.k hk1
    refine xb_call0 (D := D) (A := A) (σ := σ) (h := h5) (d := 2) (maxL := 3) (rest := []) (av := [.ref x1, .long x2]) (fun T hT X => by obtain ⟨cb9, ra9, rb9, rc9⟩ := xb_recv (ci := 5) hR rfl hk1 (by decide); exact xt_invV X hx hown (hts _ m_da28b66e) (hts _ m_a2bd27ec) (hts _ m_ea0426d6) (xt_sigOf (hts _ m_62c3a91f)) nm_Format_isInfinite (by rw [hT]; exact ra9) rb9 rc9 (g := F0 m 22 ls [.long x2, .ref x1]) rfl (argsL := [.long x2]) (rest := []) rfl rfl (by rw [hb]; exact (xb_d D_Format_ofOther 13 rfl))) (ok_Format_isInfinite l hfl D A σ x1 x2 h5 _ hw) (hml.trans hl.1.symm) (by rw [hb]; exact (xb_d D_Format_ofOther 13 rfl)) (Nat.le_of_ble_eq_true rfl) (Nat.le_of_ble_eq_true rfl) (Nat.le_of_ble_eq_true rfl) (show k ≤ MC by omega) (show n ≤ MS by omega) (xt_w1 hB.1 m_62c3a91f) (xt_cdOf hB.1 m_62c3a91f) (hts _ m_64857de5) hB hR hS hA (fun vv h7 H locs hq hEh7 hR hS => ?_)
    obtain ⟨r8, rfl, hw⟩ := hq
    have hw := hw hEh7
    have hE := hE.tr hEh7
    refine W.eq (g2 := F0 m 25 ls [.int r8]) rfl ?_
    refine lv_if_eq (tgt := 39) hx hb (xb_d D_Format_ofOther 14 rfl) rfl (fun hc9 => ?_) (fun hc9 => ?_)
    · have hw := hw.1 hc9
      refine lv_aload_n hx hb (xb_d D_Format_ofOther 21 rfl) rfl (lv_at hl 2 rfl) ?_
      refine lv_lload_n hx hb (xb_d D_Format_ofOther 22 rfl) rfl (lv_at hl 3 rfl) ?_
      have hk1 : xb_k h7 x1 = 6 := hEh7.k hk1
      refine xb_call0 (D := D) (A := A) (σ := σ) (h := h7) (d := 2) (maxL := 3) (rest := []) (av := [.ref x1, .long x2]) (fun T hT X => by obtain ⟨cb9, ra9, rb9, rc9⟩ := xb_recv (ci := 5) hR rfl hk1 (by decide); exact xt_invV X hx hown (hts _ m_113bafb3) (hts _ m_ac384f2f) (hts _ m_7587e6d0) (xt_sigOf (hts _ m_8c0ed8f1)) nm_Format_isZero (by rw [hT]; exact ra9) rb9 rc9 (g := F0 m 41 ls [.long x2, .ref x1]) rfl (argsL := [.long x2]) (rest := []) rfl rfl (by rw [hb]; exact (xb_d D_Format_ofOther 23 rfl))) (ok_Format_isZero l hfl D A σ x1 x2 h7 _ hw) (hml.trans hl.1.symm) (by rw [hb]; exact (xb_d D_Format_ofOther 23 rfl)) (Nat.le_of_ble_eq_true rfl) (Nat.le_of_ble_eq_true rfl) (Nat.le_of_ble_eq_true rfl) (show k ≤ MC by omega) (show n ≤ MS by omega) (xt_w1 hB.1 m_8c0ed8f1) (xt_cdOf hB.1 m_8c0ed8f1) (hts _ m_64857de5) hB hR hS hA (fun vv h10 H locs hq hEh10 hR hS => ?_)
      obtain ⟨r11, rfl, hw⟩ := hq
      have hw := hw hEh10
      have hE := hE.tr hEh10
      refine W.eq (g2 := F0 m 44 ls [.int r11]) rfl ?_
      refine lv_if_eq (tgt := 55) hx hb (xb_d D_Format_ofOther 24 rfl) rfl (fun hc12 => ?_) (fun hc12 => ?_)
      · have hw := hw.1 hc12
        refine lv_aload_n hx hb (xb_d D_Format_ofOther 30 rfl) rfl (lv_at hl 1 rfl) ?_
        refine lv_iload hx hb (xb_d D_Format_ofOther 31 rfl) (lv_at hl 0 rfl) ?_
        refine lv_aload_n hx hb (xb_d D_Format_ofOther 32 rfl) rfl (lv_at hl 2 rfl) ?_
        refine lv_lload_n hx hb (xb_d D_Format_ofOther 33 rfl) rfl (lv_at hl 3 rfl) ?_
        have hk1 : xb_k h10 x1 = 6 := hEh10.k hk1
        refine xb_call0 (D := D) (A := A) (σ := σ) (h := h10) (d := 3) (maxL := 7) (rest := [.int r6, .ref x0]) (av := [.ref x1, .long x2]) (fun T hT X => by obtain ⟨cb9, ra9, rb9, rc9⟩ := xb_recv (ci := 5) hR rfl hk1 (by decide); exact xt_invV X hx hown (hts _ m_d0153205) (hts _ m_2d8986b1) (hts _ m_b1d90305) (xt_sigOf (hts _ m_980e1e39)) nm_Format_exponent (by rw [hT]; exact ra9) rb9 rc9 (g := F0 m 60 ls [.long x2, .ref x1, .int r6, .ref x0]) rfl (argsL := [.long x2]) (rest := [.int r6, .ref x0]) rfl rfl (by rw [hb]; exact (xb_d D_Format_ofOther 34 rfl))) (ok_Format_exponent l hfl D A σ x1 x2 h10 _ hw) (hml.trans hl.1.symm) (by rw [hb]; exact (xb_d D_Format_ofOther 34 rfl)) (Nat.le_of_ble_eq_true rfl) (Nat.le_of_ble_eq_true rfl) (Nat.le_of_ble_eq_true rfl) (show k ≤ MC by omega) (show n ≤ MS by omega) (xt_w1 hB.1 m_980e1e39) (xt_cdOf hB.1 m_980e1e39) (hts _ m_64857de5) hB hR hS hA (fun vv h13 H locs hq hEh13 hR hS => ?_)
        obtain ⟨r14, rfl, hw⟩ := hq
        have hw := hw hEh13
        have hE := hE.tr hEh13
        refine W.eq (g2 := F0 m 63 ls [.int r14, .int r6, .ref x0]) rfl ?_
        refine lv_aload_n hx hb (xb_d D_Format_ofOther 35 rfl) rfl (lv_at hl 2 rfl) ?_
        refine lv_lload_n hx hb (xb_d D_Format_ofOther 36 rfl) rfl (lv_at hl 3 rfl) ?_
        have hk1 : xb_k h13 x1 = 6 := hEh13.k hk1
        refine xb_call0 (D := D) (A := A) (σ := σ) (h := h13) (d := 3) (maxL := 7) (rest := [.int r14, .int r6, .ref x0]) (av := [.ref x1, .long x2]) (fun T hT X => by obtain ⟨cb9, ra9, rb9, rc9⟩ := xb_recv (ci := 5) hR rfl hk1 (by decide); exact xt_invV X hx hown (hts _ m_0dda6331) (hts _ m_40be2e6d) (hts _ m_7a64b857) (xt_sigOf (hts _ m_8bcfbce0)) nm_Format_mantissa (by rw [hT]; exact ra9) rb9 rc9 (g := F0 m 65 ls [.long x2, .ref x1, .int r14, .int r6, .ref x0]) rfl (argsL := [.long x2]) (rest := [.int r14, .int r6, .ref x0]) rfl rfl (by rw [hb]; exact (xb_d D_Format_ofOther 37 rfl))) (ok_Format_mantissa l hfl D A σ x1 x2 h13 _ hw) (hml.trans hl.1.symm) (by rw [hb]; exact (xb_d D_Format_ofOther 37 rfl)) (Nat.le_of_ble_eq_true rfl) (Nat.le_of_ble_eq_true rfl) (Nat.le_of_ble_eq_true rfl) (show k ≤ MC by omega) (show n ≤ MS by omega) (xt_w1 hB.1 m_8bcfbce0) (xt_cdOf hB.1 m_8bcfbce0) (hts _ m_64857de5) hB hR hS hA (fun vv h15 H locs hq hEh15 hR hS => ?_)
        obtain ⟨r16, rfl, hw⟩ := hq
        have hw := hw hEh15
        have hE := hE.tr hEh15
        refine W.eq (g2 := F0 m 68 ls [.long r16, .int r14, .int r6, .ref x0]) rfl ?_
        obtain ⟨hk17, hw⟩ := hw
        refine xb_call0 (D := D) (A := A) (σ := σ) (h := h15) (d := 3) (maxL := 20) (rest := []) (av := [.ref x0, .int r6, .int r14, .long r16]) (fun T hT X => by obtain ⟨cb9, ra9, rb9, rc9⟩ := xb_recv (ci := 5) hR rfl hk17 (by decide); exact xt_invV X hx hown (hts _ m_08178f23) (hts _ m_78208889) (hts _ m_f8745567) (xt_sigOf (hts _ m_a1b373a2)) nm_Format_nearest (by rw [hT]; exact ra9) rb9 rc9 (g := F0 m 68 ls [.long r16, .int r14, .int r6, .ref x0]) rfl (argsL := [.int r6, .int r14, .long r16]) (rest := []) rfl rfl (by rw [hb]; exact (xb_d D_Format_ofOther 38 rfl))) (ok_Format_nearest l hfl D A σ x0 r6 r14 r16 h15 _ hw) (hml.trans hl.1.symm) (by rw [hb]; exact (xb_d D_Format_ofOther 38 rfl)) (Nat.le_of_ble_eq_true rfl) (Nat.le_of_ble_eq_true rfl) (Nat.le_of_ble_eq_true rfl) (show k ≤ MC by omega) (show n ≤ MS by omega) (xt_w1 hB.1 m_a1b373a2) (xt_cdOf hB.1 m_a1b373a2) (hts _ m_64857de5) hB hR hS hA (fun vv h18 H locs hq hEh18 hR hS => ?_)
        obtain ⟨r19, rfl, hw⟩ := hq
        have hw := hw hEh18
        have hE := hE.tr hEh18
        refine W.eq (g2 := F0 m 71 ls [.long r19]) rfl ?_
        exact xb_lret 0 0 hx hb hr hlocks (show k + 0 ≤ MC by omega) (show n + 0 ≤ MS by omega) hE hR hS (xb_d D_Format_ofOther 39 rfl) hw
      · have hw := hw.2 hc12
        refine lv_aload_n hx hb (xb_d D_Format_ofOther 25 rfl) rfl (lv_at hl 1 rfl) ?_
        refine lv_iload hx hb (xb_d D_Format_ofOther 26 rfl) (lv_at hl 0 rfl) ?_
        refine lv_lconst (v := 0) hx hb (xb_d D_Format_ofOther 27 rfl) (by decide) ?_
        obtain ⟨hk20, hw⟩ := hw
        refine xb_call0 (D := D) (A := A) (σ := σ) (h := h10) (d := 2) (maxL := 4) (rest := []) (av := [.ref x0, .int r6, .long 0]) (fun T hT X => by obtain ⟨cb9, ra9, rb9, rc9⟩ := xb_recv (ci := 5) hR rfl hk20 (by decide); exact xt_invV X hx hown (hts _ m_3189b10e) (hts _ m_ac70dee4) (hts _ m_6afae6d0) (xt_sigOf (hts _ m_a473a09c)) nm_Format_signed (by rw [hT]; exact ra9) rb9 rc9 (g := F0 m 51 ls [.long 0, .int r6, .ref x0]) rfl (argsL := [.int r6, .long 0]) (rest := []) rfl rfl (by rw [hb]; exact (xb_d D_Format_ofOther 28 rfl))) (ok_Format_signed l hfl D A σ x0 r6 0 h10 _ hw) (hml.trans hl.1.symm) (by rw [hb]; exact (xb_d D_Format_ofOther 28 rfl)) (Nat.le_of_ble_eq_true rfl) (Nat.le_of_ble_eq_true rfl) (Nat.le_of_ble_eq_true rfl) (show k ≤ MC by omega) (show n ≤ MS by omega) (xt_w1 hB.1 m_a473a09c) (xt_cdOf hB.1 m_a473a09c) (hts _ m_64857de5) hB hR hS hA (fun vv h21 H locs hq hEh21 hR hS => ?_)
        obtain ⟨r22, rfl, hw⟩ := hq
        have hw := hw hEh21
        have hE := hE.tr hEh21
        refine W.eq (g2 := F0 m 54 ls [.long r22]) rfl ?_
        exact xb_lret 0 0 hx hb hr hlocks (show k + 0 ≤ MC by omega) (show n + 0 ≤ MS by omega) hE hR hS (xb_d D_Format_ofOther 29 rfl) hw
    · have hw := hw.2 hc9
      refine lv_aload_n hx hb (xb_d D_Format_ofOther 15 rfl) rfl (lv_at hl 1 rfl) ?_
      refine lv_iload hx hb (xb_d D_Format_ofOther 16 rfl) (lv_at hl 0 rfl) ?_
      refine lv_aload_n hx hb (xb_d D_Format_ofOther 17 rfl) rfl (lv_at hl 1 rfl) ?_
      obtain ⟨hk23, hw⟩ := hw
      refine xb_getL (C := R_Format) (T := F_Format) (N := 5) hx hb 5 3 hts fin_Format hown hR hk23 (by decide) rfl (by decide) rfl (hts _ m_1e01af33) (fun _ h9 => h9) (xb_d D_Format_ofOther 18 rfl) ?_
      refine xb_call0 (D := D) (A := A) (σ := σ) (h := h7) (d := 2) (maxL := 4) (rest := []) (av := [.ref x0, .int r6, .long (xb_l h7 x0 3)]) (fun T hT X => by obtain ⟨cb9, ra9, rb9, rc9⟩ := xb_recv (ci := 5) hR rfl hk23 (by decide); exact xt_invV X hx hown (hts _ m_3189b10e) (hts _ m_ac70dee4) (hts _ m_6afae6d0) (xt_sigOf (hts _ m_a473a09c)) nm_Format_signed (by rw [hT]; exact ra9) rb9 rc9 (g := F0 m 35 ls [.long (xb_l h7 x0 3), .int r6, .ref x0]) rfl (argsL := [.int r6, .long (xb_l h7 x0 3)]) (rest := []) rfl rfl (by rw [hb]; exact (xb_d D_Format_ofOther 19 rfl))) (ok_Format_signed l hfl D A σ x0 r6 (xb_l h7 x0 3) h7 _ hw) (hml.trans hl.1.symm) (by rw [hb]; exact (xb_d D_Format_ofOther 19 rfl)) (Nat.le_of_ble_eq_true rfl) (Nat.le_of_ble_eq_true rfl) (Nat.le_of_ble_eq_true rfl) (show k ≤ MC by omega) (show n ≤ MS by omega) (xt_w1 hB.1 m_a473a09c) (xt_cdOf hB.1 m_a473a09c) (hts _ m_64857de5) hB hR hS hA (fun vv h24 H locs hq hEh24 hR hS => ?_)
      obtain ⟨r25, rfl, hw⟩ := hq
      have hw := hw hEh24
      have hE := hE.tr hEh24
      refine W.eq (g2 := F0 m 38 ls [.long r25]) rfl ?_
      exact xb_lret 0 0 hx hb hr hlocks (show k + 0 ≤ MC by omega) (show n + 0 ≤ MS by omega) hE hR hS (xb_d D_Format_ofOther 20 rfl) hw
  · have hw := hw.2 hc4
    refine lv_aload_n hx hb (xb_d D_Format_ofOther 4 rfl) rfl (lv_at hl 0 rfl) ?_
    obtain ⟨hk26, hw⟩ := hw
    refine xb_getL (C := R_Format) (T := F_Format) (N := 5) hx hb 5 4 hts fin_Format hown hR hk26 (by decide) rfl (by decide) rfl (hts _ m_291a6679) (fun _ h9 => h9) (xb_d D_Format_ofOther 5 rfl) ?_
    exact xb_lret 0 0 hx hb hr hlocks (show k + 0 ≤ MC by omega) (show n + 0 ≤ MS by omega) hE hR hS (xb_d D_Format_ofOther 6 rfl) hw

set_option maxRecDepth 100000 in
def T_Format_ofWhole : List (Nat × Instr × Nat) := [(0, .iload_n 3, 1), (1, .ifCond .eq 13, 3), (4, .lload_n 1, 1), (5, .lconst 0, 1), (6, .lcmp, 1), (7, .ifCond .ge 7, 3), (10, .iconst 1, 1), (11, .goto 4, 3), (14, .iconst 0, 1), (15, .istore 4, 2), (17, .iload 4, 2), (19, .ifCond .eq 8, 3), (22, .lload_n 1, 1), (23, .lneg, 1), (24, .goto 4, 3), (27, .lload_n 1, 1), (28, .lstore 5, 2), (30, .lload 5, 2), (32, .lconst 0, 1), (33, .lcmp, 1), (34, .ifCond .ne 5, 3), (37, .lconst 0, 1), (38, .lreturn, 1), (39, .lload 5, 2), (41, .lconst 0, 1), (42, .lcmp, 1), (43, .ifCond .ge 20, 3), (46, .aload_n 0, 1), (47, .iload 4, 2), (49, .iconst 1, 1), (50, .lload 5, 2), (52, .iconst 1, 1), (53, .lushr, 1), (54, .lload 5, 2), (56, .lconst 1, 1), (57, .land, 1), (58, .lor, 1), (59, .invokevirtual 86, 3), (62, .lreturn, 1), (63, .aload_n 0, 1), (64, .iload 4, 2), (66, .iconst 0, 1), (67, .lload 5, 2), (69, .invokevirtual 86, 3), (72, .lreturn, 1)]
theorem D_Format_ofWhole : ∀ q ∈ T_Format_ofWhole, decode b_Format_ofWhole q.1 = .ok (q.2.1, q.2.2) := by decide +kernel

set_option maxHeartbeats 4000000 in
set_option maxRecDepth 100000 in
theorem am_Format_ofWhole_L28 (l : Launch) (hfl : l.flags = pinnedFlags ++ [noTraceFlag]) (D : va_G) (A : Nat → Prop) (σ MC MS : Nat) (h0 : xb_H) (Qr : Int64 → xb_H → Prop) (x0 : Nat) (x4 : Int32) (y0 : Int64) (h : xb_H) (hw : w_Format_ofWhole_L28 Qr x0 x4 y0 h) : xb_am l D A σ 4 MC MS h0 (fun v h _ _ => ∃ r, v = some (.long r) ∧ Qr r h) (fun _ _ _ _ => False) y_Format_ofWhole.cls y_Format_ofWhole.name b_Format_ofWhole 7 ([] : List ExceptionTableEntry) (some .long) 28 [(0, .ref x0), (4, .int x4)] [.long y0] h 0 0 := by
  unfold w_Format_ofWhole_L28 at hw
  intro p e s m args below meth c hC H locs ls k n hE hl hR hS hk hn
  obtain ⟨hx, hb, hown, hlocks, htab, hml, hr, hB, hA, hnm⟩ := id hC
  have hts := hB.1.1.at args
  refine lv_lstore hx hb (xb_d D_Format_ofWhole 16 rfl) hl (by decide) rfl (fun ls hl => ?_)
  have hl : lv_has ls 7 [(5, .long y0), (0, .ref x0), (4, .int x4)] := hl
  refine lv_lload hx hb (xb_d D_Format_ofWhole 17 rfl) (lv_at hl 0 rfl) ?_
  refine lv_lconst (v := 0) hx hb (xb_d D_Format_ofWhole 18 rfl) (by decide) ?_
  refine xb_lc_ne (tgt := 39) hx hb (xb_d D_Format_ofWhole 19 rfl) (xb_d D_Format_ofWhole 20 rfl) rfl (fun hc1 => ?_) (fun hc1 => ?_)
  · have hw := hw.1 hc1
    refine lv_lload hx hb (xb_d D_Format_ofWhole 23 rfl) (lv_at hl 0 rfl) ?_
    refine lv_lconst (v := 0) hx hb (xb_d D_Format_ofWhole 24 rfl) (by decide) ?_
    refine xb_lc_ge (tgt := 63) hx hb (xb_d D_Format_ofWhole 25 rfl) (xb_d D_Format_ofWhole 26 rfl) rfl (fun hc2 => ?_) (fun hc2 => ?_)
    · have hw := hw.1 hc2
      refine lv_aload_n hx hb (xb_d D_Format_ofWhole 39 rfl) rfl (lv_at hl 1 rfl) ?_
      refine lv_iload hx hb (xb_d D_Format_ofWhole 40 rfl) (lv_at hl 2 rfl) ?_
      refine lv_iconst (v := 0) hx hb (xb_d D_Format_ofWhole 41 rfl) (by decide) ?_
      refine lv_lload hx hb (xb_d D_Format_ofWhole 42 rfl) (lv_at hl 0 rfl) ?_
      obtain ⟨hk3, hw⟩ := hw
      refine xb_call0 (D := D) (A := A) (σ := σ) (h := h) (d := 3) (maxL := 20) (rest := []) (av := [.ref x0, .int x4, .int 0, .long y0]) (fun T hT X => by obtain ⟨cb9, ra9, rb9, rc9⟩ := xb_recv (ci := 5) hR rfl hk3 (by decide); exact xt_invV X hx hown (hts _ m_08178f23) (hts _ m_78208889) (hts _ m_f8745567) (xt_sigOf (hts _ m_a1b373a2)) nm_Format_nearest (by rw [hT]; exact ra9) rb9 rc9 (g := F0 m 69 ls [.long y0, .int 0, .int x4, .ref x0]) rfl (argsL := [.int x4, .int 0, .long y0]) (rest := []) rfl rfl (by rw [hb]; exact (xb_d D_Format_ofWhole 43 rfl))) (ok_Format_nearest l hfl D A σ x0 x4 0 y0 h _ hw) (hml.trans hl.1.symm) (by rw [hb]; exact (xb_d D_Format_ofWhole 43 rfl)) (Nat.le_of_ble_eq_true rfl) (Nat.le_of_ble_eq_true rfl) (Nat.le_of_ble_eq_true rfl) (show k ≤ MC by omega) (show n ≤ MS by omega) (xt_w1 hB.1 m_a1b373a2) (xt_cdOf hB.1 m_a1b373a2) (hts _ m_64857de5) hB hR hS hA (fun vv h4 H locs hq hEh4 hR hS => ?_)
      obtain ⟨r5, rfl, hw⟩ := hq
      have hw := hw hEh4
      have hE := hE.tr hEh4
      refine W.eq (g2 := F0 m 72 ls [.long r5]) rfl ?_
      exact xb_lret 0 0 hx hb hr hlocks (show k + 0 ≤ MC by omega) (show n + 0 ≤ MS by omega) hE hR hS (xb_d D_Format_ofWhole 44 rfl) hw
    · have hw := hw.2 hc2
      refine lv_aload_n hx hb (xb_d D_Format_ofWhole 27 rfl) rfl (lv_at hl 1 rfl) ?_
      refine lv_iload hx hb (xb_d D_Format_ofWhole 28 rfl) (lv_at hl 2 rfl) ?_
      refine lv_iconst (v := 1) hx hb (xb_d D_Format_ofWhole 29 rfl) (by decide) ?_
      refine lv_lload hx hb (xb_d D_Format_ofWhole 30 rfl) (lv_at hl 0 rfl) ?_
      refine lv_iconst (v := 1) hx hb (xb_d D_Format_ofWhole 31 rfl) (by decide) ?_
      refine lv_lushr (v := (xb_lushr y0 1)) hx hb (xb_d D_Format_ofWhole 32 rfl) rfl ?_
      refine lv_lload hx hb (xb_d D_Format_ofWhole 33 rfl) (lv_at hl 0 rfl) ?_
      refine lv_lconst (v := 1) hx hb (xb_d D_Format_ofWhole 34 rfl) (by decide) ?_
      refine lv_land hx hb (xb_d D_Format_ofWhole 35 rfl) ?_
      refine lv_lor hx hb (xb_d D_Format_ofWhole 36 rfl) ?_
      obtain ⟨hk6, hw⟩ := hw
      refine xb_call0 (D := D) (A := A) (σ := σ) (h := h) (d := 3) (maxL := 20) (rest := []) (av := [.ref x0, .int x4, .int 1, .long ((xb_lushr y0 1) ||| (y0 &&& 1))]) (fun T hT X => by obtain ⟨cb9, ra9, rb9, rc9⟩ := xb_recv (ci := 5) hR rfl hk6 (by decide); exact xt_invV X hx hown (hts _ m_08178f23) (hts _ m_78208889) (hts _ m_f8745567) (xt_sigOf (hts _ m_a1b373a2)) nm_Format_nearest (by rw [hT]; exact ra9) rb9 rc9 (g := F0 m 59 ls [.long ((xb_lushr y0 1) ||| (y0 &&& 1)), .int 1, .int x4, .ref x0]) rfl (argsL := [.int x4, .int 1, .long ((xb_lushr y0 1) ||| (y0 &&& 1))]) (rest := []) rfl rfl (by rw [hb]; exact (xb_d D_Format_ofWhole 37 rfl))) (ok_Format_nearest l hfl D A σ x0 x4 1 ((xb_lushr y0 1) ||| (y0 &&& 1)) h _ hw) (hml.trans hl.1.symm) (by rw [hb]; exact (xb_d D_Format_ofWhole 37 rfl)) (Nat.le_of_ble_eq_true rfl) (Nat.le_of_ble_eq_true rfl) (Nat.le_of_ble_eq_true rfl) (show k ≤ MC by omega) (show n ≤ MS by omega) (xt_w1 hB.1 m_a1b373a2) (xt_cdOf hB.1 m_a1b373a2) (hts _ m_64857de5) hB hR hS hA (fun vv h7 H locs hq hEh7 hR hS => ?_)
      obtain ⟨r8, rfl, hw⟩ := hq
      have hw := hw hEh7
      have hE := hE.tr hEh7
      refine W.eq (g2 := F0 m 62 ls [.long r8]) rfl ?_
      exact xb_lret 0 0 hx hb hr hlocks (show k + 0 ≤ MC by omega) (show n + 0 ≤ MS by omega) hE hR hS (xb_d D_Format_ofWhole 38 rfl) hw
  · have hw := hw.2 hc1
    refine lv_lconst (v := 0) hx hb (xb_d D_Format_ofWhole 21 rfl) (by decide) ?_
    exact xb_lret 0 0 hx hb hr hlocks (show k + 0 ≤ MC by omega) (show n + 0 ≤ MS by omega) hE hR hS (xb_d D_Format_ofWhole 22 rfl) hw

set_option maxHeartbeats 4000000 in
set_option maxRecDepth 100000 in
theorem am_Format_ofWhole_L15 (l : Launch) (hfl : l.flags = pinnedFlags ++ [noTraceFlag]) (D : va_G) (A : Nat → Prop) (σ MC MS : Nat) (h0 : xb_H) (Qr : Int64 → xb_H → Prop) (x0 : Nat) (x1 : Int64) (y0 : Int32) (h : xb_H) (hw : w_Format_ofWhole_L15 Qr x0 x1 y0 h) : xb_am l D A σ 4 MC MS h0 (fun v h _ _ => ∃ r, v = some (.long r) ∧ Qr r h) (fun _ _ _ _ => False) y_Format_ofWhole.cls y_Format_ofWhole.name b_Format_ofWhole 7 ([] : List ExceptionTableEntry) (some .long) 15 [(0, .ref x0), (1, .long x1)] [.int y0] h 0 0 := by
  unfold w_Format_ofWhole_L15 at hw
  intro p e s m args below meth c hC H locs ls k n hE hl hR hS hk hn
  obtain ⟨hx, hb, hown, hlocks, htab, hml, hr, hB, hA, hnm⟩ := id hC
  have hts := hB.1.1.at args
  refine lv_istore hx hb (xb_d D_Format_ofWhole 9 rfl) hl (by decide) rfl (fun ls hl => ?_)
  have hl : lv_has ls 7 [(4, .int y0), (0, .ref x0), (1, .long x1)] := hl
  refine lv_iload hx hb (xb_d D_Format_ofWhole 10 rfl) (lv_at hl 0 rfl) ?_
  refine lv_if_eq (tgt := 27) hx hb (xb_d D_Format_ofWhole 11 rfl) rfl (fun hc1 => ?_) (fun hc1 => ?_)
  · have hw := hw.1 hc1
    refine lv_lload_n hx hb (xb_d D_Format_ofWhole 15 rfl) rfl (lv_at hl 2 rfl) ?_
    exact am_Format_ofWhole_L28 l hfl D A σ MC MS h0 Qr x0 y0 x1 h hw p e s m args below meth c hC H locs ls k n hE (lv_sub hl [1, 0] rfl) hR hS (by omega) (by omega)
  · have hw := hw.2 hc1
    refine lv_lload_n hx hb (xb_d D_Format_ofWhole 12 rfl) rfl (lv_at hl 2 rfl) ?_
    refine lv_lneg hx hb (xb_d D_Format_ofWhole 13 rfl) ?_
    refine lv_goto (tgt := 28) hx hb (xb_d D_Format_ofWhole 14 rfl) rfl ?_
    exact am_Format_ofWhole_L28 l hfl D A σ MC MS h0 Qr x0 y0 (-x1) h hw p e s m args below meth c hC H locs ls k n hE (lv_sub hl [1, 0] rfl) hR hS (by omega) (by omega)

set_option maxHeartbeats 4000000 in
set_option maxRecDepth 100000 in
theorem am_Format_ofWhole_L14 (l : Launch) (hfl : l.flags = pinnedFlags ++ [noTraceFlag]) (D : va_G) (A : Nat → Prop) (σ MC MS : Nat) (h0 : xb_H) (Qr : Int64 → xb_H → Prop) (x0 : Nat) (x1 : Int64) (h : xb_H) (hw : w_Format_ofWhole_L14 Qr x0 x1 h) : xb_am l D A σ 4 MC MS h0 (fun v h _ _ => ∃ r, v = some (.long r) ∧ Qr r h) (fun _ _ _ _ => False) y_Format_ofWhole.cls y_Format_ofWhole.name b_Format_ofWhole 7 ([] : List ExceptionTableEntry) (some .long) 14 [(0, .ref x0), (1, .long x1)] [] h 0 0 := by
  unfold w_Format_ofWhole_L14 at hw
  intro p e s m args below meth c hC H locs ls k n hE hl hR hS hk hn
  obtain ⟨hx, hb, hown, hlocks, htab, hml, hr, hB, hA, hnm⟩ := id hC
  have hts := hB.1.1.at args
  refine lv_iconst (v := 0) hx hb (xb_d D_Format_ofWhole 8 rfl) (by decide) ?_
  exact am_Format_ofWhole_L15 l hfl D A σ MC MS h0 Qr x0 x1 0 h hw p e s m args below meth c hC H locs ls k n hE (lv_sub hl [0, 1] rfl) hR hS (by omega) (by omega)

set_option maxHeartbeats 4000000 in
set_option maxRecDepth 100000 in
theorem ok_Format_ofWhole (l : Launch) (hfl : l.flags = pinnedFlags ++ [noTraceFlag]) (D : va_G) (A : Nat → Prop) (σ : Nat) (x0 : Nat) (x1 : Int64) (x3 : Int32) (h : xb_H) (Qr : Int64 → xb_H → Prop) (hw : w_Format_ofWhole x0 x1 x3 h Qr) : xb_Met l y_Format_ofWhole [.code y_Format_ofWhole b_Format_ofWhole 7 (some .long)] (xb_rm 4 0 0) (xb_Pc D A σ h [.ref x0, .long x1, .int x3]) (xb_Qc D A h 0 0 (fun v h _ _ => ∃ r, v = some (.long r) ∧ Qr r h) (fun _ _ _ _ => False)) A := by
  refine xb_ofAm (cc := b_Format_ofWhole) (by decide) (Nat.le_of_ble_eq_true rfl) ?_
  unfold w_Format_ofWhole at hw
  show xb_am l D A σ 4 0 0 h (fun v h _ _ => ∃ r, v = some (.long r) ∧ Qr r h) (fun _ _ _ _ => False) y_Format_ofWhole.cls y_Format_ofWhole.name b_Format_ofWhole 7 ([] : List ExceptionTableEntry) (some .long) 0 [(0, .ref x0), (1, .long x1), (3, .int x3)] [] h 0 0
  obtain ⟨MC, hMC⟩ : ∃ x, x = 0 := ⟨_, rfl⟩
  obtain ⟨MS, hMS⟩ : ∃ x, x = 0 := ⟨_, rfl⟩
  rw [show xb_am l D A σ 4 0 0 = xb_am l D A σ 4 MC MS by rw [hMC, hMS]]
  obtain ⟨h0, hh0⟩ : ∃ x, x = h := ⟨_, rfl⟩
  rw [show xb_am l D A σ 4 MC MS h = xb_am l D A σ 4 MC MS h0 by rw [hh0]]
  intro p e s m args below meth c hC H locs ls k n hE hl hR hS hk hn
  obtain ⟨hx, hb, hown, hlocks, htab, hml, hr, hB, hA, hnm⟩ := id hC
  have hts := hB.1.1.at args
  refine lv_iload_n hx hb (xb_d D_Format_ofWhole 0 rfl) rfl (lv_at hl 2 rfl) ?_
  refine lv_if_eq (tgt := 14) hx hb (xb_d D_Format_ofWhole 1 rfl) rfl (fun hc1 => ?_) (fun hc1 => ?_)
  · have hw := hw.1 hc1
    exact am_Format_ofWhole_L14 l hfl D A σ MC MS h0 Qr x0 x1 h hw p e s m args below meth c hC H locs ls k n hE (lv_sub hl [0, 1] rfl) hR hS (by omega) (by omega)
  · have hw := hw.2 hc1
    refine lv_lload_n hx hb (xb_d D_Format_ofWhole 2 rfl) rfl (lv_at hl 1 rfl) ?_
    refine lv_lconst (v := 0) hx hb (xb_d D_Format_ofWhole 3 rfl) (by decide) ?_
    refine xb_lc_ge (tgt := 14) hx hb (xb_d D_Format_ofWhole 4 rfl) (xb_d D_Format_ofWhole 5 rfl) rfl (fun hc2 => ?_) (fun hc2 => ?_)
    · have hw := hw.1 hc2
      exact am_Format_ofWhole_L14 l hfl D A σ MC MS h0 Qr x0 x1 h hw p e s m args below meth c hC H locs ls k n hE (lv_sub hl [0, 1] rfl) hR hS (by omega) (by omega)
    · have hw := hw.2 hc2
      refine lv_iconst (v := 1) hx hb (xb_d D_Format_ofWhole 6 rfl) (by decide) ?_
      refine lv_goto (tgt := 15) hx hb (xb_d D_Format_ofWhole 7 rfl) rfl ?_
      exact am_Format_ofWhole_L15 l hfl D A σ MC MS h0 Qr x0 x1 1 h hw p e s m args below meth c hC H locs ls k n hE (lv_sub hl [0, 1] rfl) hR hS (by omega) (by omega)

theorem m_00e85c04 : (.methodLink "StackHost$Format" 113 y_Format_highProduct : Cond) ∈ xt_tbl := xt_in (xt_t8 (List.mem_of_getElem? (i := 124) (by decide +kernel))) (by decide +kernel)
theorem m_ad3cba37 : (.static y_Format_highProduct : Cond) ∈ xt_tbl := xt_in (xt_t8 (List.mem_of_getElem? (i := 125) (by decide +kernel))) (by decide +kernel)
theorem m_5f76461d : (.code y_Format_highProduct b_Format_highProduct 21 (some .long) : Cond) ∈ xt_tbl := xt_in (xt_t8 (List.mem_of_getElem? (i := 126) (by decide +kernel))) (by decide +kernel)
theorem nm_Format_highProduct : xt_nm y_Format_highProduct 2 := ⟨by decide +kernel, by decide +kernel⟩
set_option maxRecDepth 100000 in
def T_Format_product : List (Nat × Instr × Nat) := [(0, .aload_n 0, 1), (1, .lload_n 1, 1), (2, .invokevirtual 50, 3), (5, .aload_n 0, 1), (6, .lload_n 3, 1), (7, .invokevirtual 50, 3), (10, .if_icmp .eq 7, 3), (13, .iconst 1, 1), (14, .goto 4, 3), (17, .iconst 0, 1), (18, .istore 5, 2), (20, .aload_n 0, 1), (21, .lload_n 1, 1), (22, .invokevirtual 77, 3), (25, .ifCond .ne 11, 3), (28, .aload_n 0, 1), (29, .lload_n 3, 1), (30, .invokevirtual 77, 3), (33, .ifCond .eq 37, 3), (36, .aload_n 0, 1), (37, .lload_n 1, 1), (38, .invokevirtual 66, 3), (41, .ifCond .ne 11, 3), (44, .aload_n 0, 1), (45, .lload_n 3, 1), (46, .invokevirtual 66, 3), (49, .ifCond .eq 10, 3), (52, .aload_n 0, 1), (53, .getfield 27, 3), (56, .goto 13, 3), (59, .aload_n 0, 1), (60, .iload 5, 2), (62, .aload_n 0, 1), (63, .getfield 24, 3), (66, .invokevirtual 73, 3), (69, .lreturn, 1), (70, .aload_n 0, 1), (71, .lload_n 1, 1), (72, .invokevirtual 66, 3), (75, .ifCond .ne 11, 3), (78, .aload_n 0, 1), (79, .lload_n 3, 1), (80, .invokevirtual 66, 3), (83, .ifCond .eq 11, 3), (86, .aload_n 0, 1), (87, .iload 5, 2), (89, .lconst 0, 1), (90, .invokevirtual 73, 3), (93, .lreturn, 1), (94, .bipush 63, 2), (96, .aload_n 0, 1), (97, .getfield 9, 3), (100, .isub, 1), (101, .istore 6, 2), (103, .aload_n 0, 1), (104, .lload_n 1, 1), (105, .invokevirtual 83, 3), (108, .aload_n 0, 1), (109, .lload_n 3, 1), (110, .invokevirtual 83, 3), (113, .iadd, 1), (114, .iconst 2, 1), (115, .iload 6, 2), (117, .imul, 1), (118, .isub, 1), (119, .bipush 64, 2), (121, .iadd, 1), (122, .istore 7, 2), (124, .aload_n 0, 1), (125, .iload 5, 2), (127, .iload 7, 2), (129, .aload_n 0, 1), (130, .lload_n 1, 1), (131, .invokevirtual 80, 3), (134, .iload 6, 2), (136, .lshl, 1), (137, .aload_n 0, 1), (138, .lload_n 3, 1), (139, .invokevirtual 80, 3), (142, .iload 6, 2), (144, .lshl, 1), (145, .invokestatic 113, 3), (148, .invokevirtual 86, 3), (151, .lreturn, 1)]
theorem D_Format_product : ∀ q ∈ T_Format_product, decode b_Format_product q.1 = .ok (q.2.1, q.2.2) := by decide +kernel

set_option maxHeartbeats 4000000 in
set_option maxRecDepth 100000 in
theorem am_Format_product_L86 (l : Launch) (hfl : l.flags = pinnedFlags ++ [noTraceFlag]) (D : va_G) (A : Nat → Prop) (σ MC MS : Nat) (h0 : xb_H) (Qr : Int64 → xb_H → Prop) (x0 : Nat) (x5 : Int32) (h : xb_H) (hw : w_Format_product_L86 Qr x0 x5 h) : xb_am l D A σ 4 MC MS h0 (fun v h _ _ => ∃ r, v = some (.long r) ∧ Qr r h) (fun _ _ _ _ => False) y_Format_product.cls y_Format_product.name b_Format_product 8 ([] : List ExceptionTableEntry) (some .long) 86 [(0, .ref x0), (5, .int x5)] [] h 0 0 := by
  unfold w_Format_product_L86 at hw
  intro p e s m args below meth c hC H locs ls k n hE hl hR hS hk hn
  obtain ⟨hx, hb, hown, hlocks, htab, hml, hr, hB, hA, hnm⟩ := id hC
  have hts := hB.1.1.at args
  refine lv_aload_n hx hb (xb_d D_Format_product 44 rfl) rfl (lv_at hl 0 rfl) ?_
  refine lv_iload hx hb (xb_d D_Format_product 45 rfl) (lv_at hl 1 rfl) ?_
  refine lv_lconst (v := 0) hx hb (xb_d D_Format_product 46 rfl) (by decide) ?_
  obtain ⟨hk1, hw⟩ := hw
  refine xb_call0 (D := D) (A := A) (σ := σ) (h := h) (d := 2) (maxL := 4) (rest := []) (av := [.ref x0, .int x5, .long 0]) (fun T hT X => by obtain ⟨cb9, ra9, rb9, rc9⟩ := xb_recv (ci := 5) hR rfl hk1 (by decide); exact xt_invV X hx hown (hts _ m_3189b10e) (hts _ m_ac70dee4) (hts _ m_6afae6d0) (xt_sigOf (hts _ m_a473a09c)) nm_Format_signed (by rw [hT]; exact ra9) rb9 rc9 (g := F0 m 90 ls [.long 0, .int x5, .ref x0]) rfl (argsL := [.int x5, .long 0]) (rest := []) rfl rfl (by rw [hb]; exact (xb_d D_Format_product 47 rfl))) (ok_Format_signed l hfl D A σ x0 x5 0 h _ hw) (hml.trans hl.1.symm) (by rw [hb]; exact (xb_d D_Format_product 47 rfl)) (Nat.le_of_ble_eq_true rfl) (Nat.le_of_ble_eq_true rfl) (Nat.le_of_ble_eq_true rfl) (show k ≤ MC by omega) (show n ≤ MS by omega) (xt_w1 hB.1 m_a473a09c) (xt_cdOf hB.1 m_a473a09c) (hts _ m_64857de5) hB hR hS hA (fun vv h2 H locs hq hEh2 hR hS => ?_)
  obtain ⟨r3, rfl, hw⟩ := hq
  have hw := hw hEh2
  have hE := hE.tr hEh2
  refine W.eq (g2 := F0 m 93 ls [.long r3]) rfl ?_
  exact xb_lret 0 0 hx hb hr hlocks (show k + 0 ≤ MC by omega) (show n + 0 ≤ MS by omega) hE hR hS (xb_d D_Format_product 48 rfl) hw

set_option maxHeartbeats 4000000 in
set_option maxRecDepth 100000 in
theorem am_Format_product_L69 (l : Launch) (hfl : l.flags = pinnedFlags ++ [noTraceFlag]) (D : va_G) (A : Nat → Prop) (σ MC MS : Nat) (h0 : xb_H) (Qr : Int64 → xb_H → Prop) (y0 : Int64) (h : xb_H) (hw : w_Format_product_L69 Qr y0 h) : xb_am l D A σ 4 MC MS h0 (fun v h _ _ => ∃ r, v = some (.long r) ∧ Qr r h) (fun _ _ _ _ => False) y_Format_product.cls y_Format_product.name b_Format_product 8 ([] : List ExceptionTableEntry) (some .long) 69 [] [.long y0] h 0 0 := by
  unfold w_Format_product_L69 at hw
  intro p e s m args below meth c hC H locs ls k n hE hl hR hS hk hn
  obtain ⟨hx, hb, hown, hlocks, htab, hml, hr, hB, hA, hnm⟩ := id hC
  have hts := hB.1.1.at args
  exact xb_lret 0 0 hx hb hr hlocks (show k + 0 ≤ MC by omega) (show n + 0 ≤ MS by omega) hE hR hS (xb_d D_Format_product 35 rfl) hw

set_option maxHeartbeats 4000000 in
set_option maxRecDepth 100000 in
theorem am_Format_product_L52 (l : Launch) (hfl : l.flags = pinnedFlags ++ [noTraceFlag]) (D : va_G) (A : Nat → Prop) (σ MC MS : Nat) (h0 : xb_H) (Qr : Int64 → xb_H → Prop) (x0 : Nat) (h : xb_H) (hw : w_Format_product_L52 Qr x0 h) : xb_am l D A σ 4 MC MS h0 (fun v h _ _ => ∃ r, v = some (.long r) ∧ Qr r h) (fun _ _ _ _ => False) y_Format_product.cls y_Format_product.name b_Format_product 8 ([] : List ExceptionTableEntry) (some .long) 52 [(0, .ref x0)] [] h 0 0 := by
  unfold w_Format_product_L52 at hw
  intro p e s m args below meth c hC H locs ls k n hE hl hR hS hk hn
  obtain ⟨hx, hb, hown, hlocks, htab, hml, hr, hB, hA, hnm⟩ := id hC
  have hts := hB.1.1.at args
  refine lv_aload_n hx hb (xb_d D_Format_product 27 rfl) rfl (lv_at hl 0 rfl) ?_
  obtain ⟨hk1, hw⟩ := hw
  refine xb_getL (C := R_Format) (T := F_Format) (N := 5) hx hb 5 4 hts fin_Format hown hR hk1 (by decide) rfl (by decide) rfl (hts _ m_291a6679) (fun _ h9 => h9) (xb_d D_Format_product 28 rfl) ?_
  refine lv_goto (tgt := 69) hx hb (xb_d D_Format_product 29 rfl) rfl ?_
  exact am_Format_product_L69 l hfl D A σ MC MS h0 Qr (xb_l h x0 4) h hw p e s m args below meth c hC H locs ls k n hE (lv_sub hl [] rfl) hR hS (by omega) (by omega)

set_option maxHeartbeats 4000000 in
set_option maxRecDepth 100000 in
theorem am_Format_product_L36 (l : Launch) (hfl : l.flags = pinnedFlags ++ [noTraceFlag]) (D : va_G) (A : Nat → Prop) (σ MC MS : Nat) (h0 : xb_H) (Qr : Int64 → xb_H → Prop) (x0 : Nat) (x1 : Int64) (x3 : Int64) (x5 : Int32) (h : xb_H) (hw : w_Format_product_L36 Qr x0 x1 x3 x5 h) : xb_am l D A σ 4 MC MS h0 (fun v h _ _ => ∃ r, v = some (.long r) ∧ Qr r h) (fun _ _ _ _ => False) y_Format_product.cls y_Format_product.name b_Format_product 8 ([] : List ExceptionTableEntry) (some .long) 36 [(0, .ref x0), (1, .long x1), (3, .long x3), (5, .int x5)] [] h 0 0 := by
  unfold w_Format_product_L36 at hw
  intro p e s m args below meth c hC H locs ls k n hE hl hR hS hk hn
  obtain ⟨hx, hb, hown, hlocks, htab, hml, hr, hB, hA, hnm⟩ := id hC
  have hts := hB.1.1.at args
  refine lv_aload_n hx hb (xb_d D_Format_product 19 rfl) rfl (lv_at hl 0 rfl) ?_
  refine lv_lload_n hx hb (xb_d D_Format_product 20 rfl) rfl (lv_at hl 1 rfl) ?_
  obtain ⟨hk1, hw⟩ := hw
  refine xb_call0 (D := D) (A := A) (σ := σ) (h := h) (d := 2) (maxL := 3) (rest := []) (av := [.ref x0, .long x1]) (fun T hT X => by obtain ⟨cb9, ra9, rb9, rc9⟩ := xb_recv (ci := 5) hR rfl hk1 (by decide); exact xt_invV X hx hown (hts _ m_113bafb3) (hts _ m_ac384f2f) (hts _ m_7587e6d0) (xt_sigOf (hts _ m_8c0ed8f1)) nm_Format_isZero (by rw [hT]; exact ra9) rb9 rc9 (g := F0 m 38 ls [.long x1, .ref x0]) rfl (argsL := [.long x1]) (rest := []) rfl rfl (by rw [hb]; exact (xb_d D_Format_product 21 rfl))) (ok_Format_isZero l hfl D A σ x0 x1 h _ hw) (hml.trans hl.1.symm) (by rw [hb]; exact (xb_d D_Format_product 21 rfl)) (Nat.le_of_ble_eq_true rfl) (Nat.le_of_ble_eq_true rfl) (Nat.le_of_ble_eq_true rfl) (show k ≤ MC by omega) (show n ≤ MS by omega) (xt_w1 hB.1 m_8c0ed8f1) (xt_cdOf hB.1 m_8c0ed8f1) (hts _ m_64857de5) hB hR hS hA (fun vv h2 H locs hq hEh2 hR hS => ?_)
  obtain ⟨r3, rfl, hw⟩ := hq
  have hw := hw hEh2
  have hE := hE.tr hEh2
  refine W.eq (g2 := F0 m 41 ls [.int r3]) rfl ?_
  refine lv_if_ne (tgt := 52) hx hb (xb_d D_Format_product 22 rfl) rfl (fun hc4 => ?_) (fun hc4 => ?_)
  · have hw := hw.1 hc4
    exact am_Format_product_L52 l hfl D A σ MC MS h0 Qr x0 h2 hw p e s m args below meth c hC H locs ls k n hE (lv_sub hl [0] rfl) hR hS (by omega) (by omega)
  · have hw := hw.2 hc4
    refine lv_aload_n hx hb (xb_d D_Format_product 23 rfl) rfl (lv_at hl 0 rfl) ?_
    refine lv_lload_n hx hb (xb_d D_Format_product 24 rfl) rfl (lv_at hl 2 rfl) ?_
    have hk1 : xb_k h2 x0 = 6 := hEh2.k hk1
    refine xb_call0 (D := D) (A := A) (σ := σ) (h := h2) (d := 2) (maxL := 3) (rest := []) (av := [.ref x0, .long x3]) (fun T hT X => by obtain ⟨cb9, ra9, rb9, rc9⟩ := xb_recv (ci := 5) hR rfl hk1 (by decide); exact xt_invV X hx hown (hts _ m_113bafb3) (hts _ m_ac384f2f) (hts _ m_7587e6d0) (xt_sigOf (hts _ m_8c0ed8f1)) nm_Format_isZero (by rw [hT]; exact ra9) rb9 rc9 (g := F0 m 46 ls [.long x3, .ref x0]) rfl (argsL := [.long x3]) (rest := []) rfl rfl (by rw [hb]; exact (xb_d D_Format_product 25 rfl))) (ok_Format_isZero l hfl D A σ x0 x3 h2 _ hw) (hml.trans hl.1.symm) (by rw [hb]; exact (xb_d D_Format_product 25 rfl)) (Nat.le_of_ble_eq_true rfl) (Nat.le_of_ble_eq_true rfl) (Nat.le_of_ble_eq_true rfl) (show k ≤ MC by omega) (show n ≤ MS by omega) (xt_w1 hB.1 m_8c0ed8f1) (xt_cdOf hB.1 m_8c0ed8f1) (hts _ m_64857de5) hB hR hS hA (fun vv h5 H locs hq hEh5 hR hS => ?_)
    obtain ⟨r6, rfl, hw⟩ := hq
    have hw := hw hEh5
    have hE := hE.tr hEh5
    refine W.eq (g2 := F0 m 49 ls [.int r6]) rfl ?_
    refine lv_if_eq (tgt := 59) hx hb (xb_d D_Format_product 26 rfl) rfl (fun hc7 => ?_) (fun hc7 => ?_)
    · have hw := hw.1 hc7
      refine lv_aload_n hx hb (xb_d D_Format_product 30 rfl) rfl (lv_at hl 0 rfl) ?_
      refine lv_iload hx hb (xb_d D_Format_product 31 rfl) (lv_at hl 3 rfl) ?_
      refine lv_aload_n hx hb (xb_d D_Format_product 32 rfl) rfl (lv_at hl 0 rfl) ?_
      have hk1 : xb_k h5 x0 = 6 := hEh5.k hk1
      refine xb_getL (C := R_Format) (T := F_Format) (N := 5) hx hb 5 3 hts fin_Format hown hR hk1 (by decide) rfl (by decide) rfl (hts _ m_1e01af33) (fun _ h9 => h9) (xb_d D_Format_product 33 rfl) ?_
      refine xb_call0 (D := D) (A := A) (σ := σ) (h := h5) (d := 2) (maxL := 4) (rest := []) (av := [.ref x0, .int x5, .long (xb_l h5 x0 3)]) (fun T hT X => by obtain ⟨cb9, ra9, rb9, rc9⟩ := xb_recv (ci := 5) hR rfl hk1 (by decide); exact xt_invV X hx hown (hts _ m_3189b10e) (hts _ m_ac70dee4) (hts _ m_6afae6d0) (xt_sigOf (hts _ m_a473a09c)) nm_Format_signed (by rw [hT]; exact ra9) rb9 rc9 (g := F0 m 66 ls [.long (xb_l h5 x0 3), .int x5, .ref x0]) rfl (argsL := [.int x5, .long (xb_l h5 x0 3)]) (rest := []) rfl rfl (by rw [hb]; exact (xb_d D_Format_product 34 rfl))) (ok_Format_signed l hfl D A σ x0 x5 (xb_l h5 x0 3) h5 _ hw) (hml.trans hl.1.symm) (by rw [hb]; exact (xb_d D_Format_product 34 rfl)) (Nat.le_of_ble_eq_true rfl) (Nat.le_of_ble_eq_true rfl) (Nat.le_of_ble_eq_true rfl) (show k ≤ MC by omega) (show n ≤ MS by omega) (xt_w1 hB.1 m_a473a09c) (xt_cdOf hB.1 m_a473a09c) (hts _ m_64857de5) hB hR hS hA (fun vv h8 H locs hq hEh8 hR hS => ?_)
      obtain ⟨r9, rfl, hw⟩ := hq
      have hw := hw hEh8
      have hE := hE.tr hEh8
      refine W.eq (g2 := F0 m 69 ls [.long r9]) rfl ?_
      exact am_Format_product_L69 l hfl D A σ MC MS h0 Qr r9 h8 hw p e s m args below meth c hC H locs ls k n hE (lv_sub hl [] rfl) hR hS (by omega) (by omega)
    · have hw := hw.2 hc7
      exact am_Format_product_L52 l hfl D A σ MC MS h0 Qr x0 h5 hw p e s m args below meth c hC H locs ls k n hE (lv_sub hl [0] rfl) hR hS (by omega) (by omega)

set_option maxHeartbeats 4000000 in
set_option maxRecDepth 100000 in
theorem am_Format_product_L18 (l : Launch) (hfl : l.flags = pinnedFlags ++ [noTraceFlag]) (D : va_G) (A : Nat → Prop) (σ MC MS : Nat) (h0 : xb_H) (Qr : Int64 → xb_H → Prop) (x0 : Nat) (x1 : Int64) (x3 : Int64) (y0 : Int32) (h : xb_H) (hw : w_Format_product_L18 Qr x0 x1 x3 y0 h) : xb_am l D A σ 4 MC MS h0 (fun v h _ _ => ∃ r, v = some (.long r) ∧ Qr r h) (fun _ _ _ _ => False) y_Format_product.cls y_Format_product.name b_Format_product 8 ([] : List ExceptionTableEntry) (some .long) 18 [(0, .ref x0), (1, .long x1), (3, .long x3)] [.int y0] h 0 0 := by
  unfold w_Format_product_L18 at hw
  intro p e s m args below meth c hC H locs ls k n hE hl hR hS hk hn
  obtain ⟨hx, hb, hown, hlocks, htab, hml, hr, hB, hA, hnm⟩ := id hC
  have hts := hB.1.1.at args
  refine lv_istore hx hb (xb_d D_Format_product 10 rfl) hl (by decide) rfl (fun ls hl => ?_)
  have hl : lv_has ls 8 [(5, .int y0), (0, .ref x0), (1, .long x1), (3, .long x3)] := hl
  refine lv_aload_n hx hb (xb_d D_Format_product 11 rfl) rfl (lv_at hl 1 rfl) ?_
  refine lv_lload_n hx hb (xb_d D_Format_product 12 rfl) rfl (lv_at hl 2 rfl) ?_
  obtain ⟨hk1, hw⟩ := hw
  refine xb_call0 (D := D) (A := A) (σ := σ) (h := h) (d := 2) (maxL := 3) (rest := []) (av := [.ref x0, .long x1]) (fun T hT X => by obtain ⟨cb9, ra9, rb9, rc9⟩ := xb_recv (ci := 5) hR rfl hk1 (by decide); exact xt_invV X hx hown (hts _ m_da28b66e) (hts _ m_a2bd27ec) (hts _ m_ea0426d6) (xt_sigOf (hts _ m_62c3a91f)) nm_Format_isInfinite (by rw [hT]; exact ra9) rb9 rc9 (g := F0 m 22 ls [.long x1, .ref x0]) rfl (argsL := [.long x1]) (rest := []) rfl rfl (by rw [hb]; exact (xb_d D_Format_product 13 rfl))) (ok_Format_isInfinite l hfl D A σ x0 x1 h _ hw) (hml.trans hl.1.symm) (by rw [hb]; exact (xb_d D_Format_product 13 rfl)) (Nat.le_of_ble_eq_true rfl) (Nat.le_of_ble_eq_true rfl) (Nat.le_of_ble_eq_true rfl) (show k ≤ MC by omega) (show n ≤ MS by omega) (xt_w1 hB.1 m_62c3a91f) (xt_cdOf hB.1 m_62c3a91f) (hts _ m_64857de5) hB hR hS hA (fun vv h2 H locs hq hEh2 hR hS => ?_)
  obtain ⟨r3, rfl, hw⟩ := hq
  have hw := hw hEh2
  have hE := hE.tr hEh2
  refine W.eq (g2 := F0 m 25 ls [.int r3]) rfl ?_
  refine lv_if_ne (tgt := 36) hx hb (xb_d D_Format_product 14 rfl) rfl (fun hc4 => ?_) (fun hc4 => ?_)
  · have hw := hw.1 hc4
    exact am_Format_product_L36 l hfl D A σ MC MS h0 Qr x0 x1 x3 y0 h2 hw p e s m args below meth c hC H locs ls k n hE (lv_sub hl [1, 2, 3, 0] rfl) hR hS (by omega) (by omega)
  · have hw := hw.2 hc4
    refine lv_aload_n hx hb (xb_d D_Format_product 15 rfl) rfl (lv_at hl 1 rfl) ?_
    refine lv_lload_n hx hb (xb_d D_Format_product 16 rfl) rfl (lv_at hl 3 rfl) ?_
    have hk1 : xb_k h2 x0 = 6 := hEh2.k hk1
    refine xb_call0 (D := D) (A := A) (σ := σ) (h := h2) (d := 2) (maxL := 3) (rest := []) (av := [.ref x0, .long x3]) (fun T hT X => by obtain ⟨cb9, ra9, rb9, rc9⟩ := xb_recv (ci := 5) hR rfl hk1 (by decide); exact xt_invV X hx hown (hts _ m_da28b66e) (hts _ m_a2bd27ec) (hts _ m_ea0426d6) (xt_sigOf (hts _ m_62c3a91f)) nm_Format_isInfinite (by rw [hT]; exact ra9) rb9 rc9 (g := F0 m 30 ls [.long x3, .ref x0]) rfl (argsL := [.long x3]) (rest := []) rfl rfl (by rw [hb]; exact (xb_d D_Format_product 17 rfl))) (ok_Format_isInfinite l hfl D A σ x0 x3 h2 _ hw) (hml.trans hl.1.symm) (by rw [hb]; exact (xb_d D_Format_product 17 rfl)) (Nat.le_of_ble_eq_true rfl) (Nat.le_of_ble_eq_true rfl) (Nat.le_of_ble_eq_true rfl) (show k ≤ MC by omega) (show n ≤ MS by omega) (xt_w1 hB.1 m_62c3a91f) (xt_cdOf hB.1 m_62c3a91f) (hts _ m_64857de5) hB hR hS hA (fun vv h5 H locs hq hEh5 hR hS => ?_)
    obtain ⟨r6, rfl, hw⟩ := hq
    have hw := hw hEh5
    have hE := hE.tr hEh5
    refine W.eq (g2 := F0 m 33 ls [.int r6]) rfl ?_
    refine lv_if_eq (tgt := 70) hx hb (xb_d D_Format_product 18 rfl) rfl (fun hc7 => ?_) (fun hc7 => ?_)
    · have hw := hw.1 hc7
      refine lv_aload_n hx hb (xb_d D_Format_product 36 rfl) rfl (lv_at hl 1 rfl) ?_
      refine lv_lload_n hx hb (xb_d D_Format_product 37 rfl) rfl (lv_at hl 2 rfl) ?_
      have hk1 : xb_k h5 x0 = 6 := hEh5.k hk1
      refine xb_call0 (D := D) (A := A) (σ := σ) (h := h5) (d := 2) (maxL := 3) (rest := []) (av := [.ref x0, .long x1]) (fun T hT X => by obtain ⟨cb9, ra9, rb9, rc9⟩ := xb_recv (ci := 5) hR rfl hk1 (by decide); exact xt_invV X hx hown (hts _ m_113bafb3) (hts _ m_ac384f2f) (hts _ m_7587e6d0) (xt_sigOf (hts _ m_8c0ed8f1)) nm_Format_isZero (by rw [hT]; exact ra9) rb9 rc9 (g := F0 m 72 ls [.long x1, .ref x0]) rfl (argsL := [.long x1]) (rest := []) rfl rfl (by rw [hb]; exact (xb_d D_Format_product 38 rfl))) (ok_Format_isZero l hfl D A σ x0 x1 h5 _ hw) (hml.trans hl.1.symm) (by rw [hb]; exact (xb_d D_Format_product 38 rfl)) (Nat.le_of_ble_eq_true rfl) (Nat.le_of_ble_eq_true rfl) (Nat.le_of_ble_eq_true rfl) (show k ≤ MC by omega) (show n ≤ MS by omega) (xt_w1 hB.1 m_8c0ed8f1) (xt_cdOf hB.1 m_8c0ed8f1) (hts _ m_64857de5) hB hR hS hA (fun vv h8 H locs hq hEh8 hR hS => ?_)
      obtain ⟨r9, rfl, hw⟩ := hq
      have hw := hw hEh8
      have hE := hE.tr hEh8
      refine W.eq (g2 := F0 m 75 ls [.int r9]) rfl ?_
      refine lv_if_ne (tgt := 86) hx hb (xb_d D_Format_product 39 rfl) rfl (fun hc10 => ?_) (fun hc10 => ?_)
      · have hw := hw.1 hc10
        exact am_Format_product_L86 l hfl D A σ MC MS h0 Qr x0 y0 h8 hw p e s m args below meth c hC H locs ls k n hE (lv_sub hl [1, 0] rfl) hR hS (by omega) (by omega)
      · have hw := hw.2 hc10
        refine lv_aload_n hx hb (xb_d D_Format_product 40 rfl) rfl (lv_at hl 1 rfl) ?_
        refine lv_lload_n hx hb (xb_d D_Format_product 41 rfl) rfl (lv_at hl 3 rfl) ?_
        have hk1 : xb_k h8 x0 = 6 := hEh8.k hk1
        refine xb_call0 (D := D) (A := A) (σ := σ) (h := h8) (d := 2) (maxL := 3) (rest := []) (av := [.ref x0, .long x3]) (fun T hT X => by obtain ⟨cb9, ra9, rb9, rc9⟩ := xb_recv (ci := 5) hR rfl hk1 (by decide); exact xt_invV X hx hown (hts _ m_113bafb3) (hts _ m_ac384f2f) (hts _ m_7587e6d0) (xt_sigOf (hts _ m_8c0ed8f1)) nm_Format_isZero (by rw [hT]; exact ra9) rb9 rc9 (g := F0 m 80 ls [.long x3, .ref x0]) rfl (argsL := [.long x3]) (rest := []) rfl rfl (by rw [hb]; exact (xb_d D_Format_product 42 rfl))) (ok_Format_isZero l hfl D A σ x0 x3 h8 _ hw) (hml.trans hl.1.symm) (by rw [hb]; exact (xb_d D_Format_product 42 rfl)) (Nat.le_of_ble_eq_true rfl) (Nat.le_of_ble_eq_true rfl) (Nat.le_of_ble_eq_true rfl) (show k ≤ MC by omega) (show n ≤ MS by omega) (xt_w1 hB.1 m_8c0ed8f1) (xt_cdOf hB.1 m_8c0ed8f1) (hts _ m_64857de5) hB hR hS hA (fun vv h11 H locs hq hEh11 hR hS => ?_)
        obtain ⟨r12, rfl, hw⟩ := hq
        have hw := hw hEh11
        have hE := hE.tr hEh11
        refine W.eq (g2 := F0 m 83 ls [.int r12]) rfl ?_
        refine lv_if_eq (tgt := 94) hx hb (xb_d D_Format_product 43 rfl) rfl (fun hc13 => ?_) (fun hc13 => ?_)
        · have hw := hw.1 hc13
          refine lv_bipush (v := 63) hx hb (xb_d D_Format_product 49 rfl) (by decide) ?_
          refine lv_aload_n hx hb (xb_d D_Format_product 50 rfl) rfl (lv_at hl 1 rfl) ?_
          have hk1 : xb_k h11 x0 = 6 := hEh11.k hk1
          refine xb_getI (C := R_Format) (T := F_Format) (N := 5) hx hb 5 0 hts fin_Format hown hR hk1 (by decide) rfl (by decide) rfl (hts _ m_019aecde) (fun _ h9 => h9) (xb_d D_Format_product 51 rfl) ?_
          refine lv_isub hx hb (xb_d D_Format_product 52 rfl) ?_
          obtain ⟨v14, ev14⟩ : ∃ x : Int32, x = (63 - (xb_i h11 x0 0)) := ⟨_, rfl⟩
          have hw := hw v14 ev14
          refine xt_numi (y := v14) ev14.symm ?_
          refine lv_istore hx hb (xb_d D_Format_product 53 rfl) hl (by decide) rfl (fun ls hl => ?_)
          have hl : lv_has ls 8 [(6, .int v14), (5, .int y0), (0, .ref x0), (1, .long x1), (3, .long x3)] := hl
          refine lv_aload_n hx hb (xb_d D_Format_product 54 rfl) rfl (lv_at hl 2 rfl) ?_
          refine lv_lload_n hx hb (xb_d D_Format_product 55 rfl) rfl (lv_at hl 3 rfl) ?_
          refine xb_call0 (D := D) (A := A) (σ := σ) (h := h11) (d := 3) (maxL := 7) (rest := []) (av := [.ref x0, .long x1]) (fun T hT X => by obtain ⟨cb9, ra9, rb9, rc9⟩ := xb_recv (ci := 5) hR rfl hk1 (by decide); exact xt_invV X hx hown (hts _ m_d0153205) (hts _ m_2d8986b1) (hts _ m_b1d90305) (xt_sigOf (hts _ m_980e1e39)) nm_Format_exponent (by rw [hT]; exact ra9) rb9 rc9 (g := F0 m 105 ls [.long x1, .ref x0]) rfl (argsL := [.long x1]) (rest := []) rfl rfl (by rw [hb]; exact (xb_d D_Format_product 56 rfl))) (ok_Format_exponent l hfl D A σ x0 x1 h11 _ hw) (hml.trans hl.1.symm) (by rw [hb]; exact (xb_d D_Format_product 56 rfl)) (Nat.le_of_ble_eq_true rfl) (Nat.le_of_ble_eq_true rfl) (Nat.le_of_ble_eq_true rfl) (show k ≤ MC by omega) (show n ≤ MS by omega) (xt_w1 hB.1 m_980e1e39) (xt_cdOf hB.1 m_980e1e39) (hts _ m_64857de5) hB hR hS hA (fun vv h15 H locs hq hEh15 hR hS => ?_)
          obtain ⟨r16, rfl, hw⟩ := hq
          have hw := hw hEh15
          have hE := hE.tr hEh15
          refine W.eq (g2 := F0 m 108 ls [.int r16]) rfl ?_
          refine lv_aload_n hx hb (xb_d D_Format_product 57 rfl) rfl (lv_at hl 2 rfl) ?_
          refine lv_lload_n hx hb (xb_d D_Format_product 58 rfl) rfl (lv_at hl 4 rfl) ?_
          have hk1 : xb_k h15 x0 = 6 := hEh15.k hk1
          refine xb_call0 (D := D) (A := A) (σ := σ) (h := h15) (d := 3) (maxL := 7) (rest := [.int r16]) (av := [.ref x0, .long x3]) (fun T hT X => by obtain ⟨cb9, ra9, rb9, rc9⟩ := xb_recv (ci := 5) hR rfl hk1 (by decide); exact xt_invV X hx hown (hts _ m_d0153205) (hts _ m_2d8986b1) (hts _ m_b1d90305) (xt_sigOf (hts _ m_980e1e39)) nm_Format_exponent (by rw [hT]; exact ra9) rb9 rc9 (g := F0 m 110 ls [.long x3, .ref x0, .int r16]) rfl (argsL := [.long x3]) (rest := [.int r16]) rfl rfl (by rw [hb]; exact (xb_d D_Format_product 59 rfl))) (ok_Format_exponent l hfl D A σ x0 x3 h15 _ hw) (hml.trans hl.1.symm) (by rw [hb]; exact (xb_d D_Format_product 59 rfl)) (Nat.le_of_ble_eq_true rfl) (Nat.le_of_ble_eq_true rfl) (Nat.le_of_ble_eq_true rfl) (show k ≤ MC by omega) (show n ≤ MS by omega) (xt_w1 hB.1 m_980e1e39) (xt_cdOf hB.1 m_980e1e39) (hts _ m_64857de5) hB hR hS hA (fun vv h17 H locs hq hEh17 hR hS => ?_)
          obtain ⟨r18, rfl, hw⟩ := hq
          have hw := hw hEh17
          have hE := hE.tr hEh17
          refine W.eq (g2 := F0 m 113 ls [.int r18, .int r16]) rfl ?_
          refine lv_iadd hx hb (xb_d D_Format_product 60 rfl) ?_
          refine lv_iconst (v := 2) hx hb (xb_d D_Format_product 61 rfl) (by decide) ?_
          refine lv_iload hx hb (xb_d D_Format_product 62 rfl) (lv_at hl 0 rfl) ?_
          refine lv_imul hx hb (xb_d D_Format_product 63 rfl) ?_
          refine lv_isub hx hb (xb_d D_Format_product 64 rfl) ?_
          refine lv_bipush (v := 64) hx hb (xb_d D_Format_product 65 rfl) (by decide) ?_
          refine lv_iadd hx hb (xb_d D_Format_product 66 rfl) ?_
          obtain ⟨v19, ev19⟩ : ∃ x : Int32, x = (((r16 + r18) - (2 * v14)) + 64) := ⟨_, rfl⟩
          have hw := hw v19 ev19
          refine xt_numi (y := v19) ev19.symm ?_
          refine lv_istore hx hb (xb_d D_Format_product 67 rfl) hl (by decide) rfl (fun ls hl => ?_)
          have hl : lv_has ls 8 [(7, .int v19), (6, .int v14), (5, .int y0), (0, .ref x0), (1, .long x1), (3, .long x3)] := hl
          refine lv_aload_n hx hb (xb_d D_Format_product 68 rfl) rfl (lv_at hl 3 rfl) ?_
          refine lv_iload hx hb (xb_d D_Format_product 69 rfl) (lv_at hl 2 rfl) ?_
          refine lv_iload hx hb (xb_d D_Format_product 70 rfl) (lv_at hl 0 rfl) ?_
          refine lv_aload_n hx hb (xb_d D_Format_product 71 rfl) rfl (lv_at hl 3 rfl) ?_
          refine lv_lload_n hx hb (xb_d D_Format_product 72 rfl) rfl (lv_at hl 4 rfl) ?_
          have hk1 : xb_k h17 x0 = 6 := hEh17.k hk1
          refine xb_call0 (D := D) (A := A) (σ := σ) (h := h17) (d := 3) (maxL := 7) (rest := [.int v19, .int y0, .ref x0]) (av := [.ref x0, .long x1]) (fun T hT X => by obtain ⟨cb9, ra9, rb9, rc9⟩ := xb_recv (ci := 5) hR rfl hk1 (by decide); exact xt_invV X hx hown (hts _ m_0dda6331) (hts _ m_40be2e6d) (hts _ m_7a64b857) (xt_sigOf (hts _ m_8bcfbce0)) nm_Format_mantissa (by rw [hT]; exact ra9) rb9 rc9 (g := F0 m 131 ls [.long x1, .ref x0, .int v19, .int y0, .ref x0]) rfl (argsL := [.long x1]) (rest := [.int v19, .int y0, .ref x0]) rfl rfl (by rw [hb]; exact (xb_d D_Format_product 73 rfl))) (ok_Format_mantissa l hfl D A σ x0 x1 h17 _ hw) (hml.trans hl.1.symm) (by rw [hb]; exact (xb_d D_Format_product 73 rfl)) (Nat.le_of_ble_eq_true rfl) (Nat.le_of_ble_eq_true rfl) (Nat.le_of_ble_eq_true rfl) (show k ≤ MC by omega) (show n ≤ MS by omega) (xt_w1 hB.1 m_8bcfbce0) (xt_cdOf hB.1 m_8bcfbce0) (hts _ m_64857de5) hB hR hS hA (fun vv h20 H locs hq hEh20 hR hS => ?_)
          obtain ⟨r21, rfl, hw⟩ := hq
          have hw := hw hEh20
          have hE := hE.tr hEh20
          refine W.eq (g2 := F0 m 134 ls [.long r21, .int v19, .int y0, .ref x0]) rfl ?_
          refine lv_iload hx hb (xb_d D_Format_product 74 rfl) (lv_at hl 1 rfl) ?_
          refine lv_lshl (v := (xb_lshl r21 v14)) hx hb (xb_d D_Format_product 75 rfl) rfl ?_
          refine lv_aload_n hx hb (xb_d D_Format_product 76 rfl) rfl (lv_at hl 3 rfl) ?_
          refine lv_lload_n hx hb (xb_d D_Format_product 77 rfl) rfl (lv_at hl 5 rfl) ?_
          have hk1 : xb_k h20 x0 = 6 := hEh20.k hk1
          refine xb_call0 (D := D) (A := A) (σ := σ) (h := h20) (d := 3) (maxL := 7) (rest := [.long (xb_lshl r21 v14), .int v19, .int y0, .ref x0]) (av := [.ref x0, .long x3]) (fun T hT X => by obtain ⟨cb9, ra9, rb9, rc9⟩ := xb_recv (ci := 5) hR rfl hk1 (by decide); exact xt_invV X hx hown (hts _ m_0dda6331) (hts _ m_40be2e6d) (hts _ m_7a64b857) (xt_sigOf (hts _ m_8bcfbce0)) nm_Format_mantissa (by rw [hT]; exact ra9) rb9 rc9 (g := F0 m 139 ls [.long x3, .ref x0, .long (xb_lshl r21 v14), .int v19, .int y0, .ref x0]) rfl (argsL := [.long x3]) (rest := [.long (xb_lshl r21 v14), .int v19, .int y0, .ref x0]) rfl rfl (by rw [hb]; exact (xb_d D_Format_product 78 rfl))) (ok_Format_mantissa l hfl D A σ x0 x3 h20 _ hw) (hml.trans hl.1.symm) (by rw [hb]; exact (xb_d D_Format_product 78 rfl)) (Nat.le_of_ble_eq_true rfl) (Nat.le_of_ble_eq_true rfl) (Nat.le_of_ble_eq_true rfl) (show k ≤ MC by omega) (show n ≤ MS by omega) (xt_w1 hB.1 m_8bcfbce0) (xt_cdOf hB.1 m_8bcfbce0) (hts _ m_64857de5) hB hR hS hA (fun vv h22 H locs hq hEh22 hR hS => ?_)
          obtain ⟨r23, rfl, hw⟩ := hq
          have hw := hw hEh22
          have hE := hE.tr hEh22
          refine W.eq (g2 := F0 m 142 ls [.long r23, .long (xb_lshl r21 v14), .int v19, .int y0, .ref x0]) rfl ?_
          refine lv_iload hx hb (xb_d D_Format_product 79 rfl) (lv_at hl 1 rfl) ?_
          refine lv_lshl (v := (xb_lshl r23 v14)) hx hb (xb_d D_Format_product 80 rfl) rfl ?_
          refine xb_call0 (D := D) (A := A) (σ := σ) (h := h22) (d := 2) (maxL := 21) (rest := [.int v19, .int y0, .ref x0]) (av := [.long (xb_lshl r21 v14), .long (xb_lshl r23 v14)]) (fun T hT X => xt_invS X hx hown (hts _ m_00e85c04) (hts _ m_ad3cba37) (hts _ m_64857de5) (xt_sgS (hts _ m_5f76461d)).1 (xt_sgS (hts _ m_5f76461d)).2 nm_Format_highProduct (g := F0 m 145 ls [.long (xb_lshl r23 v14), .long (xb_lshl r21 v14), .int v19, .int y0, .ref x0]) rfl (argsL := [.long (xb_lshl r21 v14), .long (xb_lshl r23 v14)]) (rest := [.int v19, .int y0, .ref x0]) rfl rfl (by rw [hb]; exact (xb_d D_Format_product 81 rfl))) (ok_Format_highProduct l hfl D A σ (xb_lshl r21 v14) (xb_lshl r23 v14) h22 _ hw) (hml.trans hl.1.symm) (by rw [hb]; exact (xb_d D_Format_product 81 rfl)) (Nat.le_of_ble_eq_true rfl) (Nat.le_of_ble_eq_true rfl) (Nat.le_of_ble_eq_true rfl) (show k ≤ MC by omega) (show n ≤ MS by omega) (xt_w1 hB.1 m_5f76461d) (xt_cdOf hB.1 m_5f76461d) (hts _ m_64857de5) hB hR hS hA (fun vv h24 H locs hq hEh24 hR hS => ?_)
          obtain ⟨r25, rfl, hw⟩ := hq
          have hw := hw hEh24
          have hE := hE.tr hEh24
          refine W.eq (g2 := F0 m 148 ls [.long r25, .int v19, .int y0, .ref x0]) rfl ?_
          have hk1 : xb_k h22 x0 = 6 := hEh22.k hk1
          have hk1 : xb_k h24 x0 = 6 := hEh24.k hk1
          refine xb_call0 (D := D) (A := A) (σ := σ) (h := h24) (d := 3) (maxL := 20) (rest := []) (av := [.ref x0, .int y0, .int v19, .long r25]) (fun T hT X => by obtain ⟨cb9, ra9, rb9, rc9⟩ := xb_recv (ci := 5) hR rfl hk1 (by decide); exact xt_invV X hx hown (hts _ m_08178f23) (hts _ m_78208889) (hts _ m_f8745567) (xt_sigOf (hts _ m_a1b373a2)) nm_Format_nearest (by rw [hT]; exact ra9) rb9 rc9 (g := F0 m 148 ls [.long r25, .int v19, .int y0, .ref x0]) rfl (argsL := [.int y0, .int v19, .long r25]) (rest := []) rfl rfl (by rw [hb]; exact (xb_d D_Format_product 82 rfl))) (ok_Format_nearest l hfl D A σ x0 y0 v19 r25 h24 _ hw) (hml.trans hl.1.symm) (by rw [hb]; exact (xb_d D_Format_product 82 rfl)) (Nat.le_of_ble_eq_true rfl) (Nat.le_of_ble_eq_true rfl) (Nat.le_of_ble_eq_true rfl) (show k ≤ MC by omega) (show n ≤ MS by omega) (xt_w1 hB.1 m_a1b373a2) (xt_cdOf hB.1 m_a1b373a2) (hts _ m_64857de5) hB hR hS hA (fun vv h26 H locs hq hEh26 hR hS => ?_)
          obtain ⟨r27, rfl, hw⟩ := hq
          have hw := hw hEh26
          have hE := hE.tr hEh26
          refine W.eq (g2 := F0 m 151 ls [.long r27]) rfl ?_
          exact xb_lret 0 0 hx hb hr hlocks (show k + 0 ≤ MC by omega) (show n + 0 ≤ MS by omega) hE hR hS (xb_d D_Format_product 83 rfl) hw
        · have hw := hw.2 hc13
          exact am_Format_product_L86 l hfl D A σ MC MS h0 Qr x0 y0 h11 hw p e s m args below meth c hC H locs ls k n hE (lv_sub hl [1, 0] rfl) hR hS (by omega) (by omega)
    · have hw := hw.2 hc7
      exact am_Format_product_L36 l hfl D A σ MC MS h0 Qr x0 x1 x3 y0 h5 hw p e s m args below meth c hC H locs ls k n hE (lv_sub hl [1, 2, 3, 0] rfl) hR hS (by omega) (by omega)

set_option maxHeartbeats 4000000 in
set_option maxRecDepth 100000 in
theorem ok_Format_product (l : Launch) (hfl : l.flags = pinnedFlags ++ [noTraceFlag]) (D : va_G) (A : Nat → Prop) (σ : Nat) (x0 : Nat) (x1 : Int64) (x3 : Int64) (h : xb_H) (Qr : Int64 → xb_H → Prop) (hw : w_Format_product x0 x1 x3 h Qr) : xb_Met l y_Format_product [.code y_Format_product b_Format_product 8 (some .long)] (xb_rm 4 0 0) (xb_Pc D A σ h [.ref x0, .long x1, .long x3]) (xb_Qc D A h 0 0 (fun v h _ _ => ∃ r, v = some (.long r) ∧ Qr r h) (fun _ _ _ _ => False)) A := by
  refine xb_ofAm (cc := b_Format_product) (by decide) (Nat.le_of_ble_eq_true rfl) ?_
  unfold w_Format_product at hw
  show xb_am l D A σ 4 0 0 h (fun v h _ _ => ∃ r, v = some (.long r) ∧ Qr r h) (fun _ _ _ _ => False) y_Format_product.cls y_Format_product.name b_Format_product 8 ([] : List ExceptionTableEntry) (some .long) 0 [(0, .ref x0), (1, .long x1), (3, .long x3)] [] h 0 0
  obtain ⟨MC, hMC⟩ : ∃ x, x = 0 := ⟨_, rfl⟩
  obtain ⟨MS, hMS⟩ : ∃ x, x = 0 := ⟨_, rfl⟩
  rw [show xb_am l D A σ 4 0 0 = xb_am l D A σ 4 MC MS by rw [hMC, hMS]]
  obtain ⟨h0, hh0⟩ : ∃ x, x = h := ⟨_, rfl⟩
  rw [show xb_am l D A σ 4 MC MS h = xb_am l D A σ 4 MC MS h0 by rw [hh0]]
  intro p e s m args below meth c hC H locs ls k n hE hl hR hS hk hn
  obtain ⟨hx, hb, hown, hlocks, htab, hml, hr, hB, hA, hnm⟩ := id hC
  have hts := hB.1.1.at args
  refine lv_aload_n hx hb (xb_d D_Format_product 0 rfl) rfl (lv_at hl 0 rfl) ?_
  refine lv_lload_n hx hb (xb_d D_Format_product 1 rfl) rfl (lv_at hl 1 rfl) ?_
  obtain ⟨hk1, hw⟩ := hw
  refine xb_call0 (D := D) (A := A) (σ := σ) (h := h) (d := 2) (maxL := 3) (rest := []) (av := [.ref x0, .long x1]) (fun T hT X => by obtain ⟨cb9, ra9, rb9, rc9⟩ := xb_recv (ci := 5) hR rfl hk1 (by decide); exact xt_invV X hx hown (hts _ m_e7046197) (hts _ m_9e016368) (hts _ m_42f2e51b) (xt_sigOf (hts _ m_6ee44111)) nm_Format_isNegative (by rw [hT]; exact ra9) rb9 rc9 (g := F0 m 2 ls [.long x1, .ref x0]) rfl (argsL := [.long x1]) (rest := []) rfl rfl (by rw [hb]; exact (xb_d D_Format_product 2 rfl))) (ok_Format_isNegative l hfl D A σ x0 x1 h _ hw) (hml.trans hl.1.symm) (by rw [hb]; exact (xb_d D_Format_product 2 rfl)) (Nat.le_of_ble_eq_true rfl) (Nat.le_of_ble_eq_true rfl) (Nat.le_of_ble_eq_true rfl) (show k ≤ MC by omega) (show n ≤ MS by omega) (xt_w1 hB.1 m_6ee44111) (xt_cdOf hB.1 m_6ee44111) (hts _ m_64857de5) hB hR hS hA (fun vv h2 H locs hq hEh2 hR hS => ?_)
  obtain ⟨r3, rfl, hw⟩ := hq
  have hw := hw hEh2
  have hE := hE.tr hEh2
  refine W.eq (g2 := F0 m 5 ls [.int r3]) rfl ?_
  refine lv_aload_n hx hb (xb_d D_Format_product 3 rfl) rfl (lv_at hl 0 rfl) ?_
  refine lv_lload_n hx hb (xb_d D_Format_product 4 rfl) rfl (lv_at hl 2 rfl) ?_
  have hk1 : xb_k h2 x0 = 6 := hEh2.k hk1
  refine xb_call0 (D := D) (A := A) (σ := σ) (h := h2) (d := 2) (maxL := 3) (rest := [.int r3]) (av := [.ref x0, .long x3]) (fun T hT X => by obtain ⟨cb9, ra9, rb9, rc9⟩ := xb_recv (ci := 5) hR rfl hk1 (by decide); exact xt_invV X hx hown (hts _ m_e7046197) (hts _ m_9e016368) (hts _ m_42f2e51b) (xt_sigOf (hts _ m_6ee44111)) nm_Format_isNegative (by rw [hT]; exact ra9) rb9 rc9 (g := F0 m 7 ls [.long x3, .ref x0, .int r3]) rfl (argsL := [.long x3]) (rest := [.int r3]) rfl rfl (by rw [hb]; exact (xb_d D_Format_product 5 rfl))) (ok_Format_isNegative l hfl D A σ x0 x3 h2 _ hw) (hml.trans hl.1.symm) (by rw [hb]; exact (xb_d D_Format_product 5 rfl)) (Nat.le_of_ble_eq_true rfl) (Nat.le_of_ble_eq_true rfl) (Nat.le_of_ble_eq_true rfl) (show k ≤ MC by omega) (show n ≤ MS by omega) (xt_w1 hB.1 m_6ee44111) (xt_cdOf hB.1 m_6ee44111) (hts _ m_64857de5) hB hR hS hA (fun vv h4 H locs hq hEh4 hR hS => ?_)
  obtain ⟨r5, rfl, hw⟩ := hq
  have hw := hw hEh4
  have hE := hE.tr hEh4
  refine W.eq (g2 := F0 m 10 ls [.int r5, .int r3]) rfl ?_
  refine lv_icmp_eq (tgt := 17) hx hb (xb_d D_Format_product 6 rfl) rfl (fun hc6 => ?_) (fun hc6 => ?_)
  · have hw := hw.1 hc6
    refine lv_iconst (v := 0) hx hb (xb_d D_Format_product 9 rfl) (by decide) ?_
    exact am_Format_product_L18 l hfl D A σ MC MS h0 Qr x0 x1 x3 0 h4 hw p e s m args below meth c hC H locs ls k n hE (lv_sub hl [0, 1, 2] rfl) hR hS (by omega) (by omega)
  · have hw := hw.2 hc6
    refine lv_iconst (v := 1) hx hb (xb_d D_Format_product 7 rfl) (by decide) ?_
    refine lv_goto (tgt := 18) hx hb (xb_d D_Format_product 8 rfl) rfl ?_
    exact am_Format_product_L18 l hfl D A σ MC MS h0 Qr x0 x1 x3 1 h4 hw p e s m args below meth c hC H locs ls k n hE (lv_sub hl [0, 1, 2] rfl) hR hS (by omega) (by omega)

set_option maxRecDepth 100000 in
def T_Format_quotient : List (Nat × Instr × Nat) := [(0, .aload_n 0, 1), (1, .lload_n 1, 1), (2, .invokevirtual 50, 3), (5, .aload_n 0, 1), (6, .lload_n 3, 1), (7, .invokevirtual 50, 3), (10, .if_icmp .eq 7, 3), (13, .iconst 1, 1), (14, .goto 4, 3), (17, .iconst 0, 1), (18, .istore 5, 2), (20, .aload_n 0, 1), (21, .lload_n 1, 1), (22, .invokevirtual 77, 3), (25, .ifCond .eq 11, 3), (28, .aload_n 0, 1), (29, .lload_n 3, 1), (30, .invokevirtual 77, 3), (33, .ifCond .ne 19, 3), (36, .aload_n 0, 1), (37, .lload_n 1, 1), (38, .invokevirtual 66, 3), (41, .ifCond .eq 16, 3), (44, .aload_n 0, 1), (45, .lload_n 3, 1), (46, .invokevirtual 66, 3), (49, .ifCond .eq 8, 3), (52, .aload_n 0, 1), (53, .getfield 27, 3), (56, .lreturn, 1), (57, .aload_n 0, 1), (58, .lload_n 1, 1), (59, .invokevirtual 77, 3), (62, .ifCond .ne 11, 3), (65, .aload_n 0, 1), (66, .lload_n 3, 1), (67, .invokevirtual 66, 3), (70, .ifCond .eq 14, 3), (73, .aload_n 0, 1), (74, .iload 5, 2), (76, .aload_n 0, 1), (77, .getfield 24, 3), (80, .invokevirtual 73, 3), (83, .lreturn, 1), (84, .aload_n 0, 1), (85, .lload_n 1, 1), (86, .invokevirtual 66, 3), (89, .ifCond .ne 11, 3), (92, .aload_n 0, 1), (93, .lload_n 3, 1), (94, .invokevirtual 77, 3), (97, .ifCond .eq 11, 3), (100, .aload_n 0, 1), (101, .iload 5, 2), (103, .lconst 0, 1), (104, .invokevirtual 73, 3), (107, .lreturn, 1), (108, .aload_n 0, 1), (109, .lload_n 1, 1), (110, .invokevirtual 80, 3), (113, .lstore 6, 2), (115, .aload_n 0, 1), (116, .lload_n 3, 1), (117, .invokevirtual 80, 3), (120, .lstore 8, 2), (122, .lconst 0, 1), (123, .lstore 10, 2), (125, .iconst 0, 1), (126, .istore 12, 2), (128, .iload 12, 2), (130, .bipush 60, 2), (132, .if_icmp .ge 42, 3), (135, .lload 10, 2), (137, .iconst 1, 1), (138, .lshl, 1), (139, .lstore 10, 2), (141, .lload 6, 2), (143, .lload 8, 2), (145, .lcmp, 1), (146, .ifCond .lt 16, 3), (149, .lload 6, 2), (151, .lload 8, 2), (153, .lsub, 1), (154, .lstore 6, 2), (156, .lload 10, 2), (158, .lconst 1, 1), (159, .lor, 1), (160, .lstore 10, 2), (162, .lload 6, 2), (164, .iconst 1, 1), (165, .lshl, 1), (166, .lstore 6, 2), (168, .iinc 12 1, 3), (171, .goto (-43), 3), (174, .aload_n 0, 1), (175, .iload 5, 2), (177, .aload_n 0, 1), (178, .lload_n 1, 1), (179, .invokevirtual 83, 3), (182, .aload_n 0, 1), (183, .lload_n 3, 1), (184, .invokevirtual 83, 3), (187, .isub, 1), (188, .bipush 60, 2), (190, .isub, 1), (191, .lload 10, 2), (193, .iconst 1, 1), (194, .lshl, 1), (195, .lload 6, 2), (197, .lconst 0, 1), (198, .lcmp, 1), (199, .ifCond .eq 7, 3), (202, .iconst 1, 1), (203, .goto 4, 3), (206, .iconst 0, 1), (207, .i2l, 1), (208, .lor, 1), (209, .invokevirtual 86, 3), (212, .lreturn, 1)]
theorem D_Format_quotient : ∀ q ∈ T_Format_quotient, decode b_Format_quotient q.1 = .ok (q.2.1, q.2.2) := by decide +kernel

set_option maxHeartbeats 4000000 in
set_option maxRecDepth 100000 in
theorem am_Format_quotient_L207 (l : Launch) (hfl : l.flags = pinnedFlags ++ [noTraceFlag]) (D : va_G) (A : Nat → Prop) (σ MC MS : Nat) (h0 : xb_H) (Qr : Int64 → xb_H → Prop) (y0 : Int32) (y1 : Int64) (y2 : Int32) (y3 : Int32) (y4 : Nat) (h : xb_H) (hw : w_Format_quotient_L207 Qr y0 y1 y2 y3 y4 h) : xb_am l D A σ 4 MC MS h0 (fun v h _ _ => ∃ r, v = some (.long r) ∧ Qr r h) (fun _ _ _ _ => False) y_Format_quotient.cls y_Format_quotient.name b_Format_quotient 13 ([] : List ExceptionTableEntry) (some .long) 207 [] [.int y0, .long y1, .int y2, .int y3, .ref y4] h 0 0 := by
  unfold w_Format_quotient_L207 at hw
  intro p e s m args below meth c hC H locs ls k n hE hl hR hS hk hn
  obtain ⟨hx, hb, hown, hlocks, htab, hml, hr, hB, hA, hnm⟩ := id hC
  have hts := hB.1.1.at args
  refine lv_i2l hx hb (xb_d D_Format_quotient 115 rfl) rfl ?_
  refine lv_lor hx hb (xb_d D_Format_quotient 116 rfl) ?_
  obtain ⟨hk1, hw⟩ := hw
  refine xb_call0 (D := D) (A := A) (σ := σ) (h := h) (d := 3) (maxL := 20) (rest := []) (av := [.ref y4, .int y3, .int y2, .long (y1 ||| (Int32.toInt64 y0))]) (fun T hT X => by obtain ⟨cb9, ra9, rb9, rc9⟩ := xb_recv (ci := 5) hR rfl hk1 (by decide); exact xt_invV X hx hown (hts _ m_08178f23) (hts _ m_78208889) (hts _ m_f8745567) (xt_sigOf (hts _ m_a1b373a2)) nm_Format_nearest (by rw [hT]; exact ra9) rb9 rc9 (g := F0 m 209 ls [.long (y1 ||| (Int32.toInt64 y0)), .int y2, .int y3, .ref y4]) rfl (argsL := [.int y3, .int y2, .long (y1 ||| (Int32.toInt64 y0))]) (rest := []) rfl rfl (by rw [hb]; exact (xb_d D_Format_quotient 117 rfl))) (ok_Format_nearest l hfl D A σ y4 y3 y2 (y1 ||| (Int32.toInt64 y0)) h _ hw) (hml.trans hl.1.symm) (by rw [hb]; exact (xb_d D_Format_quotient 117 rfl)) (Nat.le_of_ble_eq_true rfl) (Nat.le_of_ble_eq_true rfl) (Nat.le_of_ble_eq_true rfl) (show k ≤ MC by omega) (show n ≤ MS by omega) (xt_w1 hB.1 m_a1b373a2) (xt_cdOf hB.1 m_a1b373a2) (hts _ m_64857de5) hB hR hS hA (fun vv h2 H locs hq hEh2 hR hS => ?_)
  obtain ⟨r3, rfl, hw⟩ := hq
  have hw := hw hEh2
  have hE := hE.tr hEh2
  refine W.eq (g2 := F0 m 212 ls [.long r3]) rfl ?_
  exact xb_lret 0 0 hx hb hr hlocks (show k + 0 ≤ MC by omega) (show n + 0 ≤ MS by omega) hE hR hS (xb_d D_Format_quotient 118 rfl) hw

set_option maxHeartbeats 4000000 in
set_option maxRecDepth 100000 in
theorem am_Format_quotient_L162 (l : Launch) (hfl : l.flags = pinnedFlags ++ [noTraceFlag]) (D : va_G) (A : Nat → Prop) (σ MC MS : Nat) (h0 : xb_H) (Qr : Int64 → xb_H → Prop) (K128 : Nat → Int64 → Int64 → Int32 → Int64 → Int64 → Int64 → Int32 → xb_H → Prop) (hK128 : ∀ (x0 : Nat) (x1 : Int64) (x3 : Int64) (x5 : Int32) (x6 : Int64) (x8 : Int64) (x10 : Int64) (x12 : Int32) (h : xb_H), K128 x0 x1 x3 x5 x6 x8 x10 x12 h → xb_am l D A σ 4 MC MS h0 (fun v h _ _ => ∃ r, v = some (.long r) ∧ Qr r h) (fun _ _ _ _ => False) y_Format_quotient.cls y_Format_quotient.name b_Format_quotient 13 ([] : List ExceptionTableEntry) (some .long) 128 [(0, .ref x0), (1, .long x1), (3, .long x3), (5, .int x5), (6, .long x6), (8, .long x8), (10, .long x10), (12, .int x12)] [] h 0 0) (x0 : Nat) (x1 : Int64) (x3 : Int64) (x5 : Int32) (x6 : Int64) (x8 : Int64) (x10 : Int64) (x12 : Int32) (h : xb_H) (hw : w_Format_quotient_L162 K128 Qr x0 x1 x3 x5 x6 x8 x10 x12 h) : xb_am l D A σ 4 MC MS h0 (fun v h _ _ => ∃ r, v = some (.long r) ∧ Qr r h) (fun _ _ _ _ => False) y_Format_quotient.cls y_Format_quotient.name b_Format_quotient 13 ([] : List ExceptionTableEntry) (some .long) 162 [(0, .ref x0), (1, .long x1), (3, .long x3), (5, .int x5), (6, .long x6), (8, .long x8), (10, .long x10), (12, .int x12)] [] h 0 0 := by
  unfold w_Format_quotient_L162 at hw
  intro p e s m args below meth c hC H locs ls k n hE hl hR hS hk hn
  obtain ⟨hx, hb, hown, hlocks, htab, hml, hr, hB, hA, hnm⟩ := id hC
  have hts := hB.1.1.at args
  refine lv_lload hx hb (xb_d D_Format_quotient 88 rfl) (lv_at hl 4 rfl) ?_
  refine lv_iconst (v := 1) hx hb (xb_d D_Format_quotient 89 rfl) (by decide) ?_
  refine lv_lshl (v := (xb_lshl x6 1)) hx hb (xb_d D_Format_quotient 90 rfl) rfl ?_
  obtain ⟨v1, ev1⟩ : ∃ x : Int64, x = (xb_lshl x6 1) := ⟨_, rfl⟩
  have hw := hw v1 ev1
  refine xt_numl (y := v1) ev1.symm ?_
  refine lv_lstore hx hb (xb_d D_Format_quotient 91 rfl) hl (by decide) rfl (fun ls hl => ?_)
  have hl : lv_has ls 13 [(6, .long v1), (0, .ref x0), (1, .long x1), (3, .long x3), (5, .int x5), (8, .long x8), (10, .long x10), (12, .int x12)] := hl
  refine lv_iinc (v := (x12 + 1)) (k := 7) hx hb (xb_d D_Format_quotient 92 rfl) hl rfl (by first | rfl | decide) (by decide) rfl (fun ls hl => ?_)
  have hl : lv_has ls 13 [(12, .int (x12 + 1)), (6, .long v1), (0, .ref x0), (1, .long x1), (3, .long x3), (5, .int x5), (8, .long x8), (10, .long x10)] := hl
  refine lv_goto (tgt := 128) hx hb (xb_d D_Format_quotient 93 rfl) rfl ?_
  exact hK128 x0 x1 x3 x5 v1 x8 x10 (x12 + 1) h hw p e s m args below meth c hC H locs ls k n hE (lv_sub hl [2, 3, 4, 5, 1, 6, 7, 0] rfl) hR hS (by omega) (by omega)

set_option maxHeartbeats 4000000 in
set_option maxRecDepth 100000 in
theorem am_Format_quotient_L128 (l : Launch) (hfl : l.flags = pinnedFlags ++ [noTraceFlag]) (D : va_G) (A : Nat → Prop) (σ MC MS : Nat) (h0 : xb_H) (Qr : Int64 → xb_H → Prop) (n9 : Nat) : ∀ (x0 : Nat) (x1 : Int64) (x3 : Int64) (x5 : Int32) (x6 : Int64) (x8 : Int64) (x10 : Int64) (x12 : Int32) (h : xb_H), w_Format_quotient_L128 Qr n9 x0 x1 x3 x5 x6 x8 x10 x12 h → xb_am l D A σ 4 MC MS h0 (fun v h _ _ => ∃ r, v = some (.long r) ∧ Qr r h) (fun _ _ _ _ => False) y_Format_quotient.cls y_Format_quotient.name b_Format_quotient 13 ([] : List ExceptionTableEntry) (some .long) 128 [(0, .ref x0), (1, .long x1), (3, .long x3), (5, .int x5), (6, .long x6), (8, .long x8), (10, .long x10), (12, .int x12)] [] h 0 0 := by
  induction n9 with
  | zero => intro x0 x1 x3 x5 x6 x8 x10 x12 h hw; exact False.elim hw
  | succ n9 ih =>
    intro x0 x1 x3 x5 x6 x8 x10 x12 h hw
    unfold w_Format_quotient_L128 at hw
    intro p e s m args below meth c hC H locs ls k n hE hl hR hS hk hn
    obtain ⟨hx, hb, hown, hlocks, htab, hml, hr, hB, hA, hnm⟩ := id hC
    have hts := hB.1.1.at args
    refine lv_iload hx hb (xb_d D_Format_quotient 69 rfl) (lv_at hl 7 rfl) ?_
    refine lv_bipush (v := 60) hx hb (xb_d D_Format_quotient 70 rfl) (by decide) ?_
    refine lv_icmp_ge (tgt := 174) hx hb (xb_d D_Format_quotient 71 rfl) rfl (fun hc1 => ?_) (fun hc1 => ?_)
    · have hw := hw.1 hc1
      refine lv_aload_n hx hb (xb_d D_Format_quotient 94 rfl) rfl (lv_at hl 0 rfl) ?_
      refine lv_iload hx hb (xb_d D_Format_quotient 95 rfl) (lv_at hl 3 rfl) ?_
      refine lv_aload_n hx hb (xb_d D_Format_quotient 96 rfl) rfl (lv_at hl 0 rfl) ?_
      refine lv_lload_n hx hb (xb_d D_Format_quotient 97 rfl) rfl (lv_at hl 1 rfl) ?_
      obtain ⟨hk2, hw⟩ := hw
      refine xb_call0 (D := D) (A := A) (σ := σ) (h := h) (d := 3) (maxL := 7) (rest := [.int x5, .ref x0]) (av := [.ref x0, .long x1]) (fun T hT X => by obtain ⟨cb9, ra9, rb9, rc9⟩ := xb_recv (ci := 5) hR rfl hk2 (by decide); exact xt_invV X hx hown (hts _ m_d0153205) (hts _ m_2d8986b1) (hts _ m_b1d90305) (xt_sigOf (hts _ m_980e1e39)) nm_Format_exponent (by rw [hT]; exact ra9) rb9 rc9 (g := F0 m 179 ls [.long x1, .ref x0, .int x5, .ref x0]) rfl (argsL := [.long x1]) (rest := [.int x5, .ref x0]) rfl rfl (by rw [hb]; exact (xb_d D_Format_quotient 98 rfl))) (ok_Format_exponent l hfl D A σ x0 x1 h _ hw) (hml.trans hl.1.symm) (by rw [hb]; exact (xb_d D_Format_quotient 98 rfl)) (Nat.le_of_ble_eq_true rfl) (Nat.le_of_ble_eq_true rfl) (Nat.le_of_ble_eq_true rfl) (show k ≤ MC by omega) (show n ≤ MS by omega) (xt_w1 hB.1 m_980e1e39) (xt_cdOf hB.1 m_980e1e39) (hts _ m_64857de5) hB hR hS hA (fun vv h3 H locs hq hEh3 hR hS => ?_)
      obtain ⟨r4, rfl, hw⟩ := hq
      have hw := hw hEh3
      have hE := hE.tr hEh3
      refine W.eq (g2 := F0 m 182 ls [.int r4, .int x5, .ref x0]) rfl ?_
      refine lv_aload_n hx hb (xb_d D_Format_quotient 99 rfl) rfl (lv_at hl 0 rfl) ?_
      refine lv_lload_n hx hb (xb_d D_Format_quotient 100 rfl) rfl (lv_at hl 2 rfl) ?_
      have hk2 : xb_k h3 x0 = 6 := hEh3.k hk2
      refine xb_call0 (D := D) (A := A) (σ := σ) (h := h3) (d := 3) (maxL := 7) (rest := [.int r4, .int x5, .ref x0]) (av := [.ref x0, .long x3]) (fun T hT X => by obtain ⟨cb9, ra9, rb9, rc9⟩ := xb_recv (ci := 5) hR rfl hk2 (by decide); exact xt_invV X hx hown (hts _ m_d0153205) (hts _ m_2d8986b1) (hts _ m_b1d90305) (xt_sigOf (hts _ m_980e1e39)) nm_Format_exponent (by rw [hT]; exact ra9) rb9 rc9 (g := F0 m 184 ls [.long x3, .ref x0, .int r4, .int x5, .ref x0]) rfl (argsL := [.long x3]) (rest := [.int r4, .int x5, .ref x0]) rfl rfl (by rw [hb]; exact (xb_d D_Format_quotient 101 rfl))) (ok_Format_exponent l hfl D A σ x0 x3 h3 _ hw) (hml.trans hl.1.symm) (by rw [hb]; exact (xb_d D_Format_quotient 101 rfl)) (Nat.le_of_ble_eq_true rfl) (Nat.le_of_ble_eq_true rfl) (Nat.le_of_ble_eq_true rfl) (show k ≤ MC by omega) (show n ≤ MS by omega) (xt_w1 hB.1 m_980e1e39) (xt_cdOf hB.1 m_980e1e39) (hts _ m_64857de5) hB hR hS hA (fun vv h5 H locs hq hEh5 hR hS => ?_)
      obtain ⟨r6, rfl, hw⟩ := hq
      have hw := hw hEh5
      have hE := hE.tr hEh5
      refine W.eq (g2 := F0 m 187 ls [.int r6, .int r4, .int x5, .ref x0]) rfl ?_
      refine lv_isub hx hb (xb_d D_Format_quotient 102 rfl) ?_
      refine lv_bipush (v := 60) hx hb (xb_d D_Format_quotient 103 rfl) (by decide) ?_
      refine lv_isub hx hb (xb_d D_Format_quotient 104 rfl) ?_
      refine lv_lload hx hb (xb_d D_Format_quotient 105 rfl) (lv_at hl 6 rfl) ?_
      refine lv_iconst (v := 1) hx hb (xb_d D_Format_quotient 106 rfl) (by decide) ?_
      refine lv_lshl (v := (xb_lshl x10 1)) hx hb (xb_d D_Format_quotient 107 rfl) rfl ?_
      refine lv_lload hx hb (xb_d D_Format_quotient 108 rfl) (lv_at hl 4 rfl) ?_
      refine lv_lconst (v := 0) hx hb (xb_d D_Format_quotient 109 rfl) (by decide) ?_
      refine xb_lc_eq (tgt := 206) hx hb (xb_d D_Format_quotient 110 rfl) (xb_d D_Format_quotient 111 rfl) rfl (fun hc7 => ?_) (fun hc7 => ?_)
      · have hw := hw.1 hc7
        refine lv_iconst (v := 0) hx hb (xb_d D_Format_quotient 114 rfl) (by decide) ?_
        exact am_Format_quotient_L207 l hfl D A σ MC MS h0 Qr 0 (xb_lshl x10 1) ((r4 - r6) - 60) x5 x0 h5 hw p e s m args below meth c hC H locs ls k n hE (lv_sub hl [] rfl) hR hS (by omega) (by omega)
      · have hw := hw.2 hc7
        refine lv_iconst (v := 1) hx hb (xb_d D_Format_quotient 112 rfl) (by decide) ?_
        refine lv_goto (tgt := 207) hx hb (xb_d D_Format_quotient 113 rfl) rfl ?_
        exact am_Format_quotient_L207 l hfl D A σ MC MS h0 Qr 1 (xb_lshl x10 1) ((r4 - r6) - 60) x5 x0 h5 hw p e s m args below meth c hC H locs ls k n hE (lv_sub hl [] rfl) hR hS (by omega) (by omega)
    · have hw := hw.2 hc1
      refine lv_lload hx hb (xb_d D_Format_quotient 72 rfl) (lv_at hl 6 rfl) ?_
      refine lv_iconst (v := 1) hx hb (xb_d D_Format_quotient 73 rfl) (by decide) ?_
      refine lv_lshl (v := (xb_lshl x10 1)) hx hb (xb_d D_Format_quotient 74 rfl) rfl ?_
      obtain ⟨v8, ev8⟩ : ∃ x : Int64, x = (xb_lshl x10 1) := ⟨_, rfl⟩
      have hw := hw v8 ev8
      refine xt_numl (y := v8) ev8.symm ?_
      refine lv_lstore hx hb (xb_d D_Format_quotient 75 rfl) hl (by decide) rfl (fun ls hl => ?_)
      have hl : lv_has ls 13 [(10, .long v8), (0, .ref x0), (1, .long x1), (3, .long x3), (5, .int x5), (6, .long x6), (8, .long x8), (12, .int x12)] := hl
      refine lv_lload hx hb (xb_d D_Format_quotient 76 rfl) (lv_at hl 5 rfl) ?_
      refine lv_lload hx hb (xb_d D_Format_quotient 77 rfl) (lv_at hl 6 rfl) ?_
      refine xb_lc_lt (tgt := 162) hx hb (xb_d D_Format_quotient 78 rfl) (xb_d D_Format_quotient 79 rfl) rfl (fun hc9 => ?_) (fun hc9 => ?_)
      · have hw := hw.1 hc9
        exact am_Format_quotient_L162 l hfl D A σ MC MS h0 Qr (w_Format_quotient_L128 Qr n9) ih x0 x1 x3 x5 x6 x8 v8 x12 h hw p e s m args below meth c hC H locs ls k n hE (lv_sub hl [1, 2, 3, 4, 5, 6, 0, 7] rfl) hR hS (by omega) (by omega)
      · have hw := hw.2 hc9
        refine lv_lload hx hb (xb_d D_Format_quotient 80 rfl) (lv_at hl 5 rfl) ?_
        refine lv_lload hx hb (xb_d D_Format_quotient 81 rfl) (lv_at hl 6 rfl) ?_
        refine lv_lsub hx hb (xb_d D_Format_quotient 82 rfl) ?_
        obtain ⟨v10, ev10⟩ : ∃ x : Int64, x = (x6 - x8) := ⟨_, rfl⟩
        have hw := hw v10 ev10
        refine xt_numl (y := v10) ev10.symm ?_
        refine lv_lstore hx hb (xb_d D_Format_quotient 83 rfl) hl (by decide) rfl (fun ls hl => ?_)
        have hl : lv_has ls 13 [(6, .long v10), (10, .long v8), (0, .ref x0), (1, .long x1), (3, .long x3), (5, .int x5), (8, .long x8), (12, .int x12)] := hl
        refine lv_lload hx hb (xb_d D_Format_quotient 84 rfl) (lv_at hl 1 rfl) ?_
        refine lv_lconst (v := 1) hx hb (xb_d D_Format_quotient 85 rfl) (by decide) ?_
        refine lv_lor hx hb (xb_d D_Format_quotient 86 rfl) ?_
        obtain ⟨v11, ev11⟩ : ∃ x : Int64, x = (v8 ||| 1) := ⟨_, rfl⟩
        have hw := hw v11 ev11
        refine xt_numl (y := v11) ev11.symm ?_
        refine lv_lstore hx hb (xb_d D_Format_quotient 87 rfl) hl (by decide) rfl (fun ls hl => ?_)
        have hl : lv_has ls 13 [(10, .long v11), (6, .long v10), (0, .ref x0), (1, .long x1), (3, .long x3), (5, .int x5), (8, .long x8), (12, .int x12)] := hl
        exact am_Format_quotient_L162 l hfl D A σ MC MS h0 Qr (w_Format_quotient_L128 Qr n9) ih x0 x1 x3 x5 v10 x8 v11 x12 h hw p e s m args below meth c hC H locs ls k n hE (lv_sub hl [2, 3, 4, 5, 1, 6, 0, 7] rfl) hR hS (by omega) (by omega)

set_option maxHeartbeats 4000000 in
set_option maxRecDepth 100000 in
theorem am_Format_quotient_L100 (l : Launch) (hfl : l.flags = pinnedFlags ++ [noTraceFlag]) (D : va_G) (A : Nat → Prop) (σ MC MS : Nat) (h0 : xb_H) (Qr : Int64 → xb_H → Prop) (x0 : Nat) (x5 : Int32) (h : xb_H) (hw : w_Format_quotient_L100 Qr x0 x5 h) : xb_am l D A σ 4 MC MS h0 (fun v h _ _ => ∃ r, v = some (.long r) ∧ Qr r h) (fun _ _ _ _ => False) y_Format_quotient.cls y_Format_quotient.name b_Format_quotient 13 ([] : List ExceptionTableEntry) (some .long) 100 [(0, .ref x0), (5, .int x5)] [] h 0 0 := by
  unfold w_Format_quotient_L100 at hw
  intro p e s m args below meth c hC H locs ls k n hE hl hR hS hk hn
  obtain ⟨hx, hb, hown, hlocks, htab, hml, hr, hB, hA, hnm⟩ := id hC
  have hts := hB.1.1.at args
  refine lv_aload_n hx hb (xb_d D_Format_quotient 52 rfl) rfl (lv_at hl 0 rfl) ?_
  refine lv_iload hx hb (xb_d D_Format_quotient 53 rfl) (lv_at hl 1 rfl) ?_
  refine lv_lconst (v := 0) hx hb (xb_d D_Format_quotient 54 rfl) (by decide) ?_
  obtain ⟨hk1, hw⟩ := hw
  refine xb_call0 (D := D) (A := A) (σ := σ) (h := h) (d := 2) (maxL := 4) (rest := []) (av := [.ref x0, .int x5, .long 0]) (fun T hT X => by obtain ⟨cb9, ra9, rb9, rc9⟩ := xb_recv (ci := 5) hR rfl hk1 (by decide); exact xt_invV X hx hown (hts _ m_3189b10e) (hts _ m_ac70dee4) (hts _ m_6afae6d0) (xt_sigOf (hts _ m_a473a09c)) nm_Format_signed (by rw [hT]; exact ra9) rb9 rc9 (g := F0 m 104 ls [.long 0, .int x5, .ref x0]) rfl (argsL := [.int x5, .long 0]) (rest := []) rfl rfl (by rw [hb]; exact (xb_d D_Format_quotient 55 rfl))) (ok_Format_signed l hfl D A σ x0 x5 0 h _ hw) (hml.trans hl.1.symm) (by rw [hb]; exact (xb_d D_Format_quotient 55 rfl)) (Nat.le_of_ble_eq_true rfl) (Nat.le_of_ble_eq_true rfl) (Nat.le_of_ble_eq_true rfl) (show k ≤ MC by omega) (show n ≤ MS by omega) (xt_w1 hB.1 m_a473a09c) (xt_cdOf hB.1 m_a473a09c) (hts _ m_64857de5) hB hR hS hA (fun vv h2 H locs hq hEh2 hR hS => ?_)
  obtain ⟨r3, rfl, hw⟩ := hq
  have hw := hw hEh2
  have hE := hE.tr hEh2
  refine W.eq (g2 := F0 m 107 ls [.long r3]) rfl ?_
  exact xb_lret 0 0 hx hb hr hlocks (show k + 0 ≤ MC by omega) (show n + 0 ≤ MS by omega) hE hR hS (xb_d D_Format_quotient 56 rfl) hw

set_option maxHeartbeats 4000000 in
set_option maxRecDepth 100000 in
theorem am_Format_quotient_L73 (l : Launch) (hfl : l.flags = pinnedFlags ++ [noTraceFlag]) (D : va_G) (A : Nat → Prop) (σ MC MS : Nat) (h0 : xb_H) (Qr : Int64 → xb_H → Prop) (x0 : Nat) (x5 : Int32) (h : xb_H) (hw : w_Format_quotient_L73 Qr x0 x5 h) : xb_am l D A σ 4 MC MS h0 (fun v h _ _ => ∃ r, v = some (.long r) ∧ Qr r h) (fun _ _ _ _ => False) y_Format_quotient.cls y_Format_quotient.name b_Format_quotient 13 ([] : List ExceptionTableEntry) (some .long) 73 [(0, .ref x0), (5, .int x5)] [] h 0 0 := by
  unfold w_Format_quotient_L73 at hw
  intro p e s m args below meth c hC H locs ls k n hE hl hR hS hk hn
  obtain ⟨hx, hb, hown, hlocks, htab, hml, hr, hB, hA, hnm⟩ := id hC
  have hts := hB.1.1.at args
  refine lv_aload_n hx hb (xb_d D_Format_quotient 38 rfl) rfl (lv_at hl 0 rfl) ?_
  refine lv_iload hx hb (xb_d D_Format_quotient 39 rfl) (lv_at hl 1 rfl) ?_
  refine lv_aload_n hx hb (xb_d D_Format_quotient 40 rfl) rfl (lv_at hl 0 rfl) ?_
  obtain ⟨hk1, hw⟩ := hw
  refine xb_getL (C := R_Format) (T := F_Format) (N := 5) hx hb 5 3 hts fin_Format hown hR hk1 (by decide) rfl (by decide) rfl (hts _ m_1e01af33) (fun _ h9 => h9) (xb_d D_Format_quotient 41 rfl) ?_
  refine xb_call0 (D := D) (A := A) (σ := σ) (h := h) (d := 2) (maxL := 4) (rest := []) (av := [.ref x0, .int x5, .long (xb_l h x0 3)]) (fun T hT X => by obtain ⟨cb9, ra9, rb9, rc9⟩ := xb_recv (ci := 5) hR rfl hk1 (by decide); exact xt_invV X hx hown (hts _ m_3189b10e) (hts _ m_ac70dee4) (hts _ m_6afae6d0) (xt_sigOf (hts _ m_a473a09c)) nm_Format_signed (by rw [hT]; exact ra9) rb9 rc9 (g := F0 m 80 ls [.long (xb_l h x0 3), .int x5, .ref x0]) rfl (argsL := [.int x5, .long (xb_l h x0 3)]) (rest := []) rfl rfl (by rw [hb]; exact (xb_d D_Format_quotient 42 rfl))) (ok_Format_signed l hfl D A σ x0 x5 (xb_l h x0 3) h _ hw) (hml.trans hl.1.symm) (by rw [hb]; exact (xb_d D_Format_quotient 42 rfl)) (Nat.le_of_ble_eq_true rfl) (Nat.le_of_ble_eq_true rfl) (Nat.le_of_ble_eq_true rfl) (show k ≤ MC by omega) (show n ≤ MS by omega) (xt_w1 hB.1 m_a473a09c) (xt_cdOf hB.1 m_a473a09c) (hts _ m_64857de5) hB hR hS hA (fun vv h2 H locs hq hEh2 hR hS => ?_)
  obtain ⟨r3, rfl, hw⟩ := hq
  have hw := hw hEh2
  have hE := hE.tr hEh2
  refine W.eq (g2 := F0 m 83 ls [.long r3]) rfl ?_
  exact xb_lret 0 0 hx hb hr hlocks (show k + 0 ≤ MC by omega) (show n + 0 ≤ MS by omega) hE hR hS (xb_d D_Format_quotient 43 rfl) hw

set_option maxHeartbeats 4000000 in
set_option maxRecDepth 100000 in
theorem am_Format_quotient_L57 (l : Launch) (hfl : l.flags = pinnedFlags ++ [noTraceFlag]) (D : va_G) (A : Nat → Prop) (σ MC MS : Nat) (h0 : xb_H) (Qr : Int64 → xb_H → Prop) (x0 : Nat) (x1 : Int64) (x3 : Int64) (x5 : Int32) (h : xb_H) (hw : w_Format_quotient_L57 Qr x0 x1 x3 x5 h) : xb_am l D A σ 4 MC MS h0 (fun v h _ _ => ∃ r, v = some (.long r) ∧ Qr r h) (fun _ _ _ _ => False) y_Format_quotient.cls y_Format_quotient.name b_Format_quotient 13 ([] : List ExceptionTableEntry) (some .long) 57 [(0, .ref x0), (1, .long x1), (3, .long x3), (5, .int x5)] [] h 0 0 := by
  unfold w_Format_quotient_L57 at hw
  intro p e s m args below meth c hC H locs ls k n hE hl hR hS hk hn
  obtain ⟨hx, hb, hown, hlocks, htab, hml, hr, hB, hA, hnm⟩ := id hC
  have hts := hB.1.1.at args
  refine lv_aload_n hx hb (xb_d D_Format_quotient 30 rfl) rfl (lv_at hl 0 rfl) ?_
  refine lv_lload_n hx hb (xb_d D_Format_quotient 31 rfl) rfl (lv_at hl 1 rfl) ?_
  obtain ⟨hk1, hw⟩ := hw
  refine xb_call0 (D := D) (A := A) (σ := σ) (h := h) (d := 2) (maxL := 3) (rest := []) (av := [.ref x0, .long x1]) (fun T hT X => by obtain ⟨cb9, ra9, rb9, rc9⟩ := xb_recv (ci := 5) hR rfl hk1 (by decide); exact xt_invV X hx hown (hts _ m_da28b66e) (hts _ m_a2bd27ec) (hts _ m_ea0426d6) (xt_sigOf (hts _ m_62c3a91f)) nm_Format_isInfinite (by rw [hT]; exact ra9) rb9 rc9 (g := F0 m 59 ls [.long x1, .ref x0]) rfl (argsL := [.long x1]) (rest := []) rfl rfl (by rw [hb]; exact (xb_d D_Format_quotient 32 rfl))) (ok_Format_isInfinite l hfl D A σ x0 x1 h _ hw) (hml.trans hl.1.symm) (by rw [hb]; exact (xb_d D_Format_quotient 32 rfl)) (Nat.le_of_ble_eq_true rfl) (Nat.le_of_ble_eq_true rfl) (Nat.le_of_ble_eq_true rfl) (show k ≤ MC by omega) (show n ≤ MS by omega) (xt_w1 hB.1 m_62c3a91f) (xt_cdOf hB.1 m_62c3a91f) (hts _ m_64857de5) hB hR hS hA (fun vv h2 H locs hq hEh2 hR hS => ?_)
  obtain ⟨r3, rfl, hw⟩ := hq
  have hw := hw hEh2
  have hE := hE.tr hEh2
  refine W.eq (g2 := F0 m 62 ls [.int r3]) rfl ?_
  refine lv_if_ne (tgt := 73) hx hb (xb_d D_Format_quotient 33 rfl) rfl (fun hc4 => ?_) (fun hc4 => ?_)
  · have hw := hw.1 hc4
    exact am_Format_quotient_L73 l hfl D A σ MC MS h0 Qr x0 x5 h2 hw p e s m args below meth c hC H locs ls k n hE (lv_sub hl [0, 3] rfl) hR hS (by omega) (by omega)
  · have hw := hw.2 hc4
    refine lv_aload_n hx hb (xb_d D_Format_quotient 34 rfl) rfl (lv_at hl 0 rfl) ?_
    refine lv_lload_n hx hb (xb_d D_Format_quotient 35 rfl) rfl (lv_at hl 2 rfl) ?_
    have hk1 : xb_k h2 x0 = 6 := hEh2.k hk1
    refine xb_call0 (D := D) (A := A) (σ := σ) (h := h2) (d := 2) (maxL := 3) (rest := []) (av := [.ref x0, .long x3]) (fun T hT X => by obtain ⟨cb9, ra9, rb9, rc9⟩ := xb_recv (ci := 5) hR rfl hk1 (by decide); exact xt_invV X hx hown (hts _ m_113bafb3) (hts _ m_ac384f2f) (hts _ m_7587e6d0) (xt_sigOf (hts _ m_8c0ed8f1)) nm_Format_isZero (by rw [hT]; exact ra9) rb9 rc9 (g := F0 m 67 ls [.long x3, .ref x0]) rfl (argsL := [.long x3]) (rest := []) rfl rfl (by rw [hb]; exact (xb_d D_Format_quotient 36 rfl))) (ok_Format_isZero l hfl D A σ x0 x3 h2 _ hw) (hml.trans hl.1.symm) (by rw [hb]; exact (xb_d D_Format_quotient 36 rfl)) (Nat.le_of_ble_eq_true rfl) (Nat.le_of_ble_eq_true rfl) (Nat.le_of_ble_eq_true rfl) (show k ≤ MC by omega) (show n ≤ MS by omega) (xt_w1 hB.1 m_8c0ed8f1) (xt_cdOf hB.1 m_8c0ed8f1) (hts _ m_64857de5) hB hR hS hA (fun vv h5 H locs hq hEh5 hR hS => ?_)
    obtain ⟨r6, rfl, hw⟩ := hq
    have hw := hw hEh5
    have hE := hE.tr hEh5
    refine W.eq (g2 := F0 m 70 ls [.int r6]) rfl ?_
    refine lv_if_eq (tgt := 84) hx hb (xb_d D_Format_quotient 37 rfl) rfl (fun hc7 => ?_) (fun hc7 => ?_)
    · have hw := hw.1 hc7
      refine lv_aload_n hx hb (xb_d D_Format_quotient 44 rfl) rfl (lv_at hl 0 rfl) ?_
      refine lv_lload_n hx hb (xb_d D_Format_quotient 45 rfl) rfl (lv_at hl 1 rfl) ?_
      have hk1 : xb_k h5 x0 = 6 := hEh5.k hk1
      refine xb_call0 (D := D) (A := A) (σ := σ) (h := h5) (d := 2) (maxL := 3) (rest := []) (av := [.ref x0, .long x1]) (fun T hT X => by obtain ⟨cb9, ra9, rb9, rc9⟩ := xb_recv (ci := 5) hR rfl hk1 (by decide); exact xt_invV X hx hown (hts _ m_113bafb3) (hts _ m_ac384f2f) (hts _ m_7587e6d0) (xt_sigOf (hts _ m_8c0ed8f1)) nm_Format_isZero (by rw [hT]; exact ra9) rb9 rc9 (g := F0 m 86 ls [.long x1, .ref x0]) rfl (argsL := [.long x1]) (rest := []) rfl rfl (by rw [hb]; exact (xb_d D_Format_quotient 46 rfl))) (ok_Format_isZero l hfl D A σ x0 x1 h5 _ hw) (hml.trans hl.1.symm) (by rw [hb]; exact (xb_d D_Format_quotient 46 rfl)) (Nat.le_of_ble_eq_true rfl) (Nat.le_of_ble_eq_true rfl) (Nat.le_of_ble_eq_true rfl) (show k ≤ MC by omega) (show n ≤ MS by omega) (xt_w1 hB.1 m_8c0ed8f1) (xt_cdOf hB.1 m_8c0ed8f1) (hts _ m_64857de5) hB hR hS hA (fun vv h8 H locs hq hEh8 hR hS => ?_)
      obtain ⟨r9, rfl, hw⟩ := hq
      have hw := hw hEh8
      have hE := hE.tr hEh8
      refine W.eq (g2 := F0 m 89 ls [.int r9]) rfl ?_
      refine lv_if_ne (tgt := 100) hx hb (xb_d D_Format_quotient 47 rfl) rfl (fun hc10 => ?_) (fun hc10 => ?_)
      · have hw := hw.1 hc10
        exact am_Format_quotient_L100 l hfl D A σ MC MS h0 Qr x0 x5 h8 hw p e s m args below meth c hC H locs ls k n hE (lv_sub hl [0, 3] rfl) hR hS (by omega) (by omega)
      · have hw := hw.2 hc10
        refine lv_aload_n hx hb (xb_d D_Format_quotient 48 rfl) rfl (lv_at hl 0 rfl) ?_
        refine lv_lload_n hx hb (xb_d D_Format_quotient 49 rfl) rfl (lv_at hl 2 rfl) ?_
        have hk1 : xb_k h8 x0 = 6 := hEh8.k hk1
        refine xb_call0 (D := D) (A := A) (σ := σ) (h := h8) (d := 2) (maxL := 3) (rest := []) (av := [.ref x0, .long x3]) (fun T hT X => by obtain ⟨cb9, ra9, rb9, rc9⟩ := xb_recv (ci := 5) hR rfl hk1 (by decide); exact xt_invV X hx hown (hts _ m_da28b66e) (hts _ m_a2bd27ec) (hts _ m_ea0426d6) (xt_sigOf (hts _ m_62c3a91f)) nm_Format_isInfinite (by rw [hT]; exact ra9) rb9 rc9 (g := F0 m 94 ls [.long x3, .ref x0]) rfl (argsL := [.long x3]) (rest := []) rfl rfl (by rw [hb]; exact (xb_d D_Format_quotient 50 rfl))) (ok_Format_isInfinite l hfl D A σ x0 x3 h8 _ hw) (hml.trans hl.1.symm) (by rw [hb]; exact (xb_d D_Format_quotient 50 rfl)) (Nat.le_of_ble_eq_true rfl) (Nat.le_of_ble_eq_true rfl) (Nat.le_of_ble_eq_true rfl) (show k ≤ MC by omega) (show n ≤ MS by omega) (xt_w1 hB.1 m_62c3a91f) (xt_cdOf hB.1 m_62c3a91f) (hts _ m_64857de5) hB hR hS hA (fun vv h11 H locs hq hEh11 hR hS => ?_)
        obtain ⟨r12, rfl, hw⟩ := hq
        have hw := hw hEh11
        have hE := hE.tr hEh11
        refine W.eq (g2 := F0 m 97 ls [.int r12]) rfl ?_
        refine lv_if_eq (tgt := 108) hx hb (xb_d D_Format_quotient 51 rfl) rfl (fun hc13 => ?_) (fun hc13 => ?_)
        · have hw := hw.1 hc13
          refine lv_aload_n hx hb (xb_d D_Format_quotient 57 rfl) rfl (lv_at hl 0 rfl) ?_
          refine lv_lload_n hx hb (xb_d D_Format_quotient 58 rfl) rfl (lv_at hl 1 rfl) ?_
          have hk1 : xb_k h11 x0 = 6 := hEh11.k hk1
          refine xb_call0 (D := D) (A := A) (σ := σ) (h := h11) (d := 3) (maxL := 7) (rest := []) (av := [.ref x0, .long x1]) (fun T hT X => by obtain ⟨cb9, ra9, rb9, rc9⟩ := xb_recv (ci := 5) hR rfl hk1 (by decide); exact xt_invV X hx hown (hts _ m_0dda6331) (hts _ m_40be2e6d) (hts _ m_7a64b857) (xt_sigOf (hts _ m_8bcfbce0)) nm_Format_mantissa (by rw [hT]; exact ra9) rb9 rc9 (g := F0 m 110 ls [.long x1, .ref x0]) rfl (argsL := [.long x1]) (rest := []) rfl rfl (by rw [hb]; exact (xb_d D_Format_quotient 59 rfl))) (ok_Format_mantissa l hfl D A σ x0 x1 h11 _ hw) (hml.trans hl.1.symm) (by rw [hb]; exact (xb_d D_Format_quotient 59 rfl)) (Nat.le_of_ble_eq_true rfl) (Nat.le_of_ble_eq_true rfl) (Nat.le_of_ble_eq_true rfl) (show k ≤ MC by omega) (show n ≤ MS by omega) (xt_w1 hB.1 m_8bcfbce0) (xt_cdOf hB.1 m_8bcfbce0) (hts _ m_64857de5) hB hR hS hA (fun vv h14 H locs hq hEh14 hR hS => ?_)
          obtain ⟨r15, rfl, hw⟩ := hq
          have hw := hw hEh14
          have hE := hE.tr hEh14
          refine W.eq (g2 := F0 m 113 ls [.long r15]) rfl ?_
          refine lv_lstore hx hb (xb_d D_Format_quotient 60 rfl) hl (by decide) rfl (fun ls hl => ?_)
          have hl : lv_has ls 13 [(6, .long r15), (0, .ref x0), (1, .long x1), (3, .long x3), (5, .int x5)] := hl
          refine lv_aload_n hx hb (xb_d D_Format_quotient 61 rfl) rfl (lv_at hl 1 rfl) ?_
          refine lv_lload_n hx hb (xb_d D_Format_quotient 62 rfl) rfl (lv_at hl 3 rfl) ?_
          have hk1 : xb_k h14 x0 = 6 := hEh14.k hk1
          refine xb_call0 (D := D) (A := A) (σ := σ) (h := h14) (d := 3) (maxL := 7) (rest := []) (av := [.ref x0, .long x3]) (fun T hT X => by obtain ⟨cb9, ra9, rb9, rc9⟩ := xb_recv (ci := 5) hR rfl hk1 (by decide); exact xt_invV X hx hown (hts _ m_0dda6331) (hts _ m_40be2e6d) (hts _ m_7a64b857) (xt_sigOf (hts _ m_8bcfbce0)) nm_Format_mantissa (by rw [hT]; exact ra9) rb9 rc9 (g := F0 m 117 ls [.long x3, .ref x0]) rfl (argsL := [.long x3]) (rest := []) rfl rfl (by rw [hb]; exact (xb_d D_Format_quotient 63 rfl))) (ok_Format_mantissa l hfl D A σ x0 x3 h14 _ hw) (hml.trans hl.1.symm) (by rw [hb]; exact (xb_d D_Format_quotient 63 rfl)) (Nat.le_of_ble_eq_true rfl) (Nat.le_of_ble_eq_true rfl) (Nat.le_of_ble_eq_true rfl) (show k ≤ MC by omega) (show n ≤ MS by omega) (xt_w1 hB.1 m_8bcfbce0) (xt_cdOf hB.1 m_8bcfbce0) (hts _ m_64857de5) hB hR hS hA (fun vv h16 H locs hq hEh16 hR hS => ?_)
          obtain ⟨r17, rfl, hw⟩ := hq
          have hw := hw hEh16
          have hE := hE.tr hEh16
          refine W.eq (g2 := F0 m 120 ls [.long r17]) rfl ?_
          refine lv_lstore hx hb (xb_d D_Format_quotient 64 rfl) hl (by decide) rfl (fun ls hl => ?_)
          have hl : lv_has ls 13 [(8, .long r17), (6, .long r15), (0, .ref x0), (1, .long x1), (3, .long x3), (5, .int x5)] := hl
          refine lv_lconst (v := 0) hx hb (xb_d D_Format_quotient 65 rfl) (by decide) ?_
          refine lv_lstore hx hb (xb_d D_Format_quotient 66 rfl) hl (by decide) rfl (fun ls hl => ?_)
          have hl : lv_has ls 13 [(10, .long 0), (8, .long r17), (6, .long r15), (0, .ref x0), (1, .long x1), (3, .long x3), (5, .int x5)] := hl
          refine lv_iconst (v := 0) hx hb (xb_d D_Format_quotient 67 rfl) (by decide) ?_
          refine lv_istore hx hb (xb_d D_Format_quotient 68 rfl) hl (by decide) rfl (fun ls hl => ?_)
          have hl : lv_has ls 13 [(12, .int 0), (10, .long 0), (8, .long r17), (6, .long r15), (0, .ref x0), (1, .long x1), (3, .long x3), (5, .int x5)] := hl
          obtain ⟨n8, hw⟩ := hw
          exact am_Format_quotient_L128 l hfl D A σ MC MS h0 Qr n8 x0 x1 x3 x5 r15 r17 0 0 h16 hw p e s m args below meth c hC H locs ls k n hE (lv_sub hl [4, 5, 6, 7, 3, 2, 1, 0] rfl) hR hS (by omega) (by omega)
        · have hw := hw.2 hc13
          exact am_Format_quotient_L100 l hfl D A σ MC MS h0 Qr x0 x5 h11 hw p e s m args below meth c hC H locs ls k n hE (lv_sub hl [0, 3] rfl) hR hS (by omega) (by omega)
    · have hw := hw.2 hc7
      exact am_Format_quotient_L73 l hfl D A σ MC MS h0 Qr x0 x5 h5 hw p e s m args below meth c hC H locs ls k n hE (lv_sub hl [0, 3] rfl) hR hS (by omega) (by omega)

set_option maxHeartbeats 4000000 in
set_option maxRecDepth 100000 in
theorem am_Format_quotient_L52 (l : Launch) (hfl : l.flags = pinnedFlags ++ [noTraceFlag]) (D : va_G) (A : Nat → Prop) (σ MC MS : Nat) (h0 : xb_H) (Qr : Int64 → xb_H → Prop) (x0 : Nat) (h : xb_H) (hw : w_Format_quotient_L52 Qr x0 h) : xb_am l D A σ 4 MC MS h0 (fun v h _ _ => ∃ r, v = some (.long r) ∧ Qr r h) (fun _ _ _ _ => False) y_Format_quotient.cls y_Format_quotient.name b_Format_quotient 13 ([] : List ExceptionTableEntry) (some .long) 52 [(0, .ref x0)] [] h 0 0 := by
  unfold w_Format_quotient_L52 at hw
  intro p e s m args below meth c hC H locs ls k n hE hl hR hS hk hn
  obtain ⟨hx, hb, hown, hlocks, htab, hml, hr, hB, hA, hnm⟩ := id hC
  have hts := hB.1.1.at args
  refine lv_aload_n hx hb (xb_d D_Format_quotient 27 rfl) rfl (lv_at hl 0 rfl) ?_
  obtain ⟨hk1, hw⟩ := hw
  refine xb_getL (C := R_Format) (T := F_Format) (N := 5) hx hb 5 4 hts fin_Format hown hR hk1 (by decide) rfl (by decide) rfl (hts _ m_291a6679) (fun _ h9 => h9) (xb_d D_Format_quotient 28 rfl) ?_
  exact xb_lret 0 0 hx hb hr hlocks (show k + 0 ≤ MC by omega) (show n + 0 ≤ MS by omega) hE hR hS (xb_d D_Format_quotient 29 rfl) hw

set_option maxHeartbeats 4000000 in
set_option maxRecDepth 100000 in
theorem am_Format_quotient_L36 (l : Launch) (hfl : l.flags = pinnedFlags ++ [noTraceFlag]) (D : va_G) (A : Nat → Prop) (σ MC MS : Nat) (h0 : xb_H) (Qr : Int64 → xb_H → Prop) (x0 : Nat) (x1 : Int64) (x3 : Int64) (x5 : Int32) (h : xb_H) (hw : w_Format_quotient_L36 Qr x0 x1 x3 x5 h) : xb_am l D A σ 4 MC MS h0 (fun v h _ _ => ∃ r, v = some (.long r) ∧ Qr r h) (fun _ _ _ _ => False) y_Format_quotient.cls y_Format_quotient.name b_Format_quotient 13 ([] : List ExceptionTableEntry) (some .long) 36 [(0, .ref x0), (1, .long x1), (3, .long x3), (5, .int x5)] [] h 0 0 := by
  unfold w_Format_quotient_L36 at hw
  intro p e s m args below meth c hC H locs ls k n hE hl hR hS hk hn
  obtain ⟨hx, hb, hown, hlocks, htab, hml, hr, hB, hA, hnm⟩ := id hC
  have hts := hB.1.1.at args
  refine lv_aload_n hx hb (xb_d D_Format_quotient 19 rfl) rfl (lv_at hl 0 rfl) ?_
  refine lv_lload_n hx hb (xb_d D_Format_quotient 20 rfl) rfl (lv_at hl 1 rfl) ?_
  obtain ⟨hk1, hw⟩ := hw
  refine xb_call0 (D := D) (A := A) (σ := σ) (h := h) (d := 2) (maxL := 3) (rest := []) (av := [.ref x0, .long x1]) (fun T hT X => by obtain ⟨cb9, ra9, rb9, rc9⟩ := xb_recv (ci := 5) hR rfl hk1 (by decide); exact xt_invV X hx hown (hts _ m_113bafb3) (hts _ m_ac384f2f) (hts _ m_7587e6d0) (xt_sigOf (hts _ m_8c0ed8f1)) nm_Format_isZero (by rw [hT]; exact ra9) rb9 rc9 (g := F0 m 38 ls [.long x1, .ref x0]) rfl (argsL := [.long x1]) (rest := []) rfl rfl (by rw [hb]; exact (xb_d D_Format_quotient 21 rfl))) (ok_Format_isZero l hfl D A σ x0 x1 h _ hw) (hml.trans hl.1.symm) (by rw [hb]; exact (xb_d D_Format_quotient 21 rfl)) (Nat.le_of_ble_eq_true rfl) (Nat.le_of_ble_eq_true rfl) (Nat.le_of_ble_eq_true rfl) (show k ≤ MC by omega) (show n ≤ MS by omega) (xt_w1 hB.1 m_8c0ed8f1) (xt_cdOf hB.1 m_8c0ed8f1) (hts _ m_64857de5) hB hR hS hA (fun vv h2 H locs hq hEh2 hR hS => ?_)
  obtain ⟨r3, rfl, hw⟩ := hq
  have hw := hw hEh2
  have hE := hE.tr hEh2
  refine W.eq (g2 := F0 m 41 ls [.int r3]) rfl ?_
  refine lv_if_eq (tgt := 57) hx hb (xb_d D_Format_quotient 22 rfl) rfl (fun hc4 => ?_) (fun hc4 => ?_)
  · have hw := hw.1 hc4
    exact am_Format_quotient_L57 l hfl D A σ MC MS h0 Qr x0 x1 x3 x5 h2 hw p e s m args below meth c hC H locs ls k n hE (lv_sub hl [0, 1, 2, 3] rfl) hR hS (by omega) (by omega)
  · have hw := hw.2 hc4
    refine lv_aload_n hx hb (xb_d D_Format_quotient 23 rfl) rfl (lv_at hl 0 rfl) ?_
    refine lv_lload_n hx hb (xb_d D_Format_quotient 24 rfl) rfl (lv_at hl 2 rfl) ?_
    have hk1 : xb_k h2 x0 = 6 := hEh2.k hk1
    refine xb_call0 (D := D) (A := A) (σ := σ) (h := h2) (d := 2) (maxL := 3) (rest := []) (av := [.ref x0, .long x3]) (fun T hT X => by obtain ⟨cb9, ra9, rb9, rc9⟩ := xb_recv (ci := 5) hR rfl hk1 (by decide); exact xt_invV X hx hown (hts _ m_113bafb3) (hts _ m_ac384f2f) (hts _ m_7587e6d0) (xt_sigOf (hts _ m_8c0ed8f1)) nm_Format_isZero (by rw [hT]; exact ra9) rb9 rc9 (g := F0 m 46 ls [.long x3, .ref x0]) rfl (argsL := [.long x3]) (rest := []) rfl rfl (by rw [hb]; exact (xb_d D_Format_quotient 25 rfl))) (ok_Format_isZero l hfl D A σ x0 x3 h2 _ hw) (hml.trans hl.1.symm) (by rw [hb]; exact (xb_d D_Format_quotient 25 rfl)) (Nat.le_of_ble_eq_true rfl) (Nat.le_of_ble_eq_true rfl) (Nat.le_of_ble_eq_true rfl) (show k ≤ MC by omega) (show n ≤ MS by omega) (xt_w1 hB.1 m_8c0ed8f1) (xt_cdOf hB.1 m_8c0ed8f1) (hts _ m_64857de5) hB hR hS hA (fun vv h5 H locs hq hEh5 hR hS => ?_)
    obtain ⟨r6, rfl, hw⟩ := hq
    have hw := hw hEh5
    have hE := hE.tr hEh5
    refine W.eq (g2 := F0 m 49 ls [.int r6]) rfl ?_
    refine lv_if_eq (tgt := 57) hx hb (xb_d D_Format_quotient 26 rfl) rfl (fun hc7 => ?_) (fun hc7 => ?_)
    · have hw := hw.1 hc7
      exact am_Format_quotient_L57 l hfl D A σ MC MS h0 Qr x0 x1 x3 x5 h5 hw p e s m args below meth c hC H locs ls k n hE (lv_sub hl [0, 1, 2, 3] rfl) hR hS (by omega) (by omega)
    · have hw := hw.2 hc7
      exact am_Format_quotient_L52 l hfl D A σ MC MS h0 Qr x0 h5 hw p e s m args below meth c hC H locs ls k n hE (lv_sub hl [0] rfl) hR hS (by omega) (by omega)

set_option maxHeartbeats 4000000 in
set_option maxRecDepth 100000 in
theorem am_Format_quotient_L18 (l : Launch) (hfl : l.flags = pinnedFlags ++ [noTraceFlag]) (D : va_G) (A : Nat → Prop) (σ MC MS : Nat) (h0 : xb_H) (Qr : Int64 → xb_H → Prop) (x0 : Nat) (x1 : Int64) (x3 : Int64) (y0 : Int32) (h : xb_H) (hw : w_Format_quotient_L18 Qr x0 x1 x3 y0 h) : xb_am l D A σ 4 MC MS h0 (fun v h _ _ => ∃ r, v = some (.long r) ∧ Qr r h) (fun _ _ _ _ => False) y_Format_quotient.cls y_Format_quotient.name b_Format_quotient 13 ([] : List ExceptionTableEntry) (some .long) 18 [(0, .ref x0), (1, .long x1), (3, .long x3)] [.int y0] h 0 0 := by
  unfold w_Format_quotient_L18 at hw
  intro p e s m args below meth c hC H locs ls k n hE hl hR hS hk hn
  obtain ⟨hx, hb, hown, hlocks, htab, hml, hr, hB, hA, hnm⟩ := id hC
  have hts := hB.1.1.at args
  refine lv_istore hx hb (xb_d D_Format_quotient 10 rfl) hl (by decide) rfl (fun ls hl => ?_)
  have hl : lv_has ls 13 [(5, .int y0), (0, .ref x0), (1, .long x1), (3, .long x3)] := hl
  refine lv_aload_n hx hb (xb_d D_Format_quotient 11 rfl) rfl (lv_at hl 1 rfl) ?_
  refine lv_lload_n hx hb (xb_d D_Format_quotient 12 rfl) rfl (lv_at hl 2 rfl) ?_
  obtain ⟨hk1, hw⟩ := hw
  refine xb_call0 (D := D) (A := A) (σ := σ) (h := h) (d := 2) (maxL := 3) (rest := []) (av := [.ref x0, .long x1]) (fun T hT X => by obtain ⟨cb9, ra9, rb9, rc9⟩ := xb_recv (ci := 5) hR rfl hk1 (by decide); exact xt_invV X hx hown (hts _ m_da28b66e) (hts _ m_a2bd27ec) (hts _ m_ea0426d6) (xt_sigOf (hts _ m_62c3a91f)) nm_Format_isInfinite (by rw [hT]; exact ra9) rb9 rc9 (g := F0 m 22 ls [.long x1, .ref x0]) rfl (argsL := [.long x1]) (rest := []) rfl rfl (by rw [hb]; exact (xb_d D_Format_quotient 13 rfl))) (ok_Format_isInfinite l hfl D A σ x0 x1 h _ hw) (hml.trans hl.1.symm) (by rw [hb]; exact (xb_d D_Format_quotient 13 rfl)) (Nat.le_of_ble_eq_true rfl) (Nat.le_of_ble_eq_true rfl) (Nat.le_of_ble_eq_true rfl) (show k ≤ MC by omega) (show n ≤ MS by omega) (xt_w1 hB.1 m_62c3a91f) (xt_cdOf hB.1 m_62c3a91f) (hts _ m_64857de5) hB hR hS hA (fun vv h2 H locs hq hEh2 hR hS => ?_)
  obtain ⟨r3, rfl, hw⟩ := hq
  have hw := hw hEh2
  have hE := hE.tr hEh2
  refine W.eq (g2 := F0 m 25 ls [.int r3]) rfl ?_
  refine lv_if_eq (tgt := 36) hx hb (xb_d D_Format_quotient 14 rfl) rfl (fun hc4 => ?_) (fun hc4 => ?_)
  · have hw := hw.1 hc4
    exact am_Format_quotient_L36 l hfl D A σ MC MS h0 Qr x0 x1 x3 y0 h2 hw p e s m args below meth c hC H locs ls k n hE (lv_sub hl [1, 2, 3, 0] rfl) hR hS (by omega) (by omega)
  · have hw := hw.2 hc4
    refine lv_aload_n hx hb (xb_d D_Format_quotient 15 rfl) rfl (lv_at hl 1 rfl) ?_
    refine lv_lload_n hx hb (xb_d D_Format_quotient 16 rfl) rfl (lv_at hl 3 rfl) ?_
    have hk1 : xb_k h2 x0 = 6 := hEh2.k hk1
    refine xb_call0 (D := D) (A := A) (σ := σ) (h := h2) (d := 2) (maxL := 3) (rest := []) (av := [.ref x0, .long x3]) (fun T hT X => by obtain ⟨cb9, ra9, rb9, rc9⟩ := xb_recv (ci := 5) hR rfl hk1 (by decide); exact xt_invV X hx hown (hts _ m_da28b66e) (hts _ m_a2bd27ec) (hts _ m_ea0426d6) (xt_sigOf (hts _ m_62c3a91f)) nm_Format_isInfinite (by rw [hT]; exact ra9) rb9 rc9 (g := F0 m 30 ls [.long x3, .ref x0]) rfl (argsL := [.long x3]) (rest := []) rfl rfl (by rw [hb]; exact (xb_d D_Format_quotient 17 rfl))) (ok_Format_isInfinite l hfl D A σ x0 x3 h2 _ hw) (hml.trans hl.1.symm) (by rw [hb]; exact (xb_d D_Format_quotient 17 rfl)) (Nat.le_of_ble_eq_true rfl) (Nat.le_of_ble_eq_true rfl) (Nat.le_of_ble_eq_true rfl) (show k ≤ MC by omega) (show n ≤ MS by omega) (xt_w1 hB.1 m_62c3a91f) (xt_cdOf hB.1 m_62c3a91f) (hts _ m_64857de5) hB hR hS hA (fun vv h5 H locs hq hEh5 hR hS => ?_)
    obtain ⟨r6, rfl, hw⟩ := hq
    have hw := hw hEh5
    have hE := hE.tr hEh5
    refine W.eq (g2 := F0 m 33 ls [.int r6]) rfl ?_
    refine lv_if_ne (tgt := 52) hx hb (xb_d D_Format_quotient 18 rfl) rfl (fun hc7 => ?_) (fun hc7 => ?_)
    · have hw := hw.1 hc7
      exact am_Format_quotient_L52 l hfl D A σ MC MS h0 Qr x0 h5 hw p e s m args below meth c hC H locs ls k n hE (lv_sub hl [1] rfl) hR hS (by omega) (by omega)
    · have hw := hw.2 hc7
      exact am_Format_quotient_L36 l hfl D A σ MC MS h0 Qr x0 x1 x3 y0 h5 hw p e s m args below meth c hC H locs ls k n hE (lv_sub hl [1, 2, 3, 0] rfl) hR hS (by omega) (by omega)

set_option maxHeartbeats 4000000 in
set_option maxRecDepth 100000 in
theorem ok_Format_quotient (l : Launch) (hfl : l.flags = pinnedFlags ++ [noTraceFlag]) (D : va_G) (A : Nat → Prop) (σ : Nat) (x0 : Nat) (x1 : Int64) (x3 : Int64) (h : xb_H) (Qr : Int64 → xb_H → Prop) (hw : w_Format_quotient x0 x1 x3 h Qr) : xb_Met l y_Format_quotient [.code y_Format_quotient b_Format_quotient 13 (some .long)] (xb_rm 4 0 0) (xb_Pc D A σ h [.ref x0, .long x1, .long x3]) (xb_Qc D A h 0 0 (fun v h _ _ => ∃ r, v = some (.long r) ∧ Qr r h) (fun _ _ _ _ => False)) A := by
  refine xb_ofAm (cc := b_Format_quotient) (by decide) (Nat.le_of_ble_eq_true rfl) ?_
  unfold w_Format_quotient at hw
  show xb_am l D A σ 4 0 0 h (fun v h _ _ => ∃ r, v = some (.long r) ∧ Qr r h) (fun _ _ _ _ => False) y_Format_quotient.cls y_Format_quotient.name b_Format_quotient 13 ([] : List ExceptionTableEntry) (some .long) 0 [(0, .ref x0), (1, .long x1), (3, .long x3)] [] h 0 0
  obtain ⟨MC, hMC⟩ : ∃ x, x = 0 := ⟨_, rfl⟩
  obtain ⟨MS, hMS⟩ : ∃ x, x = 0 := ⟨_, rfl⟩
  rw [show xb_am l D A σ 4 0 0 = xb_am l D A σ 4 MC MS by rw [hMC, hMS]]
  obtain ⟨h0, hh0⟩ : ∃ x, x = h := ⟨_, rfl⟩
  rw [show xb_am l D A σ 4 MC MS h = xb_am l D A σ 4 MC MS h0 by rw [hh0]]
  intro p e s m args below meth c hC H locs ls k n hE hl hR hS hk hn
  obtain ⟨hx, hb, hown, hlocks, htab, hml, hr, hB, hA, hnm⟩ := id hC
  have hts := hB.1.1.at args
  refine lv_aload_n hx hb (xb_d D_Format_quotient 0 rfl) rfl (lv_at hl 0 rfl) ?_
  refine lv_lload_n hx hb (xb_d D_Format_quotient 1 rfl) rfl (lv_at hl 1 rfl) ?_
  obtain ⟨hk1, hw⟩ := hw
  refine xb_call0 (D := D) (A := A) (σ := σ) (h := h) (d := 2) (maxL := 3) (rest := []) (av := [.ref x0, .long x1]) (fun T hT X => by obtain ⟨cb9, ra9, rb9, rc9⟩ := xb_recv (ci := 5) hR rfl hk1 (by decide); exact xt_invV X hx hown (hts _ m_e7046197) (hts _ m_9e016368) (hts _ m_42f2e51b) (xt_sigOf (hts _ m_6ee44111)) nm_Format_isNegative (by rw [hT]; exact ra9) rb9 rc9 (g := F0 m 2 ls [.long x1, .ref x0]) rfl (argsL := [.long x1]) (rest := []) rfl rfl (by rw [hb]; exact (xb_d D_Format_quotient 2 rfl))) (ok_Format_isNegative l hfl D A σ x0 x1 h _ hw) (hml.trans hl.1.symm) (by rw [hb]; exact (xb_d D_Format_quotient 2 rfl)) (Nat.le_of_ble_eq_true rfl) (Nat.le_of_ble_eq_true rfl) (Nat.le_of_ble_eq_true rfl) (show k ≤ MC by omega) (show n ≤ MS by omega) (xt_w1 hB.1 m_6ee44111) (xt_cdOf hB.1 m_6ee44111) (hts _ m_64857de5) hB hR hS hA (fun vv h2 H locs hq hEh2 hR hS => ?_)
  obtain ⟨r3, rfl, hw⟩ := hq
  have hw := hw hEh2
  have hE := hE.tr hEh2
  refine W.eq (g2 := F0 m 5 ls [.int r3]) rfl ?_
  refine lv_aload_n hx hb (xb_d D_Format_quotient 3 rfl) rfl (lv_at hl 0 rfl) ?_
  refine lv_lload_n hx hb (xb_d D_Format_quotient 4 rfl) rfl (lv_at hl 2 rfl) ?_
  have hk1 : xb_k h2 x0 = 6 := hEh2.k hk1
  refine xb_call0 (D := D) (A := A) (σ := σ) (h := h2) (d := 2) (maxL := 3) (rest := [.int r3]) (av := [.ref x0, .long x3]) (fun T hT X => by obtain ⟨cb9, ra9, rb9, rc9⟩ := xb_recv (ci := 5) hR rfl hk1 (by decide); exact xt_invV X hx hown (hts _ m_e7046197) (hts _ m_9e016368) (hts _ m_42f2e51b) (xt_sigOf (hts _ m_6ee44111)) nm_Format_isNegative (by rw [hT]; exact ra9) rb9 rc9 (g := F0 m 7 ls [.long x3, .ref x0, .int r3]) rfl (argsL := [.long x3]) (rest := [.int r3]) rfl rfl (by rw [hb]; exact (xb_d D_Format_quotient 5 rfl))) (ok_Format_isNegative l hfl D A σ x0 x3 h2 _ hw) (hml.trans hl.1.symm) (by rw [hb]; exact (xb_d D_Format_quotient 5 rfl)) (Nat.le_of_ble_eq_true rfl) (Nat.le_of_ble_eq_true rfl) (Nat.le_of_ble_eq_true rfl) (show k ≤ MC by omega) (show n ≤ MS by omega) (xt_w1 hB.1 m_6ee44111) (xt_cdOf hB.1 m_6ee44111) (hts _ m_64857de5) hB hR hS hA (fun vv h4 H locs hq hEh4 hR hS => ?_)
  obtain ⟨r5, rfl, hw⟩ := hq
  have hw := hw hEh4
  have hE := hE.tr hEh4
  refine W.eq (g2 := F0 m 10 ls [.int r5, .int r3]) rfl ?_
  refine lv_icmp_eq (tgt := 17) hx hb (xb_d D_Format_quotient 6 rfl) rfl (fun hc6 => ?_) (fun hc6 => ?_)
  · have hw := hw.1 hc6
    refine lv_iconst (v := 0) hx hb (xb_d D_Format_quotient 9 rfl) (by decide) ?_
    exact am_Format_quotient_L18 l hfl D A σ MC MS h0 Qr x0 x1 x3 0 h4 hw p e s m args below meth c hC H locs ls k n hE (lv_sub hl [0, 1, 2] rfl) hR hS (by omega) (by omega)
  · have hw := hw.2 hc6
    refine lv_iconst (v := 1) hx hb (xb_d D_Format_quotient 7 rfl) (by decide) ?_
    refine lv_goto (tgt := 18) hx hb (xb_d D_Format_quotient 8 rfl) rfl ?_
    exact am_Format_quotient_L18 l hfl D A σ MC MS h0 Qr x0 x1 x3 1 h4 hw p e s m args below meth c hC H locs ls k n hE (lv_sub hl [0, 1, 2] rfl) hR hS (by omega) (by omega)

