theorem m_ffdcfbf2 : (.methodLink "StackHostModel" 511 y_M_exportNumber : Cond) ∈ xt_tbl := xt_in (xt_t12 (List.mem_of_getElem? (i := 58) (by decide +kernel))) (by decide +kernel)
theorem m_0d2cbdfc : (.instanceMethod y_M_exportNumber : Cond) ∈ xt_tbl := xt_in (xt_t12 (List.mem_of_getElem? (i := 60) (by decide +kernel))) (by decide +kernel)
theorem m_92840f1d : (.selects "StackHostModel" y_M_exportNumber y_M_exportNumber : Cond) ∈ xt_tbl := xt_in (xt_v13 (q := (⟨"StackHostModel", "exportNumber", "(II)I"⟩, 97)) (List.mem_of_getElem? (i := 7) (by decide +kernel))) (by decide +kernel)
theorem m_9f02a356 : (.code y_M_exportNumber b_M_exportNumber 3 (some .int) : Cond) ∈ xt_tbl := xt_in (xt_t12 (List.mem_of_getElem? (i := 61) (by decide +kernel))) (by decide +kernel)
theorem m_93ee92a3 : (.methodLink "StackHostModel" 601 y_M_resultTypeOf : Cond) ∈ xt_tbl := xt_in (xt_t12 (List.mem_of_getElem? (i := 141) (by decide +kernel))) (by decide +kernel)
theorem m_c47b9967 : (.instanceMethod y_M_resultTypeOf : Cond) ∈ xt_tbl := xt_in (xt_t12 (List.mem_of_getElem? (i := 143) (by decide +kernel))) (by decide +kernel)
theorem m_f83be30f : (.selects "StackHostModel" y_M_resultTypeOf y_M_resultTypeOf : Cond) ∈ xt_tbl := xt_in (xt_v14 (q := (⟨"StackHostModel", "resultTypeOf", "(I)I"⟩, 97)) (List.mem_of_getElem? (i := 8) (by decide +kernel))) (by decide +kernel)
theorem m_ecd46614 : (.code y_M_resultTypeOf b_M_resultTypeOf 3 (some .int) : Cond) ∈ xt_tbl := xt_in (xt_t12 (List.mem_of_getElem? (i := 144) (by decide +kernel))) (by decide +kernel)
theorem m_afb711e8 : (.methodLink "StackHostModel" 595 y_M_isExport : Cond) ∈ xt_tbl := xt_in (xt_t12 (List.mem_of_getElem? (i := 133) (by decide +kernel))) (by decide +kernel)
theorem m_9932241c : (.instanceMethod y_M_isExport : Cond) ∈ xt_tbl := xt_in (xt_t12 (List.mem_of_getElem? (i := 135) (by decide +kernel))) (by decide +kernel)
theorem m_40c3e47a : (.selects "StackHostModel" y_M_isExport y_M_isExport : Cond) ∈ xt_tbl := xt_in (xt_v14 (q := (⟨"StackHostModel", "isExport", "(II)Z"⟩, 97)) (List.mem_of_getElem? (i := 6) (by decide +kernel))) (by decide +kernel)
theorem m_ca26fbb4 : (.code y_M_isExport b_M_isExport 3 (some .boolean) : Cond) ∈ xt_tbl := xt_in (xt_t12 (List.mem_of_getElem? (i := 136) (by decide +kernel))) (by decide +kernel)
theorem nm_M_exportNumber : xt_nm y_M_exportNumber 2 := ⟨by decide +kernel, by decide +kernel⟩
theorem nm_M_resultTypeOf : xt_nm y_M_resultTypeOf 1 := ⟨by decide +kernel, by decide +kernel⟩
theorem nm_M_isExport : xt_nm y_M_isExport 2 := ⟨by decide +kernel, by decide +kernel⟩
set_option maxRecDepth 100000 in
def T_M_exported : List (Nat × Instr × Nat) := [(0, .aload_n 0, 1), (1, .aload_n 0, 1), (2, .iload_n 1, 1), (3, .iload_n 2, 1), (4, .invokevirtual 595, 3), (7, .ifCond .eq 16, 3), (10, .iload_n 3, 1), (11, .ifCond .lt 12, 3), (14, .iload_n 3, 1), (15, .iconst 4, 1), (16, .if_icmp .ge 7, 3), (19, .iconst 0, 1), (20, .goto 4, 3), (23, .iconst 1, 1), (24, .putfield 189, 3), (27, .aload_n 0, 1), (28, .getfield 189, 3), (31, .ifCond .le 5, 3), (34, .iconst 0, 1), (35, .ireturn, 1), (36, .aload_n 0, 1), (37, .getfield 62, 3), (40, .iload_n 1, 1), (41, .iaload, 1), (42, .istore 4, 2), (44, .aload_n 0, 1), (45, .iload 4, 2), (47, .iload_n 2, 1), (48, .invokevirtual 486, 3), (51, .istore 5, 2), (53, .aload_n 0, 1), (54, .iload 4, 2), (56, .iload_n 2, 1), (57, .invokevirtual 511, 3), (60, .istore 6, 2), (62, .iload_n 3, 1), (63, .iconst 2, 1), (64, .if_icmp .ge 15, 3), (67, .iload_n 3, 1), (68, .ifCond .ne 8, 3), (71, .iload 5, 2), (73, .goto 5, 3), (76, .iload 6, 2), (78, .ireturn, 1), (79, .iload 5, 2), (81, .ifCond .eq 5, 3), (84, .iconst 0, 1), (85, .ireturn, 1), (86, .aload_n 0, 1), (87, .iload_n 1, 1), (88, .iconst 0, 1), (89, .iload 6, 2), (91, .invokevirtual 479, 3), (94, .istore 7, 2), (96, .iload_n 3, 1), (97, .iconst 2, 1), (98, .if_icmp .ne 12, 3), (101, .aload_n 0, 1), (102, .iload 7, 2), (104, .invokevirtual 598, 3), (107, .goto 19, 3), (110, .aload_n 0, 1), (111, .iload 7, 2), (113, .invokevirtual 601, 3), (116, .bipush 64, 2), (118, .if_icmp .ne 7, 3), (121, .iconst 0, 1), (122, .goto 4, 3), (125, .iconst 1, 1), (126, .ireturn, 1)]
theorem D_M_exported : ∀ q ∈ T_M_exported, decode b_M_exported q.1 = .ok (q.2.1, q.2.2) := by decide +kernel

set_option maxHeartbeats 4000000 in
set_option maxRecDepth 100000 in
theorem am_M_exported_L126 (l : Launch) (hfl : l.flags = pinnedFlags ++ [noTraceFlag]) (D : va_G) (A : Nat → Prop) (σ MC MS : Nat) (h0 : xb_H) (Qr : Int32 → xb_H → Prop) (y0 : Int32) (h : xb_H) (hw : w_M_exported_L126 Qr y0 h) : xb_am l D A σ 10 MC MS h0 (fun v h _ _ => ∃ r, v = some (.int r) ∧ Qr r h) (fun _ _ _ _ => False) y_M_exported.cls y_M_exported.name b_M_exported 8 ([] : List ExceptionTableEntry) (some .int) 126 [] [.int y0] h 0 0 := by
  unfold w_M_exported_L126 at hw
  intro p e s m args below meth c hC H locs ls k n hE hl hR hS hk hn
  obtain ⟨hx, hb, hown, hlocks, htab, hml, hr, hB, hA, hnm⟩ := id hC
  have hts := hB.1.1.at args
  exact xb_iret 0 0 hx hb hr hlocks (show k + 0 ≤ MC by omega) (show n + 0 ≤ MS by omega) hE hR hS (xb_d D_M_exported 69 rfl) hw

set_option maxHeartbeats 4000000 in
set_option maxRecDepth 100000 in
theorem am_M_exported_L78 (l : Launch) (hfl : l.flags = pinnedFlags ++ [noTraceFlag]) (D : va_G) (A : Nat → Prop) (σ MC MS : Nat) (h0 : xb_H) (Qr : Int32 → xb_H → Prop) (y0 : Int32) (h : xb_H) (hw : w_M_exported_L78 Qr y0 h) : xb_am l D A σ 10 MC MS h0 (fun v h _ _ => ∃ r, v = some (.int r) ∧ Qr r h) (fun _ _ _ _ => False) y_M_exported.cls y_M_exported.name b_M_exported 8 ([] : List ExceptionTableEntry) (some .int) 78 [] [.int y0] h 0 0 := by
  unfold w_M_exported_L78 at hw
  intro p e s m args below meth c hC H locs ls k n hE hl hR hS hk hn
  obtain ⟨hx, hb, hown, hlocks, htab, hml, hr, hB, hA, hnm⟩ := id hC
  have hts := hB.1.1.at args
  exact xb_iret 0 0 hx hb hr hlocks (show k + 0 ≤ MC by omega) (show n + 0 ≤ MS by omega) hE hR hS (xb_d D_M_exported 43 rfl) hw

set_option maxHeartbeats 4000000 in
set_option maxRecDepth 100000 in
theorem am_M_exported_L24 (l : Launch) (hfl : l.flags = pinnedFlags ++ [noTraceFlag]) (D : va_G) (A : Nat → Prop) (σ MC MS : Nat) (h0 : xb_H) (Qr : Int32 → xb_H → Prop) (x0 : Nat) (x1 : Int32) (x2 : Int32) (x3 : Int32) (y0 : Int32) (y1 : Nat) (h : xb_H) (hw : w_M_exported_L24 Qr x0 x1 x2 x3 y0 y1 h) : xb_am l D A σ 10 MC MS h0 (fun v h _ _ => ∃ r, v = some (.int r) ∧ Qr r h) (fun _ _ _ _ => False) y_M_exported.cls y_M_exported.name b_M_exported 8 ([] : List ExceptionTableEntry) (some .int) 24 [(0, .ref x0), (1, .int x1), (2, .int x2), (3, .int x3)] [.int y0, .ref y1] h 0 0 := by
  unfold w_M_exported_L24 at hw
  intro p e s m args below meth c hC H locs ls k n hE hl hR hS hk hn
  obtain ⟨hx, hb, hown, hlocks, htab, hml, hr, hB, hA, hnm⟩ := id hC
  have hts := hB.1.1.at args
  obtain ⟨hk1, hw⟩ := hw
  refine xb_putI (C := R_M) (T := F_M) (N := 97) (ty := .int) (x := y0) hx hb 8 0 hts fin_M t_M t_M_ok n_M hown hR hS hk1 (by decide) rfl (by decide) rfl (hts _ m_afabd6a0) (fun _ h9 => h9) rfl (by decide +kernel) rfl rfl (xb_d D_M_exported 14 rfl) (fun H locs hR hS => ?_)
  obtain ⟨h2, eh2⟩ : ∃ x : xb_H, x = xb_I h y1 0 y0 := ⟨_, rfl⟩
  rw [← eh2] at hR
  have hw := hw h2 eh2
  have hE : xb_ext h0 h2 := by rw [eh2]; exact hE
  refine lv_aload_n hx hb (xb_d D_M_exported 15 rfl) rfl (lv_at hl 0 rfl) ?_
  obtain ⟨hk3, hw⟩ := hw
  refine xb_getI (C := R_M) (T := F_M) (N := 97) hx hb 8 0 hts fin_M hown hR hk3 (by decide) rfl (by decide) rfl (hts _ m_afabd6a0) (fun _ h9 => h9) (xb_d D_M_exported 16 rfl) ?_
  refine lv_if_le (tgt := 36) hx hb (xb_d D_M_exported 17 rfl) rfl (fun hc4 => ?_) (fun hc4 => ?_)
  · have hw := hw.1 hc4
    refine lv_aload_n hx hb (xb_d D_M_exported 20 rfl) rfl (lv_at hl 0 rfl) ?_
    refine xb_getP (C := R_M) (T := F_M) (N := 97) hx hb 8 31 hts fin_M hown hR hk3 (by decide) rfl (by decide) rfl (hts _ m_691d5f47) (fun _ h9 => h9) (xb_d D_M_exported 21 rfl) ?_
    obtain ⟨b5, eb5, hw⟩ := hw
    refine xb_some eb5 ?_
    refine lv_iload_n hx hb (xb_d D_M_exported 22 rfl) rfl (lv_at hl 1 rfl) ?_
    obtain ⟨hk7, hw⟩ := hw
    obtain ⟨hi6, hw⟩ := hw
    refine xb_iald hx hb hR hk7 hi6 (xb_d D_M_exported 23 rfl) ?_
    obtain ⟨v8, ev8⟩ : ∃ x : Int32, x = (xb_i h2 b5 (Int32.toNatClampNeg x1)) := ⟨_, rfl⟩
    have hw := hw v8 ev8
    refine xt_numi (y := v8) ev8.symm ?_
    refine lv_istore hx hb (xb_d D_M_exported 24 rfl) hl (by decide) rfl (fun ls hl => ?_)
    have hl : lv_has ls 8 [(4, .int v8), (0, .ref x0), (1, .int x1), (2, .int x2), (3, .int x3)] := hl
    refine lv_aload_n hx hb (xb_d D_M_exported 25 rfl) rfl (lv_at hl 1 rfl) ?_
    refine lv_iload hx hb (xb_d D_M_exported 26 rfl) (lv_at hl 0 rfl) ?_
    refine lv_iload_n hx hb (xb_d D_M_exported 27 rfl) rfl (lv_at hl 3 rfl) ?_
    refine xb_call0 (D := D) (A := A) (σ := σ) (h := h2) (d := 6) (maxL := 3) (rest := []) (av := [.ref x0, .int v8, .int x2]) (fun T hT X => by obtain ⟨cb9, ra9, rb9, rc9⟩ := xb_recv (ci := 8) hR rfl hk3 (by decide); exact xt_invV X hx hown (hts _ m_c71d5853) (hts _ m_3fd4c934) (hts _ m_0b430860) (xt_sigOf (hts _ m_c14fc813)) nm_M_exportKind (by rw [hT]; exact ra9) rb9 rc9 (g := F0 m 48 ls [.int x2, .int v8, .ref x0]) rfl (argsL := [.int v8, .int x2]) (rest := []) rfl rfl (by rw [hb]; exact (xb_d D_M_exported 28 rfl))) (ok_M_exportKind l hfl D A σ x0 v8 x2 h2 _ hw) (hml.trans hl.1.symm) (by rw [hb]; exact (xb_d D_M_exported 28 rfl)) (Nat.le_of_ble_eq_true rfl) (Nat.le_of_ble_eq_true rfl) (Nat.le_of_ble_eq_true rfl) (show k ≤ MC by omega) (show n ≤ MS by omega) (xt_w1 hB.1 m_c14fc813) (xt_cdOf hB.1 m_c14fc813) (hts _ m_d5ed7bed) hB hR hS hA (fun vv h9 H locs hq hEh9 hR hS => ?_)
    obtain ⟨r10, rfl, hw⟩ := hq
    have hw := hw hEh9
    have hE := hE.tr hEh9
    refine W.eq (g2 := F0 m 51 ls [.int r10]) rfl ?_
    refine lv_istore hx hb (xb_d D_M_exported 29 rfl) hl (by decide) rfl (fun ls hl => ?_)
    have hl : lv_has ls 8 [(5, .int r10), (4, .int v8), (0, .ref x0), (1, .int x1), (2, .int x2), (3, .int x3)] := hl
    refine lv_aload_n hx hb (xb_d D_M_exported 30 rfl) rfl (lv_at hl 2 rfl) ?_
    refine lv_iload hx hb (xb_d D_M_exported 31 rfl) (lv_at hl 1 rfl) ?_
    refine lv_iload_n hx hb (xb_d D_M_exported 32 rfl) rfl (lv_at hl 4 rfl) ?_
    have hk3 : xb_k h9 x0 = 9 := hEh9.k hk3
    refine xb_call0 (D := D) (A := A) (σ := σ) (h := h9) (d := 7) (maxL := 3) (rest := []) (av := [.ref x0, .int v8, .int x2]) (fun T hT X => by obtain ⟨cb9, ra9, rb9, rc9⟩ := xb_recv (ci := 8) hR rfl hk3 (by decide); exact xt_invV X hx hown (hts _ m_ffdcfbf2) (hts _ m_0d2cbdfc) (hts _ m_92840f1d) (xt_sigOf (hts _ m_9f02a356)) nm_M_exportNumber (by rw [hT]; exact ra9) rb9 rc9 (g := F0 m 57 ls [.int x2, .int v8, .ref x0]) rfl (argsL := [.int v8, .int x2]) (rest := []) rfl rfl (by rw [hb]; exact (xb_d D_M_exported 33 rfl))) (ok_M_exportNumber l hfl D A σ x0 v8 x2 h9 _ hw) (hml.trans hl.1.symm) (by rw [hb]; exact (xb_d D_M_exported 33 rfl)) (Nat.le_of_ble_eq_true rfl) (Nat.le_of_ble_eq_true rfl) (Nat.le_of_ble_eq_true rfl) (show k ≤ MC by omega) (show n ≤ MS by omega) (xt_w1 hB.1 m_9f02a356) (xt_cdOf hB.1 m_9f02a356) (hts _ m_d5ed7bed) hB hR hS hA (fun vv h11 H locs hq hEh11 hR hS => ?_)
    obtain ⟨r12, rfl, hw⟩ := hq
    have hw := hw hEh11
    have hE := hE.tr hEh11
    refine W.eq (g2 := F0 m 60 ls [.int r12]) rfl ?_
    refine lv_istore hx hb (xb_d D_M_exported 34 rfl) hl (by decide) rfl (fun ls hl => ?_)
    have hl : lv_has ls 8 [(6, .int r12), (5, .int r10), (4, .int v8), (0, .ref x0), (1, .int x1), (2, .int x2), (3, .int x3)] := hl
    refine lv_iload_n hx hb (xb_d D_M_exported 35 rfl) rfl (lv_at hl 6 rfl) ?_
    refine lv_iconst (v := 2) hx hb (xb_d D_M_exported 36 rfl) (by decide) ?_
    refine lv_icmp_ge (tgt := 79) hx hb (xb_d D_M_exported 37 rfl) rfl (fun hc13 => ?_) (fun hc13 => ?_)
    · have hw := hw.1 hc13
      refine lv_iload hx hb (xb_d D_M_exported 44 rfl) (lv_at hl 1 rfl) ?_
      refine lv_if_eq (tgt := 86) hx hb (xb_d D_M_exported 45 rfl) rfl (fun hc14 => ?_) (fun hc14 => ?_)
      · have hw := hw.1 hc14
        refine lv_aload_n hx hb (xb_d D_M_exported 48 rfl) rfl (lv_at hl 3 rfl) ?_
        refine lv_iload_n hx hb (xb_d D_M_exported 49 rfl) rfl (lv_at hl 4 rfl) ?_
        refine lv_iconst (v := 0) hx hb (xb_d D_M_exported 50 rfl) (by decide) ?_
        refine lv_iload hx hb (xb_d D_M_exported 51 rfl) (lv_at hl 0 rfl) ?_
        have hk3 : xb_k h11 x0 = 9 := hEh11.k hk3
        refine xb_call0 (D := D) (A := A) (σ := σ) (h := h11) (d := 8) (maxL := 6) (rest := []) (av := [.ref x0, .int x1, .int 0, .int r12]) (fun T hT X => by obtain ⟨cb9, ra9, rb9, rc9⟩ := xb_recv (ci := 8) hR rfl hk3 (by decide); exact xt_invV X hx hown (hts _ m_5ec466f2) (hts _ m_f0f1d102) (hts _ m_cfa25922) (xt_sigOf (hts _ m_59347bba)) nm_M_meant (by rw [hT]; exact ra9) rb9 rc9 (g := F0 m 91 ls [.int r12, .int 0, .int x1, .ref x0]) rfl (argsL := [.int x1, .int 0, .int r12]) (rest := []) rfl rfl (by rw [hb]; exact (xb_d D_M_exported 52 rfl))) (ok_M_meant l hfl D A σ x0 x1 0 r12 h11 _ hw) (hml.trans hl.1.symm) (by rw [hb]; exact (xb_d D_M_exported 52 rfl)) (Nat.le_of_ble_eq_true rfl) (Nat.le_of_ble_eq_true rfl) (Nat.le_of_ble_eq_true rfl) (show k ≤ MC by omega) (show n ≤ MS by omega) (xt_w1 hB.1 m_59347bba) (xt_cdOf hB.1 m_59347bba) (hts _ m_d5ed7bed) hB hR hS hA (fun vv h15 H locs hq hEh15 hR hS => ?_)
        obtain ⟨r16, rfl, hw⟩ := hq
        have hw := hw hEh15
        have hE := hE.tr hEh15
        refine W.eq (g2 := F0 m 94 ls [.int r16]) rfl ?_
        refine lv_istore hx hb (xb_d D_M_exported 53 rfl) hl (by decide) rfl (fun ls hl => ?_)
        have hl : lv_has ls 8 [(7, .int r16), (6, .int r12), (5, .int r10), (4, .int v8), (0, .ref x0), (1, .int x1), (2, .int x2), (3, .int x3)] := hl
        refine lv_iload_n hx hb (xb_d D_M_exported 54 rfl) rfl (lv_at hl 7 rfl) ?_
        refine lv_iconst (v := 2) hx hb (xb_d D_M_exported 55 rfl) (by decide) ?_
        refine lv_icmp_ne (tgt := 110) hx hb (xb_d D_M_exported 56 rfl) rfl (fun hc17 => ?_) (fun hc17 => ?_)
        · have hw := hw.1 hc17
          refine lv_aload_n hx hb (xb_d D_M_exported 61 rfl) rfl (lv_at hl 4 rfl) ?_
          refine lv_iload hx hb (xb_d D_M_exported 62 rfl) (lv_at hl 0 rfl) ?_
          have hk3 : xb_k h15 x0 = 9 := hEh15.k hk3
          refine xb_call0 (D := D) (A := A) (σ := σ) (h := h15) (d := 9) (maxL := 3) (rest := []) (av := [.ref x0, .int r16]) (fun T hT X => by obtain ⟨cb9, ra9, rb9, rc9⟩ := xb_recv (ci := 8) hR rfl hk3 (by decide); exact xt_invV X hx hown (hts _ m_93ee92a3) (hts _ m_c47b9967) (hts _ m_f83be30f) (xt_sigOf (hts _ m_ecd46614)) nm_M_resultTypeOf (by rw [hT]; exact ra9) rb9 rc9 (g := F0 m 113 ls [.int r16, .ref x0]) rfl (argsL := [.int r16]) (rest := []) rfl rfl (by rw [hb]; exact (xb_d D_M_exported 63 rfl))) (ok_M_resultTypeOf l hfl D A σ x0 r16 h15 _ hw) (hml.trans hl.1.symm) (by rw [hb]; exact (xb_d D_M_exported 63 rfl)) (Nat.le_of_ble_eq_true rfl) (Nat.le_of_ble_eq_true rfl) (Nat.le_of_ble_eq_true rfl) (show k ≤ MC by omega) (show n ≤ MS by omega) (xt_w1 hB.1 m_ecd46614) (xt_cdOf hB.1 m_ecd46614) (hts _ m_d5ed7bed) hB hR hS hA (fun vv h18 H locs hq hEh18 hR hS => ?_)
          obtain ⟨r19, rfl, hw⟩ := hq
          have hw := hw hEh18
          have hE := hE.tr hEh18
          refine W.eq (g2 := F0 m 116 ls [.int r19]) rfl ?_
          refine lv_bipush (v := 64) hx hb (xb_d D_M_exported 64 rfl) (by decide) ?_
          refine lv_icmp_ne (tgt := 125) hx hb (xb_d D_M_exported 65 rfl) rfl (fun hc20 => ?_) (fun hc20 => ?_)
          · have hw := hw.1 hc20
            refine lv_iconst (v := 1) hx hb (xb_d D_M_exported 68 rfl) (by decide) ?_
            exact am_M_exported_L126 l hfl D A σ MC MS h0 Qr 1 h18 hw p e s m args below meth c hC H locs ls k n hE (lv_sub hl [] rfl) hR hS (by omega) (by omega)
          · have hw := hw.2 hc20
            refine lv_iconst (v := 0) hx hb (xb_d D_M_exported 66 rfl) (by decide) ?_
            refine lv_goto (tgt := 126) hx hb (xb_d D_M_exported 67 rfl) rfl ?_
            exact am_M_exported_L126 l hfl D A σ MC MS h0 Qr 0 h18 hw p e s m args below meth c hC H locs ls k n hE (lv_sub hl [] rfl) hR hS (by omega) (by omega)
        · have hw := hw.2 hc17
          refine lv_aload_n hx hb (xb_d D_M_exported 57 rfl) rfl (lv_at hl 4 rfl) ?_
          refine lv_iload hx hb (xb_d D_M_exported 58 rfl) (lv_at hl 0 rfl) ?_
          have hk3 : xb_k h15 x0 = 9 := hEh15.k hk3
          refine xb_call0 (D := D) (A := A) (σ := σ) (h := h15) (d := 9) (maxL := 3) (rest := []) (av := [.ref x0, .int r16]) (fun T hT X => by obtain ⟨cb9, ra9, rb9, rc9⟩ := xb_recv (ci := 8) hR rfl hk3 (by decide); exact xt_invV X hx hown (hts _ m_e2ba22cc) (hts _ m_0a57baa5) (hts _ m_6f48d886) (xt_sigOf (hts _ m_14db4a29)) nm_M_parametersOf (by rw [hT]; exact ra9) rb9 rc9 (g := F0 m 104 ls [.int r16, .ref x0]) rfl (argsL := [.int r16]) (rest := []) rfl rfl (by rw [hb]; exact (xb_d D_M_exported 59 rfl))) (ok_M_parametersOf l hfl D A σ x0 r16 h15 _ hw) (hml.trans hl.1.symm) (by rw [hb]; exact (xb_d D_M_exported 59 rfl)) (Nat.le_of_ble_eq_true rfl) (Nat.le_of_ble_eq_true rfl) (Nat.le_of_ble_eq_true rfl) (show k ≤ MC by omega) (show n ≤ MS by omega) (xt_w1 hB.1 m_14db4a29) (xt_cdOf hB.1 m_14db4a29) (hts _ m_d5ed7bed) hB hR hS hA (fun vv h21 H locs hq hEh21 hR hS => ?_)
          obtain ⟨r22, rfl, hw⟩ := hq
          have hw := hw hEh21
          have hE := hE.tr hEh21
          refine W.eq (g2 := F0 m 107 ls [.int r22]) rfl ?_
          refine lv_goto (tgt := 126) hx hb (xb_d D_M_exported 60 rfl) rfl ?_
          exact am_M_exported_L126 l hfl D A σ MC MS h0 Qr r22 h21 hw p e s m args below meth c hC H locs ls k n hE (lv_sub hl [] rfl) hR hS (by omega) (by omega)
      · have hw := hw.2 hc14
        refine lv_iconst (v := 0) hx hb (xb_d D_M_exported 46 rfl) (by decide) ?_
        exact xb_iret 0 0 hx hb hr hlocks (show k + 0 ≤ MC by omega) (show n + 0 ≤ MS by omega) hE hR hS (xb_d D_M_exported 47 rfl) hw
    · have hw := hw.2 hc13
      refine lv_iload_n hx hb (xb_d D_M_exported 38 rfl) rfl (lv_at hl 6 rfl) ?_
      refine lv_if_ne (tgt := 76) hx hb (xb_d D_M_exported 39 rfl) rfl (fun hc23 => ?_) (fun hc23 => ?_)
      · have hw := hw.1 hc23
        refine lv_iload hx hb (xb_d D_M_exported 42 rfl) (lv_at hl 0 rfl) ?_
        exact am_M_exported_L78 l hfl D A σ MC MS h0 Qr r12 h11 hw p e s m args below meth c hC H locs ls k n hE (lv_sub hl [] rfl) hR hS (by omega) (by omega)
      · have hw := hw.2 hc23
        refine lv_iload hx hb (xb_d D_M_exported 40 rfl) (lv_at hl 1 rfl) ?_
        refine lv_goto (tgt := 78) hx hb (xb_d D_M_exported 41 rfl) rfl ?_
        exact am_M_exported_L78 l hfl D A σ MC MS h0 Qr r10 h11 hw p e s m args below meth c hC H locs ls k n hE (lv_sub hl [] rfl) hR hS (by omega) (by omega)
  · have hw := hw.2 hc4
    refine lv_iconst (v := 0) hx hb (xb_d D_M_exported 18 rfl) (by decide) ?_
    exact xb_iret 0 0 hx hb hr hlocks (show k + 0 ≤ MC by omega) (show n + 0 ≤ MS by omega) hE hR hS (xb_d D_M_exported 19 rfl) hw

set_option maxHeartbeats 4000000 in
set_option maxRecDepth 100000 in
theorem am_M_exported_L23 (l : Launch) (hfl : l.flags = pinnedFlags ++ [noTraceFlag]) (D : va_G) (A : Nat → Prop) (σ MC MS : Nat) (h0 : xb_H) (Qr : Int32 → xb_H → Prop) (x0 : Nat) (x1 : Int32) (x2 : Int32) (x3 : Int32) (y0 : Nat) (h : xb_H) (hw : w_M_exported_L23 Qr x0 x1 x2 x3 y0 h) : xb_am l D A σ 10 MC MS h0 (fun v h _ _ => ∃ r, v = some (.int r) ∧ Qr r h) (fun _ _ _ _ => False) y_M_exported.cls y_M_exported.name b_M_exported 8 ([] : List ExceptionTableEntry) (some .int) 23 [(0, .ref x0), (1, .int x1), (2, .int x2), (3, .int x3)] [.ref y0] h 0 0 := by
  unfold w_M_exported_L23 at hw
  intro p e s m args below meth c hC H locs ls k n hE hl hR hS hk hn
  obtain ⟨hx, hb, hown, hlocks, htab, hml, hr, hB, hA, hnm⟩ := id hC
  have hts := hB.1.1.at args
  refine lv_iconst (v := 1) hx hb (xb_d D_M_exported 13 rfl) (by decide) ?_
  exact am_M_exported_L24 l hfl D A σ MC MS h0 Qr x0 x1 x2 x3 1 y0 h hw p e s m args below meth c hC H locs ls k n hE (lv_sub hl [0, 1, 2, 3] rfl) hR hS (by omega) (by omega)

set_option maxHeartbeats 4000000 in
set_option maxRecDepth 100000 in
theorem ok_M_exported (l : Launch) (hfl : l.flags = pinnedFlags ++ [noTraceFlag]) (D : va_G) (A : Nat → Prop) (σ : Nat) (x0 : Nat) (x1 : Int32) (x2 : Int32) (x3 : Int32) (h : xb_H) (Qr : Int32 → xb_H → Prop) (hw : w_M_exported x0 x1 x2 x3 h Qr) : xb_Met l y_M_exported [.code y_M_exported b_M_exported 8 (some .int)] (xb_rm 10 0 0) (xb_Pc D A σ h [.ref x0, .int x1, .int x2, .int x3]) (xb_Qc D A h 0 0 (fun v h _ _ => ∃ r, v = some (.int r) ∧ Qr r h) (fun _ _ _ _ => False)) A := by
  refine xb_ofAm (cc := b_M_exported) (by decide) (Nat.le_of_ble_eq_true rfl) ?_
  unfold w_M_exported at hw
  show xb_am l D A σ 10 0 0 h (fun v h _ _ => ∃ r, v = some (.int r) ∧ Qr r h) (fun _ _ _ _ => False) y_M_exported.cls y_M_exported.name b_M_exported 8 ([] : List ExceptionTableEntry) (some .int) 0 [(0, .ref x0), (1, .int x1), (2, .int x2), (3, .int x3)] [] h 0 0
  obtain ⟨MC, hMC⟩ : ∃ x, x = 0 := ⟨_, rfl⟩
  obtain ⟨MS, hMS⟩ : ∃ x, x = 0 := ⟨_, rfl⟩
  rw [show xb_am l D A σ 10 0 0 = xb_am l D A σ 10 MC MS by rw [hMC, hMS]]
  obtain ⟨h0, hh0⟩ : ∃ x, x = h := ⟨_, rfl⟩
  rw [show xb_am l D A σ 10 MC MS h = xb_am l D A σ 10 MC MS h0 by rw [hh0]]
  intro p e s m args below meth c hC H locs ls k n hE hl hR hS hk hn
  obtain ⟨hx, hb, hown, hlocks, htab, hml, hr, hB, hA, hnm⟩ := id hC
  have hts := hB.1.1.at args
  refine lv_aload_n hx hb (xb_d D_M_exported 0 rfl) rfl (lv_at hl 0 rfl) ?_
  refine lv_aload_n hx hb (xb_d D_M_exported 1 rfl) rfl (lv_at hl 0 rfl) ?_
  refine lv_iload_n hx hb (xb_d D_M_exported 2 rfl) rfl (lv_at hl 1 rfl) ?_
  refine lv_iload_n hx hb (xb_d D_M_exported 3 rfl) rfl (lv_at hl 2 rfl) ?_
  obtain ⟨hk1, hw⟩ := hw
  refine xb_call0 (D := D) (A := A) (σ := σ) (h := h) (d := 3) (maxL := 3) (rest := [.ref x0]) (av := [.ref x0, .int x1, .int x2]) (fun T hT X => by obtain ⟨cb9, ra9, rb9, rc9⟩ := xb_recv (ci := 8) hR rfl hk1 (by decide); exact xt_invV X hx hown (hts _ m_afb711e8) (hts _ m_9932241c) (hts _ m_40c3e47a) (xt_sigOf (hts _ m_ca26fbb4)) nm_M_isExport (by rw [hT]; exact ra9) rb9 rc9 (g := F0 m 4 ls [.int x2, .int x1, .ref x0, .ref x0]) rfl (argsL := [.int x1, .int x2]) (rest := [.ref x0]) rfl rfl (by rw [hb]; exact (xb_d D_M_exported 4 rfl))) (ok_M_isExport l hfl D A σ x0 x1 x2 h _ hw) (hml.trans hl.1.symm) (by rw [hb]; exact (xb_d D_M_exported 4 rfl)) (Nat.le_of_ble_eq_true rfl) (Nat.le_of_ble_eq_true rfl) (Nat.le_of_ble_eq_true rfl) (show k ≤ MC by omega) (show n ≤ MS by omega) (xt_w1 hB.1 m_ca26fbb4) (xt_cdOf hB.1 m_ca26fbb4) (hts _ m_d5ed7bed) hB hR hS hA (fun vv h2 H locs hq hEh2 hR hS => ?_)
  obtain ⟨r3, rfl, hw⟩ := hq
  have hw := hw hEh2
  have hE := hE.tr hEh2
  refine W.eq (g2 := F0 m 7 ls [.int r3, .ref x0]) rfl ?_
  refine lv_if_eq (tgt := 23) hx hb (xb_d D_M_exported 5 rfl) rfl (fun hc4 => ?_) (fun hc4 => ?_)
  · have hw := hw.1 hc4
    exact am_M_exported_L23 l hfl D A σ MC MS h0 Qr x0 x1 x2 x3 x0 h2 hw p e s m args below meth c hC H locs ls k n hE (lv_sub hl [0, 1, 2, 3] rfl) hR hS (by omega) (by omega)
  · have hw := hw.2 hc4
    refine lv_iload_n hx hb (xb_d D_M_exported 6 rfl) rfl (lv_at hl 3 rfl) ?_
    refine lv_if_lt (tgt := 23) hx hb (xb_d D_M_exported 7 rfl) rfl (fun hc5 => ?_) (fun hc5 => ?_)
    · have hw := hw.1 hc5
      exact am_M_exported_L23 l hfl D A σ MC MS h0 Qr x0 x1 x2 x3 x0 h2 hw p e s m args below meth c hC H locs ls k n hE (lv_sub hl [0, 1, 2, 3] rfl) hR hS (by omega) (by omega)
    · have hw := hw.2 hc5
      refine lv_iload_n hx hb (xb_d D_M_exported 8 rfl) rfl (lv_at hl 3 rfl) ?_
      refine lv_iconst (v := 4) hx hb (xb_d D_M_exported 9 rfl) (by decide) ?_
      refine lv_icmp_ge (tgt := 23) hx hb (xb_d D_M_exported 10 rfl) rfl (fun hc6 => ?_) (fun hc6 => ?_)
      · have hw := hw.1 hc6
        exact am_M_exported_L23 l hfl D A σ MC MS h0 Qr x0 x1 x2 x3 x0 h2 hw p e s m args below meth c hC H locs ls k n hE (lv_sub hl [0, 1, 2, 3] rfl) hR hS (by omega) (by omega)
      · have hw := hw.2 hc6
        refine lv_iconst (v := 0) hx hb (xb_d D_M_exported 11 rfl) (by decide) ?_
        refine lv_goto (tgt := 24) hx hb (xb_d D_M_exported 12 rfl) rfl ?_
        exact am_M_exported_L24 l hfl D A σ MC MS h0 Qr x0 x1 x2 x3 0 x0 h2 hw p e s m args below meth c hC H locs ls k n hE (lv_sub hl [0, 1, 2, 3] rfl) hR hS (by omega) (by omega)

theorem m_71b2c3db : (.methodLink "StackHostModel" 496 y_M_hasType : Cond) ∈ xt_tbl := xt_in (xt_t12 (List.mem_of_getElem? (i := 70) (by decide +kernel))) (by decide +kernel)
theorem m_1d48feed : (.instanceMethod y_M_hasType : Cond) ∈ xt_tbl := xt_in (xt_t12 (List.mem_of_getElem? (i := 72) (by decide +kernel))) (by decide +kernel)
theorem m_628c5dc3 : (.selects "StackHostModel" y_M_hasType y_M_hasType : Cond) ∈ xt_tbl := xt_in (xt_v13 (q := (⟨"StackHostModel", "hasType", "(III)Z"⟩, 97)) (List.mem_of_getElem? (i := 10) (by decide +kernel))) (by decide +kernel)
theorem m_f3efd3e1 : (.code y_M_hasType b_M_hasType 5 (some .boolean) : Cond) ∈ xt_tbl := xt_in (xt_t12 (List.mem_of_getElem? (i := 73) (by decide +kernel))) (by decide +kernel)
theorem nm_M_hasType : xt_nm y_M_hasType 3 := ⟨by decide +kernel, by decide +kernel⟩
set_option maxRecDepth 100000 in
def T_M_fits : List (Nat × Instr × Nat) := [(0, .aload_n 0, 1), (1, .iload_n 1, 1), (2, .iload_n 2, 1), (3, .invokevirtual 327, 3), (6, .pop, 1), (7, .iload_n 3, 1), (8, .ifCond .ne 16, 3), (11, .aload_n 0, 1), (12, .iload 4, 2), (14, .iload_n 1, 1), (15, .aload_n 0, 1), (16, .invokevirtual 218, 3), (19, .l2i, 1), (20, .invokevirtual 496, 3), (23, .ireturn, 1), (24, .iload_n 3, 1), (25, .iconst 3, 1), (26, .if_icmp .ne 54, 3), (29, .aload_n 0, 1), (30, .invokevirtual 212, 3), (33, .istore 5, 2), (35, .aload_n 0, 1), (36, .invokevirtual 212, 3), (39, .iconst 1, 1), (40, .if_icmp .ne 7, 3), (43, .iconst 1, 1), (44, .goto 4, 3), (47, .iconst 0, 1), (48, .istore 6, 2), (50, .aload_n 0, 1), (51, .getfield 124, 3), (54, .iload 4, 2), (56, .iaload, 1), (57, .iload 5, 2), (59, .if_icmp .ne 19, 3), (62, .aload_n 0, 1), (63, .getfield 127, 3), (66, .iload 4, 2), (68, .baload, 1), (69, .iload 6, 2), (71, .if_icmp .ne 7, 3), (74, .iconst 1, 1), (75, .goto 4, 3), (78, .iconst 0, 1), (79, .ireturn, 1), (80, .aload_n 0, 1), (81, .iload_n 3, 1), (82, .iconst 1, 1), (83, .if_icmp .ne 12, 3), (86, .aload_n 0, 1), (87, .getfield 202, 3), (90, .iconst 1, 1), (91, .iadd, 1), (92, .goto 7, 3), (95, .aload_n 0, 1), (96, .getfield 202, 3), (99, .putfield 202, 3), (102, .aload_n 0, 1), (103, .invokevirtual 349, 3), (106, .lstore 5, 2), (108, .iload_n 3, 1), (109, .iconst 1, 1), (110, .if_icmp .ne 14, 3), (113, .aload_n 0, 1), (114, .getfield 101, 3), (117, .iload 4, 2), (119, .iaload, 1), (120, .i2l, 1), (121, .goto 11, 3), (124, .aload_n 0, 1), (125, .getfield 111, 3), (128, .iload 4, 2), (130, .iaload, 1), (131, .i2l, 1), (132, .lstore 7, 2), (134, .iload_n 3, 1), (135, .iconst 1, 1), (136, .if_icmp .ne 13, 3), (139, .aload_n 0, 1), (140, .getfield 104, 3), (143, .iload 4, 2), (145, .laload, 1), (146, .goto 10, 3), (149, .aload_n 0, 1), (150, .getfield 114, 3), (153, .iload 4, 2), (155, .laload, 1), (156, .lstore 9, 2), (158, .lload 7, 2), (160, .lload 5, 2), (162, .lcmp, 1), (163, .ifCond .lt 33, 3), (166, .aload_n 0, 1), (167, .getfield 345, 3), (170, .lconst 0, 1), (171, .lcmp, 1), (172, .ifCond .lt 20, 3), (175, .lload 9, 2), (177, .lconst 0, 1), (178, .lcmp, 1), (179, .ifCond .lt 17, 3), (182, .lload 9, 2), (184, .aload_n 0, 1), (185, .getfield 345, 3), (188, .lcmp, 1), (189, .ifCond .gt 7, 3), (192, .iconst 1, 1), (193, .goto 4, 3), (196, .iconst 0, 1), (197, .ireturn, 1)]
theorem D_M_fits : ∀ q ∈ T_M_fits, decode b_M_fits q.1 = .ok (q.2.1, q.2.2) := by decide +kernel

set_option maxHeartbeats 4000000 in
set_option maxRecDepth 100000 in
theorem am_M_fits_L197 (l : Launch) (hfl : l.flags = pinnedFlags ++ [noTraceFlag]) (D : va_G) (A : Nat → Prop) (σ MC MS : Nat) (h0 : xb_H) (Qr : Int32 → xb_H → Prop) (y0 : Int32) (h : xb_H) (hw : w_M_fits_L197 Qr y0 h) : xb_am l D A σ 10 MC MS h0 (fun v h _ _ => ∃ r, v = some (.int r) ∧ Qr r h) (fun _ _ _ _ => False) y_M_fits.cls y_M_fits.name b_M_fits 11 ([] : List ExceptionTableEntry) (some .boolean) 197 [] [.int y0] h 0 0 := by
  unfold w_M_fits_L197 at hw
  intro p e s m args below meth c hC H locs ls k n hE hl hR hS hk hn
  obtain ⟨hx, hb, hown, hlocks, htab, hml, hr, hB, hA, hnm⟩ := id hC
  have hts := hB.1.1.at args
  exact xb_zret 0 0 hx hb hr hlocks (show k + 0 ≤ MC by omega) (show n + 0 ≤ MS by omega) hw.1 hE hR hS (xb_d D_M_fits 109 rfl) hw.2

set_option maxHeartbeats 4000000 in
set_option maxRecDepth 100000 in
theorem am_M_fits_L196 (l : Launch) (hfl : l.flags = pinnedFlags ++ [noTraceFlag]) (D : va_G) (A : Nat → Prop) (σ MC MS : Nat) (h0 : xb_H) (Qr : Int32 → xb_H → Prop) (h : xb_H) (hw : w_M_fits_L196 Qr h) : xb_am l D A σ 10 MC MS h0 (fun v h _ _ => ∃ r, v = some (.int r) ∧ Qr r h) (fun _ _ _ _ => False) y_M_fits.cls y_M_fits.name b_M_fits 11 ([] : List ExceptionTableEntry) (some .boolean) 196 [] [] h 0 0 := by
  unfold w_M_fits_L196 at hw
  intro p e s m args below meth c hC H locs ls k n hE hl hR hS hk hn
  obtain ⟨hx, hb, hown, hlocks, htab, hml, hr, hB, hA, hnm⟩ := id hC
  have hts := hB.1.1.at args
  refine lv_iconst (v := 0) hx hb (xb_d D_M_fits 108 rfl) (by decide) ?_
  exact am_M_fits_L197 l hfl D A σ MC MS h0 Qr 0 h hw p e s m args below meth c hC H locs ls k n hE (lv_sub hl [] rfl) hR hS (by omega) (by omega)

set_option maxHeartbeats 4000000 in
set_option maxRecDepth 100000 in
theorem am_M_fits_L192 (l : Launch) (hfl : l.flags = pinnedFlags ++ [noTraceFlag]) (D : va_G) (A : Nat → Prop) (σ MC MS : Nat) (h0 : xb_H) (Qr : Int32 → xb_H → Prop) (h : xb_H) (hw : w_M_fits_L192 Qr h) : xb_am l D A σ 10 MC MS h0 (fun v h _ _ => ∃ r, v = some (.int r) ∧ Qr r h) (fun _ _ _ _ => False) y_M_fits.cls y_M_fits.name b_M_fits 11 ([] : List ExceptionTableEntry) (some .boolean) 192 [] [] h 0 0 := by
  unfold w_M_fits_L192 at hw
  intro p e s m args below meth c hC H locs ls k n hE hl hR hS hk hn
  obtain ⟨hx, hb, hown, hlocks, htab, hml, hr, hB, hA, hnm⟩ := id hC
  have hts := hB.1.1.at args
  refine lv_iconst (v := 1) hx hb (xb_d D_M_fits 106 rfl) (by decide) ?_
  refine lv_goto (tgt := 197) hx hb (xb_d D_M_fits 107 rfl) rfl ?_
  exact am_M_fits_L197 l hfl D A σ MC MS h0 Qr 1 h hw p e s m args below meth c hC H locs ls k n hE (lv_sub hl [] rfl) hR hS (by omega) (by omega)

set_option maxHeartbeats 4000000 in
set_option maxRecDepth 100000 in
theorem am_M_fits_L156 (l : Launch) (hfl : l.flags = pinnedFlags ++ [noTraceFlag]) (D : va_G) (A : Nat → Prop) (σ MC MS : Nat) (h0 : xb_H) (Qr : Int32 → xb_H → Prop) (x0 : Nat) (x5 : Int64) (x7 : Int64) (y0 : Int64) (h : xb_H) (hw : w_M_fits_L156 Qr x0 x5 x7 y0 h) : xb_am l D A σ 10 MC MS h0 (fun v h _ _ => ∃ r, v = some (.int r) ∧ Qr r h) (fun _ _ _ _ => False) y_M_fits.cls y_M_fits.name b_M_fits 11 ([] : List ExceptionTableEntry) (some .boolean) 156 [(0, .ref x0), (5, .long x5), (7, .long x7)] [.long y0] h 0 0 := by
  unfold w_M_fits_L156 at hw
  intro p e s m args below meth c hC H locs ls k n hE hl hR hS hk hn
  obtain ⟨hx, hb, hown, hlocks, htab, hml, hr, hB, hA, hnm⟩ := id hC
  have hts := hB.1.1.at args
  refine lv_lstore hx hb (xb_d D_M_fits 87 rfl) hl (by decide) rfl (fun ls hl => ?_)
  have hl : lv_has ls 11 [(9, .long y0), (0, .ref x0), (5, .long x5), (7, .long x7)] := hl
  refine lv_lload hx hb (xb_d D_M_fits 88 rfl) (lv_at hl 3 rfl) ?_
  refine lv_lload hx hb (xb_d D_M_fits 89 rfl) (lv_at hl 2 rfl) ?_
  refine xb_lc_lt (tgt := 196) hx hb (xb_d D_M_fits 90 rfl) (xb_d D_M_fits 91 rfl) rfl (fun hc1 => ?_) (fun hc1 => ?_)
  · have hw := hw.1 hc1
    exact am_M_fits_L196 l hfl D A σ MC MS h0 Qr h hw p e s m args below meth c hC H locs ls k n hE (lv_sub hl [] rfl) hR hS (by omega) (by omega)
  · have hw := hw.2 hc1
    refine lv_aload_n hx hb (xb_d D_M_fits 92 rfl) rfl (lv_at hl 1 rfl) ?_
    obtain ⟨hk2, hw⟩ := hw
    refine xb_getL (C := R_M) (T := F_M) (N := 97) hx hb 8 91 hts fin_M hown hR hk2 (by decide) rfl (by decide) rfl (hts _ m_6aa0a8b9) (fun _ h9 => h9) (xb_d D_M_fits 93 rfl) ?_
    refine lv_lconst (v := 0) hx hb (xb_d D_M_fits 94 rfl) (by decide) ?_
    refine xb_lc_lt (tgt := 192) hx hb (xb_d D_M_fits 95 rfl) (xb_d D_M_fits 96 rfl) rfl (fun hc3 => ?_) (fun hc3 => ?_)
    · have hw := hw.1 hc3
      exact am_M_fits_L192 l hfl D A σ MC MS h0 Qr h hw p e s m args below meth c hC H locs ls k n hE (lv_sub hl [] rfl) hR hS (by omega) (by omega)
    · have hw := hw.2 hc3
      refine lv_lload hx hb (xb_d D_M_fits 97 rfl) (lv_at hl 0 rfl) ?_
      refine lv_lconst (v := 0) hx hb (xb_d D_M_fits 98 rfl) (by decide) ?_
      refine xb_lc_lt (tgt := 196) hx hb (xb_d D_M_fits 99 rfl) (xb_d D_M_fits 100 rfl) rfl (fun hc4 => ?_) (fun hc4 => ?_)
      · have hw := hw.1 hc4
        exact am_M_fits_L196 l hfl D A σ MC MS h0 Qr h hw p e s m args below meth c hC H locs ls k n hE (lv_sub hl [] rfl) hR hS (by omega) (by omega)
      · have hw := hw.2 hc4
        refine lv_lload hx hb (xb_d D_M_fits 101 rfl) (lv_at hl 0 rfl) ?_
        refine lv_aload_n hx hb (xb_d D_M_fits 102 rfl) rfl (lv_at hl 1 rfl) ?_
        refine xb_getL (C := R_M) (T := F_M) (N := 97) hx hb 8 91 hts fin_M hown hR hk2 (by decide) rfl (by decide) rfl (hts _ m_6aa0a8b9) (fun _ h9 => h9) (xb_d D_M_fits 103 rfl) ?_
        refine xb_lc_gt (tgt := 196) hx hb (xb_d D_M_fits 104 rfl) (xb_d D_M_fits 105 rfl) rfl (fun hc5 => ?_) (fun hc5 => ?_)
        · have hw := hw.1 hc5
          exact am_M_fits_L196 l hfl D A σ MC MS h0 Qr h hw p e s m args below meth c hC H locs ls k n hE (lv_sub hl [] rfl) hR hS (by omega) (by omega)
        · have hw := hw.2 hc5
          exact am_M_fits_L192 l hfl D A σ MC MS h0 Qr h hw p e s m args below meth c hC H locs ls k n hE (lv_sub hl [] rfl) hR hS (by omega) (by omega)

set_option maxHeartbeats 4000000 in
set_option maxRecDepth 100000 in
theorem am_M_fits_L132 (l : Launch) (hfl : l.flags = pinnedFlags ++ [noTraceFlag]) (D : va_G) (A : Nat → Prop) (σ MC MS : Nat) (h0 : xb_H) (Qr : Int32 → xb_H → Prop) (x0 : Nat) (x3 : Int32) (x4 : Int32) (x5 : Int64) (y0 : Int64) (h : xb_H) (hw : w_M_fits_L132 Qr x0 x3 x4 x5 y0 h) : xb_am l D A σ 10 MC MS h0 (fun v h _ _ => ∃ r, v = some (.int r) ∧ Qr r h) (fun _ _ _ _ => False) y_M_fits.cls y_M_fits.name b_M_fits 11 ([] : List ExceptionTableEntry) (some .boolean) 132 [(0, .ref x0), (3, .int x3), (4, .int x4), (5, .long x5)] [.long y0] h 0 0 := by
  unfold w_M_fits_L132 at hw
  intro p e s m args below meth c hC H locs ls k n hE hl hR hS hk hn
  obtain ⟨hx, hb, hown, hlocks, htab, hml, hr, hB, hA, hnm⟩ := id hC
  have hts := hB.1.1.at args
  refine lv_lstore hx hb (xb_d D_M_fits 74 rfl) hl (by decide) rfl (fun ls hl => ?_)
  have hl : lv_has ls 11 [(7, .long y0), (0, .ref x0), (3, .int x3), (4, .int x4), (5, .long x5)] := hl
  refine lv_iload_n hx hb (xb_d D_M_fits 75 rfl) rfl (lv_at hl 2 rfl) ?_
  refine lv_iconst (v := 1) hx hb (xb_d D_M_fits 76 rfl) (by decide) ?_
  refine lv_icmp_ne (tgt := 149) hx hb (xb_d D_M_fits 77 rfl) rfl (fun hc1 => ?_) (fun hc1 => ?_)
  · have hw := hw.1 hc1
    refine lv_aload_n hx hb (xb_d D_M_fits 83 rfl) rfl (lv_at hl 1 rfl) ?_
    obtain ⟨hk2, hw⟩ := hw
    refine xb_getP (C := R_M) (T := F_M) (N := 97) hx hb 8 55 hts fin_M hown hR hk2 (by decide) rfl (by decide) rfl (hts _ m_e77abcfd) (fun _ h9 => h9) (xb_d D_M_fits 84 rfl) ?_
    obtain ⟨b3, eb3, hw⟩ := hw
    refine xb_some eb3 ?_
    refine lv_iload hx hb (xb_d D_M_fits 85 rfl) (lv_at hl 3 rfl) ?_
    obtain ⟨hk5, hw⟩ := hw
    obtain ⟨hi4, hw⟩ := hw
    refine xb_lald hx hb hR hk5 hi4 (xb_d D_M_fits 86 rfl) ?_
    exact am_M_fits_L156 l hfl D A σ MC MS h0 Qr x0 x5 y0 (xb_l h b3 (Int32.toNatClampNeg x4)) h hw p e s m args below meth c hC H locs ls k n hE (lv_sub hl [1, 4, 0] rfl) hR hS (by omega) (by omega)
  · have hw := hw.2 hc1
    refine lv_aload_n hx hb (xb_d D_M_fits 78 rfl) rfl (lv_at hl 1 rfl) ?_
    obtain ⟨hk6, hw⟩ := hw
    refine xb_getP (C := R_M) (T := F_M) (N := 97) hx hb 8 50 hts fin_M hown hR hk6 (by decide) rfl (by decide) rfl (hts _ m_e0cd2898) (fun _ h9 => h9) (xb_d D_M_fits 79 rfl) ?_
    obtain ⟨b7, eb7, hw⟩ := hw
    refine xb_some eb7 ?_
    refine lv_iload hx hb (xb_d D_M_fits 80 rfl) (lv_at hl 3 rfl) ?_
    obtain ⟨hk9, hw⟩ := hw
    obtain ⟨hi8, hw⟩ := hw
    refine xb_lald hx hb hR hk9 hi8 (xb_d D_M_fits 81 rfl) ?_
    refine lv_goto (tgt := 156) hx hb (xb_d D_M_fits 82 rfl) rfl ?_
    exact am_M_fits_L156 l hfl D A σ MC MS h0 Qr x0 x5 y0 (xb_l h b7 (Int32.toNatClampNeg x4)) h hw p e s m args below meth c hC H locs ls k n hE (lv_sub hl [1, 4, 0] rfl) hR hS (by omega) (by omega)

set_option maxHeartbeats 4000000 in
set_option maxRecDepth 100000 in
theorem am_M_fits_L99 (l : Launch) (hfl : l.flags = pinnedFlags ++ [noTraceFlag]) (D : va_G) (A : Nat → Prop) (σ MC MS : Nat) (h0 : xb_H) (Qr : Int32 → xb_H → Prop) (x0 : Nat) (x3 : Int32) (x4 : Int32) (y0 : Int32) (y1 : Nat) (h : xb_H) (hw : w_M_fits_L99 Qr x0 x3 x4 y0 y1 h) : xb_am l D A σ 10 MC MS h0 (fun v h _ _ => ∃ r, v = some (.int r) ∧ Qr r h) (fun _ _ _ _ => False) y_M_fits.cls y_M_fits.name b_M_fits 11 ([] : List ExceptionTableEntry) (some .boolean) 99 [(0, .ref x0), (3, .int x3), (4, .int x4)] [.int y0, .ref y1] h 0 0 := by
  unfold w_M_fits_L99 at hw
  intro p e s m args below meth c hC H locs ls k n hE hl hR hS hk hn
  obtain ⟨hx, hb, hown, hlocks, htab, hml, hr, hB, hA, hnm⟩ := id hC
  have hts := hB.1.1.at args
  obtain ⟨hk1, hw⟩ := hw
  refine xb_putI (C := R_M) (T := F_M) (N := 97) (ty := .int) (x := y0) hx hb 8 15 hts fin_M t_M t_M_ok n_M hown hR hS hk1 (by decide) rfl (by decide) rfl (hts _ m_6c2d27ad) (fun _ h9 => h9) rfl (by decide +kernel) rfl rfl (xb_d D_M_fits 56 rfl) (fun H locs hR hS => ?_)
  obtain ⟨h2, eh2⟩ : ∃ x : xb_H, x = xb_I h y1 15 y0 := ⟨_, rfl⟩
  rw [← eh2] at hR
  have hw := hw h2 eh2
  have hE : xb_ext h0 h2 := by rw [eh2]; exact hE
  refine lv_aload_n hx hb (xb_d D_M_fits 57 rfl) rfl (lv_at hl 0 rfl) ?_
  obtain ⟨hk3, hw⟩ := hw
  refine xb_call0 (D := D) (A := A) (σ := σ) (h := h2) (d := 5) (maxL := 4) (rest := []) (av := [.ref x0]) (fun T hT X => by obtain ⟨cb9, ra9, rb9, rc9⟩ := xb_recv (ci := 8) hR rfl hk3 (by decide); exact xt_invV X hx hown (hts _ m_b67ad769) (hts _ m_de6782a6) (hts _ m_a7360540) (xt_sigOf (hts _ m_348c2fd1)) nm_M_leastRead (by rw [hT]; exact ra9) rb9 rc9 (g := F0 m 103 ls [.ref x0]) rfl (argsL := []) (rest := []) rfl rfl (by rw [hb]; exact (xb_d D_M_fits 58 rfl))) (ok_M_leastRead l hfl D A σ x0 h2 _ hw) (hml.trans hl.1.symm) (by rw [hb]; exact (xb_d D_M_fits 58 rfl)) (Nat.le_of_ble_eq_true rfl) (Nat.le_of_ble_eq_true rfl) (Nat.le_of_ble_eq_true rfl) (show k ≤ MC by omega) (show n ≤ MS by omega) (xt_w1 hB.1 m_348c2fd1) (xt_cdOf hB.1 m_348c2fd1) (hts _ m_d5ed7bed) hB hR hS hA (fun vv h4 H locs hq hEh4 hR hS => ?_)
  obtain ⟨r5, rfl, hw⟩ := hq
  have hw := hw hEh4
  have hE := hE.tr hEh4
  refine W.eq (g2 := F0 m 106 ls [.long r5]) rfl ?_
  refine lv_lstore hx hb (xb_d D_M_fits 59 rfl) hl (by decide) rfl (fun ls hl => ?_)
  have hl : lv_has ls 11 [(5, .long r5), (0, .ref x0), (3, .int x3), (4, .int x4)] := hl
  refine lv_iload_n hx hb (xb_d D_M_fits 60 rfl) rfl (lv_at hl 2 rfl) ?_
  refine lv_iconst (v := 1) hx hb (xb_d D_M_fits 61 rfl) (by decide) ?_
  refine lv_icmp_ne (tgt := 124) hx hb (xb_d D_M_fits 62 rfl) rfl (fun hc6 => ?_) (fun hc6 => ?_)
  · have hw := hw.1 hc6
    refine lv_aload_n hx hb (xb_d D_M_fits 69 rfl) rfl (lv_at hl 1 rfl) ?_
    have hk3 : xb_k h4 x0 = 9 := hEh4.k hk3
    refine xb_getP (C := R_M) (T := F_M) (N := 97) hx hb 8 54 hts fin_M hown hR hk3 (by decide) rfl (by decide) rfl (hts _ m_605483d9) (fun _ h9 => h9) (xb_d D_M_fits 70 rfl) ?_
    obtain ⟨b7, eb7, hw⟩ := hw
    refine xb_some eb7 ?_
    refine lv_iload hx hb (xb_d D_M_fits 71 rfl) (lv_at hl 3 rfl) ?_
    obtain ⟨hk9, hw⟩ := hw
    obtain ⟨hi8, hw⟩ := hw
    refine xb_iald hx hb hR hk9 hi8 (xb_d D_M_fits 72 rfl) ?_
    refine lv_i2l hx hb (xb_d D_M_fits 73 rfl) rfl ?_
    exact am_M_fits_L132 l hfl D A σ MC MS h0 Qr x0 x3 x4 r5 (Int32.toInt64 (xb_i h4 b7 (Int32.toNatClampNeg x4))) h4 hw p e s m args below meth c hC H locs ls k n hE (lv_sub hl [1, 2, 3, 0] rfl) hR hS (by omega) (by omega)
  · have hw := hw.2 hc6
    refine lv_aload_n hx hb (xb_d D_M_fits 63 rfl) rfl (lv_at hl 1 rfl) ?_
    have hk3 : xb_k h4 x0 = 9 := hEh4.k hk3
    refine xb_getP (C := R_M) (T := F_M) (N := 97) hx hb 8 49 hts fin_M hown hR hk3 (by decide) rfl (by decide) rfl (hts _ m_0c329d74) (fun _ h9 => h9) (xb_d D_M_fits 64 rfl) ?_
    obtain ⟨b10, eb10, hw⟩ := hw
    refine xb_some eb10 ?_
    refine lv_iload hx hb (xb_d D_M_fits 65 rfl) (lv_at hl 3 rfl) ?_
    obtain ⟨hk12, hw⟩ := hw
    obtain ⟨hi11, hw⟩ := hw
    refine xb_iald hx hb hR hk12 hi11 (xb_d D_M_fits 66 rfl) ?_
    refine lv_i2l hx hb (xb_d D_M_fits 67 rfl) rfl ?_
    refine lv_goto (tgt := 132) hx hb (xb_d D_M_fits 68 rfl) rfl ?_
    exact am_M_fits_L132 l hfl D A σ MC MS h0 Qr x0 x3 x4 r5 (Int32.toInt64 (xb_i h4 b10 (Int32.toNatClampNeg x4))) h4 hw p e s m args below meth c hC H locs ls k n hE (lv_sub hl [1, 2, 3, 0] rfl) hR hS (by omega) (by omega)

set_option maxHeartbeats 4000000 in
set_option maxRecDepth 100000 in
theorem am_M_fits_L79 (l : Launch) (hfl : l.flags = pinnedFlags ++ [noTraceFlag]) (D : va_G) (A : Nat → Prop) (σ MC MS : Nat) (h0 : xb_H) (Qr : Int32 → xb_H → Prop) (y0 : Int32) (h : xb_H) (hw : w_M_fits_L79 Qr y0 h) : xb_am l D A σ 10 MC MS h0 (fun v h _ _ => ∃ r, v = some (.int r) ∧ Qr r h) (fun _ _ _ _ => False) y_M_fits.cls y_M_fits.name b_M_fits 11 ([] : List ExceptionTableEntry) (some .boolean) 79 [] [.int y0] h 0 0 := by
  unfold w_M_fits_L79 at hw
  intro p e s m args below meth c hC H locs ls k n hE hl hR hS hk hn
  obtain ⟨hx, hb, hown, hlocks, htab, hml, hr, hB, hA, hnm⟩ := id hC
  have hts := hB.1.1.at args
  exact xb_zret 0 0 hx hb hr hlocks (show k + 0 ≤ MC by omega) (show n + 0 ≤ MS by omega) hw.1 hE hR hS (xb_d D_M_fits 44 rfl) hw.2

set_option maxHeartbeats 4000000 in
set_option maxRecDepth 100000 in
theorem am_M_fits_L78 (l : Launch) (hfl : l.flags = pinnedFlags ++ [noTraceFlag]) (D : va_G) (A : Nat → Prop) (σ MC MS : Nat) (h0 : xb_H) (Qr : Int32 → xb_H → Prop) (h : xb_H) (hw : w_M_fits_L78 Qr h) : xb_am l D A σ 10 MC MS h0 (fun v h _ _ => ∃ r, v = some (.int r) ∧ Qr r h) (fun _ _ _ _ => False) y_M_fits.cls y_M_fits.name b_M_fits 11 ([] : List ExceptionTableEntry) (some .boolean) 78 [] [] h 0 0 := by
  unfold w_M_fits_L78 at hw
  intro p e s m args below meth c hC H locs ls k n hE hl hR hS hk hn
  obtain ⟨hx, hb, hown, hlocks, htab, hml, hr, hB, hA, hnm⟩ := id hC
  have hts := hB.1.1.at args
  refine lv_iconst (v := 0) hx hb (xb_d D_M_fits 43 rfl) (by decide) ?_
  exact am_M_fits_L79 l hfl D A σ MC MS h0 Qr 0 h hw p e s m args below meth c hC H locs ls k n hE (lv_sub hl [] rfl) hR hS (by omega) (by omega)

set_option maxHeartbeats 4000000 in
set_option maxRecDepth 100000 in
theorem am_M_fits_L48 (l : Launch) (hfl : l.flags = pinnedFlags ++ [noTraceFlag]) (D : va_G) (A : Nat → Prop) (σ MC MS : Nat) (h0 : xb_H) (Qr : Int32 → xb_H → Prop) (x0 : Nat) (x4 : Int32) (x5 : Int32) (y0 : Int32) (h : xb_H) (hw : w_M_fits_L48 Qr x0 x4 x5 y0 h) : xb_am l D A σ 10 MC MS h0 (fun v h _ _ => ∃ r, v = some (.int r) ∧ Qr r h) (fun _ _ _ _ => False) y_M_fits.cls y_M_fits.name b_M_fits 11 ([] : List ExceptionTableEntry) (some .boolean) 48 [(0, .ref x0), (4, .int x4), (5, .int x5)] [.int y0] h 0 0 := by
  unfold w_M_fits_L48 at hw
  intro p e s m args below meth c hC H locs ls k n hE hl hR hS hk hn
  obtain ⟨hx, hb, hown, hlocks, htab, hml, hr, hB, hA, hnm⟩ := id hC
  have hts := hB.1.1.at args
  refine lv_istore hx hb (xb_d D_M_fits 28 rfl) hl (by decide) rfl (fun ls hl => ?_)
  have hl : lv_has ls 11 [(6, .int y0), (0, .ref x0), (4, .int x4), (5, .int x5)] := hl
  refine lv_aload_n hx hb (xb_d D_M_fits 29 rfl) rfl (lv_at hl 1 rfl) ?_
  obtain ⟨hk1, hw⟩ := hw
  refine xb_getP (C := R_M) (T := F_M) (N := 97) hx hb 8 59 hts fin_M hown hR hk1 (by decide) rfl (by decide) rfl (hts _ m_3369fcb7) (fun _ h9 => h9) (xb_d D_M_fits 30 rfl) ?_
  obtain ⟨b2, eb2, hw⟩ := hw
  refine xb_some eb2 ?_
  refine lv_iload hx hb (xb_d D_M_fits 31 rfl) (lv_at hl 2 rfl) ?_
  obtain ⟨hk4, hw⟩ := hw
  obtain ⟨hi3, hw⟩ := hw
  refine xb_iald hx hb hR hk4 hi3 (xb_d D_M_fits 32 rfl) ?_
  refine lv_iload hx hb (xb_d D_M_fits 33 rfl) (lv_at hl 3 rfl) ?_
  refine lv_icmp_ne (tgt := 78) hx hb (xb_d D_M_fits 34 rfl) rfl (fun hc5 => ?_) (fun hc5 => ?_)
  · have hw := hw.1 hc5
    exact am_M_fits_L78 l hfl D A σ MC MS h0 Qr h hw p e s m args below meth c hC H locs ls k n hE (lv_sub hl [] rfl) hR hS (by omega) (by omega)
  · have hw := hw.2 hc5
    refine lv_aload_n hx hb (xb_d D_M_fits 35 rfl) rfl (lv_at hl 1 rfl) ?_
    refine xb_getP (C := R_M) (T := F_M) (N := 97) hx hb 8 60 hts fin_M hown hR hk1 (by decide) rfl (by decide) rfl (hts _ m_b875e939) (fun _ h9 => h9) (xb_d D_M_fits 36 rfl) ?_
    obtain ⟨b6, eb6, hw⟩ := hw
    refine xb_some eb6 ?_
    refine lv_iload hx hb (xb_d D_M_fits 37 rfl) (lv_at hl 2 rfl) ?_
    obtain ⟨hk8, hw⟩ := hw
    obtain ⟨hi7, hw⟩ := hw
    refine xb_zald hx hb hR hk8 hi7 (xb_d D_M_fits 38 rfl) ?_
    refine lv_iload hx hb (xb_d D_M_fits 39 rfl) (lv_at hl 0 rfl) ?_
    refine lv_icmp_ne (tgt := 78) hx hb (xb_d D_M_fits 40 rfl) rfl (fun hc9 => ?_) (fun hc9 => ?_)
    · have hw := hw.1 hc9
      exact am_M_fits_L78 l hfl D A σ MC MS h0 Qr h hw p e s m args below meth c hC H locs ls k n hE (lv_sub hl [] rfl) hR hS (by omega) (by omega)
    · have hw := hw.2 hc9
      refine lv_iconst (v := 1) hx hb (xb_d D_M_fits 41 rfl) (by decide) ?_
      refine lv_goto (tgt := 79) hx hb (xb_d D_M_fits 42 rfl) rfl ?_
      exact am_M_fits_L79 l hfl D A σ MC MS h0 Qr 1 h hw p e s m args below meth c hC H locs ls k n hE (lv_sub hl [] rfl) hR hS (by omega) (by omega)

set_option maxHeartbeats 4000000 in
set_option maxRecDepth 100000 in
theorem ok_M_fits (l : Launch) (hfl : l.flags = pinnedFlags ++ [noTraceFlag]) (D : va_G) (A : Nat → Prop) (σ : Nat) (x0 : Nat) (x1 : Int32) (x2 : Int32) (x3 : Int32) (x4 : Int32) (h : xb_H) (Qr : Int32 → xb_H → Prop) (hw : w_M_fits x0 x1 x2 x3 x4 h Qr) : xb_Met l y_M_fits [.code y_M_fits b_M_fits 11 (some .boolean)] (xb_rm 10 0 0) (xb_Pc D A σ h [.ref x0, .int x1, .int x2, .int x3, .int x4]) (xb_Qc D A h 0 0 (fun v h _ _ => ∃ r, v = some (.int r) ∧ Qr r h) (fun _ _ _ _ => False)) A := by
  refine xb_ofAm (cc := b_M_fits) (by decide) (Nat.le_of_ble_eq_true rfl) ?_
  unfold w_M_fits at hw
  show xb_am l D A σ 10 0 0 h (fun v h _ _ => ∃ r, v = some (.int r) ∧ Qr r h) (fun _ _ _ _ => False) y_M_fits.cls y_M_fits.name b_M_fits 11 ([] : List ExceptionTableEntry) (some .boolean) 0 [(0, .ref x0), (1, .int x1), (2, .int x2), (3, .int x3), (4, .int x4)] [] h 0 0
  obtain ⟨MC, hMC⟩ : ∃ x, x = 0 := ⟨_, rfl⟩
  obtain ⟨MS, hMS⟩ : ∃ x, x = 0 := ⟨_, rfl⟩
  rw [show xb_am l D A σ 10 0 0 = xb_am l D A σ 10 MC MS by rw [hMC, hMS]]
  obtain ⟨h0, hh0⟩ : ∃ x, x = h := ⟨_, rfl⟩
  rw [show xb_am l D A σ 10 MC MS h = xb_am l D A σ 10 MC MS h0 by rw [hh0]]
  intro p e s m args below meth c hC H locs ls k n hE hl hR hS hk hn
  obtain ⟨hx, hb, hown, hlocks, htab, hml, hr, hB, hA, hnm⟩ := id hC
  have hts := hB.1.1.at args
  refine lv_aload_n hx hb (xb_d D_M_fits 0 rfl) rfl (lv_at hl 0 rfl) ?_
  refine lv_iload_n hx hb (xb_d D_M_fits 1 rfl) rfl (lv_at hl 1 rfl) ?_
  refine lv_iload_n hx hb (xb_d D_M_fits 2 rfl) rfl (lv_at hl 2 rfl) ?_
  obtain ⟨hk1, hw⟩ := hw
  refine xb_call0 (D := D) (A := A) (σ := σ) (h := h) (d := 6) (maxL := 3) (rest := []) (av := [.ref x0, .int x1, .int x2]) (fun T hT X => by obtain ⟨cb9, ra9, rb9, rc9⟩ := xb_recv (ci := 8) hR rfl hk1 (by decide); exact xt_invV X hx hown (hts _ m_eabb9d5c) (hts _ m_79671d92) (hts _ m_0429489b) (xt_sigOf (hts _ m_2f1c0a34)) nm_M_importAt (by rw [hT]; exact ra9) rb9 rc9 (g := F0 m 3 ls [.int x2, .int x1, .ref x0]) rfl (argsL := [.int x1, .int x2]) (rest := []) rfl rfl (by rw [hb]; exact (xb_d D_M_fits 3 rfl))) (ok_M_importAt l hfl D A σ x0 x1 x2 h _ hw) (hml.trans hl.1.symm) (by rw [hb]; exact (xb_d D_M_fits 3 rfl)) (Nat.le_of_ble_eq_true rfl) (Nat.le_of_ble_eq_true rfl) (Nat.le_of_ble_eq_true rfl) (show k ≤ MC by omega) (show n ≤ MS by omega) (xt_w1 hB.1 m_2f1c0a34) (xt_cdOf hB.1 m_2f1c0a34) (hts _ m_d5ed7bed) hB hR hS hA (fun vv h2 H locs hq hEh2 hR hS => ?_)
  obtain ⟨r3, rfl, hw⟩ := hq
  have hw := hw hEh2
  have hE := hE.tr hEh2
  refine W.eq (g2 := F0 m 6 ls [.int r3]) rfl ?_
  refine lv_pop hx hb (xb_d D_M_fits 4 rfl) rfl ?_
  refine lv_iload_n hx hb (xb_d D_M_fits 5 rfl) rfl (lv_at hl 3 rfl) ?_
  refine lv_if_ne (tgt := 24) hx hb (xb_d D_M_fits 6 rfl) rfl (fun hc4 => ?_) (fun hc4 => ?_)
  · have hw := hw.1 hc4
    refine lv_iload_n hx hb (xb_d D_M_fits 15 rfl) rfl (lv_at hl 3 rfl) ?_
    refine lv_iconst (v := 3) hx hb (xb_d D_M_fits 16 rfl) (by decide) ?_
    refine lv_icmp_ne (tgt := 80) hx hb (xb_d D_M_fits 17 rfl) rfl (fun hc5 => ?_) (fun hc5 => ?_)
    · have hw := hw.1 hc5
      refine lv_aload_n hx hb (xb_d D_M_fits 45 rfl) rfl (lv_at hl 0 rfl) ?_
      refine lv_iload_n hx hb (xb_d D_M_fits 46 rfl) rfl (lv_at hl 3 rfl) ?_
      refine lv_iconst (v := 1) hx hb (xb_d D_M_fits 47 rfl) (by decide) ?_
      refine lv_icmp_ne (tgt := 95) hx hb (xb_d D_M_fits 48 rfl) rfl (fun hc6 => ?_) (fun hc6 => ?_)
      · have hw := hw.1 hc6
        refine lv_aload_n hx hb (xb_d D_M_fits 54 rfl) rfl (lv_at hl 0 rfl) ?_
        have hk1 : xb_k h2 x0 = 9 := hEh2.k hk1
        refine xb_getI (C := R_M) (T := F_M) (N := 97) hx hb 8 15 hts fin_M hown hR hk1 (by decide) rfl (by decide) rfl (hts _ m_6c2d27ad) (fun _ h9 => h9) (xb_d D_M_fits 55 rfl) ?_
        exact am_M_fits_L99 l hfl D A σ MC MS h0 Qr x0 x3 x4 (xb_i h2 x0 15) x0 h2 hw p e s m args below meth c hC H locs ls k n hE (lv_sub hl [0, 3, 4] rfl) hR hS (by omega) (by omega)
      · have hw := hw.2 hc6
        refine lv_aload_n hx hb (xb_d D_M_fits 49 rfl) rfl (lv_at hl 0 rfl) ?_
        have hk1 : xb_k h2 x0 = 9 := hEh2.k hk1
        refine xb_getI (C := R_M) (T := F_M) (N := 97) hx hb 8 15 hts fin_M hown hR hk1 (by decide) rfl (by decide) rfl (hts _ m_6c2d27ad) (fun _ h9 => h9) (xb_d D_M_fits 50 rfl) ?_
        refine lv_iconst (v := 1) hx hb (xb_d D_M_fits 51 rfl) (by decide) ?_
        refine lv_iadd hx hb (xb_d D_M_fits 52 rfl) ?_
        refine lv_goto (tgt := 99) hx hb (xb_d D_M_fits 53 rfl) rfl ?_
        exact am_M_fits_L99 l hfl D A σ MC MS h0 Qr x0 x3 x4 ((xb_i h2 x0 15) + 1) x0 h2 hw p e s m args below meth c hC H locs ls k n hE (lv_sub hl [0, 3, 4] rfl) hR hS (by omega) (by omega)
    · have hw := hw.2 hc5
      refine lv_aload_n hx hb (xb_d D_M_fits 18 rfl) rfl (lv_at hl 0 rfl) ?_
      have hk1 : xb_k h2 x0 = 9 := hEh2.k hk1
      refine xb_call0 (D := D) (A := A) (σ := σ) (h := h2) (d := 3) (maxL := 2) (rest := []) (av := [.ref x0]) (fun T hT X => by obtain ⟨cb9, ra9, rb9, rc9⟩ := xb_recv (ci := 8) hR rfl hk1 (by decide); exact xt_invV X hx hown (hts _ m_0e978570) (hts _ m_40099f98) (hts _ m_a7dbfd07) (xt_sigOf (hts _ m_0af1ec6a)) nm_M_next (by rw [hT]; exact ra9) rb9 rc9 (g := F0 m 30 ls [.ref x0]) rfl (argsL := []) (rest := []) rfl rfl (by rw [hb]; exact (xb_d D_M_fits 19 rfl))) (ok_M_next l hfl D A σ x0 h2 _ hw) (hml.trans hl.1.symm) (by rw [hb]; exact (xb_d D_M_fits 19 rfl)) (Nat.le_of_ble_eq_true rfl) (Nat.le_of_ble_eq_true rfl) (Nat.le_of_ble_eq_true rfl) (show k ≤ MC by omega) (show n ≤ MS by omega) (xt_w1 hB.1 m_0af1ec6a) (xt_cdOf hB.1 m_0af1ec6a) (hts _ m_d5ed7bed) hB hR hS hA (fun vv h7 H locs hq hEh7 hR hS => ?_)
      obtain ⟨r8, rfl, hw⟩ := hq
      have hw := hw hEh7
      have hE := hE.tr hEh7
      refine W.eq (g2 := F0 m 33 ls [.int r8]) rfl ?_
      refine lv_istore hx hb (xb_d D_M_fits 20 rfl) hl (by decide) rfl (fun ls hl => ?_)
      have hl : lv_has ls 11 [(5, .int r8), (0, .ref x0), (1, .int x1), (2, .int x2), (3, .int x3), (4, .int x4)] := hl
      refine lv_aload_n hx hb (xb_d D_M_fits 21 rfl) rfl (lv_at hl 1 rfl) ?_
      have hk1 : xb_k h7 x0 = 9 := hEh7.k hk1
      refine xb_call0 (D := D) (A := A) (σ := σ) (h := h7) (d := 3) (maxL := 2) (rest := []) (av := [.ref x0]) (fun T hT X => by obtain ⟨cb9, ra9, rb9, rc9⟩ := xb_recv (ci := 8) hR rfl hk1 (by decide); exact xt_invV X hx hown (hts _ m_0e978570) (hts _ m_40099f98) (hts _ m_a7dbfd07) (xt_sigOf (hts _ m_0af1ec6a)) nm_M_next (by rw [hT]; exact ra9) rb9 rc9 (g := F0 m 36 ls [.ref x0]) rfl (argsL := []) (rest := []) rfl rfl (by rw [hb]; exact (xb_d D_M_fits 22 rfl))) (ok_M_next l hfl D A σ x0 h7 _ hw) (hml.trans hl.1.symm) (by rw [hb]; exact (xb_d D_M_fits 22 rfl)) (Nat.le_of_ble_eq_true rfl) (Nat.le_of_ble_eq_true rfl) (Nat.le_of_ble_eq_true rfl) (show k ≤ MC by omega) (show n ≤ MS by omega) (xt_w1 hB.1 m_0af1ec6a) (xt_cdOf hB.1 m_0af1ec6a) (hts _ m_d5ed7bed) hB hR hS hA (fun vv h9 H locs hq hEh9 hR hS => ?_)
      obtain ⟨r10, rfl, hw⟩ := hq
      have hw := hw hEh9
      have hE := hE.tr hEh9
      refine W.eq (g2 := F0 m 39 ls [.int r10]) rfl ?_
      refine lv_iconst (v := 1) hx hb (xb_d D_M_fits 23 rfl) (by decide) ?_
      refine lv_icmp_ne (tgt := 47) hx hb (xb_d D_M_fits 24 rfl) rfl (fun hc11 => ?_) (fun hc11 => ?_)
      · have hw := hw.1 hc11
        refine lv_iconst (v := 0) hx hb (xb_d D_M_fits 27 rfl) (by decide) ?_
        exact am_M_fits_L48 l hfl D A σ MC MS h0 Qr x0 x4 r8 0 h9 hw p e s m args below meth c hC H locs ls k n hE (lv_sub hl [1, 5, 0] rfl) hR hS (by omega) (by omega)
      · have hw := hw.2 hc11
        refine lv_iconst (v := 1) hx hb (xb_d D_M_fits 25 rfl) (by decide) ?_
        refine lv_goto (tgt := 48) hx hb (xb_d D_M_fits 26 rfl) rfl ?_
        exact am_M_fits_L48 l hfl D A σ MC MS h0 Qr x0 x4 r8 1 h9 hw p e s m args below meth c hC H locs ls k n hE (lv_sub hl [1, 5, 0] rfl) hR hS (by omega) (by omega)
  · have hw := hw.2 hc4
    refine lv_aload_n hx hb (xb_d D_M_fits 7 rfl) rfl (lv_at hl 0 rfl) ?_
    refine lv_iload hx hb (xb_d D_M_fits 8 rfl) (lv_at hl 4 rfl) ?_
    refine lv_iload_n hx hb (xb_d D_M_fits 9 rfl) rfl (lv_at hl 1 rfl) ?_
    refine lv_aload_n hx hb (xb_d D_M_fits 10 rfl) rfl (lv_at hl 0 rfl) ?_
    have hk1 : xb_k h2 x0 = 9 := hEh2.k hk1
    refine xb_call0 (D := D) (A := A) (σ := σ) (h := h2) (d := 4) (maxL := 5) (rest := [.int x1, .int x4, .ref x0]) (av := [.ref x0]) (fun T hT X => by obtain ⟨cb9, ra9, rb9, rc9⟩ := xb_recv (ci := 8) hR rfl hk1 (by decide); exact xt_invV X hx hown (hts _ m_e991293f) (hts _ m_385a74b3) (hts _ m_c9fbcd02) (xt_sigOf (hts _ m_1f53f210)) nm_M_count (by rw [hT]; exact ra9) rb9 rc9 (g := F0 m 16 ls [.ref x0, .int x1, .int x4, .ref x0]) rfl (argsL := []) (rest := [.int x1, .int x4, .ref x0]) rfl rfl (by rw [hb]; exact (xb_d D_M_fits 11 rfl))) (ok_M_count l hfl D A σ x0 h2 _ hw) (hml.trans hl.1.symm) (by rw [hb]; exact (xb_d D_M_fits 11 rfl)) (Nat.le_of_ble_eq_true rfl) (Nat.le_of_ble_eq_true rfl) (Nat.le_of_ble_eq_true rfl) (show k ≤ MC by omega) (show n ≤ MS by omega) (xt_w1 hB.1 m_1f53f210) (xt_cdOf hB.1 m_1f53f210) (hts _ m_d5ed7bed) hB hR hS hA (fun vv h12 H locs hq hEh12 hR hS => ?_)
    obtain ⟨r13, rfl, hw⟩ := hq
    have hw := hw hEh12
    have hE := hE.tr hEh12
    refine W.eq (g2 := F0 m 19 ls [.long r13, .int x1, .int x4, .ref x0]) rfl ?_
    refine lv_l2i hx hb (xb_d D_M_fits 12 rfl) rfl ?_
    have hk1 : xb_k h12 x0 = 9 := hEh12.k hk1
    refine xb_call0 (D := D) (A := A) (σ := σ) (h := h12) (d := 9) (maxL := 5) (rest := []) (av := [.ref x0, .int x4, .int x1, .int (Int64.toInt32 r13)]) (fun T hT X => by obtain ⟨cb9, ra9, rb9, rc9⟩ := xb_recv (ci := 8) hR rfl hk1 (by decide); exact xt_invV X hx hown (hts _ m_71b2c3db) (hts _ m_1d48feed) (hts _ m_628c5dc3) (xt_sigOf (hts _ m_f3efd3e1)) nm_M_hasType (by rw [hT]; exact ra9) rb9 rc9 (g := F0 m 20 ls [.int (Int64.toInt32 r13), .int x1, .int x4, .ref x0]) rfl (argsL := [.int x4, .int x1, .int (Int64.toInt32 r13)]) (rest := []) rfl rfl (by rw [hb]; exact (xb_d D_M_fits 13 rfl))) (ok_M_hasType l hfl D A σ x0 x4 x1 (Int64.toInt32 r13) h12 _ hw) (hml.trans hl.1.symm) (by rw [hb]; exact (xb_d D_M_fits 13 rfl)) (Nat.le_of_ble_eq_true rfl) (Nat.le_of_ble_eq_true rfl) (Nat.le_of_ble_eq_true rfl) (show k ≤ MC by omega) (show n ≤ MS by omega) (xt_w1 hB.1 m_f3efd3e1) (xt_cdOf hB.1 m_f3efd3e1) (hts _ m_d5ed7bed) hB hR hS hA (fun vv h14 H locs hq hEh14 hR hS => ?_)
    obtain ⟨r15, rfl, hw⟩ := hq
    have hw := hw hEh14
    have hE := hE.tr hEh14
    refine W.eq (g2 := F0 m 23 ls [.int r15]) rfl ?_
    exact xb_zret 0 0 hx hb hr hlocks (show k + 0 ≤ MC by omega) (show n + 0 ≤ MS by omega) hw.1 hE hR hS (xb_d D_M_fits 14 rfl) hw.2

theorem m_2cb12b25 : (.methodLink "StackHostModel" 700 y_M_byTable : Cond) ∈ xt_tbl := xt_in (xt_t13 (List.mem_of_getElem? (i := 158) (by decide +kernel))) (by decide +kernel)
theorem m_3715d3ad : (.instanceMethod y_M_byTable : Cond) ∈ xt_tbl := xt_in (xt_t13 (List.mem_of_getElem? (i := 160) (by decide +kernel))) (by decide +kernel)
theorem m_66b08ea9 : (.selects "StackHostModel" y_M_byTable y_M_byTable : Cond) ∈ xt_tbl := xt_in (xt_v17 (q := (⟨"StackHostModel", "byTable", "()V"⟩, 97)) (List.mem_of_getElem? (i := 12) (by decide +kernel))) (by decide +kernel)
theorem m_e0576e60 : (.code y_M_byTable b_M_byTable 12 none : Cond) ∈ xt_tbl := xt_in (xt_t13 (List.mem_of_getElem? (i := 161) (by decide +kernel))) (by decide +kernel)
theorem nm_M_byTable : xt_nm y_M_byTable 0 := ⟨by decide +kernel, by decide +kernel⟩
set_option maxRecDepth 100000 in
def T_M_flow : List (Nat × Instr × Nat) := [(0, .iload_n 2, 1), (1, .tableswitch 275 0 15 #[79, 275, 87, 87, 111, 157, 275, 275, 275, 275, 275, 175, 210, 221, 247, 254], 79), (80, .aload_n 0, 1), (81, .iconst 1, 1), (82, .putfield 625, 3), (85, .goto 191, 3), (88, .aload_n 0, 1), (89, .invokevirtual 212, 3), (92, .istore_n 3, 1), (93, .aload_n 0, 1), (94, .iload_n 2, 1), (95, .iload_n 2, 1), (96, .iconst 3, 1), (97, .if_icmp .ne 8, 3), (100, .bipush 64, 2), (102, .goto 4, 3), (105, .iload_n 3, 1), (106, .invokevirtual 632, 3), (109, .goto 167, 3), (112, .aload_n 0, 1), (113, .invokevirtual 212, 3), (116, .istore 4, 2), (118, .aload_n 0, 1), (119, .bipush 127, 2), (121, .invokevirtual 634, 3), (124, .lconst 0, 1), (125, .lcmp, 1), (126, .ifCond .eq 13, 3), (129, .aload_n 0, 1), (130, .iconst 4, 1), (131, .iload 4, 2), (133, .invokevirtual 632, 3), (136, .goto 140, 3), (139, .aload_n 0, 1), (140, .iconst 1, 1), (141, .iconst 1, 1), (142, .invokevirtual 643, 3), (145, .ifCond .eq 131, 3), (148, .aload_n 0, 1), (149, .iconst 5, 1), (150, .iload 4, 2), (152, .invokevirtual 632, 3), (155, .goto 121, 3), (158, .aload_n 0, 1), (159, .iconst 1, 1), (160, .iconst 0, 1), (161, .invokevirtual 643, 3), (164, .pop, 1), (165, .aload_n 0, 1), (166, .aload_n 0, 1), (167, .getfield 637, 3), (170, .putfield 202, 3), (173, .goto 103, 3), (176, .aload_n 0, 1), (177, .getfield 610, 3), (180, .iconst 1, 1), (181, .isub, 1), (182, .aload_n 0, 1), (183, .getfield 151, 3), (186, .iload_n 1, 1), (187, .iaload, 1), (188, .if_icmp .ne 10, 3), (191, .aload_n 0, 1), (192, .invokevirtual 640, 3), (195, .goto 81, 3), (198, .aload_n 0, 1), (199, .dup, 1), (200, .getfield 610, 3), (203, .iconst 1, 1), (204, .isub, 1), (205, .putfield 610, 3), (208, .goto 68, 3), (211, .aload_n 0, 1), (212, .aload_n 0, 1), (213, .invokevirtual 218, 3), (216, .invokevirtual 697, 3), (219, .goto 57, 3), (222, .aload_n 0, 1), (223, .invokevirtual 218, 3), (226, .lstore 5, 2), (228, .aload_n 0, 1), (229, .bipush 127, 2), (231, .invokevirtual 634, 3), (234, .lconst 0, 1), (235, .lcmp, 1), (236, .ifCond .eq 40, 3), (239, .aload_n 0, 1), (240, .lload 5, 2), (242, .invokevirtual 697, 3), (245, .goto 31, 3), (248, .aload_n 0, 1), (249, .invokevirtual 700, 3), (252, .goto 24, 3), (255, .aload_n 0, 1), (256, .aload_n 0, 1), (257, .getfield 610, 3), (260, .iconst 1, 1), (261, .isub, 1), (262, .aload_n 0, 1), (263, .getfield 151, 3), (266, .iload_n 1, 1), (267, .iaload, 1), (268, .isub, 1), (269, .i2l, 1), (270, .invokevirtual 697, 3), (273, .goto 3, 3), (276, .return_, 1)]
theorem D_M_flow : ∀ q ∈ T_M_flow, decode b_M_flow q.1 = .ok (q.2.1, q.2.2) := by decide +kernel

set_option maxHeartbeats 4000000 in
set_option maxRecDepth 100000 in
theorem am_M_flow_L276 (l : Launch) (hfl : l.flags = pinnedFlags ++ [noTraceFlag]) (D : va_G) (A : Nat → Prop) (σ MC MS : Nat) (h0 : xb_H) (Qr : xb_H → Prop) (h : xb_H) (hw : w_M_flow_L276 Qr h) : xb_am l D A σ 10 MC MS h0 (fun v h _ _ => v = none ∧ Qr h) (fun _ _ _ _ => False) y_M_flow.cls y_M_flow.name b_M_flow 7 ([] : List ExceptionTableEntry) none 276 [] [] h 0 0 := by
  unfold w_M_flow_L276 at hw
  intro p e s m args below meth c hC H locs ls k n hE hl hR hS hk hn
  obtain ⟨hx, hb, hown, hlocks, htab, hml, hr, hB, hA, hnm⟩ := id hC
  have hts := hB.1.1.at args
  exact xb_vret 0 0 hx hb hr hlocks (show k + 0 ≤ MC by omega) (show n + 0 ≤ MS by omega) hE hR hS (xb_d D_M_flow 106 rfl) hw

set_option maxHeartbeats 4000000 in
set_option maxRecDepth 100000 in
theorem am_M_flow_L106 (l : Launch) (hfl : l.flags = pinnedFlags ++ [noTraceFlag]) (D : va_G) (A : Nat → Prop) (σ MC MS : Nat) (h0 : xb_H) (Qr : xb_H → Prop) (y0 : Int32) (y1 : Int32) (y2 : Nat) (h : xb_H) (hw : w_M_flow_L106 Qr y0 y1 y2 h) : xb_am l D A σ 10 MC MS h0 (fun v h _ _ => v = none ∧ Qr h) (fun _ _ _ _ => False) y_M_flow.cls y_M_flow.name b_M_flow 7 ([] : List ExceptionTableEntry) none 106 [] [.int y0, .int y1, .ref y2] h 0 0 := by
  unfold w_M_flow_L106 at hw
  intro p e s m args below meth c hC H locs ls k n hE hl hR hS hk hn
  obtain ⟨hx, hb, hown, hlocks, htab, hml, hr, hB, hA, hnm⟩ := id hC
  have hts := hB.1.1.at args
  obtain ⟨hk1, hw⟩ := hw
  refine xb_call0 (D := D) (A := A) (σ := σ) (h := h) (d := 2) (maxL := 3) (rest := []) (av := [.ref y2, .int y1, .int y0]) (fun T hT X => by obtain ⟨cb9, ra9, rb9, rc9⟩ := xb_recv (ci := 8) hR rfl hk1 (by decide); exact xt_invV X hx hown (hts _ m_746eb9d6) (hts _ m_e9612f4e) (hts _ m_aa122190) (xt_sigOf (hts _ m_7c9641c8)) nm_M_open (by rw [hT]; exact ra9) rb9 rc9 (g := F0 m 106 ls [.int y0, .int y1, .ref y2]) rfl (argsL := [.int y1, .int y0]) (rest := []) rfl rfl (by rw [hb]; exact (xb_d D_M_flow 17 rfl))) (ok_M_open l hfl D A σ y2 y1 y0 h _ hw) (hml.trans hl.1.symm) (by rw [hb]; exact (xb_d D_M_flow 17 rfl)) (Nat.le_of_ble_eq_true rfl) (Nat.le_of_ble_eq_true rfl) (Nat.le_of_ble_eq_true rfl) (show k ≤ MC by omega) (show n ≤ MS by omega) (xt_w1 hB.1 m_7c9641c8) (xt_cdOf hB.1 m_7c9641c8) (hts _ m_d5ed7bed) hB hR hS hA (fun vv h2 H locs hq hEh2 hR hS => ?_)
  obtain ⟨rfl, hw⟩ := hq
  have hw := hw hEh2
  have hE := hE.tr hEh2
  refine W.eq (g2 := F0 m 109 ls []) rfl ?_
  refine lv_goto (tgt := 276) hx hb (xb_d D_M_flow 18 rfl) rfl ?_
  exact am_M_flow_L276 l hfl D A σ MC MS h0 Qr h2 hw p e s m args below meth c hC H locs ls k n hE (lv_sub hl [] rfl) hR hS (by omega) (by omega)

set_option maxHeartbeats 4000000 in
set_option maxRecDepth 100000 in
theorem am_M_flow_L88 (l : Launch) (hfl : l.flags = pinnedFlags ++ [noTraceFlag]) (D : va_G) (A : Nat → Prop) (σ MC MS : Nat) (h0 : xb_H) (Qr : xb_H → Prop) (x0 : Nat) (x2 : Int32) (h : xb_H) (hw : w_M_flow_L88 Qr x0 x2 h) : xb_am l D A σ 10 MC MS h0 (fun v h _ _ => v = none ∧ Qr h) (fun _ _ _ _ => False) y_M_flow.cls y_M_flow.name b_M_flow 7 ([] : List ExceptionTableEntry) none 88 [(0, .ref x0), (2, .int x2)] [] h 0 0 := by
  unfold w_M_flow_L88 at hw
  intro p e s m args below meth c hC H locs ls k n hE hl hR hS hk hn
  obtain ⟨hx, hb, hown, hlocks, htab, hml, hr, hB, hA, hnm⟩ := id hC
  have hts := hB.1.1.at args
  refine lv_aload_n hx hb (xb_d D_M_flow 6 rfl) rfl (lv_at hl 0 rfl) ?_
  obtain ⟨hk1, hw⟩ := hw
  refine xb_call0 (D := D) (A := A) (σ := σ) (h := h) (d := 3) (maxL := 2) (rest := []) (av := [.ref x0]) (fun T hT X => by obtain ⟨cb9, ra9, rb9, rc9⟩ := xb_recv (ci := 8) hR rfl hk1 (by decide); exact xt_invV X hx hown (hts _ m_0e978570) (hts _ m_40099f98) (hts _ m_a7dbfd07) (xt_sigOf (hts _ m_0af1ec6a)) nm_M_next (by rw [hT]; exact ra9) rb9 rc9 (g := F0 m 89 ls [.ref x0]) rfl (argsL := []) (rest := []) rfl rfl (by rw [hb]; exact (xb_d D_M_flow 7 rfl))) (ok_M_next l hfl D A σ x0 h _ hw) (hml.trans hl.1.symm) (by rw [hb]; exact (xb_d D_M_flow 7 rfl)) (Nat.le_of_ble_eq_true rfl) (Nat.le_of_ble_eq_true rfl) (Nat.le_of_ble_eq_true rfl) (show k ≤ MC by omega) (show n ≤ MS by omega) (xt_w1 hB.1 m_0af1ec6a) (xt_cdOf hB.1 m_0af1ec6a) (hts _ m_d5ed7bed) hB hR hS hA (fun vv h2 H locs hq hEh2 hR hS => ?_)
  obtain ⟨r3, rfl, hw⟩ := hq
  have hw := hw hEh2
  have hE := hE.tr hEh2
  refine W.eq (g2 := F0 m 92 ls [.int r3]) rfl ?_
  refine lv_istore_n hx hb (xb_d D_M_flow 8 rfl) rfl hl (by decide) rfl (fun ls hl => ?_)
  have hl : lv_has ls 7 [(3, .int r3), (0, .ref x0), (2, .int x2)] := hl
  refine lv_aload_n hx hb (xb_d D_M_flow 9 rfl) rfl (lv_at hl 1 rfl) ?_
  refine lv_iload_n hx hb (xb_d D_M_flow 10 rfl) rfl (lv_at hl 2 rfl) ?_
  refine lv_iload_n hx hb (xb_d D_M_flow 11 rfl) rfl (lv_at hl 2 rfl) ?_
  refine lv_iconst (v := 3) hx hb (xb_d D_M_flow 12 rfl) (by decide) ?_
  refine lv_icmp_ne (tgt := 105) hx hb (xb_d D_M_flow 13 rfl) rfl (fun hc4 => ?_) (fun hc4 => ?_)
  · have hw := hw.1 hc4
    refine lv_iload_n hx hb (xb_d D_M_flow 16 rfl) rfl (lv_at hl 0 rfl) ?_
    exact am_M_flow_L106 l hfl D A σ MC MS h0 Qr r3 x2 x0 h2 hw p e s m args below meth c hC H locs ls k n hE (lv_sub hl [] rfl) hR hS (by omega) (by omega)
  · have hw := hw.2 hc4
    refine lv_bipush (v := 64) hx hb (xb_d D_M_flow 14 rfl) (by decide) ?_
    refine lv_goto (tgt := 106) hx hb (xb_d D_M_flow 15 rfl) rfl ?_
    exact am_M_flow_L106 l hfl D A σ MC MS h0 Qr 64 x2 x0 h2 hw p e s m args below meth c hC H locs ls k n hE (lv_sub hl [] rfl) hR hS (by omega) (by omega)

set_option maxHeartbeats 4000000 in
set_option maxRecDepth 100000 in
theorem ok_M_flow (l : Launch) (hfl : l.flags = pinnedFlags ++ [noTraceFlag]) (D : va_G) (A : Nat → Prop) (σ : Nat) (x0 : Nat) (x1 : Int32) (x2 : Int32) (h : xb_H) (Qr : xb_H → Prop) (hw : w_M_flow x0 x1 x2 h Qr) : xb_Met l y_M_flow [.code y_M_flow b_M_flow 7 none] (xb_rm 10 0 0) (xb_Pc D A σ h [.ref x0, .int x1, .int x2]) (xb_Qc D A h 0 0 (fun v h _ _ => v = none ∧ Qr h) (fun _ _ _ _ => False)) A := by
  refine xb_ofAm (cc := b_M_flow) (by decide) (Nat.le_of_ble_eq_true rfl) ?_
  unfold w_M_flow at hw
  show xb_am l D A σ 10 0 0 h (fun v h _ _ => v = none ∧ Qr h) (fun _ _ _ _ => False) y_M_flow.cls y_M_flow.name b_M_flow 7 ([] : List ExceptionTableEntry) none 0 [(0, .ref x0), (1, .int x1), (2, .int x2)] [] h 0 0
  obtain ⟨MC, hMC⟩ : ∃ x, x = 0 := ⟨_, rfl⟩
  obtain ⟨MS, hMS⟩ : ∃ x, x = 0 := ⟨_, rfl⟩
  rw [show xb_am l D A σ 10 0 0 = xb_am l D A σ 10 MC MS by rw [hMC, hMS]]
  obtain ⟨h0, hh0⟩ : ∃ x, x = h := ⟨_, rfl⟩
  rw [show xb_am l D A σ 10 MC MS h = xb_am l D A σ 10 MC MS h0 by rw [hh0]]
  intro p e s m args below meth c hC H locs ls k n hE hl hR hS hk hn
  obtain ⟨hx, hb, hown, hlocks, htab, hml, hr, hB, hA, hnm⟩ := id hC
  have hts := hB.1.1.at args
  refine lv_iload_n hx hb (xb_d D_M_flow 0 rfl) rfl (lv_at hl 2 rfl) ?_
  by_cases hc1 : x2 = 0
  · have hw := hw.1 hc1
    refine xt_numi hc1 ?_
    refine lv_tableIn (off := 79) (tgt := 80) hx hb (xb_d D_M_flow 1 rfl) (by decide +kernel) (by decide +kernel) (by decide +kernel) (by decide) ?_
    refine lv_aload_n hx hb (xb_d D_M_flow 2 rfl) rfl (lv_at hl 0 rfl) ?_
    refine lv_iconst (v := 1) hx hb (xb_d D_M_flow 3 rfl) (by decide) ?_
    obtain ⟨hk2, hw⟩ := hw
    refine xb_putI (C := R_M) (T := F_M) (N := 97) (ty := .int) (x := 1) hx hb 8 82 hts fin_M t_M t_M_ok n_M hown hR hS hk2 (by decide) rfl (by decide) rfl (hts _ m_ad343437) (fun _ h9 => h9) rfl (by decide +kernel) rfl rfl (xb_d D_M_flow 4 rfl) (fun H locs hR hS => ?_)
    obtain ⟨h3, eh3⟩ : ∃ x : xb_H, x = xb_I h x0 82 1 := ⟨_, rfl⟩
    rw [← eh3] at hR
    have hw := hw h3 eh3
    have hE : xb_ext h0 h3 := by rw [eh3]; exact hE
    refine lv_goto (tgt := 276) hx hb (xb_d D_M_flow 5 rfl) rfl ?_
    exact am_M_flow_L276 l hfl D A σ MC MS h0 Qr h3 hw p e s m args below meth c hC H locs ls k n hE (lv_sub hl [] rfl) hR hS (by omega) (by omega)
  have hw := hw.2
  by_cases hc4 : x2 = 1
  · have hw := hw.1 hc4
    refine xt_numi hc4 ?_
    refine lv_tableIn (off := 275) (tgt := 276) hx hb (xb_d D_M_flow 1 rfl) (by decide +kernel) (by decide +kernel) (by decide +kernel) (by decide) ?_
    exact am_M_flow_L276 l hfl D A σ MC MS h0 Qr h hw p e s m args below meth c hC H locs ls k n hE (lv_sub hl [] rfl) hR hS (by omega) (by omega)
  have hw := hw.2
  by_cases hc5 : x2 = 2
  · have hw := hw.1 hc5
    refine xt_numi hc5 ?_
    refine lv_tableIn (off := 87) (tgt := 88) hx hb (xb_d D_M_flow 1 rfl) (by decide +kernel) (by decide +kernel) (by decide +kernel) (by decide) ?_
    exact am_M_flow_L88 l hfl D A σ MC MS h0 Qr x0 x2 h hw p e s m args below meth c hC H locs ls k n hE (lv_sub hl [0, 2] rfl) hR hS (by omega) (by omega)
  have hw := hw.2
  by_cases hc6 : x2 = 3
  · have hw := hw.1 hc6
    refine xt_numi hc6 ?_
    refine lv_tableIn (off := 87) (tgt := 88) hx hb (xb_d D_M_flow 1 rfl) (by decide +kernel) (by decide +kernel) (by decide +kernel) (by decide) ?_
    exact am_M_flow_L88 l hfl D A σ MC MS h0 Qr x0 x2 h hw p e s m args below meth c hC H locs ls k n hE (lv_sub hl [0, 2] rfl) hR hS (by omega) (by omega)
  have hw := hw.2
  by_cases hc7 : x2 = 4
  · have hw := hw.1 hc7
    refine xt_numi hc7 ?_
    refine lv_tableIn (off := 111) (tgt := 112) hx hb (xb_d D_M_flow 1 rfl) (by decide +kernel) (by decide +kernel) (by decide +kernel) (by decide) ?_
    refine lv_aload_n hx hb (xb_d D_M_flow 19 rfl) rfl (lv_at hl 0 rfl) ?_
    obtain ⟨hk8, hw⟩ := hw
    refine xb_call0 (D := D) (A := A) (σ := σ) (h := h) (d := 3) (maxL := 2) (rest := []) (av := [.ref x0]) (fun T hT X => by obtain ⟨cb9, ra9, rb9, rc9⟩ := xb_recv (ci := 8) hR rfl hk8 (by decide); exact xt_invV X hx hown (hts _ m_0e978570) (hts _ m_40099f98) (hts _ m_a7dbfd07) (xt_sigOf (hts _ m_0af1ec6a)) nm_M_next (by rw [hT]; exact ra9) rb9 rc9 (g := F0 m 113 ls [.ref x0]) rfl (argsL := []) (rest := []) rfl rfl (by rw [hb]; exact (xb_d D_M_flow 20 rfl))) (ok_M_next l hfl D A σ x0 h _ hw) (hml.trans hl.1.symm) (by rw [hb]; exact (xb_d D_M_flow 20 rfl)) (Nat.le_of_ble_eq_true rfl) (Nat.le_of_ble_eq_true rfl) (Nat.le_of_ble_eq_true rfl) (show k ≤ MC by omega) (show n ≤ MS by omega) (xt_w1 hB.1 m_0af1ec6a) (xt_cdOf hB.1 m_0af1ec6a) (hts _ m_d5ed7bed) hB hR hS hA (fun vv h9 H locs hq hEh9 hR hS => ?_)
    obtain ⟨r10, rfl, hw⟩ := hq
    have hw := hw hEh9
    have hE := hE.tr hEh9
    refine W.eq (g2 := F0 m 116 ls [.int r10]) rfl ?_
    refine lv_istore hx hb (xb_d D_M_flow 21 rfl) hl (by decide) rfl (fun ls hl => ?_)
    have hl : lv_has ls 7 [(4, .int r10), (0, .ref x0), (1, .int x1), (2, .int x2)] := hl
    refine lv_aload_n hx hb (xb_d D_M_flow 22 rfl) rfl (lv_at hl 1 rfl) ?_
    refine lv_bipush (v := 127) hx hb (xb_d D_M_flow 23 rfl) (by decide) ?_
    have hk8 : xb_k h9 x0 = 9 := hEh9.k hk8
    refine xb_call0 (D := D) (A := A) (σ := σ) (h := h9) (d := 2) (maxL := 2) (rest := []) (av := [.ref x0, .int 127]) (fun T hT X => by obtain ⟨cb9, ra9, rb9, rc9⟩ := xb_recv (ci := 8) hR rfl hk8 (by decide); exact xt_invV X hx hown (hts _ m_ce40dc40) (hts _ m_c3a002b8) (hts _ m_395c99b5) (xt_sigOf (hts _ m_1ea89357)) nm_M_pop (by rw [hT]; exact ra9) rb9 rc9 (g := F0 m 121 ls [.int 127, .ref x0]) rfl (argsL := [.int 127]) (rest := []) rfl rfl (by rw [hb]; exact (xb_d D_M_flow 24 rfl))) (ok_M_pop l hfl D A σ x0 127 h9 _ hw) (hml.trans hl.1.symm) (by rw [hb]; exact (xb_d D_M_flow 24 rfl)) (Nat.le_of_ble_eq_true rfl) (Nat.le_of_ble_eq_true rfl) (Nat.le_of_ble_eq_true rfl) (show k ≤ MC by omega) (show n ≤ MS by omega) (xt_w1 hB.1 m_1ea89357) (xt_cdOf hB.1 m_1ea89357) (hts _ m_d5ed7bed) hB hR hS hA (fun vv h11 H locs hq hEh11 hR hS => ?_)
    obtain ⟨r12, rfl, hw⟩ := hq
    have hw := hw hEh11
    have hE := hE.tr hEh11
    refine W.eq (g2 := F0 m 124 ls [.long r12]) rfl ?_
    refine lv_lconst (v := 0) hx hb (xb_d D_M_flow 25 rfl) (by decide) ?_
    refine xb_lc_eq (tgt := 139) hx hb (xb_d D_M_flow 26 rfl) (xb_d D_M_flow 27 rfl) rfl (fun hc13 => ?_) (fun hc13 => ?_)
    · have hw := hw.1 hc13
      refine lv_aload_n hx hb (xb_d D_M_flow 33 rfl) rfl (lv_at hl 1 rfl) ?_
      refine lv_iconst (v := 1) hx hb (xb_d D_M_flow 34 rfl) (by decide) ?_
      refine lv_iconst (v := 1) hx hb (xb_d D_M_flow 35 rfl) (by decide) ?_
      have hk8 : xb_k h11 x0 = 9 := hEh11.k hk8
      refine xb_call0 (D := D) (A := A) (σ := σ) (h := h11) (d := 7) (maxL := 5) (rest := []) (av := [.ref x0, .int 1, .int 1]) (fun T hT X => by obtain ⟨cb9, ra9, rb9, rc9⟩ := xb_recv (ci := 8) hR rfl hk8 (by decide); exact xt_invV X hx hown (hts _ m_9c9c8605) (hts _ m_05af8ccc) (hts _ m_1b43488f) (xt_sigOf (hts _ m_e000fc68)) nm_M_readOn (by rw [hT]; exact ra9) rb9 rc9 (g := F0 m 142 ls [.int 1, .int 1, .ref x0]) rfl (argsL := [.int 1, .int 1]) (rest := []) rfl rfl (by rw [hb]; exact (xb_d D_M_flow 36 rfl))) (ok_M_readOn l hfl D A σ x0 1 1 h11 _ hw) (hml.trans hl.1.symm) (by rw [hb]; exact (xb_d D_M_flow 36 rfl)) (Nat.le_of_ble_eq_true rfl) (Nat.le_of_ble_eq_true rfl) (Nat.le_of_ble_eq_true rfl) (show k ≤ MC by omega) (show n ≤ MS by omega) (xt_w1 hB.1 m_e000fc68) (xt_cdOf hB.1 m_e000fc68) (hts _ m_d5ed7bed) hB hR hS hA (fun vv h14 H locs hq hEh14 hR hS => ?_)
      obtain ⟨r15, rfl, hw⟩ := hq
      have hw := hw hEh14
      have hE := hE.tr hEh14
      refine W.eq (g2 := F0 m 145 ls [.int r15]) rfl ?_
      refine lv_if_eq (tgt := 276) hx hb (xb_d D_M_flow 37 rfl) rfl (fun hc16 => ?_) (fun hc16 => ?_)
      · have hw := hw.1 hc16
        exact am_M_flow_L276 l hfl D A σ MC MS h0 Qr h14 hw p e s m args below meth c hC H locs ls k n hE (lv_sub hl [] rfl) hR hS (by omega) (by omega)
      · have hw := hw.2 hc16
        refine lv_aload_n hx hb (xb_d D_M_flow 38 rfl) rfl (lv_at hl 1 rfl) ?_
        refine lv_iconst (v := 5) hx hb (xb_d D_M_flow 39 rfl) (by decide) ?_
        refine lv_iload hx hb (xb_d D_M_flow 40 rfl) (lv_at hl 0 rfl) ?_
        have hk8 : xb_k h14 x0 = 9 := hEh14.k hk8
        refine xb_call0 (D := D) (A := A) (σ := σ) (h := h14) (d := 2) (maxL := 3) (rest := []) (av := [.ref x0, .int 5, .int r10]) (fun T hT X => by obtain ⟨cb9, ra9, rb9, rc9⟩ := xb_recv (ci := 8) hR rfl hk8 (by decide); exact xt_invV X hx hown (hts _ m_746eb9d6) (hts _ m_e9612f4e) (hts _ m_aa122190) (xt_sigOf (hts _ m_7c9641c8)) nm_M_open (by rw [hT]; exact ra9) rb9 rc9 (g := F0 m 152 ls [.int r10, .int 5, .ref x0]) rfl (argsL := [.int 5, .int r10]) (rest := []) rfl rfl (by rw [hb]; exact (xb_d D_M_flow 41 rfl))) (ok_M_open l hfl D A σ x0 5 r10 h14 _ hw) (hml.trans hl.1.symm) (by rw [hb]; exact (xb_d D_M_flow 41 rfl)) (Nat.le_of_ble_eq_true rfl) (Nat.le_of_ble_eq_true rfl) (Nat.le_of_ble_eq_true rfl) (show k ≤ MC by omega) (show n ≤ MS by omega) (xt_w1 hB.1 m_7c9641c8) (xt_cdOf hB.1 m_7c9641c8) (hts _ m_d5ed7bed) hB hR hS hA (fun vv h17 H locs hq hEh17 hR hS => ?_)
        obtain ⟨rfl, hw⟩ := hq
        have hw := hw hEh17
        have hE := hE.tr hEh17
        refine W.eq (g2 := F0 m 155 ls []) rfl ?_
        refine lv_goto (tgt := 276) hx hb (xb_d D_M_flow 42 rfl) rfl ?_
        exact am_M_flow_L276 l hfl D A σ MC MS h0 Qr h17 hw p e s m args below meth c hC H locs ls k n hE (lv_sub hl [] rfl) hR hS (by omega) (by omega)
    · have hw := hw.2 hc13
      refine lv_aload_n hx hb (xb_d D_M_flow 28 rfl) rfl (lv_at hl 1 rfl) ?_
      refine lv_iconst (v := 4) hx hb (xb_d D_M_flow 29 rfl) (by decide) ?_
      refine lv_iload hx hb (xb_d D_M_flow 30 rfl) (lv_at hl 0 rfl) ?_
      have hk8 : xb_k h11 x0 = 9 := hEh11.k hk8
      refine xb_call0 (D := D) (A := A) (σ := σ) (h := h11) (d := 2) (maxL := 3) (rest := []) (av := [.ref x0, .int 4, .int r10]) (fun T hT X => by obtain ⟨cb9, ra9, rb9, rc9⟩ := xb_recv (ci := 8) hR rfl hk8 (by decide); exact xt_invV X hx hown (hts _ m_746eb9d6) (hts _ m_e9612f4e) (hts _ m_aa122190) (xt_sigOf (hts _ m_7c9641c8)) nm_M_open (by rw [hT]; exact ra9) rb9 rc9 (g := F0 m 133 ls [.int r10, .int 4, .ref x0]) rfl (argsL := [.int 4, .int r10]) (rest := []) rfl rfl (by rw [hb]; exact (xb_d D_M_flow 31 rfl))) (ok_M_open l hfl D A σ x0 4 r10 h11 _ hw) (hml.trans hl.1.symm) (by rw [hb]; exact (xb_d D_M_flow 31 rfl)) (Nat.le_of_ble_eq_true rfl) (Nat.le_of_ble_eq_true rfl) (Nat.le_of_ble_eq_true rfl) (show k ≤ MC by omega) (show n ≤ MS by omega) (xt_w1 hB.1 m_7c9641c8) (xt_cdOf hB.1 m_7c9641c8) (hts _ m_d5ed7bed) hB hR hS hA (fun vv h19 H locs hq hEh19 hR hS => ?_)
      obtain ⟨rfl, hw⟩ := hq
      have hw := hw hEh19
      have hE := hE.tr hEh19
      refine W.eq (g2 := F0 m 136 ls []) rfl ?_
      refine lv_goto (tgt := 276) hx hb (xb_d D_M_flow 32 rfl) rfl ?_
      exact am_M_flow_L276 l hfl D A σ MC MS h0 Qr h19 hw p e s m args below meth c hC H locs ls k n hE (lv_sub hl [] rfl) hR hS (by omega) (by omega)
  have hw := hw.2
  by_cases hc21 : x2 = 5
  · have hw := hw.1 hc21
    refine xt_numi hc21 ?_
    refine lv_tableIn (off := 157) (tgt := 158) hx hb (xb_d D_M_flow 1 rfl) (by decide +kernel) (by decide +kernel) (by decide +kernel) (by decide) ?_
    refine lv_aload_n hx hb (xb_d D_M_flow 43 rfl) rfl (lv_at hl 0 rfl) ?_
    refine lv_iconst (v := 1) hx hb (xb_d D_M_flow 44 rfl) (by decide) ?_
    refine lv_iconst (v := 0) hx hb (xb_d D_M_flow 45 rfl) (by decide) ?_
    obtain ⟨hk22, hw⟩ := hw
    refine xb_call0 (D := D) (A := A) (σ := σ) (h := h) (d := 7) (maxL := 5) (rest := []) (av := [.ref x0, .int 1, .int 0]) (fun T hT X => by obtain ⟨cb9, ra9, rb9, rc9⟩ := xb_recv (ci := 8) hR rfl hk22 (by decide); exact xt_invV X hx hown (hts _ m_9c9c8605) (hts _ m_05af8ccc) (hts _ m_1b43488f) (xt_sigOf (hts _ m_e000fc68)) nm_M_readOn (by rw [hT]; exact ra9) rb9 rc9 (g := F0 m 161 ls [.int 0, .int 1, .ref x0]) rfl (argsL := [.int 1, .int 0]) (rest := []) rfl rfl (by rw [hb]; exact (xb_d D_M_flow 46 rfl))) (ok_M_readOn l hfl D A σ x0 1 0 h _ hw) (hml.trans hl.1.symm) (by rw [hb]; exact (xb_d D_M_flow 46 rfl)) (Nat.le_of_ble_eq_true rfl) (Nat.le_of_ble_eq_true rfl) (Nat.le_of_ble_eq_true rfl) (show k ≤ MC by omega) (show n ≤ MS by omega) (xt_w1 hB.1 m_e000fc68) (xt_cdOf hB.1 m_e000fc68) (hts _ m_d5ed7bed) hB hR hS hA (fun vv h23 H locs hq hEh23 hR hS => ?_)
    obtain ⟨r24, rfl, hw⟩ := hq
    have hw := hw hEh23
    have hE := hE.tr hEh23
    refine W.eq (g2 := F0 m 164 ls [.int r24]) rfl ?_
    refine lv_pop hx hb (xb_d D_M_flow 47 rfl) rfl ?_
    refine lv_aload_n hx hb (xb_d D_M_flow 48 rfl) rfl (lv_at hl 0 rfl) ?_
    refine lv_aload_n hx hb (xb_d D_M_flow 49 rfl) rfl (lv_at hl 0 rfl) ?_
    have hk22 : xb_k h23 x0 = 9 := hEh23.k hk22
    refine xb_getI (C := R_M) (T := F_M) (N := 97) hx hb 8 96 hts fin_M hown hR hk22 (by decide) rfl (by decide) rfl (hts _ m_daabb39f) (fun _ h9 => h9) (xb_d D_M_flow 50 rfl) ?_
    refine xb_putI (C := R_M) (T := F_M) (N := 97) (ty := .int) (x := (xb_i h23 x0 96)) hx hb 8 15 hts fin_M t_M t_M_ok n_M hown hR hS hk22 (by decide) rfl (by decide) rfl (hts _ m_6c2d27ad) (fun _ h9 => h9) rfl (by decide +kernel) rfl rfl (xb_d D_M_flow 51 rfl) (fun H locs hR hS => ?_)
    obtain ⟨h25, eh25⟩ : ∃ x : xb_H, x = xb_I h23 x0 15 (xb_i h23 x0 96) := ⟨_, rfl⟩
    rw [← eh25] at hR
    have hw := hw h25 eh25
    have hE : xb_ext h0 h25 := by rw [eh25]; exact hE
    refine lv_goto (tgt := 276) hx hb (xb_d D_M_flow 52 rfl) rfl ?_
    exact am_M_flow_L276 l hfl D A σ MC MS h0 Qr h25 hw p e s m args below meth c hC H locs ls k n hE (lv_sub hl [] rfl) hR hS (by omega) (by omega)
  have hw := hw.2
  by_cases hc26 : x2 = 6
  · have hw := hw.1 hc26
    refine xt_numi hc26 ?_
    refine lv_tableIn (off := 275) (tgt := 276) hx hb (xb_d D_M_flow 1 rfl) (by decide +kernel) (by decide +kernel) (by decide +kernel) (by decide) ?_
    exact am_M_flow_L276 l hfl D A σ MC MS h0 Qr h hw p e s m args below meth c hC H locs ls k n hE (lv_sub hl [] rfl) hR hS (by omega) (by omega)
  have hw := hw.2
  by_cases hc27 : x2 = 7
  · have hw := hw.1 hc27
    refine xt_numi hc27 ?_
    refine lv_tableIn (off := 275) (tgt := 276) hx hb (xb_d D_M_flow 1 rfl) (by decide +kernel) (by decide +kernel) (by decide +kernel) (by decide) ?_
    exact am_M_flow_L276 l hfl D A σ MC MS h0 Qr h hw p e s m args below meth c hC H locs ls k n hE (lv_sub hl [] rfl) hR hS (by omega) (by omega)
  have hw := hw.2
  by_cases hc28 : x2 = 8
  · have hw := hw.1 hc28
    refine xt_numi hc28 ?_
    refine lv_tableIn (off := 275) (tgt := 276) hx hb (xb_d D_M_flow 1 rfl) (by decide +kernel) (by decide +kernel) (by decide +kernel) (by decide) ?_
    exact am_M_flow_L276 l hfl D A σ MC MS h0 Qr h hw p e s m args below meth c hC H locs ls k n hE (lv_sub hl [] rfl) hR hS (by omega) (by omega)
  have hw := hw.2
  by_cases hc29 : x2 = 9
  · have hw := hw.1 hc29
    refine xt_numi hc29 ?_
    refine lv_tableIn (off := 275) (tgt := 276) hx hb (xb_d D_M_flow 1 rfl) (by decide +kernel) (by decide +kernel) (by decide +kernel) (by decide) ?_
    exact am_M_flow_L276 l hfl D A σ MC MS h0 Qr h hw p e s m args below meth c hC H locs ls k n hE (lv_sub hl [] rfl) hR hS (by omega) (by omega)
  have hw := hw.2
  by_cases hc30 : x2 = 10
  · have hw := hw.1 hc30
    refine xt_numi hc30 ?_
    refine lv_tableIn (off := 275) (tgt := 276) hx hb (xb_d D_M_flow 1 rfl) (by decide +kernel) (by decide +kernel) (by decide +kernel) (by decide) ?_
    exact am_M_flow_L276 l hfl D A σ MC MS h0 Qr h hw p e s m args below meth c hC H locs ls k n hE (lv_sub hl [] rfl) hR hS (by omega) (by omega)
  have hw := hw.2
  by_cases hc31 : x2 = 11
  · have hw := hw.1 hc31
    refine xt_numi hc31 ?_
    refine lv_tableIn (off := 175) (tgt := 176) hx hb (xb_d D_M_flow 1 rfl) (by decide +kernel) (by decide +kernel) (by decide +kernel) (by decide) ?_
    refine lv_aload_n hx hb (xb_d D_M_flow 53 rfl) rfl (lv_at hl 0 rfl) ?_
    obtain ⟨hk32, hw⟩ := hw
    refine xb_getI (C := R_M) (T := F_M) (N := 97) hx hb 8 81 hts fin_M hown hR hk32 (by decide) rfl (by decide) rfl (hts _ m_65743087) (fun _ h9 => h9) (xb_d D_M_flow 54 rfl) ?_
    refine lv_iconst (v := 1) hx hb (xb_d D_M_flow 55 rfl) (by decide) ?_
    refine lv_isub hx hb (xb_d D_M_flow 56 rfl) ?_
    refine lv_aload_n hx hb (xb_d D_M_flow 57 rfl) rfl (lv_at hl 0 rfl) ?_
    refine xb_getP (C := R_M) (T := F_M) (N := 97) hx hb 8 73 hts fin_M hown hR hk32 (by decide) rfl (by decide) rfl (hts _ m_6c9efdee) (fun _ h9 => h9) (xb_d D_M_flow 58 rfl) ?_
    obtain ⟨b33, eb33, hw⟩ := hw
    refine xb_some eb33 ?_
    refine lv_iload_n hx hb (xb_d D_M_flow 59 rfl) rfl (lv_at hl 1 rfl) ?_
    obtain ⟨hk35, hw⟩ := hw
    obtain ⟨hi34, hw⟩ := hw
    refine xb_iald hx hb hR hk35 hi34 (xb_d D_M_flow 60 rfl) ?_
    refine lv_icmp_ne (tgt := 198) hx hb (xb_d D_M_flow 61 rfl) rfl (fun hc36 => ?_) (fun hc36 => ?_)
    · have hw := hw.1 hc36
      refine lv_aload_n hx hb (xb_d D_M_flow 65 rfl) rfl (lv_at hl 0 rfl) ?_
      refine lv_dup hx hb (xb_d D_M_flow 66 rfl) rfl ?_
      refine xb_getI (C := R_M) (T := F_M) (N := 97) hx hb 8 81 hts fin_M hown hR hk32 (by decide) rfl (by decide) rfl (hts _ m_65743087) (fun _ h9 => h9) (xb_d D_M_flow 67 rfl) ?_
      refine lv_iconst (v := 1) hx hb (xb_d D_M_flow 68 rfl) (by decide) ?_
      refine lv_isub hx hb (xb_d D_M_flow 69 rfl) ?_
      refine xb_putI (C := R_M) (T := F_M) (N := 97) (ty := .int) (x := ((xb_i h x0 81) - 1)) hx hb 8 81 hts fin_M t_M t_M_ok n_M hown hR hS hk32 (by decide) rfl (by decide) rfl (hts _ m_65743087) (fun _ h9 => h9) rfl (by decide +kernel) rfl rfl (xb_d D_M_flow 70 rfl) (fun H locs hR hS => ?_)
      obtain ⟨h37, eh37⟩ : ∃ x : xb_H, x = xb_I h x0 81 ((xb_i h x0 81) - 1) := ⟨_, rfl⟩
      rw [← eh37] at hR
      have hw := hw h37 eh37
      have hE : xb_ext h0 h37 := by rw [eh37]; exact hE
      refine lv_goto (tgt := 276) hx hb (xb_d D_M_flow 71 rfl) rfl ?_
      exact am_M_flow_L276 l hfl D A σ MC MS h0 Qr h37 hw p e s m args below meth c hC H locs ls k n hE (lv_sub hl [] rfl) hR hS (by omega) (by omega)
    · have hw := hw.2 hc36
      refine lv_aload_n hx hb (xb_d D_M_flow 62 rfl) rfl (lv_at hl 0 rfl) ?_
      refine xb_call0 (D := D) (A := A) (σ := σ) (h := h) (d := 3) (maxL := 5) (rest := []) (av := [.ref x0]) (fun T hT X => by obtain ⟨cb9, ra9, rb9, rc9⟩ := xb_recv (ci := 8) hR rfl hk32 (by decide); exact xt_invV X hx hown (hts _ m_b8a8e88c) (hts _ m_4d204536) (hts _ m_5da39f92) (xt_sigOf (hts _ m_5a54079a)) nm_M_leave (by rw [hT]; exact ra9) rb9 rc9 (g := F0 m 192 ls [.ref x0]) rfl (argsL := []) (rest := []) rfl rfl (by rw [hb]; exact (xb_d D_M_flow 63 rfl))) (ok_M_leave l hfl D A σ x0 h _ hw) (hml.trans hl.1.symm) (by rw [hb]; exact (xb_d D_M_flow 63 rfl)) (Nat.le_of_ble_eq_true rfl) (Nat.le_of_ble_eq_true rfl) (Nat.le_of_ble_eq_true rfl) (show k ≤ MC by omega) (show n ≤ MS by omega) (xt_w1 hB.1 m_5a54079a) (xt_cdOf hB.1 m_5a54079a) (hts _ m_d5ed7bed) hB hR hS hA (fun vv h38 H locs hq hEh38 hR hS => ?_)
      obtain ⟨rfl, hw⟩ := hq
      have hw := hw hEh38
      have hE := hE.tr hEh38
      refine W.eq (g2 := F0 m 195 ls []) rfl ?_
      refine lv_goto (tgt := 276) hx hb (xb_d D_M_flow 64 rfl) rfl ?_
      exact am_M_flow_L276 l hfl D A σ MC MS h0 Qr h38 hw p e s m args below meth c hC H locs ls k n hE (lv_sub hl [] rfl) hR hS (by omega) (by omega)
  have hw := hw.2
  by_cases hc40 : x2 = 12
  · have hw := hw.1 hc40
    refine xt_numi hc40 ?_
    refine lv_tableIn (off := 210) (tgt := 211) hx hb (xb_d D_M_flow 1 rfl) (by decide +kernel) (by decide +kernel) (by decide +kernel) (by decide) ?_
    refine lv_aload_n hx hb (xb_d D_M_flow 72 rfl) rfl (lv_at hl 0 rfl) ?_
    refine lv_aload_n hx hb (xb_d D_M_flow 73 rfl) rfl (lv_at hl 0 rfl) ?_
    obtain ⟨hk41, hw⟩ := hw
    refine xb_call0 (D := D) (A := A) (σ := σ) (h := h) (d := 4) (maxL := 5) (rest := [.ref x0]) (av := [.ref x0]) (fun T hT X => by obtain ⟨cb9, ra9, rb9, rc9⟩ := xb_recv (ci := 8) hR rfl hk41 (by decide); exact xt_invV X hx hown (hts _ m_e991293f) (hts _ m_385a74b3) (hts _ m_c9fbcd02) (xt_sigOf (hts _ m_1f53f210)) nm_M_count (by rw [hT]; exact ra9) rb9 rc9 (g := F0 m 213 ls [.ref x0, .ref x0]) rfl (argsL := []) (rest := [.ref x0]) rfl rfl (by rw [hb]; exact (xb_d D_M_flow 74 rfl))) (ok_M_count l hfl D A σ x0 h _ hw) (hml.trans hl.1.symm) (by rw [hb]; exact (xb_d D_M_flow 74 rfl)) (Nat.le_of_ble_eq_true rfl) (Nat.le_of_ble_eq_true rfl) (Nat.le_of_ble_eq_true rfl) (show k ≤ MC by omega) (show n ≤ MS by omega) (xt_w1 hB.1 m_1f53f210) (xt_cdOf hB.1 m_1f53f210) (hts _ m_d5ed7bed) hB hR hS hA (fun vv h42 H locs hq hEh42 hR hS => ?_)
    obtain ⟨r43, rfl, hw⟩ := hq
    have hw := hw hEh42
    have hE := hE.tr hEh42
    refine W.eq (g2 := F0 m 216 ls [.long r43, .ref x0]) rfl ?_
    have hk41 : xb_k h42 x0 = 9 := hEh42.k hk41
    refine xb_call0 (D := D) (A := A) (σ := σ) (h := h42) (d := 8) (maxL := 8) (rest := []) (av := [.ref x0, .long r43]) (fun T hT X => by obtain ⟨cb9, ra9, rb9, rc9⟩ := xb_recv (ci := 8) hR rfl hk41 (by decide); exact xt_invV X hx hown (hts _ m_36f12bf0) (hts _ m_cb58d8a1) (hts _ m_c5c944a0) (xt_sigOf (hts _ m_0889f0dc)) nm_M_branch (by rw [hT]; exact ra9) rb9 rc9 (g := F0 m 216 ls [.long r43, .ref x0]) rfl (argsL := [.long r43]) (rest := []) rfl rfl (by rw [hb]; exact (xb_d D_M_flow 75 rfl))) (ok_M_branch l hfl D A σ x0 r43 h42 _ hw) (hml.trans hl.1.symm) (by rw [hb]; exact (xb_d D_M_flow 75 rfl)) (Nat.le_of_ble_eq_true rfl) (Nat.le_of_ble_eq_true rfl) (Nat.le_of_ble_eq_true rfl) (show k ≤ MC by omega) (show n ≤ MS by omega) (xt_w1 hB.1 m_0889f0dc) (xt_cdOf hB.1 m_0889f0dc) (hts _ m_d5ed7bed) hB hR hS hA (fun vv h44 H locs hq hEh44 hR hS => ?_)
    obtain ⟨rfl, hw⟩ := hq
    have hw := hw hEh44
    have hE := hE.tr hEh44
    refine W.eq (g2 := F0 m 219 ls []) rfl ?_
    refine lv_goto (tgt := 276) hx hb (xb_d D_M_flow 76 rfl) rfl ?_
    exact am_M_flow_L276 l hfl D A σ MC MS h0 Qr h44 hw p e s m args below meth c hC H locs ls k n hE (lv_sub hl [] rfl) hR hS (by omega) (by omega)
  have hw := hw.2
  by_cases hc46 : x2 = 13
  · have hw := hw.1 hc46
    refine xt_numi hc46 ?_
    refine lv_tableIn (off := 221) (tgt := 222) hx hb (xb_d D_M_flow 1 rfl) (by decide +kernel) (by decide +kernel) (by decide +kernel) (by decide) ?_
    refine lv_aload_n hx hb (xb_d D_M_flow 77 rfl) rfl (lv_at hl 0 rfl) ?_
    obtain ⟨hk47, hw⟩ := hw
    refine xb_call0 (D := D) (A := A) (σ := σ) (h := h) (d := 4) (maxL := 5) (rest := []) (av := [.ref x0]) (fun T hT X => by obtain ⟨cb9, ra9, rb9, rc9⟩ := xb_recv (ci := 8) hR rfl hk47 (by decide); exact xt_invV X hx hown (hts _ m_e991293f) (hts _ m_385a74b3) (hts _ m_c9fbcd02) (xt_sigOf (hts _ m_1f53f210)) nm_M_count (by rw [hT]; exact ra9) rb9 rc9 (g := F0 m 223 ls [.ref x0]) rfl (argsL := []) (rest := []) rfl rfl (by rw [hb]; exact (xb_d D_M_flow 78 rfl))) (ok_M_count l hfl D A σ x0 h _ hw) (hml.trans hl.1.symm) (by rw [hb]; exact (xb_d D_M_flow 78 rfl)) (Nat.le_of_ble_eq_true rfl) (Nat.le_of_ble_eq_true rfl) (Nat.le_of_ble_eq_true rfl) (show k ≤ MC by omega) (show n ≤ MS by omega) (xt_w1 hB.1 m_1f53f210) (xt_cdOf hB.1 m_1f53f210) (hts _ m_d5ed7bed) hB hR hS hA (fun vv h48 H locs hq hEh48 hR hS => ?_)
    obtain ⟨r49, rfl, hw⟩ := hq
    have hw := hw hEh48
    have hE := hE.tr hEh48
    refine W.eq (g2 := F0 m 226 ls [.long r49]) rfl ?_
    refine lv_lstore hx hb (xb_d D_M_flow 79 rfl) hl (by decide) rfl (fun ls hl => ?_)
    have hl : lv_has ls 7 [(5, .long r49), (0, .ref x0), (1, .int x1), (2, .int x2)] := hl
    refine lv_aload_n hx hb (xb_d D_M_flow 80 rfl) rfl (lv_at hl 1 rfl) ?_
    refine lv_bipush (v := 127) hx hb (xb_d D_M_flow 81 rfl) (by decide) ?_
    have hk47 : xb_k h48 x0 = 9 := hEh48.k hk47
    refine xb_call0 (D := D) (A := A) (σ := σ) (h := h48) (d := 2) (maxL := 2) (rest := []) (av := [.ref x0, .int 127]) (fun T hT X => by obtain ⟨cb9, ra9, rb9, rc9⟩ := xb_recv (ci := 8) hR rfl hk47 (by decide); exact xt_invV X hx hown (hts _ m_ce40dc40) (hts _ m_c3a002b8) (hts _ m_395c99b5) (xt_sigOf (hts _ m_1ea89357)) nm_M_pop (by rw [hT]; exact ra9) rb9 rc9 (g := F0 m 231 ls [.int 127, .ref x0]) rfl (argsL := [.int 127]) (rest := []) rfl rfl (by rw [hb]; exact (xb_d D_M_flow 82 rfl))) (ok_M_pop l hfl D A σ x0 127 h48 _ hw) (hml.trans hl.1.symm) (by rw [hb]; exact (xb_d D_M_flow 82 rfl)) (Nat.le_of_ble_eq_true rfl) (Nat.le_of_ble_eq_true rfl) (Nat.le_of_ble_eq_true rfl) (show k ≤ MC by omega) (show n ≤ MS by omega) (xt_w1 hB.1 m_1ea89357) (xt_cdOf hB.1 m_1ea89357) (hts _ m_d5ed7bed) hB hR hS hA (fun vv h50 H locs hq hEh50 hR hS => ?_)
    obtain ⟨r51, rfl, hw⟩ := hq
    have hw := hw hEh50
    have hE := hE.tr hEh50
    refine W.eq (g2 := F0 m 234 ls [.long r51]) rfl ?_
    refine lv_lconst (v := 0) hx hb (xb_d D_M_flow 83 rfl) (by decide) ?_
    refine xb_lc_eq (tgt := 276) hx hb (xb_d D_M_flow 84 rfl) (xb_d D_M_flow 85 rfl) rfl (fun hc52 => ?_) (fun hc52 => ?_)
    · have hw := hw.1 hc52
      exact am_M_flow_L276 l hfl D A σ MC MS h0 Qr h50 hw p e s m args below meth c hC H locs ls k n hE (lv_sub hl [] rfl) hR hS (by omega) (by omega)
    · have hw := hw.2 hc52
      refine lv_aload_n hx hb (xb_d D_M_flow 86 rfl) rfl (lv_at hl 1 rfl) ?_
      refine lv_lload hx hb (xb_d D_M_flow 87 rfl) (lv_at hl 0 rfl) ?_
      have hk47 : xb_k h50 x0 = 9 := hEh50.k hk47
      refine xb_call0 (D := D) (A := A) (σ := σ) (h := h50) (d := 8) (maxL := 8) (rest := []) (av := [.ref x0, .long r49]) (fun T hT X => by obtain ⟨cb9, ra9, rb9, rc9⟩ := xb_recv (ci := 8) hR rfl hk47 (by decide); exact xt_invV X hx hown (hts _ m_36f12bf0) (hts _ m_cb58d8a1) (hts _ m_c5c944a0) (xt_sigOf (hts _ m_0889f0dc)) nm_M_branch (by rw [hT]; exact ra9) rb9 rc9 (g := F0 m 242 ls [.long r49, .ref x0]) rfl (argsL := [.long r49]) (rest := []) rfl rfl (by rw [hb]; exact (xb_d D_M_flow 88 rfl))) (ok_M_branch l hfl D A σ x0 r49 h50 _ hw) (hml.trans hl.1.symm) (by rw [hb]; exact (xb_d D_M_flow 88 rfl)) (Nat.le_of_ble_eq_true rfl) (Nat.le_of_ble_eq_true rfl) (Nat.le_of_ble_eq_true rfl) (show k ≤ MC by omega) (show n ≤ MS by omega) (xt_w1 hB.1 m_0889f0dc) (xt_cdOf hB.1 m_0889f0dc) (hts _ m_d5ed7bed) hB hR hS hA (fun vv h53 H locs hq hEh53 hR hS => ?_)
      obtain ⟨rfl, hw⟩ := hq
      have hw := hw hEh53
      have hE := hE.tr hEh53
      refine W.eq (g2 := F0 m 245 ls []) rfl ?_
      refine lv_goto (tgt := 276) hx hb (xb_d D_M_flow 89 rfl) rfl ?_
      exact am_M_flow_L276 l hfl D A σ MC MS h0 Qr h53 hw p e s m args below meth c hC H locs ls k n hE (lv_sub hl [] rfl) hR hS (by omega) (by omega)
  have hw := hw.2
  by_cases hc55 : x2 = 14
  · have hw := hw.1 hc55
    refine xt_numi hc55 ?_
    refine lv_tableIn (off := 247) (tgt := 248) hx hb (xb_d D_M_flow 1 rfl) (by decide +kernel) (by decide +kernel) (by decide +kernel) (by decide) ?_
    refine lv_aload_n hx hb (xb_d D_M_flow 90 rfl) rfl (lv_at hl 0 rfl) ?_
    obtain ⟨hk56, hw⟩ := hw
    refine xb_call0 (D := D) (A := A) (σ := σ) (h := h) (d := 9) (maxL := 12) (rest := []) (av := [.ref x0]) (fun T hT X => by obtain ⟨cb9, ra9, rb9, rc9⟩ := xb_recv (ci := 8) hR rfl hk56 (by decide); exact xt_invV X hx hown (hts _ m_2cb12b25) (hts _ m_3715d3ad) (hts _ m_66b08ea9) (xt_sigOf (hts _ m_e0576e60)) nm_M_byTable (by rw [hT]; exact ra9) rb9 rc9 (g := F0 m 249 ls [.ref x0]) rfl (argsL := []) (rest := []) rfl rfl (by rw [hb]; exact (xb_d D_M_flow 91 rfl))) (ok_M_byTable l hfl D A σ x0 h _ hw) (hml.trans hl.1.symm) (by rw [hb]; exact (xb_d D_M_flow 91 rfl)) (Nat.le_of_ble_eq_true rfl) (Nat.le_of_ble_eq_true rfl) (Nat.le_of_ble_eq_true rfl) (show k ≤ MC by omega) (show n ≤ MS by omega) (xt_w1 hB.1 m_e0576e60) (xt_cdOf hB.1 m_e0576e60) (hts _ m_d5ed7bed) hB hR hS hA (fun vv h57 H locs hq hEh57 hR hS => ?_)
    obtain ⟨rfl, hw⟩ := hq
    have hw := hw hEh57
    have hE := hE.tr hEh57
    refine W.eq (g2 := F0 m 252 ls []) rfl ?_
    refine lv_goto (tgt := 276) hx hb (xb_d D_M_flow 92 rfl) rfl ?_
    exact am_M_flow_L276 l hfl D A σ MC MS h0 Qr h57 hw p e s m args below meth c hC H locs ls k n hE (lv_sub hl [] rfl) hR hS (by omega) (by omega)
  have hw := hw.2
  by_cases hc59 : x2 = 15
  · have hw := hw.1 hc59
    refine xt_numi hc59 ?_
    refine lv_tableIn (off := 254) (tgt := 255) hx hb (xb_d D_M_flow 1 rfl) (by decide +kernel) (by decide +kernel) (by decide +kernel) (by decide) ?_
    refine lv_aload_n hx hb (xb_d D_M_flow 93 rfl) rfl (lv_at hl 0 rfl) ?_
    refine lv_aload_n hx hb (xb_d D_M_flow 94 rfl) rfl (lv_at hl 0 rfl) ?_
    obtain ⟨hk60, hw⟩ := hw
    refine xb_getI (C := R_M) (T := F_M) (N := 97) hx hb 8 81 hts fin_M hown hR hk60 (by decide) rfl (by decide) rfl (hts _ m_65743087) (fun _ h9 => h9) (xb_d D_M_flow 95 rfl) ?_
    refine lv_iconst (v := 1) hx hb (xb_d D_M_flow 96 rfl) (by decide) ?_
    refine lv_isub hx hb (xb_d D_M_flow 97 rfl) ?_
    refine lv_aload_n hx hb (xb_d D_M_flow 98 rfl) rfl (lv_at hl 0 rfl) ?_
    refine xb_getP (C := R_M) (T := F_M) (N := 97) hx hb 8 73 hts fin_M hown hR hk60 (by decide) rfl (by decide) rfl (hts _ m_6c9efdee) (fun _ h9 => h9) (xb_d D_M_flow 99 rfl) ?_
    obtain ⟨b61, eb61, hw⟩ := hw
    refine xb_some eb61 ?_
    refine lv_iload_n hx hb (xb_d D_M_flow 100 rfl) rfl (lv_at hl 1 rfl) ?_
    obtain ⟨hk63, hw⟩ := hw
    obtain ⟨hi62, hw⟩ := hw
    refine xb_iald hx hb hR hk63 hi62 (xb_d D_M_flow 101 rfl) ?_
    refine lv_isub hx hb (xb_d D_M_flow 102 rfl) ?_
    refine lv_i2l hx hb (xb_d D_M_flow 103 rfl) rfl ?_
    refine xb_call0 (D := D) (A := A) (σ := σ) (h := h) (d := 8) (maxL := 8) (rest := []) (av := [.ref x0, .long (Int32.toInt64 (((xb_i h x0 81) - 1) - (xb_i h b61 (Int32.toNatClampNeg x1))))]) (fun T hT X => by obtain ⟨cb9, ra9, rb9, rc9⟩ := xb_recv (ci := 8) hR rfl hk60 (by decide); exact xt_invV X hx hown (hts _ m_36f12bf0) (hts _ m_cb58d8a1) (hts _ m_c5c944a0) (xt_sigOf (hts _ m_0889f0dc)) nm_M_branch (by rw [hT]; exact ra9) rb9 rc9 (g := F0 m 270 ls [.long (Int32.toInt64 (((xb_i h x0 81) - 1) - (xb_i h b61 (Int32.toNatClampNeg x1)))), .ref x0]) rfl (argsL := [.long (Int32.toInt64 (((xb_i h x0 81) - 1) - (xb_i h b61 (Int32.toNatClampNeg x1))))]) (rest := []) rfl rfl (by rw [hb]; exact (xb_d D_M_flow 104 rfl))) (ok_M_branch l hfl D A σ x0 (Int32.toInt64 (((xb_i h x0 81) - 1) - (xb_i h b61 (Int32.toNatClampNeg x1)))) h _ hw) (hml.trans hl.1.symm) (by rw [hb]; exact (xb_d D_M_flow 104 rfl)) (Nat.le_of_ble_eq_true rfl) (Nat.le_of_ble_eq_true rfl) (Nat.le_of_ble_eq_true rfl) (show k ≤ MC by omega) (show n ≤ MS by omega) (xt_w1 hB.1 m_0889f0dc) (xt_cdOf hB.1 m_0889f0dc) (hts _ m_d5ed7bed) hB hR hS hA (fun vv h64 H locs hq hEh64 hR hS => ?_)
    obtain ⟨rfl, hw⟩ := hq
    have hw := hw hEh64
    have hE := hE.tr hEh64
    refine W.eq (g2 := F0 m 273 ls []) rfl ?_
    refine lv_goto (tgt := 276) hx hb (xb_d D_M_flow 105 rfl) rfl ?_
    exact am_M_flow_L276 l hfl D A σ MC MS h0 Qr h64 hw p e s m args below meth c hC H locs ls k n hE (lv_sub hl [] rfl) hR hS (by omega) (by omega)
  have hw := hw.2
  have hw := hw hc1 hc4 hc5 hc6 hc7 hc21 hc26 hc27 hc28 hc29 hc30 hc31 hc40 hc46 hc55 hc59
  refine lv_tableOut (tgt := 276) hx hb (xb_d D_M_flow 1 rfl) (by have a0 := xb_nl (0) 0 (by decide) hc1; have a1 := xb_nl (1) 1 (by decide) hc4; have a2 := xb_nl (2) 2 (by decide) hc5; have a3 := xb_nl (3) 3 (by decide) hc6; have a4 := xb_nl (4) 4 (by decide) hc7; have a5 := xb_nl (5) 5 (by decide) hc21; have a6 := xb_nl (6) 6 (by decide) hc26; have a7 := xb_nl (7) 7 (by decide) hc27; have a8 := xb_nl (8) 8 (by decide) hc28; have a9 := xb_nl (9) 9 (by decide) hc29; have a10 := xb_nl (10) 10 (by decide) hc30; have a11 := xb_nl (11) 11 (by decide) hc31; have a12 := xb_nl (12) 12 (by decide) hc40; have a13 := xb_nl (13) 13 (by decide) hc46; have a14 := xb_nl (14) 14 (by decide) hc55; have a15 := xb_nl (15) 15 (by decide) hc59; omega) (by decide) ?_
  exact am_M_flow_L276 l hfl D A σ MC MS h0 Qr h hw p e s m args below meth c hC H locs ls k n hE (lv_sub hl [] rfl) hR hS (by omega) (by omega)

theorem m_7601d8c0 : (.methodLink "StackHostModel" 694 y_M_byteAt : Cond) ∈ xt_tbl := xt_in (xt_t13 (List.mem_of_getElem? (i := 130) (by decide +kernel))) (by decide +kernel)
theorem m_db427bb0 : (.instanceMethod y_M_byteAt : Cond) ∈ xt_tbl := xt_in (xt_t13 (List.mem_of_getElem? (i := 132) (by decide +kernel))) (by decide +kernel)
theorem m_43ee10e5 : (.selects "StackHostModel" y_M_byteAt y_M_byteAt : Cond) ∈ xt_tbl := xt_in (xt_v17 (q := (⟨"StackHostModel", "byteAt", "(IJ)I"⟩, 97)) (List.mem_of_getElem? (i := 5) (by decide +kernel))) (by decide +kernel)
theorem m_51efdffd : (.code y_M_byteAt b_M_byteAt 4 (some .int) : Cond) ∈ xt_tbl := xt_in (xt_t13 (List.mem_of_getElem? (i := 133) (by decide +kernel))) (by decide +kernel)
theorem m_272de6ed : (.methodLink "StackHostModel" 531 y_M_storeByte : Cond) ∈ xt_tbl := xt_in (xt_t12 (List.mem_of_getElem? (i := 109) (by decide +kernel))) (by decide +kernel)
theorem m_ac860a0e : (.instanceMethod y_M_storeByte : Cond) ∈ xt_tbl := xt_in (xt_t12 (List.mem_of_getElem? (i := 111) (by decide +kernel))) (by decide +kernel)
theorem m_c2d1fdae : (.selects "StackHostModel" y_M_storeByte y_M_storeByte : Cond) ∈ xt_tbl := xt_in (xt_v14 (q := (⟨"StackHostModel", "storeByte", "(IJI)V"⟩, 97)) (List.mem_of_getElem? (i := 3) (by decide +kernel))) (by decide +kernel)
theorem m_cf5c56c3 : (.code y_M_storeByte b_M_storeByte 5 none : Cond) ∈ xt_tbl := xt_in (xt_t12 (List.mem_of_getElem? (i := 112) (by decide +kernel))) (by decide +kernel)
theorem m_f1c64150 : (.methodLink "StackHostModel" 691 y_M_pagesOf : Cond) ∈ xt_tbl := xt_in (xt_t13 (List.mem_of_getElem? (i := 126) (by decide +kernel))) (by decide +kernel)
theorem m_314237fa : (.instanceMethod y_M_pagesOf : Cond) ∈ xt_tbl := xt_in (xt_t13 (List.mem_of_getElem? (i := 128) (by decide +kernel))) (by decide +kernel)
theorem m_71118831 : (.selects "StackHostModel" y_M_pagesOf y_M_pagesOf : Cond) ∈ xt_tbl := xt_in (xt_v17 (q := (⟨"StackHostModel", "pagesOf", "(II)V"⟩, 97)) (List.mem_of_getElem? (i := 4) (by decide +kernel))) (by decide +kernel)
theorem m_91172b07 : (.code y_M_pagesOf b_M_pagesOf 10 none : Cond) ∈ xt_tbl := xt_in (xt_t13 (List.mem_of_getElem? (i := 129) (by decide +kernel))) (by decide +kernel)
theorem nm_M_byteAt : xt_nm y_M_byteAt 2 := ⟨by decide +kernel, by decide +kernel⟩
theorem nm_M_storeByte : xt_nm y_M_storeByte 3 := ⟨by decide +kernel, by decide +kernel⟩
theorem nm_M_pagesOf : xt_nm y_M_pagesOf 2 := ⟨by decide +kernel, by decide +kernel⟩
set_option maxRecDepth 100000 in
def T_M_inMemory : List (Nat × Instr × Nat) := [(0, .aload_n 0, 1), (1, .getfield 202, 3), (4, .istore_n 3, 1), (5, .aload_n 0, 1), (6, .iload_n 1, 1), (7, .iconst 2, 1), (8, .invokevirtual 522, 3), (11, .istore 4, 2), (13, .aload_n 0, 1), (14, .aload_n 0, 1), (15, .getfield 62, 3), (18, .iload_n 1, 1), (19, .iaload, 1), (20, .iload_n 3, 1), (21, .invokevirtual 324, 3), (24, .iload_n 2, 1), (25, .bipush 63, 2), (27, .if_icmp .eq 9, 3), (30, .iload_n 2, 1), (31, .bipush 64, 2), (33, .if_icmp .ne 18, 3), (36, .aload_n 0, 1), (37, .iload 4, 2), (39, .iload_n 2, 1), (40, .invokevirtual 691, 3), (43, .aload_n 0, 1), (44, .iload_n 3, 1), (45, .iconst 1, 1), (46, .iadd, 1), (47, .putfield 202, 3), (50, .return_, 1), (51, .aload_n 0, 1), (52, .invokevirtual 218, 3), (55, .pop2, 1), (56, .aload_n 0, 1), (57, .invokevirtual 218, 3), (60, .lstore 5, 2), (62, .aload_n 0, 1), (63, .getfield 202, 3), (66, .istore 7, 2), (68, .iload_n 2, 1), (69, .invokestatic 448, 3), (72, .istore 8, 2), (74, .iload_n 2, 1), (75, .invokestatic 445, 3), (78, .istore 9, 2), (80, .iload_n 2, 1), (81, .bipush 54, 2), (83, .if_icmp .lt 12, 3), (86, .aload_n 0, 1), (87, .iload 8, 2), (89, .invokevirtual 634, 3), (92, .goto 4, 3), (95, .lconst 0, 1), (96, .lstore 10, 2), (98, .aload_n 0, 1), (99, .bipush 127, 2), (101, .invokevirtual 634, 3), (104, .ldc2_w 517, 3), (107, .land, 1), (108, .lload 5, 2), (110, .ladd, 1), (111, .lstore 12, 2), (113, .aload_n 0, 1), (114, .iload 7, 2), (116, .putfield 202, 3), (119, .lload 12, 2), (121, .iload 9, 2), (123, .i2l, 1), (124, .ladd, 1), (125, .ldc2_w 352, 3), (128, .aload_n 0, 1), (129, .getfield 111, 3), (132, .iload 4, 2), (134, .iaload, 1), (135, .i2l, 1), (136, .lmul, 1), (137, .lcmp, 1), (138, .ifCond .le 9, 3), (141, .aload_n 0, 1), (142, .iconst 2, 1), (143, .putfield 625, 3), (146, .return_, 1), (147, .iload_n 2, 1), (148, .bipush 54, 2), (150, .if_icmp .lt 41, 3), (153, .iconst 0, 1), (154, .istore 14, 2), (156, .iload 14, 2), (158, .iload 9, 2), (160, .if_icmp .ge 30, 3), (163, .aload_n 0, 1), (164, .iload 4, 2), (166, .lload 12, 2), (168, .iload 14, 2), (170, .i2l, 1), (171, .ladd, 1), (172, .lload 10, 2), (174, .bipush 8, 2), (176, .iload 14, 2), (178, .imul, 1), (179, .lshr, 1), (180, .l2i, 1), (181, .invokevirtual 531, 3), (184, .iinc 14 1, 3), (187, .goto (-31), 3), (190, .return_, 1), (191, .iload 9, 2), (193, .iconst 1, 1), (194, .isub, 1), (195, .istore 14, 2), (197, .iload 14, 2), (199, .ifCond .lt 30, 3), (202, .lload 10, 2), (204, .bipush 8, 2), (206, .lshl, 1), (207, .aload_n 0, 1), (208, .iload 4, 2), (210, .lload 12, 2), (212, .iload 14, 2), (214, .i2l, 1), (215, .ladd, 1), (216, .invokevirtual 694, 3), (219, .i2l, 1), (220, .lor, 1), (221, .lstore 10, 2), (223, .iinc 14 (-1), 3), (226, .goto (-29), 3), (229, .iload_n 2, 1), (230, .bipush 44, 2), (232, .if_icmp .eq 27, 3), (235, .iload_n 2, 1), (236, .bipush 46, 2), (238, .if_icmp .eq 21, 3), (241, .iload_n 2, 1), (242, .bipush 48, 2), (244, .if_icmp .eq 15, 3), (247, .iload_n 2, 1), (248, .bipush 50, 2), (250, .if_icmp .eq 9, 3), (253, .iload_n 2, 1), (254, .bipush 52, 2), (256, .if_icmp .ne 7, 3), (259, .iconst 1, 1), (260, .goto 4, 3), (263, .iconst 0, 1), (264, .istore 14, 2), (266, .aload_n 0, 1), (267, .iload 14, 2), (269, .ifCond .eq 26, 3), (272, .lload 10, 2), (274, .bipush 64, 2), (276, .bipush 8, 2), (278, .iload 9, 2), (280, .imul, 1), (281, .isub, 1), (282, .lshl, 1), (283, .bipush 64, 2), (285, .bipush 8, 2), (287, .iload 9, 2), (289, .imul, 1), (290, .isub, 1), (291, .lshr, 1), (292, .goto 5, 3), (295, .lload 10, 2), (297, .iload 8, 2), (299, .invokevirtual 628, 3), (302, .return_, 1)]
theorem D_M_inMemory : ∀ q ∈ T_M_inMemory, decode b_M_inMemory q.1 = .ok (q.2.1, q.2.2) := by decide +kernel

set_option maxHeartbeats 4000000 in
set_option maxRecDepth 100000 in
theorem am_M_inMemory_L297 (l : Launch) (hfl : l.flags = pinnedFlags ++ [noTraceFlag]) (D : va_G) (A : Nat → Prop) (σ MC MS : Nat) (h0 : xb_H) (Qr : xb_H → Prop) (x8 : Int32) (y0 : Int64) (y1 : Nat) (h : xb_H) (hw : w_M_inMemory_L297 Qr x8 y0 y1 h) : xb_am l D A σ 10 MC MS h0 (fun v h _ _ => v = none ∧ Qr h) (fun _ _ _ _ => False) y_M_inMemory.cls y_M_inMemory.name b_M_inMemory 15 ([] : List ExceptionTableEntry) none 297 [(8, .int x8)] [.long y0, .ref y1] h 0 0 := by
  unfold w_M_inMemory_L297 at hw
  intro p e s m args below meth c hC H locs ls k n hE hl hR hS hk hn
  obtain ⟨hx, hb, hown, hlocks, htab, hml, hr, hB, hA, hnm⟩ := id hC
  have hts := hB.1.1.at args
  refine lv_iload hx hb (xb_d D_M_inMemory 165 rfl) (lv_at hl 0 rfl) ?_
  obtain ⟨hk1, hw⟩ := hw
  refine xb_call0 (D := D) (A := A) (σ := σ) (h := h) (d := 2) (maxL := 4) (rest := []) (av := [.ref y1, .long y0, .int x8]) (fun T hT X => by obtain ⟨cb9, ra9, rb9, rc9⟩ := xb_recv (ci := 8) hR rfl hk1 (by decide); exact xt_invV X hx hown (hts _ m_1dd22d11) (hts _ m_e8ae1713) (hts _ m_973b740a) (xt_sigOf (hts _ m_a0d5a63e)) nm_M_add (by rw [hT]; exact ra9) rb9 rc9 (g := F0 m 299 ls [.int x8, .long y0, .ref y1]) rfl (argsL := [.long y0, .int x8]) (rest := []) rfl rfl (by rw [hb]; exact (xb_d D_M_inMemory 166 rfl))) (ok_M_add l hfl D A σ y1 y0 x8 h _ hw) (hml.trans hl.1.symm) (by rw [hb]; exact (xb_d D_M_inMemory 166 rfl)) (Nat.le_of_ble_eq_true rfl) (Nat.le_of_ble_eq_true rfl) (Nat.le_of_ble_eq_true rfl) (show k ≤ MC by omega) (show n ≤ MS by omega) (xt_w1 hB.1 m_a0d5a63e) (xt_cdOf hB.1 m_a0d5a63e) (hts _ m_d5ed7bed) hB hR hS hA (fun vv h2 H locs hq hEh2 hR hS => ?_)
  obtain ⟨rfl, hw⟩ := hq
  have hw := hw hEh2
  have hE := hE.tr hEh2
  refine W.eq (g2 := F0 m 302 ls []) rfl ?_
  exact xb_vret 0 0 hx hb hr hlocks (show k + 0 ≤ MC by omega) (show n + 0 ≤ MS by omega) hE hR hS (xb_d D_M_inMemory 167 rfl) hw

set_option maxHeartbeats 4000000 in
set_option maxRecDepth 100000 in
theorem am_M_inMemory_L264 (l : Launch) (hfl : l.flags = pinnedFlags ++ [noTraceFlag]) (D : va_G) (A : Nat → Prop) (σ MC MS : Nat) (h0 : xb_H) (Qr : xb_H → Prop) (x0 : Nat) (x8 : Int32) (x9 : Int32) (x10 : Int64) (y0 : Int32) (h : xb_H) (hw : w_M_inMemory_L264 Qr x0 x8 x9 x10 y0 h) : xb_am l D A σ 10 MC MS h0 (fun v h _ _ => v = none ∧ Qr h) (fun _ _ _ _ => False) y_M_inMemory.cls y_M_inMemory.name b_M_inMemory 15 ([] : List ExceptionTableEntry) none 264 [(0, .ref x0), (8, .int x8), (9, .int x9), (10, .long x10)] [.int y0] h 0 0 := by
  unfold w_M_inMemory_L264 at hw
  intro p e s m args below meth c hC H locs ls k n hE hl hR hS hk hn
  obtain ⟨hx, hb, hown, hlocks, htab, hml, hr, hB, hA, hnm⟩ := id hC
  have hts := hB.1.1.at args
  refine lv_istore hx hb (xb_d D_M_inMemory 146 rfl) hl (by decide) rfl (fun ls hl => ?_)
  have hl : lv_has ls 15 [(14, .int y0), (0, .ref x0), (8, .int x8), (9, .int x9), (10, .long x10)] := hl
  refine lv_aload_n hx hb (xb_d D_M_inMemory 147 rfl) rfl (lv_at hl 1 rfl) ?_
  refine lv_iload hx hb (xb_d D_M_inMemory 148 rfl) (lv_at hl 0 rfl) ?_
  refine lv_if_eq (tgt := 295) hx hb (xb_d D_M_inMemory 149 rfl) rfl (fun hc1 => ?_) (fun hc1 => ?_)
  · have hw := hw.1 hc1
    refine lv_lload hx hb (xb_d D_M_inMemory 164 rfl) (lv_at hl 4 rfl) ?_
    exact am_M_inMemory_L297 l hfl D A σ MC MS h0 Qr x8 x10 x0 h hw p e s m args below meth c hC H locs ls k n hE (lv_sub hl [2] rfl) hR hS (by omega) (by omega)
  · have hw := hw.2 hc1
    refine lv_lload hx hb (xb_d D_M_inMemory 150 rfl) (lv_at hl 4 rfl) ?_
    refine lv_bipush (v := 64) hx hb (xb_d D_M_inMemory 151 rfl) (by decide) ?_
    refine lv_bipush (v := 8) hx hb (xb_d D_M_inMemory 152 rfl) (by decide) ?_
    refine lv_iload hx hb (xb_d D_M_inMemory 153 rfl) (lv_at hl 3 rfl) ?_
    refine lv_imul hx hb (xb_d D_M_inMemory 154 rfl) ?_
    refine lv_isub hx hb (xb_d D_M_inMemory 155 rfl) ?_
    refine lv_lshl (v := (xb_lshl x10 (64 - (8 * x9)))) hx hb (xb_d D_M_inMemory 156 rfl) rfl ?_
    refine lv_bipush (v := 64) hx hb (xb_d D_M_inMemory 157 rfl) (by decide) ?_
    refine lv_bipush (v := 8) hx hb (xb_d D_M_inMemory 158 rfl) (by decide) ?_
    refine lv_iload hx hb (xb_d D_M_inMemory 159 rfl) (lv_at hl 3 rfl) ?_
    refine lv_imul hx hb (xb_d D_M_inMemory 160 rfl) ?_
    refine lv_isub hx hb (xb_d D_M_inMemory 161 rfl) ?_
    refine lv_lshr (v := (xb_lshr (xb_lshl x10 (64 - (8 * x9))) (64 - (8 * x9)))) hx hb (xb_d D_M_inMemory 162 rfl) rfl ?_
    refine lv_goto (tgt := 297) hx hb (xb_d D_M_inMemory 163 rfl) rfl ?_
    exact am_M_inMemory_L297 l hfl D A σ MC MS h0 Qr x8 (xb_lshr (xb_lshl x10 (64 - (8 * x9))) (64 - (8 * x9))) x0 h hw p e s m args below meth c hC H locs ls k n hE (lv_sub hl [2] rfl) hR hS (by omega) (by omega)

set_option maxHeartbeats 4000000 in
set_option maxRecDepth 100000 in
theorem am_M_inMemory_L259 (l : Launch) (hfl : l.flags = pinnedFlags ++ [noTraceFlag]) (D : va_G) (A : Nat → Prop) (σ MC MS : Nat) (h0 : xb_H) (Qr : xb_H → Prop) (x0 : Nat) (x8 : Int32) (x9 : Int32) (x10 : Int64) (h : xb_H) (hw : w_M_inMemory_L259 Qr x0 x8 x9 x10 h) : xb_am l D A σ 10 MC MS h0 (fun v h _ _ => v = none ∧ Qr h) (fun _ _ _ _ => False) y_M_inMemory.cls y_M_inMemory.name b_M_inMemory 15 ([] : List ExceptionTableEntry) none 259 [(0, .ref x0), (8, .int x8), (9, .int x9), (10, .long x10)] [] h 0 0 := by
  unfold w_M_inMemory_L259 at hw
  intro p e s m args below meth c hC H locs ls k n hE hl hR hS hk hn
  obtain ⟨hx, hb, hown, hlocks, htab, hml, hr, hB, hA, hnm⟩ := id hC
  have hts := hB.1.1.at args
  refine lv_iconst (v := 1) hx hb (xb_d D_M_inMemory 143 rfl) (by decide) ?_
  refine lv_goto (tgt := 264) hx hb (xb_d D_M_inMemory 144 rfl) rfl ?_
  exact am_M_inMemory_L264 l hfl D A σ MC MS h0 Qr x0 x8 x9 x10 1 h hw p e s m args below meth c hC H locs ls k n hE (lv_sub hl [0, 1, 2, 3] rfl) hR hS (by omega) (by omega)

set_option maxHeartbeats 4000000 in
set_option maxRecDepth 100000 in
theorem am_M_inMemory_L197 (l : Launch) (hfl : l.flags = pinnedFlags ++ [noTraceFlag]) (D : va_G) (A : Nat → Prop) (σ MC MS : Nat) (h0 : xb_H) (Qr : xb_H → Prop) (n9 : Nat) : ∀ (x0 : Nat) (x2 : Int32) (x4 : Int32) (x8 : Int32) (x9 : Int32) (x10 : Int64) (x12 : Int64) (x14 : Int32) (h : xb_H), w_M_inMemory_L197 Qr n9 x0 x2 x4 x8 x9 x10 x12 x14 h → xb_am l D A σ 10 MC MS h0 (fun v h _ _ => v = none ∧ Qr h) (fun _ _ _ _ => False) y_M_inMemory.cls y_M_inMemory.name b_M_inMemory 15 ([] : List ExceptionTableEntry) none 197 [(0, .ref x0), (2, .int x2), (4, .int x4), (8, .int x8), (9, .int x9), (10, .long x10), (12, .long x12), (14, .int x14)] [] h 0 0 := by
  induction n9 with
  | zero => intro x0 x2 x4 x8 x9 x10 x12 x14 h hw; exact False.elim hw
  | succ n9 ih =>
    intro x0 x2 x4 x8 x9 x10 x12 x14 h hw
    unfold w_M_inMemory_L197 at hw
    intro p e s m args below meth c hC H locs ls k n hE hl hR hS hk hn
    obtain ⟨hx, hb, hown, hlocks, htab, hml, hr, hB, hA, hnm⟩ := id hC
    have hts := hB.1.1.at args
    refine lv_iload hx hb (xb_d D_M_inMemory 111 rfl) (lv_at hl 7 rfl) ?_
    refine lv_if_lt (tgt := 229) hx hb (xb_d D_M_inMemory 112 rfl) rfl (fun hc1 => ?_) (fun hc1 => ?_)
    · have hw := hw.1 hc1
      refine lv_iload_n hx hb (xb_d D_M_inMemory 128 rfl) rfl (lv_at hl 1 rfl) ?_
      refine lv_bipush (v := 44) hx hb (xb_d D_M_inMemory 129 rfl) (by decide) ?_
      refine lv_icmp_eq (tgt := 259) hx hb (xb_d D_M_inMemory 130 rfl) rfl (fun hc2 => ?_) (fun hc2 => ?_)
      · have hw := hw.1 hc2
        exact am_M_inMemory_L259 l hfl D A σ MC MS h0 Qr x0 x8 x9 x10 h hw p e s m args below meth c hC H locs ls k n hE (lv_sub hl [0, 3, 4, 5] rfl) hR hS (by omega) (by omega)
      · have hw := hw.2 hc2
        refine lv_iload_n hx hb (xb_d D_M_inMemory 131 rfl) rfl (lv_at hl 1 rfl) ?_
        refine lv_bipush (v := 46) hx hb (xb_d D_M_inMemory 132 rfl) (by decide) ?_
        refine lv_icmp_eq (tgt := 259) hx hb (xb_d D_M_inMemory 133 rfl) rfl (fun hc3 => ?_) (fun hc3 => ?_)
        · have hw := hw.1 hc3
          exact am_M_inMemory_L259 l hfl D A σ MC MS h0 Qr x0 x8 x9 x10 h hw p e s m args below meth c hC H locs ls k n hE (lv_sub hl [0, 3, 4, 5] rfl) hR hS (by omega) (by omega)
        · have hw := hw.2 hc3
          refine lv_iload_n hx hb (xb_d D_M_inMemory 134 rfl) rfl (lv_at hl 1 rfl) ?_
          refine lv_bipush (v := 48) hx hb (xb_d D_M_inMemory 135 rfl) (by decide) ?_
          refine lv_icmp_eq (tgt := 259) hx hb (xb_d D_M_inMemory 136 rfl) rfl (fun hc4 => ?_) (fun hc4 => ?_)
          · have hw := hw.1 hc4
            exact am_M_inMemory_L259 l hfl D A σ MC MS h0 Qr x0 x8 x9 x10 h hw p e s m args below meth c hC H locs ls k n hE (lv_sub hl [0, 3, 4, 5] rfl) hR hS (by omega) (by omega)
          · have hw := hw.2 hc4
            refine lv_iload_n hx hb (xb_d D_M_inMemory 137 rfl) rfl (lv_at hl 1 rfl) ?_
            refine lv_bipush (v := 50) hx hb (xb_d D_M_inMemory 138 rfl) (by decide) ?_
            refine lv_icmp_eq (tgt := 259) hx hb (xb_d D_M_inMemory 139 rfl) rfl (fun hc5 => ?_) (fun hc5 => ?_)
            · have hw := hw.1 hc5
              exact am_M_inMemory_L259 l hfl D A σ MC MS h0 Qr x0 x8 x9 x10 h hw p e s m args below meth c hC H locs ls k n hE (lv_sub hl [0, 3, 4, 5] rfl) hR hS (by omega) (by omega)
            · have hw := hw.2 hc5
              refine lv_iload_n hx hb (xb_d D_M_inMemory 140 rfl) rfl (lv_at hl 1 rfl) ?_
              refine lv_bipush (v := 52) hx hb (xb_d D_M_inMemory 141 rfl) (by decide) ?_
              refine lv_icmp_ne (tgt := 263) hx hb (xb_d D_M_inMemory 142 rfl) rfl (fun hc6 => ?_) (fun hc6 => ?_)
              · have hw := hw.1 hc6
                refine lv_iconst (v := 0) hx hb (xb_d D_M_inMemory 145 rfl) (by decide) ?_
                exact am_M_inMemory_L264 l hfl D A σ MC MS h0 Qr x0 x8 x9 x10 0 h hw p e s m args below meth c hC H locs ls k n hE (lv_sub hl [0, 3, 4, 5] rfl) hR hS (by omega) (by omega)
              · have hw := hw.2 hc6
                exact am_M_inMemory_L259 l hfl D A σ MC MS h0 Qr x0 x8 x9 x10 h hw p e s m args below meth c hC H locs ls k n hE (lv_sub hl [0, 3, 4, 5] rfl) hR hS (by omega) (by omega)
    · have hw := hw.2 hc1
      refine lv_lload hx hb (xb_d D_M_inMemory 113 rfl) (lv_at hl 5 rfl) ?_
      refine lv_bipush (v := 8) hx hb (xb_d D_M_inMemory 114 rfl) (by decide) ?_
      refine lv_lshl (v := (xb_lshl x10 8)) hx hb (xb_d D_M_inMemory 115 rfl) rfl ?_
      refine lv_aload_n hx hb (xb_d D_M_inMemory 116 rfl) rfl (lv_at hl 0 rfl) ?_
      refine lv_iload hx hb (xb_d D_M_inMemory 117 rfl) (lv_at hl 2 rfl) ?_
      refine lv_lload hx hb (xb_d D_M_inMemory 118 rfl) (lv_at hl 6 rfl) ?_
      refine lv_iload hx hb (xb_d D_M_inMemory 119 rfl) (lv_at hl 7 rfl) ?_
      refine lv_i2l hx hb (xb_d D_M_inMemory 120 rfl) rfl ?_
      refine lv_ladd hx hb (xb_d D_M_inMemory 121 rfl) ?_
      obtain ⟨hk7, hw⟩ := hw
      refine xb_call0 (D := D) (A := A) (σ := σ) (h := h) (d := 3) (maxL := 4) (rest := [.long (xb_lshl x10 8)]) (av := [.ref x0, .int x4, .long (x12 + (Int32.toInt64 x14))]) (fun T hT X => by obtain ⟨cb9, ra9, rb9, rc9⟩ := xb_recv (ci := 8) hR rfl hk7 (by decide); exact xt_invV X hx hown (hts _ m_7601d8c0) (hts _ m_db427bb0) (hts _ m_43ee10e5) (xt_sigOf (hts _ m_51efdffd)) nm_M_byteAt (by rw [hT]; exact ra9) rb9 rc9 (g := F0 m 216 ls [.long (x12 + (Int32.toInt64 x14)), .int x4, .ref x0, .long (xb_lshl x10 8)]) rfl (argsL := [.int x4, .long (x12 + (Int32.toInt64 x14))]) (rest := [.long (xb_lshl x10 8)]) rfl rfl (by rw [hb]; exact (xb_d D_M_inMemory 122 rfl))) (ok_M_byteAt l hfl D A σ x0 x4 (x12 + (Int32.toInt64 x14)) h _ hw) (hml.trans hl.1.symm) (by rw [hb]; exact (xb_d D_M_inMemory 122 rfl)) (Nat.le_of_ble_eq_true rfl) (Nat.le_of_ble_eq_true rfl) (Nat.le_of_ble_eq_true rfl) (show k ≤ MC by omega) (show n ≤ MS by omega) (xt_w1 hB.1 m_51efdffd) (xt_cdOf hB.1 m_51efdffd) (hts _ m_d5ed7bed) hB hR hS hA (fun vv h8 H locs hq hEh8 hR hS => ?_)
      obtain ⟨r9, rfl, hw⟩ := hq
      have hw := hw hEh8
      have hE := hE.tr hEh8
      refine W.eq (g2 := F0 m 219 ls [.int r9, .long (xb_lshl x10 8)]) rfl ?_
      refine lv_i2l hx hb (xb_d D_M_inMemory 123 rfl) rfl ?_
      refine lv_lor hx hb (xb_d D_M_inMemory 124 rfl) ?_
      obtain ⟨v10, ev10⟩ : ∃ x : Int64, x = ((xb_lshl x10 8) ||| (Int32.toInt64 r9)) := ⟨_, rfl⟩
      have hw := hw v10 ev10
      refine xt_numl (y := v10) ev10.symm ?_
      refine lv_lstore hx hb (xb_d D_M_inMemory 125 rfl) hl (by decide) rfl (fun ls hl => ?_)
      have hl : lv_has ls 15 [(10, .long v10), (0, .ref x0), (2, .int x2), (4, .int x4), (8, .int x8), (9, .int x9), (12, .long x12), (14, .int x14)] := hl
      refine lv_iinc (v := (x14 + (-1))) (k := 7) hx hb (xb_d D_M_inMemory 126 rfl) hl rfl (by first | rfl | decide) (by decide) rfl (fun ls hl => ?_)
      have hl : lv_has ls 15 [(14, .int (x14 + (-1))), (10, .long v10), (0, .ref x0), (2, .int x2), (4, .int x4), (8, .int x8), (9, .int x9), (12, .long x12)] := hl
      refine lv_goto (tgt := 197) hx hb (xb_d D_M_inMemory 127 rfl) rfl ?_
      exact ih x0 x2 x4 x8 x9 v10 x12 (x14 + (-1)) h8 hw p e s m args below meth c hC H locs ls k n hE (lv_sub hl [2, 3, 4, 5, 6, 1, 7, 0] rfl) hR hS (by omega) (by omega)

set_option maxHeartbeats 4000000 in
set_option maxRecDepth 100000 in
theorem am_M_inMemory_L156 (l : Launch) (hfl : l.flags = pinnedFlags ++ [noTraceFlag]) (D : va_G) (A : Nat → Prop) (σ MC MS : Nat) (h0 : xb_H) (Qr : xb_H → Prop) (n9 : Nat) : ∀ (x0 : Nat) (x4 : Int32) (x9 : Int32) (x10 : Int64) (x12 : Int64) (x14 : Int32) (h : xb_H), w_M_inMemory_L156 Qr n9 x0 x4 x9 x10 x12 x14 h → xb_am l D A σ 10 MC MS h0 (fun v h _ _ => v = none ∧ Qr h) (fun _ _ _ _ => False) y_M_inMemory.cls y_M_inMemory.name b_M_inMemory 15 ([] : List ExceptionTableEntry) none 156 [(0, .ref x0), (4, .int x4), (9, .int x9), (10, .long x10), (12, .long x12), (14, .int x14)] [] h 0 0 := by
  induction n9 with
  | zero => intro x0 x4 x9 x10 x12 x14 h hw; exact False.elim hw
  | succ n9 ih =>
    intro x0 x4 x9 x10 x12 x14 h hw
    unfold w_M_inMemory_L156 at hw
    intro p e s m args below meth c hC H locs ls k n hE hl hR hS hk hn
    obtain ⟨hx, hb, hown, hlocks, htab, hml, hr, hB, hA, hnm⟩ := id hC
    have hts := hB.1.1.at args
    refine lv_iload hx hb (xb_d D_M_inMemory 88 rfl) (lv_at hl 5 rfl) ?_
    refine lv_iload hx hb (xb_d D_M_inMemory 89 rfl) (lv_at hl 2 rfl) ?_
    refine lv_icmp_ge (tgt := 190) hx hb (xb_d D_M_inMemory 90 rfl) rfl (fun hc1 => ?_) (fun hc1 => ?_)
    · have hw := hw.1 hc1
      exact xb_vret 0 0 hx hb hr hlocks (show k + 0 ≤ MC by omega) (show n + 0 ≤ MS by omega) hE hR hS (xb_d D_M_inMemory 106 rfl) hw
    · have hw := hw.2 hc1
      refine lv_aload_n hx hb (xb_d D_M_inMemory 91 rfl) rfl (lv_at hl 0 rfl) ?_
      refine lv_iload hx hb (xb_d D_M_inMemory 92 rfl) (lv_at hl 1 rfl) ?_
      refine lv_lload hx hb (xb_d D_M_inMemory 93 rfl) (lv_at hl 4 rfl) ?_
      refine lv_iload hx hb (xb_d D_M_inMemory 94 rfl) (lv_at hl 5 rfl) ?_
      refine lv_i2l hx hb (xb_d D_M_inMemory 95 rfl) rfl ?_
      refine lv_ladd hx hb (xb_d D_M_inMemory 96 rfl) ?_
      refine lv_lload hx hb (xb_d D_M_inMemory 97 rfl) (lv_at hl 3 rfl) ?_
      refine lv_bipush (v := 8) hx hb (xb_d D_M_inMemory 98 rfl) (by decide) ?_
      refine lv_iload hx hb (xb_d D_M_inMemory 99 rfl) (lv_at hl 5 rfl) ?_
      refine lv_imul hx hb (xb_d D_M_inMemory 100 rfl) ?_
      refine lv_lshr (v := (xb_lshr x10 (8 * x14))) hx hb (xb_d D_M_inMemory 101 rfl) rfl ?_
      refine lv_l2i hx hb (xb_d D_M_inMemory 102 rfl) rfl ?_
      obtain ⟨hk2, hw⟩ := hw
      refine xb_call0 (D := D) (A := A) (σ := σ) (h := h) (d := 3) (maxL := 5) (rest := []) (av := [.ref x0, .int x4, .long (x12 + (Int32.toInt64 x14)), .int (Int64.toInt32 (xb_lshr x10 (8 * x14)))]) (fun T hT X => by obtain ⟨cb9, ra9, rb9, rc9⟩ := xb_recv (ci := 8) hR rfl hk2 (by decide); exact xt_invV X hx hown (hts _ m_272de6ed) (hts _ m_ac860a0e) (hts _ m_c2d1fdae) (xt_sigOf (hts _ m_cf5c56c3)) nm_M_storeByte (by rw [hT]; exact ra9) rb9 rc9 (g := F0 m 181 ls [.int (Int64.toInt32 (xb_lshr x10 (8 * x14))), .long (x12 + (Int32.toInt64 x14)), .int x4, .ref x0]) rfl (argsL := [.int x4, .long (x12 + (Int32.toInt64 x14)), .int (Int64.toInt32 (xb_lshr x10 (8 * x14)))]) (rest := []) rfl rfl (by rw [hb]; exact (xb_d D_M_inMemory 103 rfl))) (ok_M_storeByte l hfl D A σ x0 x4 (x12 + (Int32.toInt64 x14)) (Int64.toInt32 (xb_lshr x10 (8 * x14))) h _ hw) (hml.trans hl.1.symm) (by rw [hb]; exact (xb_d D_M_inMemory 103 rfl)) (Nat.le_of_ble_eq_true rfl) (Nat.le_of_ble_eq_true rfl) (Nat.le_of_ble_eq_true rfl) (show k ≤ MC by omega) (show n ≤ MS by omega) (xt_w1 hB.1 m_cf5c56c3) (xt_cdOf hB.1 m_cf5c56c3) (hts _ m_d5ed7bed) hB hR hS hA (fun vv h3 H locs hq hEh3 hR hS => ?_)
      obtain ⟨rfl, hw⟩ := hq
      have hw := hw hEh3
      have hE := hE.tr hEh3
      refine W.eq (g2 := F0 m 184 ls []) rfl ?_
      refine lv_iinc (v := (x14 + 1)) (k := 5) hx hb (xb_d D_M_inMemory 104 rfl) hl rfl (by first | rfl | decide) (by decide) rfl (fun ls hl => ?_)
      have hl : lv_has ls 15 [(14, .int (x14 + 1)), (0, .ref x0), (4, .int x4), (9, .int x9), (10, .long x10), (12, .long x12)] := hl
      refine lv_goto (tgt := 156) hx hb (xb_d D_M_inMemory 105 rfl) rfl ?_
      exact ih x0 x4 x9 x10 x12 (x14 + 1) h3 hw p e s m args below meth c hC H locs ls k n hE (lv_sub hl [1, 2, 3, 4, 5, 0] rfl) hR hS (by omega) (by omega)

set_option maxHeartbeats 4000000 in
set_option maxRecDepth 100000 in
theorem am_M_inMemory_L96 (l : Launch) (hfl : l.flags = pinnedFlags ++ [noTraceFlag]) (D : va_G) (A : Nat → Prop) (σ MC MS : Nat) (h0 : xb_H) (Qr : xb_H → Prop) (x0 : Nat) (x2 : Int32) (x4 : Int32) (x5 : Int64) (x7 : Int32) (x8 : Int32) (x9 : Int32) (y0 : Int64) (h : xb_H) (hw : w_M_inMemory_L96 Qr x0 x2 x4 x5 x7 x8 x9 y0 h) : xb_am l D A σ 10 MC MS h0 (fun v h _ _ => v = none ∧ Qr h) (fun _ _ _ _ => False) y_M_inMemory.cls y_M_inMemory.name b_M_inMemory 15 ([] : List ExceptionTableEntry) none 96 [(0, .ref x0), (2, .int x2), (4, .int x4), (5, .long x5), (7, .int x7), (8, .int x8), (9, .int x9)] [.long y0] h 0 0 := by
  unfold w_M_inMemory_L96 at hw
  intro p e s m args below meth c hC H locs ls k n hE hl hR hS hk hn
  obtain ⟨hx, hb, hown, hlocks, htab, hml, hr, hB, hA, hnm⟩ := id hC
  have hts := hB.1.1.at args
  refine lv_lstore hx hb (xb_d D_M_inMemory 54 rfl) hl (by decide) rfl (fun ls hl => ?_)
  have hl : lv_has ls 15 [(10, .long y0), (0, .ref x0), (2, .int x2), (4, .int x4), (5, .long x5), (7, .int x7), (8, .int x8), (9, .int x9)] := hl
  refine lv_aload_n hx hb (xb_d D_M_inMemory 55 rfl) rfl (lv_at hl 1 rfl) ?_
  refine lv_bipush (v := 127) hx hb (xb_d D_M_inMemory 56 rfl) (by decide) ?_
  obtain ⟨hk1, hw⟩ := hw
  refine xb_call0 (D := D) (A := A) (σ := σ) (h := h) (d := 2) (maxL := 2) (rest := []) (av := [.ref x0, .int 127]) (fun T hT X => by obtain ⟨cb9, ra9, rb9, rc9⟩ := xb_recv (ci := 8) hR rfl hk1 (by decide); exact xt_invV X hx hown (hts _ m_ce40dc40) (hts _ m_c3a002b8) (hts _ m_395c99b5) (xt_sigOf (hts _ m_1ea89357)) nm_M_pop (by rw [hT]; exact ra9) rb9 rc9 (g := F0 m 101 ls [.int 127, .ref x0]) rfl (argsL := [.int 127]) (rest := []) rfl rfl (by rw [hb]; exact (xb_d D_M_inMemory 57 rfl))) (ok_M_pop l hfl D A σ x0 127 h _ hw) (hml.trans hl.1.symm) (by rw [hb]; exact (xb_d D_M_inMemory 57 rfl)) (Nat.le_of_ble_eq_true rfl) (Nat.le_of_ble_eq_true rfl) (Nat.le_of_ble_eq_true rfl) (show k ≤ MC by omega) (show n ≤ MS by omega) (xt_w1 hB.1 m_1ea89357) (xt_cdOf hB.1 m_1ea89357) (hts _ m_d5ed7bed) hB hR hS hA (fun vv h2 H locs hq hEh2 hR hS => ?_)
  obtain ⟨r3, rfl, hw⟩ := hq
  have hw := hw hEh2
  have hE := hE.tr hEh2
  refine W.eq (g2 := F0 m 104 ls [.long r3]) rfl ?_
  refine lv_ldc2 (v := 4294967295) hx hb hown (hts _ m_92d51c6a) (xb_d D_M_inMemory 58 rfl) ?_
  refine lv_land hx hb (xb_d D_M_inMemory 59 rfl) ?_
  refine lv_lload hx hb (xb_d D_M_inMemory 60 rfl) (lv_at hl 4 rfl) ?_
  refine lv_ladd hx hb (xb_d D_M_inMemory 61 rfl) ?_
  obtain ⟨v4, ev4⟩ : ∃ x : Int64, x = ((r3 &&& 4294967295) + x5) := ⟨_, rfl⟩
  have hw := hw v4 ev4
  refine xt_numl (y := v4) ev4.symm ?_
  refine lv_lstore hx hb (xb_d D_M_inMemory 62 rfl) hl (by decide) rfl (fun ls hl => ?_)
  have hl : lv_has ls 15 [(12, .long v4), (10, .long y0), (0, .ref x0), (2, .int x2), (4, .int x4), (5, .long x5), (7, .int x7), (8, .int x8), (9, .int x9)] := hl
  refine lv_aload_n hx hb (xb_d D_M_inMemory 63 rfl) rfl (lv_at hl 2 rfl) ?_
  refine lv_iload hx hb (xb_d D_M_inMemory 64 rfl) (lv_at hl 6 rfl) ?_
  have hk1 : xb_k h2 x0 = 9 := hEh2.k hk1
  refine xb_putI (C := R_M) (T := F_M) (N := 97) (ty := .int) (x := x7) hx hb 8 15 hts fin_M t_M t_M_ok n_M hown hR hS hk1 (by decide) rfl (by decide) rfl (hts _ m_6c2d27ad) (fun _ h9 => h9) rfl (by decide +kernel) rfl rfl (xb_d D_M_inMemory 65 rfl) (fun H locs hR hS => ?_)
  obtain ⟨h5, eh5⟩ : ∃ x : xb_H, x = xb_I h2 x0 15 x7 := ⟨_, rfl⟩
  rw [← eh5] at hR
  have hw := hw h5 eh5
  have hE : xb_ext h0 h5 := by rw [eh5]; exact hE
  refine lv_lload hx hb (xb_d D_M_inMemory 66 rfl) (lv_at hl 0 rfl) ?_
  refine lv_iload hx hb (xb_d D_M_inMemory 67 rfl) (lv_at hl 8 rfl) ?_
  refine lv_i2l hx hb (xb_d D_M_inMemory 68 rfl) rfl ?_
  refine lv_ladd hx hb (xb_d D_M_inMemory 69 rfl) ?_
  refine lv_ldc2 (v := 65536) hx hb hown (hts _ m_4fda1f04) (xb_d D_M_inMemory 70 rfl) ?_
  refine lv_aload_n hx hb (xb_d D_M_inMemory 71 rfl) rfl (lv_at hl 2 rfl) ?_
  have hk1 : xb_k h5 x0 = 9 := by rw [eh5]; exact hk1
  refine xb_getP (C := R_M) (T := F_M) (N := 97) hx hb 8 54 hts fin_M hown hR hk1 (by decide) rfl (by decide) rfl (hts _ m_605483d9) (fun _ h9 => h9) (xb_d D_M_inMemory 72 rfl) ?_
  obtain ⟨b6, eb6, hw⟩ := hw
  refine xb_some eb6 ?_
  refine lv_iload hx hb (xb_d D_M_inMemory 73 rfl) (lv_at hl 4 rfl) ?_
  obtain ⟨hk8, hw⟩ := hw
  obtain ⟨hi7, hw⟩ := hw
  refine xb_iald hx hb hR hk8 hi7 (xb_d D_M_inMemory 74 rfl) ?_
  refine lv_i2l hx hb (xb_d D_M_inMemory 75 rfl) rfl ?_
  refine lv_lmul hx hb (xb_d D_M_inMemory 76 rfl) ?_
  refine xb_lc_le (tgt := 147) hx hb (xb_d D_M_inMemory 77 rfl) (xb_d D_M_inMemory 78 rfl) rfl (fun hc9 => ?_) (fun hc9 => ?_)
  · have hw := hw.1 hc9
    refine lv_iload_n hx hb (xb_d D_M_inMemory 83 rfl) rfl (lv_at hl 3 rfl) ?_
    refine lv_bipush (v := 54) hx hb (xb_d D_M_inMemory 84 rfl) (by decide) ?_
    refine lv_icmp_lt (tgt := 191) hx hb (xb_d D_M_inMemory 85 rfl) rfl (fun hc10 => ?_) (fun hc10 => ?_)
    · have hw := hw.1 hc10
      refine lv_iload hx hb (xb_d D_M_inMemory 107 rfl) (lv_at hl 8 rfl) ?_
      refine lv_iconst (v := 1) hx hb (xb_d D_M_inMemory 108 rfl) (by decide) ?_
      refine lv_isub hx hb (xb_d D_M_inMemory 109 rfl) ?_
      obtain ⟨v11, ev11⟩ : ∃ x : Int32, x = (x9 - 1) := ⟨_, rfl⟩
      have hw := hw v11 ev11
      refine xt_numi (y := v11) ev11.symm ?_
      refine lv_istore hx hb (xb_d D_M_inMemory 110 rfl) hl (by decide) rfl (fun ls hl => ?_)
      have hl : lv_has ls 15 [(14, .int v11), (12, .long v4), (10, .long y0), (0, .ref x0), (2, .int x2), (4, .int x4), (5, .long x5), (7, .int x7), (8, .int x8), (9, .int x9)] := hl
      obtain ⟨n8, hw⟩ := hw
      exact am_M_inMemory_L197 l hfl D A σ MC MS h0 Qr n8 x0 x2 x4 x8 x9 y0 v4 v11 h5 hw p e s m args below meth c hC H locs ls k n hE (lv_sub hl [3, 4, 5, 8, 9, 2, 1, 0] rfl) hR hS (by omega) (by omega)
    · have hw := hw.2 hc10
      refine lv_iconst (v := 0) hx hb (xb_d D_M_inMemory 86 rfl) (by decide) ?_
      refine lv_istore hx hb (xb_d D_M_inMemory 87 rfl) hl (by decide) rfl (fun ls hl => ?_)
      have hl : lv_has ls 15 [(14, .int 0), (12, .long v4), (10, .long y0), (0, .ref x0), (2, .int x2), (4, .int x4), (5, .long x5), (7, .int x7), (8, .int x8), (9, .int x9)] := hl
      obtain ⟨n8, hw⟩ := hw
      exact am_M_inMemory_L156 l hfl D A σ MC MS h0 Qr n8 x0 x4 x9 y0 v4 0 h5 hw p e s m args below meth c hC H locs ls k n hE (lv_sub hl [3, 5, 9, 2, 1, 0] rfl) hR hS (by omega) (by omega)
  · have hw := hw.2 hc9
    refine lv_aload_n hx hb (xb_d D_M_inMemory 79 rfl) rfl (lv_at hl 2 rfl) ?_
    refine lv_iconst (v := 2) hx hb (xb_d D_M_inMemory 80 rfl) (by decide) ?_
    refine xb_putI (C := R_M) (T := F_M) (N := 97) (ty := .int) (x := 2) hx hb 8 82 hts fin_M t_M t_M_ok n_M hown hR hS hk1 (by decide) rfl (by decide) rfl (hts _ m_ad343437) (fun _ h9 => h9) rfl (by decide +kernel) rfl rfl (xb_d D_M_inMemory 81 rfl) (fun H locs hR hS => ?_)
    obtain ⟨h12, eh12⟩ : ∃ x : xb_H, x = xb_I h5 x0 82 2 := ⟨_, rfl⟩
    rw [← eh12] at hR
    have hw := hw h12 eh12
    have hE : xb_ext h0 h12 := by rw [eh12]; exact hE
    exact xb_vret 0 0 hx hb hr hlocks (show k + 0 ≤ MC by omega) (show n + 0 ≤ MS by omega) hE hR hS (xb_d D_M_inMemory 82 rfl) hw

set_option maxHeartbeats 4000000 in
set_option maxRecDepth 100000 in
theorem am_M_inMemory_L36 (l : Launch) (hfl : l.flags = pinnedFlags ++ [noTraceFlag]) (D : va_G) (A : Nat → Prop) (σ MC MS : Nat) (h0 : xb_H) (Qr : xb_H → Prop) (x0 : Nat) (x2 : Int32) (x3 : Int32) (x4 : Int32) (h : xb_H) (hw : w_M_inMemory_L36 Qr x0 x2 x3 x4 h) : xb_am l D A σ 10 MC MS h0 (fun v h _ _ => v = none ∧ Qr h) (fun _ _ _ _ => False) y_M_inMemory.cls y_M_inMemory.name b_M_inMemory 15 ([] : List ExceptionTableEntry) none 36 [(0, .ref x0), (2, .int x2), (3, .int x3), (4, .int x4)] [] h 0 0 := by
  unfold w_M_inMemory_L36 at hw
  intro p e s m args below meth c hC H locs ls k n hE hl hR hS hk hn
  obtain ⟨hx, hb, hown, hlocks, htab, hml, hr, hB, hA, hnm⟩ := id hC
  have hts := hB.1.1.at args
  refine lv_aload_n hx hb (xb_d D_M_inMemory 21 rfl) rfl (lv_at hl 0 rfl) ?_
  refine lv_iload hx hb (xb_d D_M_inMemory 22 rfl) (lv_at hl 3 rfl) ?_
  refine lv_iload_n hx hb (xb_d D_M_inMemory 23 rfl) rfl (lv_at hl 1 rfl) ?_
  obtain ⟨hk1, hw⟩ := hw
  refine xb_call0 (D := D) (A := A) (σ := σ) (h := h) (d := 3) (maxL := 10) (rest := []) (av := [.ref x0, .int x4, .int x2]) (fun T hT X => by obtain ⟨cb9, ra9, rb9, rc9⟩ := xb_recv (ci := 8) hR rfl hk1 (by decide); exact xt_invV X hx hown (hts _ m_f1c64150) (hts _ m_314237fa) (hts _ m_71118831) (xt_sigOf (hts _ m_91172b07)) nm_M_pagesOf (by rw [hT]; exact ra9) rb9 rc9 (g := F0 m 40 ls [.int x2, .int x4, .ref x0]) rfl (argsL := [.int x4, .int x2]) (rest := []) rfl rfl (by rw [hb]; exact (xb_d D_M_inMemory 24 rfl))) (ok_M_pagesOf l hfl D A σ x0 x4 x2 h _ hw) (hml.trans hl.1.symm) (by rw [hb]; exact (xb_d D_M_inMemory 24 rfl)) (Nat.le_of_ble_eq_true rfl) (Nat.le_of_ble_eq_true rfl) (Nat.le_of_ble_eq_true rfl) (show k ≤ MC by omega) (show n ≤ MS by omega) (xt_w1 hB.1 m_91172b07) (xt_cdOf hB.1 m_91172b07) (hts _ m_d5ed7bed) hB hR hS hA (fun vv h2 H locs hq hEh2 hR hS => ?_)
  obtain ⟨rfl, hw⟩ := hq
  have hw := hw hEh2
  have hE := hE.tr hEh2
  refine W.eq (g2 := F0 m 43 ls []) rfl ?_
  refine lv_aload_n hx hb (xb_d D_M_inMemory 25 rfl) rfl (lv_at hl 0 rfl) ?_
  refine lv_iload_n hx hb (xb_d D_M_inMemory 26 rfl) rfl (lv_at hl 2 rfl) ?_
  refine lv_iconst (v := 1) hx hb (xb_d D_M_inMemory 27 rfl) (by decide) ?_
  refine lv_iadd hx hb (xb_d D_M_inMemory 28 rfl) ?_
  have hk1 : xb_k h2 x0 = 9 := hEh2.k hk1
  refine xb_putI (C := R_M) (T := F_M) (N := 97) (ty := .int) (x := (x3 + 1)) hx hb 8 15 hts fin_M t_M t_M_ok n_M hown hR hS hk1 (by decide) rfl (by decide) rfl (hts _ m_6c2d27ad) (fun _ h9 => h9) rfl (by decide +kernel) rfl rfl (xb_d D_M_inMemory 29 rfl) (fun H locs hR hS => ?_)
  obtain ⟨h4, eh4⟩ : ∃ x : xb_H, x = xb_I h2 x0 15 (x3 + 1) := ⟨_, rfl⟩
  rw [← eh4] at hR
  have hw := hw h4 eh4
  have hE : xb_ext h0 h4 := by rw [eh4]; exact hE
  exact xb_vret 0 0 hx hb hr hlocks (show k + 0 ≤ MC by omega) (show n + 0 ≤ MS by omega) hE hR hS (xb_d D_M_inMemory 30 rfl) hw

set_option maxHeartbeats 4000000 in
set_option maxRecDepth 100000 in
theorem ok_M_inMemory (l : Launch) (hfl : l.flags = pinnedFlags ++ [noTraceFlag]) (D : va_G) (A : Nat → Prop) (σ : Nat) (x0 : Nat) (x1 : Int32) (x2 : Int32) (h : xb_H) (Qr : xb_H → Prop) (hw : w_M_inMemory x0 x1 x2 h Qr) : xb_Met l y_M_inMemory [.code y_M_inMemory b_M_inMemory 15 none] (xb_rm 10 0 0) (xb_Pc D A σ h [.ref x0, .int x1, .int x2]) (xb_Qc D A h 0 0 (fun v h _ _ => v = none ∧ Qr h) (fun _ _ _ _ => False)) A := by
  refine xb_ofAm (cc := b_M_inMemory) (by decide) (Nat.le_of_ble_eq_true rfl) ?_
  unfold w_M_inMemory at hw
  show xb_am l D A σ 10 0 0 h (fun v h _ _ => v = none ∧ Qr h) (fun _ _ _ _ => False) y_M_inMemory.cls y_M_inMemory.name b_M_inMemory 15 ([] : List ExceptionTableEntry) none 0 [(0, .ref x0), (1, .int x1), (2, .int x2)] [] h 0 0
  obtain ⟨MC, hMC⟩ : ∃ x, x = 0 := ⟨_, rfl⟩
  obtain ⟨MS, hMS⟩ : ∃ x, x = 0 := ⟨_, rfl⟩
  rw [show xb_am l D A σ 10 0 0 = xb_am l D A σ 10 MC MS by rw [hMC, hMS]]
  obtain ⟨h0, hh0⟩ : ∃ x, x = h := ⟨_, rfl⟩
  rw [show xb_am l D A σ 10 MC MS h = xb_am l D A σ 10 MC MS h0 by rw [hh0]]
  intro p e s m args below meth c hC H locs ls k n hE hl hR hS hk hn
  obtain ⟨hx, hb, hown, hlocks, htab, hml, hr, hB, hA, hnm⟩ := id hC
  have hts := hB.1.1.at args
  refine lv_aload_n hx hb (xb_d D_M_inMemory 0 rfl) rfl (lv_at hl 0 rfl) ?_
  obtain ⟨hk1, hw⟩ := hw
  refine xb_getI (C := R_M) (T := F_M) (N := 97) hx hb 8 15 hts fin_M hown hR hk1 (by decide) rfl (by decide) rfl (hts _ m_6c2d27ad) (fun _ h9 => h9) (xb_d D_M_inMemory 1 rfl) ?_
  obtain ⟨v2, ev2⟩ : ∃ x : Int32, x = (xb_i h x0 15) := ⟨_, rfl⟩
  have hw := hw v2 ev2
  refine xt_numi (y := v2) ev2.symm ?_
  refine lv_istore_n hx hb (xb_d D_M_inMemory 2 rfl) rfl hl (by decide) rfl (fun ls hl => ?_)
  have hl : lv_has ls 15 [(3, .int v2), (0, .ref x0), (1, .int x1), (2, .int x2)] := hl
  refine lv_aload_n hx hb (xb_d D_M_inMemory 3 rfl) rfl (lv_at hl 1 rfl) ?_
  refine lv_iload_n hx hb (xb_d D_M_inMemory 4 rfl) rfl (lv_at hl 2 rfl) ?_
  refine lv_iconst (v := 2) hx hb (xb_d D_M_inMemory 5 rfl) (by decide) ?_
  refine xb_call0 (D := D) (A := A) (σ := σ) (h := h) (d := 9) (maxL := 3) (rest := []) (av := [.ref x0, .int x1, .int 2]) (fun T hT X => by obtain ⟨cb9, ra9, rb9, rc9⟩ := xb_recv (ci := 8) hR rfl hk1 (by decide); exact xt_invV X hx hown (hts _ m_392cec72) (hts _ m_982c4770) (hts _ m_e18e99cc) (xt_sigOf (hts _ m_3f9e55aa)) nm_M_only (by rw [hT]; exact ra9) rb9 rc9 (g := F0 m 8 ls [.int 2, .int x1, .ref x0]) rfl (argsL := [.int x1, .int 2]) (rest := []) rfl rfl (by rw [hb]; exact (xb_d D_M_inMemory 6 rfl))) (ok_M_only l hfl D A σ x0 x1 2 h _ hw) (hml.trans hl.1.symm) (by rw [hb]; exact (xb_d D_M_inMemory 6 rfl)) (Nat.le_of_ble_eq_true rfl) (Nat.le_of_ble_eq_true rfl) (Nat.le_of_ble_eq_true rfl) (show k ≤ MC by omega) (show n ≤ MS by omega) (xt_w1 hB.1 m_3f9e55aa) (xt_cdOf hB.1 m_3f9e55aa) (hts _ m_d5ed7bed) hB hR hS hA (fun vv h3 H locs hq hEh3 hR hS => ?_)
  obtain ⟨r4, rfl, hw⟩ := hq
  have hw := hw hEh3
  have hE := hE.tr hEh3
  refine W.eq (g2 := F0 m 11 ls [.int r4]) rfl ?_
  refine lv_istore hx hb (xb_d D_M_inMemory 7 rfl) hl (by decide) rfl (fun ls hl => ?_)
  have hl : lv_has ls 15 [(4, .int r4), (3, .int v2), (0, .ref x0), (1, .int x1), (2, .int x2)] := hl
  refine lv_aload_n hx hb (xb_d D_M_inMemory 8 rfl) rfl (lv_at hl 2 rfl) ?_
  refine lv_aload_n hx hb (xb_d D_M_inMemory 9 rfl) rfl (lv_at hl 2 rfl) ?_
  have hk1 : xb_k h3 x0 = 9 := hEh3.k hk1
  refine xb_getP (C := R_M) (T := F_M) (N := 97) hx hb 8 31 hts fin_M hown hR hk1 (by decide) rfl (by decide) rfl (hts _ m_691d5f47) (fun _ h9 => h9) (xb_d D_M_inMemory 10 rfl) ?_
  obtain ⟨b5, eb5, hw⟩ := hw
  refine xb_some eb5 ?_
  refine lv_iload_n hx hb (xb_d D_M_inMemory 11 rfl) rfl (lv_at hl 3 rfl) ?_
  obtain ⟨hk7, hw⟩ := hw
  obtain ⟨hi6, hw⟩ := hw
  refine xb_iald hx hb hR hk7 hi6 (xb_d D_M_inMemory 12 rfl) ?_
  refine lv_iload_n hx hb (xb_d D_M_inMemory 13 rfl) rfl (lv_at hl 1 rfl) ?_
  refine xb_call0 (D := D) (A := A) (σ := σ) (h := h3) (d := 2) (maxL := 3) (rest := []) (av := [.ref x0, .int (xb_i h3 b5 (Int32.toNatClampNeg x1)), .int v2]) (fun T hT X => by obtain ⟨cb9, ra9, rb9, rc9⟩ := xb_recv (ci := 8) hR rfl hk1 (by decide); exact xt_invV X hx hown (hts _ m_bb531879) (hts _ m_4a6cd4a0) (hts _ m_d1c31e3c) (xt_sigOf (hts _ m_48217fba)) nm_M_go (by rw [hT]; exact ra9) rb9 rc9 (g := F0 m 21 ls [.int v2, .int (xb_i h3 b5 (Int32.toNatClampNeg x1)), .ref x0]) rfl (argsL := [.int (xb_i h3 b5 (Int32.toNatClampNeg x1)), .int v2]) (rest := []) rfl rfl (by rw [hb]; exact (xb_d D_M_inMemory 14 rfl))) (ok_M_go l hfl D A σ x0 (xb_i h3 b5 (Int32.toNatClampNeg x1)) v2 h3 _ hw) (hml.trans hl.1.symm) (by rw [hb]; exact (xb_d D_M_inMemory 14 rfl)) (Nat.le_of_ble_eq_true rfl) (Nat.le_of_ble_eq_true rfl) (Nat.le_of_ble_eq_true rfl) (show k ≤ MC by omega) (show n ≤ MS by omega) (xt_w1 hB.1 m_48217fba) (xt_cdOf hB.1 m_48217fba) (hts _ m_d5ed7bed) hB hR hS hA (fun vv h8 H locs hq hEh8 hR hS => ?_)
  obtain ⟨rfl, hw⟩ := hq
  have hw := hw hEh8
  have hE := hE.tr hEh8
  refine W.eq (g2 := F0 m 24 ls []) rfl ?_
  refine lv_iload_n hx hb (xb_d D_M_inMemory 15 rfl) rfl (lv_at hl 4 rfl) ?_
  refine lv_bipush (v := 63) hx hb (xb_d D_M_inMemory 16 rfl) (by decide) ?_
  refine lv_icmp_eq (tgt := 36) hx hb (xb_d D_M_inMemory 17 rfl) rfl (fun hc10 => ?_) (fun hc10 => ?_)
  · have hw := hw.1 hc10
    exact am_M_inMemory_L36 l hfl D A σ MC MS h0 Qr x0 x2 v2 r4 h8 hw p e s m args below meth c hC H locs ls k n hE (lv_sub hl [2, 4, 1, 0] rfl) hR hS (by omega) (by omega)
  · have hw := hw.2 hc10
    refine lv_iload_n hx hb (xb_d D_M_inMemory 18 rfl) rfl (lv_at hl 4 rfl) ?_
    refine lv_bipush (v := 64) hx hb (xb_d D_M_inMemory 19 rfl) (by decide) ?_
    refine lv_icmp_ne (tgt := 51) hx hb (xb_d D_M_inMemory 20 rfl) rfl (fun hc11 => ?_) (fun hc11 => ?_)
    · have hw := hw.1 hc11
      refine lv_aload_n hx hb (xb_d D_M_inMemory 31 rfl) rfl (lv_at hl 2 rfl) ?_
      have hk1 : xb_k h8 x0 = 9 := hEh8.k hk1
      refine xb_call0 (D := D) (A := A) (σ := σ) (h := h8) (d := 4) (maxL := 5) (rest := []) (av := [.ref x0]) (fun T hT X => by obtain ⟨cb9, ra9, rb9, rc9⟩ := xb_recv (ci := 8) hR rfl hk1 (by decide); exact xt_invV X hx hown (hts _ m_e991293f) (hts _ m_385a74b3) (hts _ m_c9fbcd02) (xt_sigOf (hts _ m_1f53f210)) nm_M_count (by rw [hT]; exact ra9) rb9 rc9 (g := F0 m 52 ls [.ref x0]) rfl (argsL := []) (rest := []) rfl rfl (by rw [hb]; exact (xb_d D_M_inMemory 32 rfl))) (ok_M_count l hfl D A σ x0 h8 _ hw) (hml.trans hl.1.symm) (by rw [hb]; exact (xb_d D_M_inMemory 32 rfl)) (Nat.le_of_ble_eq_true rfl) (Nat.le_of_ble_eq_true rfl) (Nat.le_of_ble_eq_true rfl) (show k ≤ MC by omega) (show n ≤ MS by omega) (xt_w1 hB.1 m_1f53f210) (xt_cdOf hB.1 m_1f53f210) (hts _ m_d5ed7bed) hB hR hS hA (fun vv h12 H locs hq hEh12 hR hS => ?_)
      obtain ⟨r13, rfl, hw⟩ := hq
      have hw := hw hEh12
      have hE := hE.tr hEh12
      refine W.eq (g2 := F0 m 55 ls [.long r13]) rfl ?_
      refine lv_pop2_2 hx hb (xb_d D_M_inMemory 33 rfl) rfl ?_
      refine lv_aload_n hx hb (xb_d D_M_inMemory 34 rfl) rfl (lv_at hl 2 rfl) ?_
      have hk1 : xb_k h12 x0 = 9 := hEh12.k hk1
      refine xb_call0 (D := D) (A := A) (σ := σ) (h := h12) (d := 4) (maxL := 5) (rest := []) (av := [.ref x0]) (fun T hT X => by obtain ⟨cb9, ra9, rb9, rc9⟩ := xb_recv (ci := 8) hR rfl hk1 (by decide); exact xt_invV X hx hown (hts _ m_e991293f) (hts _ m_385a74b3) (hts _ m_c9fbcd02) (xt_sigOf (hts _ m_1f53f210)) nm_M_count (by rw [hT]; exact ra9) rb9 rc9 (g := F0 m 57 ls [.ref x0]) rfl (argsL := []) (rest := []) rfl rfl (by rw [hb]; exact (xb_d D_M_inMemory 35 rfl))) (ok_M_count l hfl D A σ x0 h12 _ hw) (hml.trans hl.1.symm) (by rw [hb]; exact (xb_d D_M_inMemory 35 rfl)) (Nat.le_of_ble_eq_true rfl) (Nat.le_of_ble_eq_true rfl) (Nat.le_of_ble_eq_true rfl) (show k ≤ MC by omega) (show n ≤ MS by omega) (xt_w1 hB.1 m_1f53f210) (xt_cdOf hB.1 m_1f53f210) (hts _ m_d5ed7bed) hB hR hS hA (fun vv h14 H locs hq hEh14 hR hS => ?_)
      obtain ⟨r15, rfl, hw⟩ := hq
      have hw := hw hEh14
      have hE := hE.tr hEh14
      refine W.eq (g2 := F0 m 60 ls [.long r15]) rfl ?_
      refine lv_lstore hx hb (xb_d D_M_inMemory 36 rfl) hl (by decide) rfl (fun ls hl => ?_)
      have hl : lv_has ls 15 [(5, .long r15), (4, .int r4), (3, .int v2), (0, .ref x0), (1, .int x1), (2, .int x2)] := hl
      refine lv_aload_n hx hb (xb_d D_M_inMemory 37 rfl) rfl (lv_at hl 3 rfl) ?_
      have hk1 : xb_k h14 x0 = 9 := hEh14.k hk1
      refine xb_getI (C := R_M) (T := F_M) (N := 97) hx hb 8 15 hts fin_M hown hR hk1 (by decide) rfl (by decide) rfl (hts _ m_6c2d27ad) (fun _ h9 => h9) (xb_d D_M_inMemory 38 rfl) ?_
      obtain ⟨v16, ev16⟩ : ∃ x : Int32, x = (xb_i h14 x0 15) := ⟨_, rfl⟩
      have hw := hw v16 ev16
      refine xt_numi (y := v16) ev16.symm ?_
      refine lv_istore hx hb (xb_d D_M_inMemory 39 rfl) hl (by decide) rfl (fun ls hl => ?_)
      have hl : lv_has ls 15 [(7, .int v16), (5, .long r15), (4, .int r4), (3, .int v2), (0, .ref x0), (1, .int x1), (2, .int x2)] := hl
      refine lv_iload_n hx hb (xb_d D_M_inMemory 40 rfl) rfl (lv_at hl 6 rfl) ?_
      refine xb_call0 (D := D) (A := A) (σ := σ) (h := h14) (d := 2) (maxL := 1) (rest := []) (av := [.int x2]) (fun T hT X => xt_invS X hx hown (hts _ m_d78a8c8d) (hts _ m_85263add) (hts _ m_d5ed7bed) (xt_sgS (hts _ m_fe1b6fac)).1 (xt_sgS (hts _ m_fe1b6fac)).2 nm_M_accessType (g := F0 m 69 ls [.int x2]) rfl (argsL := [.int x2]) (rest := []) rfl rfl (by rw [hb]; exact (xb_d D_M_inMemory 41 rfl))) (ok_M_accessType l hfl D A σ x2 h14 _ hw) (hml.trans hl.1.symm) (by rw [hb]; exact (xb_d D_M_inMemory 41 rfl)) (Nat.le_of_ble_eq_true rfl) (Nat.le_of_ble_eq_true rfl) (Nat.le_of_ble_eq_true rfl) (show k ≤ MC by omega) (show n ≤ MS by omega) (xt_w1 hB.1 m_fe1b6fac) (xt_cdOf hB.1 m_fe1b6fac) (hts _ m_d5ed7bed) hB hR hS hA (fun vv h17 H locs hq hEh17 hR hS => ?_)
      obtain ⟨r18, rfl, hw⟩ := hq
      have hw := hw hEh17
      have hE := hE.tr hEh17
      refine W.eq (g2 := F0 m 72 ls [.int r18]) rfl ?_
      refine lv_istore hx hb (xb_d D_M_inMemory 42 rfl) hl (by decide) rfl (fun ls hl => ?_)
      have hl : lv_has ls 15 [(8, .int r18), (7, .int v16), (5, .long r15), (4, .int r4), (3, .int v2), (0, .ref x0), (1, .int x1), (2, .int x2)] := hl
      refine lv_iload_n hx hb (xb_d D_M_inMemory 43 rfl) rfl (lv_at hl 7 rfl) ?_
      refine xb_call0 (D := D) (A := A) (σ := σ) (h := h17) (d := 2) (maxL := 1) (rest := []) (av := [.int x2]) (fun T hT X => xt_invS X hx hown (hts _ m_b1b0175f) (hts _ m_e7cc7e3c) (hts _ m_d5ed7bed) (xt_sgS (hts _ m_06c53581)).1 (xt_sgS (hts _ m_06c53581)).2 nm_M_accessBytes (g := F0 m 75 ls [.int x2]) rfl (argsL := [.int x2]) (rest := []) rfl rfl (by rw [hb]; exact (xb_d D_M_inMemory 44 rfl))) (ok_M_accessBytes l hfl D A σ x2 h17 _ hw) (hml.trans hl.1.symm) (by rw [hb]; exact (xb_d D_M_inMemory 44 rfl)) (Nat.le_of_ble_eq_true rfl) (Nat.le_of_ble_eq_true rfl) (Nat.le_of_ble_eq_true rfl) (show k ≤ MC by omega) (show n ≤ MS by omega) (xt_w1 hB.1 m_06c53581) (xt_cdOf hB.1 m_06c53581) (hts _ m_d5ed7bed) hB hR hS hA (fun vv h19 H locs hq hEh19 hR hS => ?_)
      obtain ⟨r20, rfl, hw⟩ := hq
      have hw := hw hEh19
      have hE := hE.tr hEh19
      refine W.eq (g2 := F0 m 78 ls [.int r20]) rfl ?_
      refine lv_istore hx hb (xb_d D_M_inMemory 45 rfl) hl (by decide) rfl (fun ls hl => ?_)
      have hl : lv_has ls 15 [(9, .int r20), (8, .int r18), (7, .int v16), (5, .long r15), (4, .int r4), (3, .int v2), (0, .ref x0), (1, .int x1), (2, .int x2)] := hl
      refine lv_iload_n hx hb (xb_d D_M_inMemory 46 rfl) rfl (lv_at hl 8 rfl) ?_
      refine lv_bipush (v := 54) hx hb (xb_d D_M_inMemory 47 rfl) (by decide) ?_
      refine lv_icmp_lt (tgt := 95) hx hb (xb_d D_M_inMemory 48 rfl) rfl (fun hc21 => ?_) (fun hc21 => ?_)
      · have hw := hw.1 hc21
        refine lv_lconst (v := 0) hx hb (xb_d D_M_inMemory 53 rfl) (by decide) ?_
        exact am_M_inMemory_L96 l hfl D A σ MC MS h0 Qr x0 x2 r4 r15 v16 r18 r20 0 h19 hw p e s m args below meth c hC H locs ls k n hE (lv_sub hl [6, 8, 4, 3, 2, 1, 0] rfl) hR hS (by omega) (by omega)
      · have hw := hw.2 hc21
        refine lv_aload_n hx hb (xb_d D_M_inMemory 49 rfl) rfl (lv_at hl 6 rfl) ?_
        refine lv_iload hx hb (xb_d D_M_inMemory 50 rfl) (lv_at hl 1 rfl) ?_
        have hk1 : xb_k h17 x0 = 9 := hEh17.k hk1
        have hk1 : xb_k h19 x0 = 9 := hEh19.k hk1
        refine xb_call0 (D := D) (A := A) (σ := σ) (h := h19) (d := 2) (maxL := 2) (rest := []) (av := [.ref x0, .int r18]) (fun T hT X => by obtain ⟨cb9, ra9, rb9, rc9⟩ := xb_recv (ci := 8) hR rfl hk1 (by decide); exact xt_invV X hx hown (hts _ m_ce40dc40) (hts _ m_c3a002b8) (hts _ m_395c99b5) (xt_sigOf (hts _ m_1ea89357)) nm_M_pop (by rw [hT]; exact ra9) rb9 rc9 (g := F0 m 89 ls [.int r18, .ref x0]) rfl (argsL := [.int r18]) (rest := []) rfl rfl (by rw [hb]; exact (xb_d D_M_inMemory 51 rfl))) (ok_M_pop l hfl D A σ x0 r18 h19 _ hw) (hml.trans hl.1.symm) (by rw [hb]; exact (xb_d D_M_inMemory 51 rfl)) (Nat.le_of_ble_eq_true rfl) (Nat.le_of_ble_eq_true rfl) (Nat.le_of_ble_eq_true rfl) (show k ≤ MC by omega) (show n ≤ MS by omega) (xt_w1 hB.1 m_1ea89357) (xt_cdOf hB.1 m_1ea89357) (hts _ m_d5ed7bed) hB hR hS hA (fun vv h22 H locs hq hEh22 hR hS => ?_)
        obtain ⟨r23, rfl, hw⟩ := hq
        have hw := hw hEh22
        have hE := hE.tr hEh22
        refine W.eq (g2 := F0 m 92 ls [.long r23]) rfl ?_
        refine lv_goto (tgt := 96) hx hb (xb_d D_M_inMemory 52 rfl) rfl ?_
        exact am_M_inMemory_L96 l hfl D A σ MC MS h0 Qr x0 x2 r4 r15 v16 r18 r20 r23 h22 hw p e s m args below meth c hC H locs ls k n hE (lv_sub hl [6, 8, 4, 3, 2, 1, 0] rfl) hR hS (by omega) (by omega)
    · have hw := hw.2 hc11
      exact am_M_inMemory_L36 l hfl D A σ MC MS h0 Qr x0 x2 v2 r4 h8 hw p e s m args below meth c hC H locs ls k n hE (lv_sub hl [2, 4, 1, 0] rfl) hR hS (by omega) (by omega)

