theorem m_2899aa38 : (.fieldLink "StackHost$Reader" 152 "StackHost$StackModule" "imports" "LStackHost$Row;" : Cond) ∈ xt_tbl := xt_in (xt_t3 (List.mem_of_getElem? (i := 64) (by decide +kernel))) (by decide +kernel)
theorem m_8d503518 : (.fieldLink "StackHost$Reader" 67 "StackHost$StackModule" "imported" "[I" : Cond) ∈ xt_tbl := xt_in (xt_t3 (List.mem_of_getElem? (i := 113) (by decide +kernel))) (by decide +kernel)
theorem m_544cf043 : (.methodLink "StackHost$Reader" 158 y_Reader_readVariableType : Cond) ∈ xt_tbl := xt_in (xt_t4 (List.mem_of_getElem? (i := 15) (by decide +kernel))) (by decide +kernel)
theorem m_43060829 : (.instanceMethod y_Reader_readVariableType : Cond) ∈ xt_tbl := xt_in (xt_t4 (List.mem_of_getElem? (i := 17) (by decide +kernel))) (by decide +kernel)
theorem m_ec78475f : (.selects "StackHost$Reader" y_Reader_readVariableType y_Reader_readVariableType : Cond) ∈ xt_tbl := xt_in (xt_v2 (q := (⟨"StackHost$Reader", "readVariableType", "(I)V"⟩, 6)) (List.mem_of_getElem? (i := 0) (by decide +kernel))) (by decide +kernel)
theorem m_a4ac8e6b : (.code y_Reader_readVariableType b_Reader_readVariableType 2 none : Cond) ∈ xt_tbl := xt_in (xt_t4 (List.mem_of_getElem? (i := 18) (by decide +kernel))) (by decide +kernel)
theorem m_aacfe790 : (.fieldLink "StackHost$Reader" 94 "StackHost$StackModule" "memories" "LStackHost$Row;" : Cond) ∈ xt_tbl := xt_in (xt_t3 (List.mem_of_getElem? (i := 76) (by decide +kernel))) (by decide +kernel)
theorem m_8deb7e3b : (.methodLink "StackHost$Reader" 97 y_Reader_readLimits : Cond) ∈ xt_tbl := xt_in (xt_t4 (List.mem_of_getElem? (i := 10) (by decide +kernel))) (by decide +kernel)
theorem m_592ab943 : (.instanceMethod y_Reader_readLimits : Cond) ∈ xt_tbl := xt_in (xt_t4 (List.mem_of_getElem? (i := 12) (by decide +kernel))) (by decide +kernel)
theorem m_602d511d : (.selects "StackHost$Reader" y_Reader_readLimits y_Reader_readLimits : Cond) ∈ xt_tbl := xt_in (xt_v1 (q := (⟨"StackHost$Reader", "readLimits", "(LStackHost$Row;I)V"⟩, 6)) (List.mem_of_getElem? (i := 15) (by decide +kernel))) (by decide +kernel)
theorem m_06c7cb4a : (.code y_Reader_readLimits b_Reader_readLimits 4 none : Cond) ∈ xt_tbl := xt_in (xt_t4 (List.mem_of_getElem? (i := 13) (by decide +kernel))) (by decide +kernel)
theorem m_e81580da : (.fieldLink "StackHost$Reader" 155 "StackHost$StackModule" "tables" "LStackHost$Row;" : Cond) ∈ xt_tbl := xt_in (xt_t3 (List.mem_of_getElem? (i := 74) (by decide +kernel))) (by decide +kernel)
theorem m_08af5762 : (.fieldLink "StackHost$Reader" 64 "StackHost$StackModule" "functions" "LStackHost$Row;" : Cond) ∈ xt_tbl := xt_in (xt_t3 (List.mem_of_getElem? (i := 66) (by decide +kernel))) (by decide +kernel)
theorem nm_Reader_readVariableType : xt_nm y_Reader_readVariableType 1 := ⟨by decide +kernel, by decide +kernel⟩
theorem nm_Reader_readLimits : xt_nm y_Reader_readLimits 2 := ⟨by decide +kernel, by decide +kernel⟩
set_option maxRecDepth 100000 in
def T_Reader_readImport : List (Nat × Instr × Nat) := [(0, .aload_n 0, 1), (1, .getfield 41, 3), (4, .istore_n 1, 1), (5, .aload_n 0, 1), (6, .invokevirtual 78, 3), (9, .istore_n 2, 1), (10, .aload_n 0, 1), (11, .getfield 41, 3), (14, .iload_n 2, 1), (15, .isub, 1), (16, .istore_n 3, 1), (17, .aload_n 0, 1), (18, .invokevirtual 78, 3), (21, .istore 4, 2), (23, .aload_n 0, 1), (24, .getfield 41, 3), (27, .iload 4, 2), (29, .isub, 1), (30, .istore 5, 2), (32, .aload_n 0, 1), (33, .iconst 3, 1), (34, .invokevirtual 148, 3), (37, .istore 6, 2), (39, .aload_n 0, 1), (40, .getfield 15, 3), (43, .getfield 152, 3), (46, .iload_n 1, 1), (47, .i2l, 1), (48, .invokevirtual 87, 3), (51, .aload_n 0, 1), (52, .getfield 15, 3), (55, .getfield 152, 3), (58, .iload 6, 2), (60, .i2l, 1), (61, .invokevirtual 87, 3), (64, .aload_n 0, 1), (65, .getfield 15, 3), (68, .getfield 152, 3), (71, .aload_n 0, 1), (72, .getfield 15, 3), (75, .getfield 67, 3), (78, .iload 6, 2), (80, .iaload, 1), (81, .i2l, 1), (82, .invokevirtual 87, 3), (85, .aload_n 0, 1), (86, .getfield 15, 3), (89, .getfield 152, 3), (92, .iload_n 3, 1), (93, .i2l, 1), (94, .invokevirtual 87, 3), (97, .aload_n 0, 1), (98, .getfield 15, 3), (101, .getfield 152, 3), (104, .iload_n 2, 1), (105, .i2l, 1), (106, .invokevirtual 87, 3), (109, .aload_n 0, 1), (110, .getfield 15, 3), (113, .getfield 152, 3), (116, .iload 5, 2), (118, .i2l, 1), (119, .invokevirtual 87, 3), (122, .aload_n 0, 1), (123, .getfield 15, 3), (126, .getfield 152, 3), (129, .iload 4, 2), (131, .i2l, 1), (132, .invokevirtual 87, 3), (135, .aload_n 0, 1), (136, .getfield 15, 3), (139, .getfield 67, 3), (142, .iload 6, 2), (144, .dup2, 1), (145, .iaload, 1), (146, .iconst 1, 1), (147, .iadd, 1), (148, .iastore, 1), (149, .iload 6, 2), (151, .ifCond .ne 37, 3), (154, .aload_n 0, 1), (155, .getfield 15, 3), (158, .getfield 64, 3), (161, .iload_n 1, 1), (162, .i2l, 1), (163, .invokevirtual 87, 3), (166, .aload_n 0, 1), (167, .getfield 15, 3), (170, .getfield 64, 3), (173, .aload_n 0, 1), (174, .invokevirtual 70, 3), (177, .i2l, 1), (178, .ldc2_w 76, 3), (181, .land, 1), (182, .invokevirtual 87, 3), (185, .goto 69, 3), (188, .iload 6, 2), (190, .iconst 1, 1), (191, .if_icmp .ne 24, 3), (194, .aload_n 0, 1), (195, .bipush 112, 2), (197, .invokevirtual 134, 3), (200, .aload_n 0, 1), (201, .aload_n 0, 1), (202, .getfield 15, 3), (205, .getfield 155, 3), (208, .iload_n 1, 1), (209, .invokevirtual 97, 3), (212, .goto 42, 3), (215, .iload 6, 2), (217, .iconst 2, 1), (218, .if_icmp .ne 18, 3), (221, .aload_n 0, 1), (222, .aload_n 0, 1), (223, .getfield 15, 3), (226, .getfield 94, 3), (229, .iload_n 1, 1), (230, .invokevirtual 97, 3), (233, .goto 21, 3), (236, .aload_n 0, 1), (237, .iload_n 1, 1), (238, .invokevirtual 158, 3), (241, .aload_n 0, 1), (242, .getfield 15, 3), (245, .getfield 161, 3), (248, .ldc2_w 164, 3), (251, .invokevirtual 87, 3), (254, .return_, 1)]
theorem D_Reader_readImport : ∀ q ∈ T_Reader_readImport, decode b_Reader_readImport q.1 = .ok (q.2.1, q.2.2) := by decide +kernel

set_option maxHeartbeats 4000000 in
set_option maxRecDepth 100000 in
theorem am_Reader_readImport_L254 (l : Launch) (hfl : l.flags = pinnedFlags ++ [noTraceFlag]) (D : va_G) (A : Nat → Prop) (σ MC MS : Nat) (h0 : xb_H) (Qr : xb_H → Nat → Nat → Prop) (Qt : String → xb_H → Nat → Nat → Prop) (h : xb_H) (bc : Nat) (bs : Nat) (hw : w_Reader_readImport_L254 Qr Qt h bc bs) : xb_am l D A σ 6 MC MS h0 (fun v h bc bs => v = none ∧ Qr h bc bs) Qt y_Reader_readImport.cls y_Reader_readImport.name b_Reader_readImport 7 ([] : List ExceptionTableEntry) none 254 [] [] h bc bs := by
  unfold w_Reader_readImport_L254 at hw
  intro p e s m args below meth c hC H locs ls k n hE hl hR hS hk hn
  obtain ⟨hx, hb, hown, hlocks, htab, hml, hr, hB, hA, hnm⟩ := id hC
  have hts := hB.1.1.at args
  exact xb_vret bc bs hx hb hr hlocks (show k + bc ≤ MC by omega) (show n + bs ≤ MS by omega) hE hR hS (xb_d D_Reader_readImport 127 rfl) hw

set_option maxHeartbeats 4000000 in
set_option maxRecDepth 100000 in
theorem ok_Reader_readImport (l : Launch) (hfl : l.flags = pinnedFlags ++ [noTraceFlag]) (D : va_G) (A : Nat → Prop) (σ : Nat) (x0 : Nat) (h : xb_H) (bc : Nat) (bs : Nat) (Qr : xb_H → Nat → Nat → Prop) (Qt : String → xb_H → Nat → Nat → Prop) (hw : w_Reader_readImport x0 h bc bs Qr Qt) : xb_Met l y_Reader_readImport [.code y_Reader_readImport b_Reader_readImport 7 none] (xb_rm 6 bc bs) (xb_Pc D A σ h [.ref x0]) (xb_Qc D A h bc bs (fun v h bc bs => v = none ∧ Qr h bc bs) Qt) A := by
  refine xb_ofAm (cc := b_Reader_readImport) (by decide) (Nat.le_of_ble_eq_true rfl) ?_
  unfold w_Reader_readImport at hw
  show xb_am l D A σ 6 bc bs h (fun v h bc bs => v = none ∧ Qr h bc bs) Qt y_Reader_readImport.cls y_Reader_readImport.name b_Reader_readImport 7 ([] : List ExceptionTableEntry) none 0 [(0, .ref x0)] [] h bc bs
  obtain ⟨MC, hMC⟩ : ∃ x, x = bc := ⟨_, rfl⟩
  obtain ⟨MS, hMS⟩ : ∃ x, x = bs := ⟨_, rfl⟩
  rw [show xb_am l D A σ 6 bc bs = xb_am l D A σ 6 MC MS by rw [hMC, hMS]]
  obtain ⟨h0, hh0⟩ : ∃ x, x = h := ⟨_, rfl⟩
  rw [show xb_am l D A σ 6 MC MS h = xb_am l D A σ 6 MC MS h0 by rw [hh0]]
  intro p e s m args below meth c hC H locs ls k n hE hl hR hS hk hn
  obtain ⟨hx, hb, hown, hlocks, htab, hml, hr, hB, hA, hnm⟩ := id hC
  have hts := hB.1.1.at args
  refine lv_aload_n hx hb (xb_d D_Reader_readImport 0 rfl) rfl (lv_at hl 0 rfl) ?_
  obtain ⟨hk1, hw⟩ := hw
  refine xb_getI (C := R_Reader) (T := F_Reader) (N := 6) hx hb 3 3 hts fin_Reader hown hR hk1 (by decide) rfl (by decide) rfl (hts _ m_a9b84ac2) (fun _ h9 => h9) (xb_d D_Reader_readImport 1 rfl) ?_
  obtain ⟨v2, ev2⟩ : ∃ x : Int32, x = (xb_i h x0 3) := ⟨_, rfl⟩
  have hw := hw v2 ev2
  refine xt_numi (y := v2) ev2.symm ?_
  refine lv_istore_n hx hb (xb_d D_Reader_readImport 2 rfl) rfl hl (by decide) rfl (fun ls hl => ?_)
  have hl : lv_has ls 7 [(1, .int v2), (0, .ref x0)] := hl
  refine lv_aload_n hx hb (xb_d D_Reader_readImport 3 rfl) rfl (lv_at hl 1 rfl) ?_
  refine xb_call (D := D) (A := A) (σ := σ) (h := h) (d := 4) (mc := bc) (ms := bs) (maxL := 5) (rest := []) (av := [.ref x0]) (fun T hT X => by obtain ⟨cb9, ra9, rb9, rc9⟩ := xb_recv (ci := 3) hR rfl hk1 (by decide); exact xt_invV X hx hown (hts _ m_fae64a5e) (hts _ m_a35a3722) (hts _ m_7a3ebdc0) (xt_sigOf (hts _ m_76a677e7)) nm_Reader_readName (by rw [hT]; exact ra9) rb9 rc9 (g := F0 m 6 ls [.ref x0]) rfl (argsL := []) (rest := []) rfl rfl (by rw [hb]; exact (xb_d D_Reader_readImport 4 rfl))) (ok_Reader_readName l hfl D A σ x0 h bc bs _ _ hw) (hml.trans hl.1.symm) (by rw [hb]; exact (xb_d D_Reader_readImport 4 rfl)) (Nat.le_of_ble_eq_true rfl) (Nat.le_of_ble_eq_true rfl) (Nat.le_of_ble_eq_true rfl) (show k + bc ≤ MC by omega) (show n + bs ≤ MS by omega) (xt_w1 hB.1 m_76a677e7) (xt_cdOf hB.1 m_76a677e7) (hts _ m_938fcec4) hB hR hS hA (fun vv h3 bc4 bs4 kk4 nn4 H locs hk4 hn4 hq hEh3 hR hS => ?_) (fun XX ax h3 bc4 bs4 kk4 nn4 H locs hk4 hn4 hq hEh3 hex hR hS => ?_)
  · obtain ⟨r4, rfl, hw⟩ := hq
    have hw := hw hEh3
    have hE := hE.tr hEh3
    refine W.eq (g2 := F0 m 9 ls [.int r4]) rfl ?_
    refine lv_istore_n hx hb (xb_d D_Reader_readImport 5 rfl) rfl hl (by decide) rfl (fun ls hl => ?_)
    have hl : lv_has ls 7 [(2, .int r4), (1, .int v2), (0, .ref x0)] := hl
    refine lv_aload_n hx hb (xb_d D_Reader_readImport 6 rfl) rfl (lv_at hl 2 rfl) ?_
    have hk1 : xb_k h3 x0 = 4 := hEh3.k hk1
    refine xb_getI (C := R_Reader) (T := F_Reader) (N := 6) hx hb 3 3 hts fin_Reader hown hR hk1 (by decide) rfl (by decide) rfl (hts _ m_a9b84ac2) (fun _ h9 => h9) (xb_d D_Reader_readImport 7 rfl) ?_
    refine lv_iload_n hx hb (xb_d D_Reader_readImport 8 rfl) rfl (lv_at hl 0 rfl) ?_
    refine lv_isub hx hb (xb_d D_Reader_readImport 9 rfl) ?_
    obtain ⟨v5, ev5⟩ : ∃ x : Int32, x = ((xb_i h3 x0 3) - r4) := ⟨_, rfl⟩
    have hw := hw v5 ev5
    refine xt_numi (y := v5) ev5.symm ?_
    refine lv_istore_n hx hb (xb_d D_Reader_readImport 10 rfl) rfl hl (by decide) rfl (fun ls hl => ?_)
    have hl : lv_has ls 7 [(3, .int v5), (2, .int r4), (1, .int v2), (0, .ref x0)] := hl
    refine lv_aload_n hx hb (xb_d D_Reader_readImport 11 rfl) rfl (lv_at hl 3 rfl) ?_
    refine xb_call (D := D) (A := A) (σ := σ) (h := h3) (d := 4) (mc := bc4) (ms := bs4) (maxL := 5) (rest := []) (av := [.ref x0]) (fun T hT X => by obtain ⟨cb9, ra9, rb9, rc9⟩ := xb_recv (ci := 3) hR rfl hk1 (by decide); exact xt_invV X hx hown (hts _ m_fae64a5e) (hts _ m_a35a3722) (hts _ m_7a3ebdc0) (xt_sigOf (hts _ m_76a677e7)) nm_Reader_readName (by rw [hT]; exact ra9) rb9 rc9 (g := F0 m 18 ls [.ref x0]) rfl (argsL := []) (rest := []) rfl rfl (by rw [hb]; exact (xb_d D_Reader_readImport 12 rfl))) (ok_Reader_readName l hfl D A σ x0 h3 bc4 bs4 _ _ hw) (hml.trans hl.1.symm) (by rw [hb]; exact (xb_d D_Reader_readImport 12 rfl)) (Nat.le_of_ble_eq_true rfl) (Nat.le_of_ble_eq_true rfl) (Nat.le_of_ble_eq_true rfl) (show (k + kk4) + bc4 ≤ MC by omega) (show (n + nn4) + bs4 ≤ MS by omega) (xt_w1 hB.1 m_76a677e7) (xt_cdOf hB.1 m_76a677e7) (hts _ m_938fcec4) hB hR hS hA (fun vv h6 bc7 bs7 kk7 nn7 H locs hk7 hn7 hq hEh6 hR hS => ?_) (fun XX ax h6 bc7 bs7 kk7 nn7 H locs hk7 hn7 hq hEh6 hex hR hS => ?_)
    · obtain ⟨r7, rfl, hw⟩ := hq
      have hw := hw hEh6
      have hE := hE.tr hEh6
      refine W.eq (g2 := F0 m 21 ls [.int r7]) rfl ?_
      refine lv_istore hx hb (xb_d D_Reader_readImport 13 rfl) hl (by decide) rfl (fun ls hl => ?_)
      have hl : lv_has ls 7 [(4, .int r7), (3, .int v5), (2, .int r4), (1, .int v2), (0, .ref x0)] := hl
      refine lv_aload_n hx hb (xb_d D_Reader_readImport 14 rfl) rfl (lv_at hl 4 rfl) ?_
      have hk1 : xb_k h6 x0 = 4 := hEh6.k hk1
      refine xb_getI (C := R_Reader) (T := F_Reader) (N := 6) hx hb 3 3 hts fin_Reader hown hR hk1 (by decide) rfl (by decide) rfl (hts _ m_a9b84ac2) (fun _ h9 => h9) (xb_d D_Reader_readImport 15 rfl) ?_
      refine lv_iload hx hb (xb_d D_Reader_readImport 16 rfl) (lv_at hl 0 rfl) ?_
      refine lv_isub hx hb (xb_d D_Reader_readImport 17 rfl) ?_
      obtain ⟨v8, ev8⟩ : ∃ x : Int32, x = ((xb_i h6 x0 3) - r7) := ⟨_, rfl⟩
      have hw := hw v8 ev8
      refine xt_numi (y := v8) ev8.symm ?_
      refine lv_istore hx hb (xb_d D_Reader_readImport 18 rfl) hl (by decide) rfl (fun ls hl => ?_)
      have hl : lv_has ls 7 [(5, .int v8), (4, .int r7), (3, .int v5), (2, .int r4), (1, .int v2), (0, .ref x0)] := hl
      refine lv_aload_n hx hb (xb_d D_Reader_readImport 19 rfl) rfl (lv_at hl 5 rfl) ?_
      refine lv_iconst (v := 3) hx hb (xb_d D_Reader_readImport 20 rfl) (by decide) ?_
      refine xb_call (D := D) (A := A) (σ := σ) (h := h6) (d := 4) (mc := bc7) (ms := bs7) (maxL := 3) (rest := []) (av := [.ref x0, .int 3]) (fun T hT X => by obtain ⟨cb9, ra9, rb9, rc9⟩ := xb_recv (ci := 3) hR rfl hk1 (by decide); exact xt_invV X hx hown (hts _ m_13cda130) (hts _ m_a9ff337d) (hts _ m_af3157e6) (xt_sigOf (hts _ m_8a19f6ff)) nm_Reader_byteUpTo (by rw [hT]; exact ra9) rb9 rc9 (g := F0 m 34 ls [.int 3, .ref x0]) rfl (argsL := [.int 3]) (rest := []) rfl rfl (by rw [hb]; exact (xb_d D_Reader_readImport 21 rfl))) (ok_Reader_byteUpTo l hfl D A σ x0 3 h6 bc7 bs7 _ _ hw) (hml.trans hl.1.symm) (by rw [hb]; exact (xb_d D_Reader_readImport 21 rfl)) (Nat.le_of_ble_eq_true rfl) (Nat.le_of_ble_eq_true rfl) (Nat.le_of_ble_eq_true rfl) (show ((k + kk4) + kk7) + bc7 ≤ MC by omega) (show ((n + nn4) + nn7) + bs7 ≤ MS by omega) (xt_w1 hB.1 m_8a19f6ff) (xt_cdOf hB.1 m_8a19f6ff) (hts _ m_938fcec4) hB hR hS hA (fun vv h9 bc10 bs10 kk10 nn10 H locs hk10 hn10 hq hEh9 hR hS => ?_) (fun XX ax h9 bc10 bs10 kk10 nn10 H locs hk10 hn10 hq hEh9 hex hR hS => ?_)
      · obtain ⟨r10, rfl, hw⟩ := hq
        have hw := hw hEh9
        have hE := hE.tr hEh9
        refine W.eq (g2 := F0 m 37 ls [.int r10]) rfl ?_
        refine lv_istore hx hb (xb_d D_Reader_readImport 22 rfl) hl (by decide) rfl (fun ls hl => ?_)
        have hl : lv_has ls 7 [(6, .int r10), (5, .int v8), (4, .int r7), (3, .int v5), (2, .int r4), (1, .int v2), (0, .ref x0)] := hl
        refine lv_aload_n hx hb (xb_d D_Reader_readImport 23 rfl) rfl (lv_at hl 6 rfl) ?_
        have hk1 : xb_k h9 x0 = 4 := hEh9.k hk1
        refine xb_getP (C := R_Reader) (T := F_Reader) (N := 6) hx hb 3 0 hts fin_Reader hown hR hk1 (by decide) rfl (by decide) rfl (hts _ m_76d8349c) (fun _ h9 => h9) (xb_d D_Reader_readImport 24 rfl) ?_
        obtain ⟨b11, eb11, hw⟩ := hw
        refine xb_some eb11 ?_
        obtain ⟨hk12, hw⟩ := hw
        refine xb_getP (C := R_StackModule) (T := F_StackModule) (N := 19) hx hb 2 3 hts fin_StackModule hown hR hk12 (by decide) rfl (by decide) rfl (hts _ m_2899aa38) (fun _ h9 => h9) (xb_d D_Reader_readImport 25 rfl) ?_
        obtain ⟨b13, eb13, hw⟩ := hw
        refine xb_some eb13 ?_
        refine lv_iload_n hx hb (xb_d D_Reader_readImport 26 rfl) rfl (lv_at hl 5 rfl) ?_
        refine lv_i2l hx hb (xb_d D_Reader_readImport 27 rfl) rfl ?_
        obtain ⟨hk14, hw⟩ := hw
        refine xb_call (D := D) (A := A) (σ := σ) (h := h9) (d := 4) (mc := bc10) (ms := bs10) (maxL := 3) (rest := []) (av := [.ref b13, .long (Int32.toInt64 v2)]) (fun T hT X => by obtain ⟨cb9, ra9, rb9, rc9⟩ := xb_recv (ci := 1) hR rfl hk14 (by decide); exact xt_invV X hx hown (hts _ m_da067afc) (hts _ m_7e8d081f) (hts _ m_4e47f51a) (xt_sigOf (hts _ m_4f1bdc54)) nm_Row_add (by rw [hT]; exact ra9) rb9 rc9 (g := F0 m 48 ls [.long (Int32.toInt64 v2), .ref b13]) rfl (argsL := [.long (Int32.toInt64 v2)]) (rest := []) rfl rfl (by rw [hb]; exact (xb_d D_Reader_readImport 28 rfl))) (ok_Row_add l hfl D A σ b13 (Int32.toInt64 v2) h9 bc10 bs10 _ hw) (hml.trans hl.1.symm) (by rw [hb]; exact (xb_d D_Reader_readImport 28 rfl)) (Nat.le_of_ble_eq_true rfl) (Nat.le_of_ble_eq_true rfl) (Nat.le_of_ble_eq_true rfl) (show (((k + kk4) + kk7) + kk10) + bc10 ≤ MC by omega) (show (((n + nn4) + nn7) + nn10) + bs10 ≤ MS by omega) (xt_w1 hB.1 m_4f1bdc54) (xt_cdOf hB.1 m_4f1bdc54) (hts _ m_c1bef504) hB hR hS hA (fun vv h15 bc16 bs16 kk16 nn16 H locs hk16 hn16 hq hEh15 hR hS => ?_) (fun XX ax h15 bc16 bs16 kk16 nn16 H locs hk16 hn16 hq hEh15 hex hR hS => ?_)
        · obtain ⟨rfl, hw⟩ := hq
          have hw := hw hEh15
          have hE := hE.tr hEh15
          refine W.eq (g2 := F0 m 51 ls []) rfl ?_
          refine lv_aload_n hx hb (xb_d D_Reader_readImport 29 rfl) rfl (lv_at hl 6 rfl) ?_
          have hk1 : xb_k h15 x0 = 4 := hEh15.k hk1
          refine xb_getP (C := R_Reader) (T := F_Reader) (N := 6) hx hb 3 0 hts fin_Reader hown hR hk1 (by decide) rfl (by decide) rfl (hts _ m_76d8349c) (fun _ h9 => h9) (xb_d D_Reader_readImport 30 rfl) ?_
          obtain ⟨b17, eb17, hw⟩ := hw
          refine xb_some eb17 ?_
          obtain ⟨hk18, hw⟩ := hw
          refine xb_getP (C := R_StackModule) (T := F_StackModule) (N := 19) hx hb 2 3 hts fin_StackModule hown hR hk18 (by decide) rfl (by decide) rfl (hts _ m_2899aa38) (fun _ h9 => h9) (xb_d D_Reader_readImport 31 rfl) ?_
          obtain ⟨b19, eb19, hw⟩ := hw
          refine xb_some eb19 ?_
          refine lv_iload hx hb (xb_d D_Reader_readImport 32 rfl) (lv_at hl 0 rfl) ?_
          refine lv_i2l hx hb (xb_d D_Reader_readImport 33 rfl) rfl ?_
          obtain ⟨hk20, hw⟩ := hw
          refine xb_call (D := D) (A := A) (σ := σ) (h := h15) (d := 4) (mc := bc16) (ms := bs16) (maxL := 3) (rest := []) (av := [.ref b19, .long (Int32.toInt64 r10)]) (fun T hT X => by obtain ⟨cb9, ra9, rb9, rc9⟩ := xb_recv (ci := 1) hR rfl hk20 (by decide); exact xt_invV X hx hown (hts _ m_da067afc) (hts _ m_7e8d081f) (hts _ m_4e47f51a) (xt_sigOf (hts _ m_4f1bdc54)) nm_Row_add (by rw [hT]; exact ra9) rb9 rc9 (g := F0 m 61 ls [.long (Int32.toInt64 r10), .ref b19]) rfl (argsL := [.long (Int32.toInt64 r10)]) (rest := []) rfl rfl (by rw [hb]; exact (xb_d D_Reader_readImport 34 rfl))) (ok_Row_add l hfl D A σ b19 (Int32.toInt64 r10) h15 bc16 bs16 _ hw) (hml.trans hl.1.symm) (by rw [hb]; exact (xb_d D_Reader_readImport 34 rfl)) (Nat.le_of_ble_eq_true rfl) (Nat.le_of_ble_eq_true rfl) (Nat.le_of_ble_eq_true rfl) (show ((((k + kk4) + kk7) + kk10) + kk16) + bc16 ≤ MC by omega) (show ((((n + nn4) + nn7) + nn10) + nn16) + bs16 ≤ MS by omega) (xt_w1 hB.1 m_4f1bdc54) (xt_cdOf hB.1 m_4f1bdc54) (hts _ m_c1bef504) hB hR hS hA (fun vv h21 bc22 bs22 kk22 nn22 H locs hk22 hn22 hq hEh21 hR hS => ?_) (fun XX ax h21 bc22 bs22 kk22 nn22 H locs hk22 hn22 hq hEh21 hex hR hS => ?_)
          · obtain ⟨rfl, hw⟩ := hq
            have hw := hw hEh21
            have hE := hE.tr hEh21
            refine W.eq (g2 := F0 m 64 ls []) rfl ?_
            refine lv_aload_n hx hb (xb_d D_Reader_readImport 35 rfl) rfl (lv_at hl 6 rfl) ?_
            have hk1 : xb_k h21 x0 = 4 := hEh21.k hk1
            refine xb_getP (C := R_Reader) (T := F_Reader) (N := 6) hx hb 3 0 hts fin_Reader hown hR hk1 (by decide) rfl (by decide) rfl (hts _ m_76d8349c) (fun _ h9 => h9) (xb_d D_Reader_readImport 36 rfl) ?_
            obtain ⟨b23, eb23, hw⟩ := hw
            refine xb_some eb23 ?_
            obtain ⟨hk24, hw⟩ := hw
            refine xb_getP (C := R_StackModule) (T := F_StackModule) (N := 19) hx hb 2 3 hts fin_StackModule hown hR hk24 (by decide) rfl (by decide) rfl (hts _ m_2899aa38) (fun _ h9 => h9) (xb_d D_Reader_readImport 37 rfl) ?_
            obtain ⟨b25, eb25, hw⟩ := hw
            refine xb_some eb25 ?_
            refine lv_aload_n hx hb (xb_d D_Reader_readImport 38 rfl) rfl (lv_at hl 6 rfl) ?_
            refine xb_getP (C := R_Reader) (T := F_Reader) (N := 6) hx hb 3 0 hts fin_Reader hown hR hk1 (by decide) rfl (by decide) rfl (hts _ m_76d8349c) (fun _ h9 => h9) (xb_d D_Reader_readImport 39 rfl) ?_
            obtain ⟨b26, eb26, hw⟩ := hw
            refine xb_some eb26 ?_
            obtain ⟨hk27, hw⟩ := hw
            refine xb_getP (C := R_StackModule) (T := F_StackModule) (N := 19) hx hb 2 14 hts fin_StackModule hown hR hk27 (by decide) rfl (by decide) rfl (hts _ m_8d503518) (fun _ h9 => h9) (xb_d D_Reader_readImport 40 rfl) ?_
            obtain ⟨b28, eb28, hw⟩ := hw
            refine xb_some eb28 ?_
            refine lv_iload hx hb (xb_d D_Reader_readImport 41 rfl) (lv_at hl 0 rfl) ?_
            obtain ⟨hk30, hw⟩ := hw
            obtain ⟨hi29, hw⟩ := hw
            refine xb_iald hx hb hR hk30 hi29 (xb_d D_Reader_readImport 42 rfl) ?_
            refine lv_i2l hx hb (xb_d D_Reader_readImport 43 rfl) rfl ?_
            obtain ⟨hk31, hw⟩ := hw
            refine xb_call (D := D) (A := A) (σ := σ) (h := h21) (d := 4) (mc := bc22) (ms := bs22) (maxL := 3) (rest := []) (av := [.ref b25, .long (Int32.toInt64 (xb_i h21 b28 (Int32.toNatClampNeg r10)))]) (fun T hT X => by obtain ⟨cb9, ra9, rb9, rc9⟩ := xb_recv (ci := 1) hR rfl hk31 (by decide); exact xt_invV X hx hown (hts _ m_da067afc) (hts _ m_7e8d081f) (hts _ m_4e47f51a) (xt_sigOf (hts _ m_4f1bdc54)) nm_Row_add (by rw [hT]; exact ra9) rb9 rc9 (g := F0 m 82 ls [.long (Int32.toInt64 (xb_i h21 b28 (Int32.toNatClampNeg r10))), .ref b25]) rfl (argsL := [.long (Int32.toInt64 (xb_i h21 b28 (Int32.toNatClampNeg r10)))]) (rest := []) rfl rfl (by rw [hb]; exact (xb_d D_Reader_readImport 44 rfl))) (ok_Row_add l hfl D A σ b25 (Int32.toInt64 (xb_i h21 b28 (Int32.toNatClampNeg r10))) h21 bc22 bs22 _ hw) (hml.trans hl.1.symm) (by rw [hb]; exact (xb_d D_Reader_readImport 44 rfl)) (Nat.le_of_ble_eq_true rfl) (Nat.le_of_ble_eq_true rfl) (Nat.le_of_ble_eq_true rfl) (show (((((k + kk4) + kk7) + kk10) + kk16) + kk22) + bc22 ≤ MC by omega) (show (((((n + nn4) + nn7) + nn10) + nn16) + nn22) + bs22 ≤ MS by omega) (xt_w1 hB.1 m_4f1bdc54) (xt_cdOf hB.1 m_4f1bdc54) (hts _ m_c1bef504) hB hR hS hA (fun vv h32 bc33 bs33 kk33 nn33 H locs hk33 hn33 hq hEh32 hR hS => ?_) (fun XX ax h32 bc33 bs33 kk33 nn33 H locs hk33 hn33 hq hEh32 hex hR hS => ?_)
            · obtain ⟨rfl, hw⟩ := hq
              have hw := hw hEh32
              have hE := hE.tr hEh32
              refine W.eq (g2 := F0 m 85 ls []) rfl ?_
              refine lv_aload_n hx hb (xb_d D_Reader_readImport 45 rfl) rfl (lv_at hl 6 rfl) ?_
              have hk1 : xb_k h32 x0 = 4 := hEh32.k hk1
              refine xb_getP (C := R_Reader) (T := F_Reader) (N := 6) hx hb 3 0 hts fin_Reader hown hR hk1 (by decide) rfl (by decide) rfl (hts _ m_76d8349c) (fun _ h9 => h9) (xb_d D_Reader_readImport 46 rfl) ?_
              obtain ⟨b34, eb34, hw⟩ := hw
              refine xb_some eb34 ?_
              obtain ⟨hk35, hw⟩ := hw
              refine xb_getP (C := R_StackModule) (T := F_StackModule) (N := 19) hx hb 2 3 hts fin_StackModule hown hR hk35 (by decide) rfl (by decide) rfl (hts _ m_2899aa38) (fun _ h9 => h9) (xb_d D_Reader_readImport 47 rfl) ?_
              obtain ⟨b36, eb36, hw⟩ := hw
              refine xb_some eb36 ?_
              refine lv_iload_n hx hb (xb_d D_Reader_readImport 48 rfl) rfl (lv_at hl 3 rfl) ?_
              refine lv_i2l hx hb (xb_d D_Reader_readImport 49 rfl) rfl ?_
              obtain ⟨hk37, hw⟩ := hw
              refine xb_call (D := D) (A := A) (σ := σ) (h := h32) (d := 4) (mc := bc33) (ms := bs33) (maxL := 3) (rest := []) (av := [.ref b36, .long (Int32.toInt64 v5)]) (fun T hT X => by obtain ⟨cb9, ra9, rb9, rc9⟩ := xb_recv (ci := 1) hR rfl hk37 (by decide); exact xt_invV X hx hown (hts _ m_da067afc) (hts _ m_7e8d081f) (hts _ m_4e47f51a) (xt_sigOf (hts _ m_4f1bdc54)) nm_Row_add (by rw [hT]; exact ra9) rb9 rc9 (g := F0 m 94 ls [.long (Int32.toInt64 v5), .ref b36]) rfl (argsL := [.long (Int32.toInt64 v5)]) (rest := []) rfl rfl (by rw [hb]; exact (xb_d D_Reader_readImport 50 rfl))) (ok_Row_add l hfl D A σ b36 (Int32.toInt64 v5) h32 bc33 bs33 _ hw) (hml.trans hl.1.symm) (by rw [hb]; exact (xb_d D_Reader_readImport 50 rfl)) (Nat.le_of_ble_eq_true rfl) (Nat.le_of_ble_eq_true rfl) (Nat.le_of_ble_eq_true rfl) (show ((((((k + kk4) + kk7) + kk10) + kk16) + kk22) + kk33) + bc33 ≤ MC by omega) (show ((((((n + nn4) + nn7) + nn10) + nn16) + nn22) + nn33) + bs33 ≤ MS by omega) (xt_w1 hB.1 m_4f1bdc54) (xt_cdOf hB.1 m_4f1bdc54) (hts _ m_c1bef504) hB hR hS hA (fun vv h38 bc39 bs39 kk39 nn39 H locs hk39 hn39 hq hEh38 hR hS => ?_) (fun XX ax h38 bc39 bs39 kk39 nn39 H locs hk39 hn39 hq hEh38 hex hR hS => ?_)
              · obtain ⟨rfl, hw⟩ := hq
                have hw := hw hEh38
                have hE := hE.tr hEh38
                refine W.eq (g2 := F0 m 97 ls []) rfl ?_
                refine lv_aload_n hx hb (xb_d D_Reader_readImport 51 rfl) rfl (lv_at hl 6 rfl) ?_
                have hk1 : xb_k h38 x0 = 4 := hEh38.k hk1
                refine xb_getP (C := R_Reader) (T := F_Reader) (N := 6) hx hb 3 0 hts fin_Reader hown hR hk1 (by decide) rfl (by decide) rfl (hts _ m_76d8349c) (fun _ h9 => h9) (xb_d D_Reader_readImport 52 rfl) ?_
                obtain ⟨b40, eb40, hw⟩ := hw
                refine xb_some eb40 ?_
                obtain ⟨hk41, hw⟩ := hw
                refine xb_getP (C := R_StackModule) (T := F_StackModule) (N := 19) hx hb 2 3 hts fin_StackModule hown hR hk41 (by decide) rfl (by decide) rfl (hts _ m_2899aa38) (fun _ h9 => h9) (xb_d D_Reader_readImport 53 rfl) ?_
                obtain ⟨b42, eb42, hw⟩ := hw
                refine xb_some eb42 ?_
                refine lv_iload_n hx hb (xb_d D_Reader_readImport 54 rfl) rfl (lv_at hl 4 rfl) ?_
                refine lv_i2l hx hb (xb_d D_Reader_readImport 55 rfl) rfl ?_
                obtain ⟨hk43, hw⟩ := hw
                refine xb_call (D := D) (A := A) (σ := σ) (h := h38) (d := 4) (mc := bc39) (ms := bs39) (maxL := 3) (rest := []) (av := [.ref b42, .long (Int32.toInt64 r4)]) (fun T hT X => by obtain ⟨cb9, ra9, rb9, rc9⟩ := xb_recv (ci := 1) hR rfl hk43 (by decide); exact xt_invV X hx hown (hts _ m_da067afc) (hts _ m_7e8d081f) (hts _ m_4e47f51a) (xt_sigOf (hts _ m_4f1bdc54)) nm_Row_add (by rw [hT]; exact ra9) rb9 rc9 (g := F0 m 106 ls [.long (Int32.toInt64 r4), .ref b42]) rfl (argsL := [.long (Int32.toInt64 r4)]) (rest := []) rfl rfl (by rw [hb]; exact (xb_d D_Reader_readImport 56 rfl))) (ok_Row_add l hfl D A σ b42 (Int32.toInt64 r4) h38 bc39 bs39 _ hw) (hml.trans hl.1.symm) (by rw [hb]; exact (xb_d D_Reader_readImport 56 rfl)) (Nat.le_of_ble_eq_true rfl) (Nat.le_of_ble_eq_true rfl) (Nat.le_of_ble_eq_true rfl) (show (((((((k + kk4) + kk7) + kk10) + kk16) + kk22) + kk33) + kk39) + bc39 ≤ MC by omega) (show (((((((n + nn4) + nn7) + nn10) + nn16) + nn22) + nn33) + nn39) + bs39 ≤ MS by omega) (xt_w1 hB.1 m_4f1bdc54) (xt_cdOf hB.1 m_4f1bdc54) (hts _ m_c1bef504) hB hR hS hA (fun vv h44 bc45 bs45 kk45 nn45 H locs hk45 hn45 hq hEh44 hR hS => ?_) (fun XX ax h44 bc45 bs45 kk45 nn45 H locs hk45 hn45 hq hEh44 hex hR hS => ?_)
                · obtain ⟨rfl, hw⟩ := hq
                  have hw := hw hEh44
                  have hE := hE.tr hEh44
                  refine W.eq (g2 := F0 m 109 ls []) rfl ?_
                  refine lv_aload_n hx hb (xb_d D_Reader_readImport 57 rfl) rfl (lv_at hl 6 rfl) ?_
                  have hk1 : xb_k h44 x0 = 4 := hEh44.k hk1
                  refine xb_getP (C := R_Reader) (T := F_Reader) (N := 6) hx hb 3 0 hts fin_Reader hown hR hk1 (by decide) rfl (by decide) rfl (hts _ m_76d8349c) (fun _ h9 => h9) (xb_d D_Reader_readImport 58 rfl) ?_
                  obtain ⟨b46, eb46, hw⟩ := hw
                  refine xb_some eb46 ?_
                  obtain ⟨hk47, hw⟩ := hw
                  refine xb_getP (C := R_StackModule) (T := F_StackModule) (N := 19) hx hb 2 3 hts fin_StackModule hown hR hk47 (by decide) rfl (by decide) rfl (hts _ m_2899aa38) (fun _ h9 => h9) (xb_d D_Reader_readImport 59 rfl) ?_
                  obtain ⟨b48, eb48, hw⟩ := hw
                  refine xb_some eb48 ?_
                  refine lv_iload hx hb (xb_d D_Reader_readImport 60 rfl) (lv_at hl 1 rfl) ?_
                  refine lv_i2l hx hb (xb_d D_Reader_readImport 61 rfl) rfl ?_
                  obtain ⟨hk49, hw⟩ := hw
                  refine xb_call (D := D) (A := A) (σ := σ) (h := h44) (d := 4) (mc := bc45) (ms := bs45) (maxL := 3) (rest := []) (av := [.ref b48, .long (Int32.toInt64 v8)]) (fun T hT X => by obtain ⟨cb9, ra9, rb9, rc9⟩ := xb_recv (ci := 1) hR rfl hk49 (by decide); exact xt_invV X hx hown (hts _ m_da067afc) (hts _ m_7e8d081f) (hts _ m_4e47f51a) (xt_sigOf (hts _ m_4f1bdc54)) nm_Row_add (by rw [hT]; exact ra9) rb9 rc9 (g := F0 m 119 ls [.long (Int32.toInt64 v8), .ref b48]) rfl (argsL := [.long (Int32.toInt64 v8)]) (rest := []) rfl rfl (by rw [hb]; exact (xb_d D_Reader_readImport 62 rfl))) (ok_Row_add l hfl D A σ b48 (Int32.toInt64 v8) h44 bc45 bs45 _ hw) (hml.trans hl.1.symm) (by rw [hb]; exact (xb_d D_Reader_readImport 62 rfl)) (Nat.le_of_ble_eq_true rfl) (Nat.le_of_ble_eq_true rfl) (Nat.le_of_ble_eq_true rfl) (show ((((((((k + kk4) + kk7) + kk10) + kk16) + kk22) + kk33) + kk39) + kk45) + bc45 ≤ MC by omega) (show ((((((((n + nn4) + nn7) + nn10) + nn16) + nn22) + nn33) + nn39) + nn45) + bs45 ≤ MS by omega) (xt_w1 hB.1 m_4f1bdc54) (xt_cdOf hB.1 m_4f1bdc54) (hts _ m_c1bef504) hB hR hS hA (fun vv h50 bc51 bs51 kk51 nn51 H locs hk51 hn51 hq hEh50 hR hS => ?_) (fun XX ax h50 bc51 bs51 kk51 nn51 H locs hk51 hn51 hq hEh50 hex hR hS => ?_)
                  · obtain ⟨rfl, hw⟩ := hq
                    have hw := hw hEh50
                    have hE := hE.tr hEh50
                    refine W.eq (g2 := F0 m 122 ls []) rfl ?_
                    refine lv_aload_n hx hb (xb_d D_Reader_readImport 63 rfl) rfl (lv_at hl 6 rfl) ?_
                    have hk1 : xb_k h50 x0 = 4 := hEh50.k hk1
                    refine xb_getP (C := R_Reader) (T := F_Reader) (N := 6) hx hb 3 0 hts fin_Reader hown hR hk1 (by decide) rfl (by decide) rfl (hts _ m_76d8349c) (fun _ h9 => h9) (xb_d D_Reader_readImport 64 rfl) ?_
                    obtain ⟨b52, eb52, hw⟩ := hw
                    refine xb_some eb52 ?_
                    obtain ⟨hk53, hw⟩ := hw
                    refine xb_getP (C := R_StackModule) (T := F_StackModule) (N := 19) hx hb 2 3 hts fin_StackModule hown hR hk53 (by decide) rfl (by decide) rfl (hts _ m_2899aa38) (fun _ h9 => h9) (xb_d D_Reader_readImport 65 rfl) ?_
                    obtain ⟨b54, eb54, hw⟩ := hw
                    refine xb_some eb54 ?_
                    refine lv_iload hx hb (xb_d D_Reader_readImport 66 rfl) (lv_at hl 2 rfl) ?_
                    refine lv_i2l hx hb (xb_d D_Reader_readImport 67 rfl) rfl ?_
                    obtain ⟨hk55, hw⟩ := hw
                    refine xb_call (D := D) (A := A) (σ := σ) (h := h50) (d := 4) (mc := bc51) (ms := bs51) (maxL := 3) (rest := []) (av := [.ref b54, .long (Int32.toInt64 r7)]) (fun T hT X => by obtain ⟨cb9, ra9, rb9, rc9⟩ := xb_recv (ci := 1) hR rfl hk55 (by decide); exact xt_invV X hx hown (hts _ m_da067afc) (hts _ m_7e8d081f) (hts _ m_4e47f51a) (xt_sigOf (hts _ m_4f1bdc54)) nm_Row_add (by rw [hT]; exact ra9) rb9 rc9 (g := F0 m 132 ls [.long (Int32.toInt64 r7), .ref b54]) rfl (argsL := [.long (Int32.toInt64 r7)]) (rest := []) rfl rfl (by rw [hb]; exact (xb_d D_Reader_readImport 68 rfl))) (ok_Row_add l hfl D A σ b54 (Int32.toInt64 r7) h50 bc51 bs51 _ hw) (hml.trans hl.1.symm) (by rw [hb]; exact (xb_d D_Reader_readImport 68 rfl)) (Nat.le_of_ble_eq_true rfl) (Nat.le_of_ble_eq_true rfl) (Nat.le_of_ble_eq_true rfl) (show (((((((((k + kk4) + kk7) + kk10) + kk16) + kk22) + kk33) + kk39) + kk45) + kk51) + bc51 ≤ MC by omega) (show (((((((((n + nn4) + nn7) + nn10) + nn16) + nn22) + nn33) + nn39) + nn45) + nn51) + bs51 ≤ MS by omega) (xt_w1 hB.1 m_4f1bdc54) (xt_cdOf hB.1 m_4f1bdc54) (hts _ m_c1bef504) hB hR hS hA (fun vv h56 bc57 bs57 kk57 nn57 H locs hk57 hn57 hq hEh56 hR hS => ?_) (fun XX ax h56 bc57 bs57 kk57 nn57 H locs hk57 hn57 hq hEh56 hex hR hS => ?_)
                    · obtain ⟨rfl, hw⟩ := hq
                      have hw := hw hEh56
                      have hE := hE.tr hEh56
                      refine W.eq (g2 := F0 m 135 ls []) rfl ?_
                      refine lv_aload_n hx hb (xb_d D_Reader_readImport 69 rfl) rfl (lv_at hl 6 rfl) ?_
                      have hk1 : xb_k h56 x0 = 4 := hEh56.k hk1
                      refine xb_getP (C := R_Reader) (T := F_Reader) (N := 6) hx hb 3 0 hts fin_Reader hown hR hk1 (by decide) rfl (by decide) rfl (hts _ m_76d8349c) (fun _ h9 => h9) (xb_d D_Reader_readImport 70 rfl) ?_
                      obtain ⟨b58, eb58, hw⟩ := hw
                      refine xb_some eb58 ?_
                      obtain ⟨hk59, hw⟩ := hw
                      refine xb_getP (C := R_StackModule) (T := F_StackModule) (N := 19) hx hb 2 14 hts fin_StackModule hown hR hk59 (by decide) rfl (by decide) rfl (hts _ m_8d503518) (fun _ h9 => h9) (xb_d D_Reader_readImport 71 rfl) ?_
                      obtain ⟨b60, eb60, hw⟩ := hw
                      refine xb_some eb60 ?_
                      refine lv_iload hx hb (xb_d D_Reader_readImport 72 rfl) (lv_at hl 0 rfl) ?_
                      refine lv_dup2_11 hx hb (xb_d D_Reader_readImport 73 rfl) rfl rfl ?_
                      obtain ⟨hk62, hw⟩ := hw
                      obtain ⟨hi61, hw⟩ := hw
                      refine xb_iald hx hb hR hk62 hi61 (xb_d D_Reader_readImport 74 rfl) ?_
                      refine lv_iconst (v := 1) hx hb (xb_d D_Reader_readImport 75 rfl) (by decide) ?_
                      refine lv_iadd hx hb (xb_d D_Reader_readImport 76 rfl) ?_
                      obtain ⟨hi63, hw⟩ := hw
                      refine xb_iast hx hb hR hS hk62 hi63 (xb_d D_Reader_readImport 77 rfl) (fun H locs hR hS => ?_)
                      obtain ⟨h64, eh64⟩ : ∃ x : xb_H, x = xb_I h56 b60 (Int32.toNatClampNeg r10) ((xb_i h56 b60 (Int32.toNatClampNeg r10)) + 1) := ⟨_, rfl⟩
                      rw [← eh64] at hR
                      have hw := hw h64 eh64
                      have hE : xb_ext h0 h64 := by rw [eh64]; exact hE
                      refine lv_iload hx hb (xb_d D_Reader_readImport 78 rfl) (lv_at hl 0 rfl) ?_
                      refine lv_if_ne (tgt := 188) hx hb (xb_d D_Reader_readImport 79 rfl) rfl (fun hc65 => ?_) (fun hc65 => ?_)
                      · have hw := hw.1 hc65
                        refine lv_iload hx hb (xb_d D_Reader_readImport 96 rfl) (lv_at hl 0 rfl) ?_
                        refine lv_iconst (v := 1) hx hb (xb_d D_Reader_readImport 97 rfl) (by decide) ?_
                        refine lv_icmp_ne (tgt := 215) hx hb (xb_d D_Reader_readImport 98 rfl) rfl (fun hc66 => ?_) (fun hc66 => ?_)
                        · have hw := hw.1 hc66
                          refine lv_iload hx hb (xb_d D_Reader_readImport 109 rfl) (lv_at hl 0 rfl) ?_
                          refine lv_iconst (v := 2) hx hb (xb_d D_Reader_readImport 110 rfl) (by decide) ?_
                          refine lv_icmp_ne (tgt := 236) hx hb (xb_d D_Reader_readImport 111 rfl) rfl (fun hc67 => ?_) (fun hc67 => ?_)
                          · have hw := hw.1 hc67
                            refine lv_aload_n hx hb (xb_d D_Reader_readImport 119 rfl) rfl (lv_at hl 6 rfl) ?_
                            refine lv_iload_n hx hb (xb_d D_Reader_readImport 120 rfl) rfl (lv_at hl 5 rfl) ?_
                            have hk1 : xb_k h64 x0 = 4 := by rw [eh64]; exact hk1
                            refine xb_call (D := D) (A := A) (σ := σ) (h := h64) (d := 5) (mc := bc57) (ms := bs57) (maxL := 2) (rest := []) (av := [.ref x0, .int v2]) (fun T hT X => by obtain ⟨cb9, ra9, rb9, rc9⟩ := xb_recv (ci := 3) hR rfl hk1 (by decide); exact xt_invV X hx hown (hts _ m_544cf043) (hts _ m_43060829) (hts _ m_ec78475f) (xt_sigOf (hts _ m_a4ac8e6b)) nm_Reader_readVariableType (by rw [hT]; exact ra9) rb9 rc9 (g := F0 m 238 ls [.int v2, .ref x0]) rfl (argsL := [.int v2]) (rest := []) rfl rfl (by rw [hb]; exact (xb_d D_Reader_readImport 121 rfl))) (ok_Reader_readVariableType l hfl D A σ x0 v2 h64 bc57 bs57 _ _ hw) (hml.trans hl.1.symm) (by rw [hb]; exact (xb_d D_Reader_readImport 121 rfl)) (Nat.le_of_ble_eq_true rfl) (Nat.le_of_ble_eq_true rfl) (Nat.le_of_ble_eq_true rfl) (show ((((((((((k + kk4) + kk7) + kk10) + kk16) + kk22) + kk33) + kk39) + kk45) + kk51) + kk57) + bc57 ≤ MC by omega) (show ((((((((((n + nn4) + nn7) + nn10) + nn16) + nn22) + nn33) + nn39) + nn45) + nn51) + nn57) + bs57 ≤ MS by omega) (xt_w1 hB.1 m_a4ac8e6b) (xt_cdOf hB.1 m_a4ac8e6b) (hts _ m_938fcec4) hB hR hS hA (fun vv h68 bc69 bs69 kk69 nn69 H locs hk69 hn69 hq hEh68 hR hS => ?_) (fun XX ax h68 bc69 bs69 kk69 nn69 H locs hk69 hn69 hq hEh68 hex hR hS => ?_)
                            · obtain ⟨rfl, hw⟩ := hq
                              have hw := hw hEh68
                              have hE := hE.tr hEh68
                              refine W.eq (g2 := F0 m 241 ls []) rfl ?_
                              refine lv_aload_n hx hb (xb_d D_Reader_readImport 122 rfl) rfl (lv_at hl 6 rfl) ?_
                              have hk1 : xb_k h68 x0 = 4 := hEh68.k hk1
                              refine xb_getP (C := R_Reader) (T := F_Reader) (N := 6) hx hb 3 0 hts fin_Reader hown hR hk1 (by decide) rfl (by decide) rfl (hts _ m_76d8349c) (fun _ h9 => h9) (xb_d D_Reader_readImport 123 rfl) ?_
                              obtain ⟨b70, eb70, hw⟩ := hw
                              refine xb_some eb70 ?_
                              obtain ⟨hk71, hw⟩ := hw
                              refine xb_getP (C := R_StackModule) (T := F_StackModule) (N := 19) hx hb 2 7 hts fin_StackModule hown hR hk71 (by decide) rfl (by decide) rfl (hts _ m_040d1f1f) (fun _ h9 => h9) (xb_d D_Reader_readImport 124 rfl) ?_
                              obtain ⟨b72, eb72, hw⟩ := hw
                              refine xb_some eb72 ?_
                              refine lv_ldc2 (v := (-1)) hx hb hown (hts _ m_85744c42) (xb_d D_Reader_readImport 125 rfl) ?_
                              obtain ⟨hk73, hw⟩ := hw
                              refine xb_call (D := D) (A := A) (σ := σ) (h := h68) (d := 4) (mc := bc69) (ms := bs69) (maxL := 3) (rest := []) (av := [.ref b72, .long (-1)]) (fun T hT X => by obtain ⟨cb9, ra9, rb9, rc9⟩ := xb_recv (ci := 1) hR rfl hk73 (by decide); exact xt_invV X hx hown (hts _ m_da067afc) (hts _ m_7e8d081f) (hts _ m_4e47f51a) (xt_sigOf (hts _ m_4f1bdc54)) nm_Row_add (by rw [hT]; exact ra9) rb9 rc9 (g := F0 m 251 ls [.long (-1), .ref b72]) rfl (argsL := [.long (-1)]) (rest := []) rfl rfl (by rw [hb]; exact (xb_d D_Reader_readImport 126 rfl))) (ok_Row_add l hfl D A σ b72 (-1) h68 bc69 bs69 _ hw) (hml.trans hl.1.symm) (by rw [hb]; exact (xb_d D_Reader_readImport 126 rfl)) (Nat.le_of_ble_eq_true rfl) (Nat.le_of_ble_eq_true rfl) (Nat.le_of_ble_eq_true rfl) (show (((((((((((k + kk4) + kk7) + kk10) + kk16) + kk22) + kk33) + kk39) + kk45) + kk51) + kk57) + kk69) + bc69 ≤ MC by omega) (show (((((((((((n + nn4) + nn7) + nn10) + nn16) + nn22) + nn33) + nn39) + nn45) + nn51) + nn57) + nn69) + bs69 ≤ MS by omega) (xt_w1 hB.1 m_4f1bdc54) (xt_cdOf hB.1 m_4f1bdc54) (hts _ m_c1bef504) hB hR hS hA (fun vv h74 bc75 bs75 kk75 nn75 H locs hk75 hn75 hq hEh74 hR hS => ?_) (fun XX ax h74 bc75 bs75 kk75 nn75 H locs hk75 hn75 hq hEh74 hex hR hS => ?_)
                              · obtain ⟨rfl, hw⟩ := hq
                                have hw := hw hEh74
                                have hE := hE.tr hEh74
                                refine W.eq (g2 := F0 m 254 ls []) rfl ?_
                                exact am_Reader_readImport_L254 l hfl D A σ MC MS h0 Qr Qt h74 bc75 bs75 hw p e s m args below meth c hC H locs ls ((((((((((((k + kk4) + kk7) + kk10) + kk16) + kk22) + kk33) + kk39) + kk45) + kk51) + kk57) + kk69) + kk75) ((((((((((((n + nn4) + nn7) + nn10) + nn16) + nn22) + nn33) + nn39) + nn45) + nn51) + nn57) + nn69) + nn75) hE (lv_sub hl [] rfl) hR hS (by omega) (by omega)
                              · exact False.elim hq
                            · exact xb_pass hlocks (fun x hx9 => by rw [htab] at hx9; first | (cases hx9; done) | (simp [tableOf] at hx9; subst hx9; decide) | (simp [tableOf] at hx9; rcases hx9 with rfl | rfl <;> decide) | (simp [tableOf] at hx9; rcases hx9 with rfl | rfl | rfl <;> decide)) (show (((((((((((k + kk4) + kk7) + kk10) + kk16) + kk22) + kk33) + kk39) + kk45) + kk51) + kk57) + kk69) + bc69 ≤ MC by omega) (show (((((((((((n + nn4) + nn7) + nn10) + nn16) + nn22) + nn33) + nn39) + nn45) + nn51) + nn57) + nn69) + bs69 ≤ MS by omega) (hE.tr hEh68) hR hS hex hq
                          · have hw := hw.2 hc67
                            refine lv_aload_n hx hb (xb_d D_Reader_readImport 112 rfl) rfl (lv_at hl 6 rfl) ?_
                            refine lv_aload_n hx hb (xb_d D_Reader_readImport 113 rfl) rfl (lv_at hl 6 rfl) ?_
                            have hk1 : xb_k h64 x0 = 4 := by rw [eh64]; exact hk1
                            refine xb_getP (C := R_Reader) (T := F_Reader) (N := 6) hx hb 3 0 hts fin_Reader hown hR hk1 (by decide) rfl (by decide) rfl (hts _ m_76d8349c) (fun _ h9 => h9) (xb_d D_Reader_readImport 114 rfl) ?_
                            obtain ⟨b76, eb76, hw⟩ := hw
                            refine xb_some eb76 ?_
                            obtain ⟨hk77, hw⟩ := hw
                            refine xb_getP (C := R_StackModule) (T := F_StackModule) (N := 19) hx hb 2 6 hts fin_StackModule hown hR hk77 (by decide) rfl (by decide) rfl (hts _ m_aacfe790) (fun _ h9 => h9) (xb_d D_Reader_readImport 115 rfl) ?_
                            obtain ⟨b78, eb78, hw⟩ := hw
                            refine xb_some eb78 ?_
                            refine lv_iload_n hx hb (xb_d D_Reader_readImport 116 rfl) rfl (lv_at hl 5 rfl) ?_
                            refine xb_call (D := D) (A := A) (σ := σ) (h := h64) (d := 5) (mc := bc57) (ms := bs57) (maxL := 4) (rest := []) (av := [.ref x0, .ref b78, .int v2]) (fun T hT X => by obtain ⟨cb9, ra9, rb9, rc9⟩ := xb_recv (ci := 3) hR rfl hk1 (by decide); exact xt_invV X hx hown (hts _ m_8deb7e3b) (hts _ m_592ab943) (hts _ m_602d511d) (xt_sigOf (hts _ m_06c7cb4a)) nm_Reader_readLimits (by rw [hT]; exact ra9) rb9 rc9 (g := F0 m 230 ls [.int v2, .ref b78, .ref x0]) rfl (argsL := [.ref b78, .int v2]) (rest := []) rfl rfl (by rw [hb]; exact (xb_d D_Reader_readImport 117 rfl))) (ok_Reader_readLimits l hfl D A σ x0 b78 v2 h64 bc57 bs57 _ _ hw) (hml.trans hl.1.symm) (by rw [hb]; exact (xb_d D_Reader_readImport 117 rfl)) (Nat.le_of_ble_eq_true rfl) (Nat.le_of_ble_eq_true rfl) (Nat.le_of_ble_eq_true rfl) (show ((((((((((k + kk4) + kk7) + kk10) + kk16) + kk22) + kk33) + kk39) + kk45) + kk51) + kk57) + bc57 ≤ MC by omega) (show ((((((((((n + nn4) + nn7) + nn10) + nn16) + nn22) + nn33) + nn39) + nn45) + nn51) + nn57) + bs57 ≤ MS by omega) (xt_w1 hB.1 m_06c7cb4a) (xt_cdOf hB.1 m_06c7cb4a) (hts _ m_938fcec4) hB hR hS hA (fun vv h79 bc80 bs80 kk80 nn80 H locs hk80 hn80 hq hEh79 hR hS => ?_) (fun XX ax h79 bc80 bs80 kk80 nn80 H locs hk80 hn80 hq hEh79 hex hR hS => ?_)
                            · obtain ⟨rfl, hw⟩ := hq
                              have hw := hw hEh79
                              have hE := hE.tr hEh79
                              refine W.eq (g2 := F0 m 233 ls []) rfl ?_
                              refine lv_goto (tgt := 254) hx hb (xb_d D_Reader_readImport 118 rfl) rfl ?_
                              exact am_Reader_readImport_L254 l hfl D A σ MC MS h0 Qr Qt h79 bc80 bs80 hw p e s m args below meth c hC H locs ls (((((((((((k + kk4) + kk7) + kk10) + kk16) + kk22) + kk33) + kk39) + kk45) + kk51) + kk57) + kk80) (((((((((((n + nn4) + nn7) + nn10) + nn16) + nn22) + nn33) + nn39) + nn45) + nn51) + nn57) + nn80) hE (lv_sub hl [] rfl) hR hS (by omega) (by omega)
                            · exact xb_pass hlocks (fun x hx9 => by rw [htab] at hx9; first | (cases hx9; done) | (simp [tableOf] at hx9; subst hx9; decide) | (simp [tableOf] at hx9; rcases hx9 with rfl | rfl <;> decide) | (simp [tableOf] at hx9; rcases hx9 with rfl | rfl | rfl <;> decide)) (show (((((((((((k + kk4) + kk7) + kk10) + kk16) + kk22) + kk33) + kk39) + kk45) + kk51) + kk57) + kk80) + bc80 ≤ MC by omega) (show (((((((((((n + nn4) + nn7) + nn10) + nn16) + nn22) + nn33) + nn39) + nn45) + nn51) + nn57) + nn80) + bs80 ≤ MS by omega) (hE.tr hEh79) hR hS hex hq
                        · have hw := hw.2 hc66
                          refine lv_aload_n hx hb (xb_d D_Reader_readImport 99 rfl) rfl (lv_at hl 6 rfl) ?_
                          refine lv_bipush (v := 112) hx hb (xb_d D_Reader_readImport 100 rfl) (by decide) ?_
                          have hk1 : xb_k h64 x0 = 4 := by rw [eh64]; exact hk1
                          refine xb_call (D := D) (A := A) (σ := σ) (h := h64) (d := 3) (mc := bc57) (ms := bs57) (maxL := 2) (rest := []) (av := [.ref x0, .int 112]) (fun T hT X => by obtain ⟨cb9, ra9, rb9, rc9⟩ := xb_recv (ci := 3) hR rfl hk1 (by decide); exact xt_invV X hx hown (hts _ m_bc6f1cef) (hts _ m_6ae404a7) (hts _ m_7b6b2ffe) (xt_sigOf (hts _ m_e431c1f6)) nm_Reader_readMark (by rw [hT]; exact ra9) rb9 rc9 (g := F0 m 197 ls [.int 112, .ref x0]) rfl (argsL := [.int 112]) (rest := []) rfl rfl (by rw [hb]; exact (xb_d D_Reader_readImport 101 rfl))) (ok_Reader_readMark l hfl D A σ x0 112 h64 bc57 bs57 _ _ hw) (hml.trans hl.1.symm) (by rw [hb]; exact (xb_d D_Reader_readImport 101 rfl)) (Nat.le_of_ble_eq_true rfl) (Nat.le_of_ble_eq_true rfl) (Nat.le_of_ble_eq_true rfl) (show ((((((((((k + kk4) + kk7) + kk10) + kk16) + kk22) + kk33) + kk39) + kk45) + kk51) + kk57) + bc57 ≤ MC by omega) (show ((((((((((n + nn4) + nn7) + nn10) + nn16) + nn22) + nn33) + nn39) + nn45) + nn51) + nn57) + bs57 ≤ MS by omega) (xt_w1 hB.1 m_e431c1f6) (xt_cdOf hB.1 m_e431c1f6) (hts _ m_938fcec4) hB hR hS hA (fun vv h81 bc82 bs82 kk82 nn82 H locs hk82 hn82 hq hEh81 hR hS => ?_) (fun XX ax h81 bc82 bs82 kk82 nn82 H locs hk82 hn82 hq hEh81 hex hR hS => ?_)
                          · obtain ⟨rfl, hw⟩ := hq
                            have hw := hw hEh81
                            have hE := hE.tr hEh81
                            refine W.eq (g2 := F0 m 200 ls []) rfl ?_
                            refine lv_aload_n hx hb (xb_d D_Reader_readImport 102 rfl) rfl (lv_at hl 6 rfl) ?_
                            refine lv_aload_n hx hb (xb_d D_Reader_readImport 103 rfl) rfl (lv_at hl 6 rfl) ?_
                            have hk1 : xb_k h81 x0 = 4 := hEh81.k hk1
                            refine xb_getP (C := R_Reader) (T := F_Reader) (N := 6) hx hb 3 0 hts fin_Reader hown hR hk1 (by decide) rfl (by decide) rfl (hts _ m_76d8349c) (fun _ h9 => h9) (xb_d D_Reader_readImport 104 rfl) ?_
                            obtain ⟨b83, eb83, hw⟩ := hw
                            refine xb_some eb83 ?_
                            obtain ⟨hk84, hw⟩ := hw
                            refine xb_getP (C := R_StackModule) (T := F_StackModule) (N := 19) hx hb 2 5 hts fin_StackModule hown hR hk84 (by decide) rfl (by decide) rfl (hts _ m_e81580da) (fun _ h9 => h9) (xb_d D_Reader_readImport 105 rfl) ?_
                            obtain ⟨b85, eb85, hw⟩ := hw
                            refine xb_some eb85 ?_
                            refine lv_iload_n hx hb (xb_d D_Reader_readImport 106 rfl) rfl (lv_at hl 5 rfl) ?_
                            refine xb_call (D := D) (A := A) (σ := σ) (h := h81) (d := 5) (mc := bc82) (ms := bs82) (maxL := 4) (rest := []) (av := [.ref x0, .ref b85, .int v2]) (fun T hT X => by obtain ⟨cb9, ra9, rb9, rc9⟩ := xb_recv (ci := 3) hR rfl hk1 (by decide); exact xt_invV X hx hown (hts _ m_8deb7e3b) (hts _ m_592ab943) (hts _ m_602d511d) (xt_sigOf (hts _ m_06c7cb4a)) nm_Reader_readLimits (by rw [hT]; exact ra9) rb9 rc9 (g := F0 m 209 ls [.int v2, .ref b85, .ref x0]) rfl (argsL := [.ref b85, .int v2]) (rest := []) rfl rfl (by rw [hb]; exact (xb_d D_Reader_readImport 107 rfl))) (ok_Reader_readLimits l hfl D A σ x0 b85 v2 h81 bc82 bs82 _ _ hw) (hml.trans hl.1.symm) (by rw [hb]; exact (xb_d D_Reader_readImport 107 rfl)) (Nat.le_of_ble_eq_true rfl) (Nat.le_of_ble_eq_true rfl) (Nat.le_of_ble_eq_true rfl) (show (((((((((((k + kk4) + kk7) + kk10) + kk16) + kk22) + kk33) + kk39) + kk45) + kk51) + kk57) + kk82) + bc82 ≤ MC by omega) (show (((((((((((n + nn4) + nn7) + nn10) + nn16) + nn22) + nn33) + nn39) + nn45) + nn51) + nn57) + nn82) + bs82 ≤ MS by omega) (xt_w1 hB.1 m_06c7cb4a) (xt_cdOf hB.1 m_06c7cb4a) (hts _ m_938fcec4) hB hR hS hA (fun vv h86 bc87 bs87 kk87 nn87 H locs hk87 hn87 hq hEh86 hR hS => ?_) (fun XX ax h86 bc87 bs87 kk87 nn87 H locs hk87 hn87 hq hEh86 hex hR hS => ?_)
                            · obtain ⟨rfl, hw⟩ := hq
                              have hw := hw hEh86
                              have hE := hE.tr hEh86
                              refine W.eq (g2 := F0 m 212 ls []) rfl ?_
                              refine lv_goto (tgt := 254) hx hb (xb_d D_Reader_readImport 108 rfl) rfl ?_
                              exact am_Reader_readImport_L254 l hfl D A σ MC MS h0 Qr Qt h86 bc87 bs87 hw p e s m args below meth c hC H locs ls ((((((((((((k + kk4) + kk7) + kk10) + kk16) + kk22) + kk33) + kk39) + kk45) + kk51) + kk57) + kk82) + kk87) ((((((((((((n + nn4) + nn7) + nn10) + nn16) + nn22) + nn33) + nn39) + nn45) + nn51) + nn57) + nn82) + nn87) hE (lv_sub hl [] rfl) hR hS (by omega) (by omega)
                            · exact xb_pass hlocks (fun x hx9 => by rw [htab] at hx9; first | (cases hx9; done) | (simp [tableOf] at hx9; subst hx9; decide) | (simp [tableOf] at hx9; rcases hx9 with rfl | rfl <;> decide) | (simp [tableOf] at hx9; rcases hx9 with rfl | rfl | rfl <;> decide)) (show ((((((((((((k + kk4) + kk7) + kk10) + kk16) + kk22) + kk33) + kk39) + kk45) + kk51) + kk57) + kk82) + kk87) + bc87 ≤ MC by omega) (show ((((((((((((n + nn4) + nn7) + nn10) + nn16) + nn22) + nn33) + nn39) + nn45) + nn51) + nn57) + nn82) + nn87) + bs87 ≤ MS by omega) (hE.tr hEh86) hR hS hex hq
                          · exact xb_pass hlocks (fun x hx9 => by rw [htab] at hx9; first | (cases hx9; done) | (simp [tableOf] at hx9; subst hx9; decide) | (simp [tableOf] at hx9; rcases hx9 with rfl | rfl <;> decide) | (simp [tableOf] at hx9; rcases hx9 with rfl | rfl | rfl <;> decide)) (show (((((((((((k + kk4) + kk7) + kk10) + kk16) + kk22) + kk33) + kk39) + kk45) + kk51) + kk57) + kk82) + bc82 ≤ MC by omega) (show (((((((((((n + nn4) + nn7) + nn10) + nn16) + nn22) + nn33) + nn39) + nn45) + nn51) + nn57) + nn82) + bs82 ≤ MS by omega) (hE.tr hEh81) hR hS hex hq
                      · have hw := hw.2 hc65
                        refine lv_aload_n hx hb (xb_d D_Reader_readImport 80 rfl) rfl (lv_at hl 6 rfl) ?_
                        have hk1 : xb_k h64 x0 = 4 := by rw [eh64]; exact hk1
                        refine xb_getP (C := R_Reader) (T := F_Reader) (N := 6) hx hb 3 0 hts fin_Reader hown hR hk1 (by decide) rfl (by decide) rfl (hts _ m_76d8349c) (fun _ h9 => h9) (xb_d D_Reader_readImport 81 rfl) ?_
                        obtain ⟨b88, eb88, hw⟩ := hw
                        refine xb_some eb88 ?_
                        obtain ⟨hk89, hw⟩ := hw
                        refine xb_getP (C := R_StackModule) (T := F_StackModule) (N := 19) hx hb 2 4 hts fin_StackModule hown hR hk89 (by decide) rfl (by decide) rfl (hts _ m_08af5762) (fun _ h9 => h9) (xb_d D_Reader_readImport 82 rfl) ?_
                        obtain ⟨b90, eb90, hw⟩ := hw
                        refine xb_some eb90 ?_
                        refine lv_iload_n hx hb (xb_d D_Reader_readImport 83 rfl) rfl (lv_at hl 5 rfl) ?_
                        refine lv_i2l hx hb (xb_d D_Reader_readImport 84 rfl) rfl ?_
                        obtain ⟨hk91, hw⟩ := hw
                        refine xb_call (D := D) (A := A) (σ := σ) (h := h64) (d := 4) (mc := bc57) (ms := bs57) (maxL := 3) (rest := []) (av := [.ref b90, .long (Int32.toInt64 v2)]) (fun T hT X => by obtain ⟨cb9, ra9, rb9, rc9⟩ := xb_recv (ci := 1) hR rfl hk91 (by decide); exact xt_invV X hx hown (hts _ m_da067afc) (hts _ m_7e8d081f) (hts _ m_4e47f51a) (xt_sigOf (hts _ m_4f1bdc54)) nm_Row_add (by rw [hT]; exact ra9) rb9 rc9 (g := F0 m 163 ls [.long (Int32.toInt64 v2), .ref b90]) rfl (argsL := [.long (Int32.toInt64 v2)]) (rest := []) rfl rfl (by rw [hb]; exact (xb_d D_Reader_readImport 85 rfl))) (ok_Row_add l hfl D A σ b90 (Int32.toInt64 v2) h64 bc57 bs57 _ hw) (hml.trans hl.1.symm) (by rw [hb]; exact (xb_d D_Reader_readImport 85 rfl)) (Nat.le_of_ble_eq_true rfl) (Nat.le_of_ble_eq_true rfl) (Nat.le_of_ble_eq_true rfl) (show ((((((((((k + kk4) + kk7) + kk10) + kk16) + kk22) + kk33) + kk39) + kk45) + kk51) + kk57) + bc57 ≤ MC by omega) (show ((((((((((n + nn4) + nn7) + nn10) + nn16) + nn22) + nn33) + nn39) + nn45) + nn51) + nn57) + bs57 ≤ MS by omega) (xt_w1 hB.1 m_4f1bdc54) (xt_cdOf hB.1 m_4f1bdc54) (hts _ m_c1bef504) hB hR hS hA (fun vv h92 bc93 bs93 kk93 nn93 H locs hk93 hn93 hq hEh92 hR hS => ?_) (fun XX ax h92 bc93 bs93 kk93 nn93 H locs hk93 hn93 hq hEh92 hex hR hS => ?_)
                        · obtain ⟨rfl, hw⟩ := hq
                          have hw := hw hEh92
                          have hE := hE.tr hEh92
                          refine W.eq (g2 := F0 m 166 ls []) rfl ?_
                          refine lv_aload_n hx hb (xb_d D_Reader_readImport 86 rfl) rfl (lv_at hl 6 rfl) ?_
                          have hk1 : xb_k h92 x0 = 4 := hEh92.k hk1
                          refine xb_getP (C := R_Reader) (T := F_Reader) (N := 6) hx hb 3 0 hts fin_Reader hown hR hk1 (by decide) rfl (by decide) rfl (hts _ m_76d8349c) (fun _ h9 => h9) (xb_d D_Reader_readImport 87 rfl) ?_
                          obtain ⟨b94, eb94, hw⟩ := hw
                          refine xb_some eb94 ?_
                          obtain ⟨hk95, hw⟩ := hw
                          refine xb_getP (C := R_StackModule) (T := F_StackModule) (N := 19) hx hb 2 4 hts fin_StackModule hown hR hk95 (by decide) rfl (by decide) rfl (hts _ m_08af5762) (fun _ h9 => h9) (xb_d D_Reader_readImport 88 rfl) ?_
                          obtain ⟨b96, eb96, hw⟩ := hw
                          refine xb_some eb96 ?_
                          refine lv_aload_n hx hb (xb_d D_Reader_readImport 89 rfl) rfl (lv_at hl 6 rfl) ?_
                          refine xb_call (D := D) (A := A) (σ := σ) (h := h92) (d := 3) (mc := bc93) (ms := bs93) (maxL := 4) (rest := [.ref b96]) (av := [.ref x0]) (fun T hT X => by obtain ⟨cb9, ra9, rb9, rc9⟩ := xb_recv (ci := 3) hR rfl hk1 (by decide); exact xt_invV X hx hown (hts _ m_2c379b4d) (hts _ m_a120e786) (hts _ m_e903c73e) (xt_sigOf (hts _ m_99690a98)) nm_Reader_count (by rw [hT]; exact ra9) rb9 rc9 (g := F0 m 174 ls [.ref x0, .ref b96]) rfl (argsL := []) (rest := [.ref b96]) rfl rfl (by rw [hb]; exact (xb_d D_Reader_readImport 90 rfl))) (ok_Reader_count l hfl D A σ x0 h92 bc93 bs93 _ _ hw) (hml.trans hl.1.symm) (by rw [hb]; exact (xb_d D_Reader_readImport 90 rfl)) (Nat.le_of_ble_eq_true rfl) (Nat.le_of_ble_eq_true rfl) (Nat.le_of_ble_eq_true rfl) (show (((((((((((k + kk4) + kk7) + kk10) + kk16) + kk22) + kk33) + kk39) + kk45) + kk51) + kk57) + kk93) + bc93 ≤ MC by omega) (show (((((((((((n + nn4) + nn7) + nn10) + nn16) + nn22) + nn33) + nn39) + nn45) + nn51) + nn57) + nn93) + bs93 ≤ MS by omega) (xt_w1 hB.1 m_99690a98) (xt_cdOf hB.1 m_99690a98) (hts _ m_938fcec4) hB hR hS hA (fun vv h97 bc98 bs98 kk98 nn98 H locs hk98 hn98 hq hEh97 hR hS => ?_) (fun XX ax h97 bc98 bs98 kk98 nn98 H locs hk98 hn98 hq hEh97 hex hR hS => ?_)
                          · obtain ⟨r98, rfl, hw⟩ := hq
                            have hw := hw hEh97
                            have hE := hE.tr hEh97
                            refine W.eq (g2 := F0 m 177 ls [.int r98, .ref b96]) rfl ?_
                            refine lv_i2l hx hb (xb_d D_Reader_readImport 91 rfl) rfl ?_
                            refine lv_ldc2 (v := 4294967295) hx hb hown (hts _ m_687f726b) (xb_d D_Reader_readImport 92 rfl) ?_
                            refine lv_land hx hb (xb_d D_Reader_readImport 93 rfl) ?_
                            obtain ⟨hk99, hw⟩ := hw
                            refine xb_call (D := D) (A := A) (σ := σ) (h := h97) (d := 4) (mc := bc98) (ms := bs98) (maxL := 3) (rest := []) (av := [.ref b96, .long ((Int32.toInt64 r98) &&& 4294967295)]) (fun T hT X => by obtain ⟨cb9, ra9, rb9, rc9⟩ := xb_recv (ci := 1) hR rfl hk99 (by decide); exact xt_invV X hx hown (hts _ m_da067afc) (hts _ m_7e8d081f) (hts _ m_4e47f51a) (xt_sigOf (hts _ m_4f1bdc54)) nm_Row_add (by rw [hT]; exact ra9) rb9 rc9 (g := F0 m 182 ls [.long ((Int32.toInt64 r98) &&& 4294967295), .ref b96]) rfl (argsL := [.long ((Int32.toInt64 r98) &&& 4294967295)]) (rest := []) rfl rfl (by rw [hb]; exact (xb_d D_Reader_readImport 94 rfl))) (ok_Row_add l hfl D A σ b96 ((Int32.toInt64 r98) &&& 4294967295) h97 bc98 bs98 _ hw) (hml.trans hl.1.symm) (by rw [hb]; exact (xb_d D_Reader_readImport 94 rfl)) (Nat.le_of_ble_eq_true rfl) (Nat.le_of_ble_eq_true rfl) (Nat.le_of_ble_eq_true rfl) (show ((((((((((((k + kk4) + kk7) + kk10) + kk16) + kk22) + kk33) + kk39) + kk45) + kk51) + kk57) + kk93) + kk98) + bc98 ≤ MC by omega) (show ((((((((((((n + nn4) + nn7) + nn10) + nn16) + nn22) + nn33) + nn39) + nn45) + nn51) + nn57) + nn93) + nn98) + bs98 ≤ MS by omega) (xt_w1 hB.1 m_4f1bdc54) (xt_cdOf hB.1 m_4f1bdc54) (hts _ m_c1bef504) hB hR hS hA (fun vv h100 bc101 bs101 kk101 nn101 H locs hk101 hn101 hq hEh100 hR hS => ?_) (fun XX ax h100 bc101 bs101 kk101 nn101 H locs hk101 hn101 hq hEh100 hex hR hS => ?_)
                            · obtain ⟨rfl, hw⟩ := hq
                              have hw := hw hEh100
                              have hE := hE.tr hEh100
                              refine W.eq (g2 := F0 m 185 ls []) rfl ?_
                              refine lv_goto (tgt := 254) hx hb (xb_d D_Reader_readImport 95 rfl) rfl ?_
                              exact am_Reader_readImport_L254 l hfl D A σ MC MS h0 Qr Qt h100 bc101 bs101 hw p e s m args below meth c hC H locs ls (((((((((((((k + kk4) + kk7) + kk10) + kk16) + kk22) + kk33) + kk39) + kk45) + kk51) + kk57) + kk93) + kk98) + kk101) (((((((((((((n + nn4) + nn7) + nn10) + nn16) + nn22) + nn33) + nn39) + nn45) + nn51) + nn57) + nn93) + nn98) + nn101) hE (lv_sub hl [] rfl) hR hS (by omega) (by omega)
                            · exact False.elim hq
                          · exact xb_pass hlocks (fun x hx9 => by rw [htab] at hx9; first | (cases hx9; done) | (simp [tableOf] at hx9; subst hx9; decide) | (simp [tableOf] at hx9; rcases hx9 with rfl | rfl <;> decide) | (simp [tableOf] at hx9; rcases hx9 with rfl | rfl | rfl <;> decide)) (show ((((((((((((k + kk4) + kk7) + kk10) + kk16) + kk22) + kk33) + kk39) + kk45) + kk51) + kk57) + kk93) + kk98) + bc98 ≤ MC by omega) (show ((((((((((((n + nn4) + nn7) + nn10) + nn16) + nn22) + nn33) + nn39) + nn45) + nn51) + nn57) + nn93) + nn98) + bs98 ≤ MS by omega) (hE.tr hEh97) hR hS hex hq
                        · exact False.elim hq
                    · exact False.elim hq
                  · exact False.elim hq
                · exact False.elim hq
              · exact False.elim hq
            · exact False.elim hq
          · exact False.elim hq
        · exact False.elim hq
      · exact xb_pass hlocks (fun x hx9 => by rw [htab] at hx9; first | (cases hx9; done) | (simp [tableOf] at hx9; subst hx9; decide) | (simp [tableOf] at hx9; rcases hx9 with rfl | rfl <;> decide) | (simp [tableOf] at hx9; rcases hx9 with rfl | rfl | rfl <;> decide)) (show (((k + kk4) + kk7) + kk10) + bc10 ≤ MC by omega) (show (((n + nn4) + nn7) + nn10) + bs10 ≤ MS by omega) (hE.tr hEh9) hR hS hex hq
    · exact xb_pass hlocks (fun x hx9 => by rw [htab] at hx9; first | (cases hx9; done) | (simp [tableOf] at hx9; subst hx9; decide) | (simp [tableOf] at hx9; rcases hx9 with rfl | rfl <;> decide) | (simp [tableOf] at hx9; rcases hx9 with rfl | rfl | rfl <;> decide)) (show ((k + kk4) + kk7) + bc7 ≤ MC by omega) (show ((n + nn4) + nn7) + bs7 ≤ MS by omega) (hE.tr hEh6) hR hS hex hq
  · exact xb_pass hlocks (fun x hx9 => by rw [htab] at hx9; first | (cases hx9; done) | (simp [tableOf] at hx9; subst hx9; decide) | (simp [tableOf] at hx9; rcases hx9 with rfl | rfl <;> decide) | (simp [tableOf] at hx9; rcases hx9 with rfl | rfl | rfl <;> decide)) (show (k + kk4) + bc4 ≤ MC by omega) (show (n + nn4) + bs4 ≤ MS by omega) (hE.tr hEh3) hR hS hex hq

set_option maxRecDepth 100000 in
def T_Reader_readTable : List (Nat × Instr × Nat) := [(0, .aload_n 0, 1), (1, .getfield 41, 3), (4, .istore_n 1, 1), (5, .aload_n 0, 1), (6, .bipush 112, 2), (8, .invokevirtual 134, 3), (11, .aload_n 0, 1), (12, .aload_n 0, 1), (13, .getfield 15, 3), (16, .getfield 155, 3), (19, .iload_n 1, 1), (20, .invokevirtual 97, 3), (23, .return_, 1)]
theorem D_Reader_readTable : ∀ q ∈ T_Reader_readTable, decode b_Reader_readTable q.1 = .ok (q.2.1, q.2.2) := by decide +kernel

set_option maxHeartbeats 4000000 in
set_option maxRecDepth 100000 in
theorem ok_Reader_readTable (l : Launch) (hfl : l.flags = pinnedFlags ++ [noTraceFlag]) (D : va_G) (A : Nat → Prop) (σ : Nat) (x0 : Nat) (h : xb_H) (bc : Nat) (bs : Nat) (Qr : xb_H → Nat → Nat → Prop) (Qt : String → xb_H → Nat → Nat → Prop) (hw : w_Reader_readTable x0 h bc bs Qr Qt) : xb_Met l y_Reader_readTable [.code y_Reader_readTable b_Reader_readTable 2 none] (xb_rm 6 bc bs) (xb_Pc D A σ h [.ref x0]) (xb_Qc D A h bc bs (fun v h bc bs => v = none ∧ Qr h bc bs) Qt) A := by
  refine xb_ofAm (cc := b_Reader_readTable) (by decide) (Nat.le_of_ble_eq_true rfl) ?_
  unfold w_Reader_readTable at hw
  show xb_am l D A σ 6 bc bs h (fun v h bc bs => v = none ∧ Qr h bc bs) Qt y_Reader_readTable.cls y_Reader_readTable.name b_Reader_readTable 2 ([] : List ExceptionTableEntry) none 0 [(0, .ref x0)] [] h bc bs
  obtain ⟨MC, hMC⟩ : ∃ x, x = bc := ⟨_, rfl⟩
  obtain ⟨MS, hMS⟩ : ∃ x, x = bs := ⟨_, rfl⟩
  rw [show xb_am l D A σ 6 bc bs = xb_am l D A σ 6 MC MS by rw [hMC, hMS]]
  obtain ⟨h0, hh0⟩ : ∃ x, x = h := ⟨_, rfl⟩
  rw [show xb_am l D A σ 6 MC MS h = xb_am l D A σ 6 MC MS h0 by rw [hh0]]
  intro p e s m args below meth c hC H locs ls k n hE hl hR hS hk hn
  obtain ⟨hx, hb, hown, hlocks, htab, hml, hr, hB, hA, hnm⟩ := id hC
  have hts := hB.1.1.at args
  refine lv_aload_n hx hb (xb_d D_Reader_readTable 0 rfl) rfl (lv_at hl 0 rfl) ?_
  obtain ⟨hk1, hw⟩ := hw
  refine xb_getI (C := R_Reader) (T := F_Reader) (N := 6) hx hb 3 3 hts fin_Reader hown hR hk1 (by decide) rfl (by decide) rfl (hts _ m_a9b84ac2) (fun _ h9 => h9) (xb_d D_Reader_readTable 1 rfl) ?_
  obtain ⟨v2, ev2⟩ : ∃ x : Int32, x = (xb_i h x0 3) := ⟨_, rfl⟩
  have hw := hw v2 ev2
  refine xt_numi (y := v2) ev2.symm ?_
  refine lv_istore_n hx hb (xb_d D_Reader_readTable 2 rfl) rfl hl (by decide) rfl (fun ls hl => ?_)
  have hl : lv_has ls 2 [(1, .int v2), (0, .ref x0)] := hl
  refine lv_aload_n hx hb (xb_d D_Reader_readTable 3 rfl) rfl (lv_at hl 1 rfl) ?_
  refine lv_bipush (v := 112) hx hb (xb_d D_Reader_readTable 4 rfl) (by decide) ?_
  refine xb_call (D := D) (A := A) (σ := σ) (h := h) (d := 3) (mc := bc) (ms := bs) (maxL := 2) (rest := []) (av := [.ref x0, .int 112]) (fun T hT X => by obtain ⟨cb9, ra9, rb9, rc9⟩ := xb_recv (ci := 3) hR rfl hk1 (by decide); exact xt_invV X hx hown (hts _ m_bc6f1cef) (hts _ m_6ae404a7) (hts _ m_7b6b2ffe) (xt_sigOf (hts _ m_e431c1f6)) nm_Reader_readMark (by rw [hT]; exact ra9) rb9 rc9 (g := F0 m 8 ls [.int 112, .ref x0]) rfl (argsL := [.int 112]) (rest := []) rfl rfl (by rw [hb]; exact (xb_d D_Reader_readTable 5 rfl))) (ok_Reader_readMark l hfl D A σ x0 112 h bc bs _ _ hw) (hml.trans hl.1.symm) (by rw [hb]; exact (xb_d D_Reader_readTable 5 rfl)) (Nat.le_of_ble_eq_true rfl) (Nat.le_of_ble_eq_true rfl) (Nat.le_of_ble_eq_true rfl) (show k + bc ≤ MC by omega) (show n + bs ≤ MS by omega) (xt_w1 hB.1 m_e431c1f6) (xt_cdOf hB.1 m_e431c1f6) (hts _ m_938fcec4) hB hR hS hA (fun vv h3 bc4 bs4 kk4 nn4 H locs hk4 hn4 hq hEh3 hR hS => ?_) (fun XX ax h3 bc4 bs4 kk4 nn4 H locs hk4 hn4 hq hEh3 hex hR hS => ?_)
  · obtain ⟨rfl, hw⟩ := hq
    have hw := hw hEh3
    have hE := hE.tr hEh3
    refine W.eq (g2 := F0 m 11 ls []) rfl ?_
    refine lv_aload_n hx hb (xb_d D_Reader_readTable 6 rfl) rfl (lv_at hl 1 rfl) ?_
    refine lv_aload_n hx hb (xb_d D_Reader_readTable 7 rfl) rfl (lv_at hl 1 rfl) ?_
    have hk1 : xb_k h3 x0 = 4 := hEh3.k hk1
    refine xb_getP (C := R_Reader) (T := F_Reader) (N := 6) hx hb 3 0 hts fin_Reader hown hR hk1 (by decide) rfl (by decide) rfl (hts _ m_76d8349c) (fun _ h9 => h9) (xb_d D_Reader_readTable 8 rfl) ?_
    obtain ⟨b5, eb5, hw⟩ := hw
    refine xb_some eb5 ?_
    obtain ⟨hk6, hw⟩ := hw
    refine xb_getP (C := R_StackModule) (T := F_StackModule) (N := 19) hx hb 2 5 hts fin_StackModule hown hR hk6 (by decide) rfl (by decide) rfl (hts _ m_e81580da) (fun _ h9 => h9) (xb_d D_Reader_readTable 9 rfl) ?_
    obtain ⟨b7, eb7, hw⟩ := hw
    refine xb_some eb7 ?_
    refine lv_iload_n hx hb (xb_d D_Reader_readTable 10 rfl) rfl (lv_at hl 0 rfl) ?_
    refine xb_call (D := D) (A := A) (σ := σ) (h := h3) (d := 5) (mc := bc4) (ms := bs4) (maxL := 4) (rest := []) (av := [.ref x0, .ref b7, .int v2]) (fun T hT X => by obtain ⟨cb9, ra9, rb9, rc9⟩ := xb_recv (ci := 3) hR rfl hk1 (by decide); exact xt_invV X hx hown (hts _ m_8deb7e3b) (hts _ m_592ab943) (hts _ m_602d511d) (xt_sigOf (hts _ m_06c7cb4a)) nm_Reader_readLimits (by rw [hT]; exact ra9) rb9 rc9 (g := F0 m 20 ls [.int v2, .ref b7, .ref x0]) rfl (argsL := [.ref b7, .int v2]) (rest := []) rfl rfl (by rw [hb]; exact (xb_d D_Reader_readTable 11 rfl))) (ok_Reader_readLimits l hfl D A σ x0 b7 v2 h3 bc4 bs4 _ _ hw) (hml.trans hl.1.symm) (by rw [hb]; exact (xb_d D_Reader_readTable 11 rfl)) (Nat.le_of_ble_eq_true rfl) (Nat.le_of_ble_eq_true rfl) (Nat.le_of_ble_eq_true rfl) (show (k + kk4) + bc4 ≤ MC by omega) (show (n + nn4) + bs4 ≤ MS by omega) (xt_w1 hB.1 m_06c7cb4a) (xt_cdOf hB.1 m_06c7cb4a) (hts _ m_938fcec4) hB hR hS hA (fun vv h8 bc9 bs9 kk9 nn9 H locs hk9 hn9 hq hEh8 hR hS => ?_) (fun XX ax h8 bc9 bs9 kk9 nn9 H locs hk9 hn9 hq hEh8 hex hR hS => ?_)
    · obtain ⟨rfl, hw⟩ := hq
      have hw := hw hEh8
      have hE := hE.tr hEh8
      refine W.eq (g2 := F0 m 23 ls []) rfl ?_
      exact xb_vret bc9 bs9 hx hb hr hlocks (show ((k + kk4) + kk9) + bc9 ≤ MC by omega) (show ((n + nn4) + nn9) + bs9 ≤ MS by omega) hE hR hS (xb_d D_Reader_readTable 12 rfl) hw
    · exact xb_pass hlocks (fun x hx9 => by rw [htab] at hx9; first | (cases hx9; done) | (simp [tableOf] at hx9; subst hx9; decide) | (simp [tableOf] at hx9; rcases hx9 with rfl | rfl <;> decide) | (simp [tableOf] at hx9; rcases hx9 with rfl | rfl | rfl <;> decide)) (show ((k + kk4) + kk9) + bc9 ≤ MC by omega) (show ((n + nn4) + nn9) + bs9 ≤ MS by omega) (hE.tr hEh8) hR hS hex hq
  · exact xb_pass hlocks (fun x hx9 => by rw [htab] at hx9; first | (cases hx9; done) | (simp [tableOf] at hx9; subst hx9; decide) | (simp [tableOf] at hx9; rcases hx9 with rfl | rfl <;> decide) | (simp [tableOf] at hx9; rcases hx9 with rfl | rfl | rfl <;> decide)) (show (k + kk4) + bc4 ≤ MC by omega) (show (n + nn4) + bs4 ≤ MS by omega) (hE.tr hEh3) hR hS hex hq

theorem m_a348e64d : (.methodLink "StackHost$Reader" 137 y_Reader_readTypes : Cond) ∈ xt_tbl := xt_in (xt_t3 (List.mem_of_getElem? (i := 212) (by decide +kernel))) (by decide +kernel)
theorem m_3d60cba2 : (.instanceMethod y_Reader_readTypes : Cond) ∈ xt_tbl := xt_in (xt_t3 (List.mem_of_getElem? (i := 214) (by decide +kernel))) (by decide +kernel)
theorem m_3e68a451 : (.selects "StackHost$Reader" y_Reader_readTypes y_Reader_readTypes : Cond) ∈ xt_tbl := xt_in (xt_v1 (q := (⟨"StackHost$Reader", "readTypes", "()I"⟩, 6)) (List.mem_of_getElem? (i := 10) (by decide +kernel))) (by decide +kernel)
theorem m_469228ed : (.code y_Reader_readTypes b_Reader_readTypes 6 (some .int) : Cond) ∈ xt_tbl := xt_in (xt_t3 (List.mem_of_getElem? (i := 215) (by decide +kernel))) (by decide +kernel)
theorem m_292182f2 : (.fieldLink "StackHost$Reader" 140 "StackHost$StackModule" "types" "LStackHost$Row;" : Cond) ∈ xt_tbl := xt_in (xt_t3 (List.mem_of_getElem? (i := 59) (by decide +kernel))) (by decide +kernel)
theorem m_4544bd18 : (.constantLong "StackHost$Reader" 143 64 : Cond) ∈ xt_tbl := xt_in (xt_t4 (List.mem_of_getElem? (i := 1) (by decide +kernel))) (by decide +kernel)
theorem nm_Reader_readTypes : xt_nm y_Reader_readTypes 0 := ⟨by decide +kernel, by decide +kernel⟩
set_option maxRecDepth 100000 in
def T_Reader_readType : List (Nat × Instr × Nat) := [(0, .aload_n 0, 1), (1, .getfield 41, 3), (4, .istore_n 1, 1), (5, .aload_n 0, 1), (6, .bipush 96, 2), (8, .invokevirtual 134, 3), (11, .aload_n 0, 1), (12, .invokevirtual 137, 3), (15, .istore_n 2, 1), (16, .aload_n 0, 1), (17, .getfield 41, 3), (20, .iload_n 2, 1), (21, .isub, 1), (22, .istore_n 3, 1), (23, .aload_n 0, 1), (24, .invokevirtual 137, 3), (27, .istore 4, 2), (29, .aload_n 0, 1), (30, .getfield 15, 3), (33, .getfield 140, 3), (36, .iload_n 1, 1), (37, .i2l, 1), (38, .invokevirtual 87, 3), (41, .aload_n 0, 1), (42, .getfield 15, 3), (45, .getfield 140, 3), (48, .iload_n 3, 1), (49, .i2l, 1), (50, .invokevirtual 87, 3), (53, .aload_n 0, 1), (54, .getfield 15, 3), (57, .getfield 140, 3), (60, .iload_n 2, 1), (61, .i2l, 1), (62, .invokevirtual 87, 3), (65, .aload_n 0, 1), (66, .getfield 15, 3), (69, .getfield 140, 3), (72, .iload 4, 2), (74, .i2l, 1), (75, .invokevirtual 87, 3), (78, .aload_n 0, 1), (79, .getfield 15, 3), (82, .getfield 140, 3), (85, .iload 4, 2), (87, .ifCond .ne 9, 3), (90, .ldc2_w 143, 3), (93, .goto 16, 3), (96, .aload_n 0, 1), (97, .getfield 25, 3), (100, .aload_n 0, 1), (101, .getfield 41, 3), (104, .iload 4, 2), (106, .isub, 1), (107, .baload, 1), (108, .i2l, 1), (109, .invokevirtual 87, 3), (112, .return_, 1)]
theorem D_Reader_readType : ∀ q ∈ T_Reader_readType, decode b_Reader_readType q.1 = .ok (q.2.1, q.2.2) := by decide +kernel

set_option maxHeartbeats 4000000 in
set_option maxRecDepth 100000 in
theorem am_Reader_readType_L109 (l : Launch) (hfl : l.flags = pinnedFlags ++ [noTraceFlag]) (D : va_G) (A : Nat → Prop) (σ MC MS : Nat) (h0 : xb_H) (Qr : xb_H → Nat → Nat → Prop) (Qt : String → xb_H → Nat → Nat → Prop) (y0 : Int64) (y1 : Nat) (h : xb_H) (bc : Nat) (bs : Nat) (hw : w_Reader_readType_L109 Qr Qt y0 y1 h bc bs) : xb_am l D A σ 6 MC MS h0 (fun v h bc bs => v = none ∧ Qr h bc bs) Qt y_Reader_readType.cls y_Reader_readType.name b_Reader_readType 5 ([] : List ExceptionTableEntry) none 109 [] [.long y0, .ref y1] h bc bs := by
  unfold w_Reader_readType_L109 at hw
  intro p e s m args below meth c hC H locs ls k n hE hl hR hS hk hn
  obtain ⟨hx, hb, hown, hlocks, htab, hml, hr, hB, hA, hnm⟩ := id hC
  have hts := hB.1.1.at args
  obtain ⟨hk1, hw⟩ := hw
  refine xb_call (D := D) (A := A) (σ := σ) (h := h) (d := 4) (mc := bc) (ms := bs) (maxL := 3) (rest := []) (av := [.ref y1, .long y0]) (fun T hT X => by obtain ⟨cb9, ra9, rb9, rc9⟩ := xb_recv (ci := 1) hR rfl hk1 (by decide); exact xt_invV X hx hown (hts _ m_da067afc) (hts _ m_7e8d081f) (hts _ m_4e47f51a) (xt_sigOf (hts _ m_4f1bdc54)) nm_Row_add (by rw [hT]; exact ra9) rb9 rc9 (g := F0 m 109 ls [.long y0, .ref y1]) rfl (argsL := [.long y0]) (rest := []) rfl rfl (by rw [hb]; exact (xb_d D_Reader_readType 56 rfl))) (ok_Row_add l hfl D A σ y1 y0 h bc bs _ hw) (hml.trans hl.1.symm) (by rw [hb]; exact (xb_d D_Reader_readType 56 rfl)) (Nat.le_of_ble_eq_true rfl) (Nat.le_of_ble_eq_true rfl) (Nat.le_of_ble_eq_true rfl) (show k + bc ≤ MC by omega) (show n + bs ≤ MS by omega) (xt_w1 hB.1 m_4f1bdc54) (xt_cdOf hB.1 m_4f1bdc54) (hts _ m_c1bef504) hB hR hS hA (fun vv h2 bc3 bs3 kk3 nn3 H locs hk3 hn3 hq hEh2 hR hS => ?_) (fun XX ax h2 bc3 bs3 kk3 nn3 H locs hk3 hn3 hq hEh2 hex hR hS => ?_)
  · obtain ⟨rfl, hw⟩ := hq
    have hw := hw hEh2
    have hE := hE.tr hEh2
    refine W.eq (g2 := F0 m 112 ls []) rfl ?_
    exact xb_vret bc3 bs3 hx hb hr hlocks (show (k + kk3) + bc3 ≤ MC by omega) (show (n + nn3) + bs3 ≤ MS by omega) hE hR hS (xb_d D_Reader_readType 57 rfl) hw
  · exact False.elim hq

set_option maxHeartbeats 4000000 in
set_option maxRecDepth 100000 in
theorem ok_Reader_readType (l : Launch) (hfl : l.flags = pinnedFlags ++ [noTraceFlag]) (D : va_G) (A : Nat → Prop) (σ : Nat) (x0 : Nat) (h : xb_H) (bc : Nat) (bs : Nat) (Qr : xb_H → Nat → Nat → Prop) (Qt : String → xb_H → Nat → Nat → Prop) (hw : w_Reader_readType x0 h bc bs Qr Qt) : xb_Met l y_Reader_readType [.code y_Reader_readType b_Reader_readType 5 none] (xb_rm 6 bc bs) (xb_Pc D A σ h [.ref x0]) (xb_Qc D A h bc bs (fun v h bc bs => v = none ∧ Qr h bc bs) Qt) A := by
  refine xb_ofAm (cc := b_Reader_readType) (by decide) (Nat.le_of_ble_eq_true rfl) ?_
  unfold w_Reader_readType at hw
  show xb_am l D A σ 6 bc bs h (fun v h bc bs => v = none ∧ Qr h bc bs) Qt y_Reader_readType.cls y_Reader_readType.name b_Reader_readType 5 ([] : List ExceptionTableEntry) none 0 [(0, .ref x0)] [] h bc bs
  obtain ⟨MC, hMC⟩ : ∃ x, x = bc := ⟨_, rfl⟩
  obtain ⟨MS, hMS⟩ : ∃ x, x = bs := ⟨_, rfl⟩
  rw [show xb_am l D A σ 6 bc bs = xb_am l D A σ 6 MC MS by rw [hMC, hMS]]
  obtain ⟨h0, hh0⟩ : ∃ x, x = h := ⟨_, rfl⟩
  rw [show xb_am l D A σ 6 MC MS h = xb_am l D A σ 6 MC MS h0 by rw [hh0]]
  intro p e s m args below meth c hC H locs ls k n hE hl hR hS hk hn
  obtain ⟨hx, hb, hown, hlocks, htab, hml, hr, hB, hA, hnm⟩ := id hC
  have hts := hB.1.1.at args
  refine lv_aload_n hx hb (xb_d D_Reader_readType 0 rfl) rfl (lv_at hl 0 rfl) ?_
  obtain ⟨hk1, hw⟩ := hw
  refine xb_getI (C := R_Reader) (T := F_Reader) (N := 6) hx hb 3 3 hts fin_Reader hown hR hk1 (by decide) rfl (by decide) rfl (hts _ m_a9b84ac2) (fun _ h9 => h9) (xb_d D_Reader_readType 1 rfl) ?_
  obtain ⟨v2, ev2⟩ : ∃ x : Int32, x = (xb_i h x0 3) := ⟨_, rfl⟩
  have hw := hw v2 ev2
  refine xt_numi (y := v2) ev2.symm ?_
  refine lv_istore_n hx hb (xb_d D_Reader_readType 2 rfl) rfl hl (by decide) rfl (fun ls hl => ?_)
  have hl : lv_has ls 5 [(1, .int v2), (0, .ref x0)] := hl
  refine lv_aload_n hx hb (xb_d D_Reader_readType 3 rfl) rfl (lv_at hl 1 rfl) ?_
  refine lv_bipush (v := 96) hx hb (xb_d D_Reader_readType 4 rfl) (by decide) ?_
  refine xb_call (D := D) (A := A) (σ := σ) (h := h) (d := 3) (mc := bc) (ms := bs) (maxL := 2) (rest := []) (av := [.ref x0, .int 96]) (fun T hT X => by obtain ⟨cb9, ra9, rb9, rc9⟩ := xb_recv (ci := 3) hR rfl hk1 (by decide); exact xt_invV X hx hown (hts _ m_bc6f1cef) (hts _ m_6ae404a7) (hts _ m_7b6b2ffe) (xt_sigOf (hts _ m_e431c1f6)) nm_Reader_readMark (by rw [hT]; exact ra9) rb9 rc9 (g := F0 m 8 ls [.int 96, .ref x0]) rfl (argsL := [.int 96]) (rest := []) rfl rfl (by rw [hb]; exact (xb_d D_Reader_readType 5 rfl))) (ok_Reader_readMark l hfl D A σ x0 96 h bc bs _ _ hw) (hml.trans hl.1.symm) (by rw [hb]; exact (xb_d D_Reader_readType 5 rfl)) (Nat.le_of_ble_eq_true rfl) (Nat.le_of_ble_eq_true rfl) (Nat.le_of_ble_eq_true rfl) (show k + bc ≤ MC by omega) (show n + bs ≤ MS by omega) (xt_w1 hB.1 m_e431c1f6) (xt_cdOf hB.1 m_e431c1f6) (hts _ m_938fcec4) hB hR hS hA (fun vv h3 bc4 bs4 kk4 nn4 H locs hk4 hn4 hq hEh3 hR hS => ?_) (fun XX ax h3 bc4 bs4 kk4 nn4 H locs hk4 hn4 hq hEh3 hex hR hS => ?_)
  · obtain ⟨rfl, hw⟩ := hq
    have hw := hw hEh3
    have hE := hE.tr hEh3
    refine W.eq (g2 := F0 m 11 ls []) rfl ?_
    refine lv_aload_n hx hb (xb_d D_Reader_readType 6 rfl) rfl (lv_at hl 1 rfl) ?_
    have hk1 : xb_k h3 x0 = 4 := hEh3.k hk1
    refine xb_call (D := D) (A := A) (σ := σ) (h := h3) (d := 5) (mc := bc4) (ms := bs4) (maxL := 6) (rest := []) (av := [.ref x0]) (fun T hT X => by obtain ⟨cb9, ra9, rb9, rc9⟩ := xb_recv (ci := 3) hR rfl hk1 (by decide); exact xt_invV X hx hown (hts _ m_a348e64d) (hts _ m_3d60cba2) (hts _ m_3e68a451) (xt_sigOf (hts _ m_469228ed)) nm_Reader_readTypes (by rw [hT]; exact ra9) rb9 rc9 (g := F0 m 12 ls [.ref x0]) rfl (argsL := []) (rest := []) rfl rfl (by rw [hb]; exact (xb_d D_Reader_readType 7 rfl))) (ok_Reader_readTypes l hfl D A σ x0 h3 bc4 bs4 _ _ hw) (hml.trans hl.1.symm) (by rw [hb]; exact (xb_d D_Reader_readType 7 rfl)) (Nat.le_of_ble_eq_true rfl) (Nat.le_of_ble_eq_true rfl) (Nat.le_of_ble_eq_true rfl) (show (k + kk4) + bc4 ≤ MC by omega) (show (n + nn4) + bs4 ≤ MS by omega) (xt_w1 hB.1 m_469228ed) (xt_cdOf hB.1 m_469228ed) (hts _ m_938fcec4) hB hR hS hA (fun vv h5 bc6 bs6 kk6 nn6 H locs hk6 hn6 hq hEh5 hR hS => ?_) (fun XX ax h5 bc6 bs6 kk6 nn6 H locs hk6 hn6 hq hEh5 hex hR hS => ?_)
    · obtain ⟨r6, rfl, hw⟩ := hq
      have hw := hw hEh5
      have hE := hE.tr hEh5
      refine W.eq (g2 := F0 m 15 ls [.int r6]) rfl ?_
      refine lv_istore_n hx hb (xb_d D_Reader_readType 8 rfl) rfl hl (by decide) rfl (fun ls hl => ?_)
      have hl : lv_has ls 5 [(2, .int r6), (1, .int v2), (0, .ref x0)] := hl
      refine lv_aload_n hx hb (xb_d D_Reader_readType 9 rfl) rfl (lv_at hl 2 rfl) ?_
      have hk1 : xb_k h5 x0 = 4 := hEh5.k hk1
      refine xb_getI (C := R_Reader) (T := F_Reader) (N := 6) hx hb 3 3 hts fin_Reader hown hR hk1 (by decide) rfl (by decide) rfl (hts _ m_a9b84ac2) (fun _ h9 => h9) (xb_d D_Reader_readType 10 rfl) ?_
      refine lv_iload_n hx hb (xb_d D_Reader_readType 11 rfl) rfl (lv_at hl 0 rfl) ?_
      refine lv_isub hx hb (xb_d D_Reader_readType 12 rfl) ?_
      obtain ⟨v7, ev7⟩ : ∃ x : Int32, x = ((xb_i h5 x0 3) - r6) := ⟨_, rfl⟩
      have hw := hw v7 ev7
      refine xt_numi (y := v7) ev7.symm ?_
      refine lv_istore_n hx hb (xb_d D_Reader_readType 13 rfl) rfl hl (by decide) rfl (fun ls hl => ?_)
      have hl : lv_has ls 5 [(3, .int v7), (2, .int r6), (1, .int v2), (0, .ref x0)] := hl
      refine lv_aload_n hx hb (xb_d D_Reader_readType 14 rfl) rfl (lv_at hl 3 rfl) ?_
      refine xb_call (D := D) (A := A) (σ := σ) (h := h5) (d := 5) (mc := bc6) (ms := bs6) (maxL := 6) (rest := []) (av := [.ref x0]) (fun T hT X => by obtain ⟨cb9, ra9, rb9, rc9⟩ := xb_recv (ci := 3) hR rfl hk1 (by decide); exact xt_invV X hx hown (hts _ m_a348e64d) (hts _ m_3d60cba2) (hts _ m_3e68a451) (xt_sigOf (hts _ m_469228ed)) nm_Reader_readTypes (by rw [hT]; exact ra9) rb9 rc9 (g := F0 m 24 ls [.ref x0]) rfl (argsL := []) (rest := []) rfl rfl (by rw [hb]; exact (xb_d D_Reader_readType 15 rfl))) (ok_Reader_readTypes l hfl D A σ x0 h5 bc6 bs6 _ _ hw) (hml.trans hl.1.symm) (by rw [hb]; exact (xb_d D_Reader_readType 15 rfl)) (Nat.le_of_ble_eq_true rfl) (Nat.le_of_ble_eq_true rfl) (Nat.le_of_ble_eq_true rfl) (show ((k + kk4) + kk6) + bc6 ≤ MC by omega) (show ((n + nn4) + nn6) + bs6 ≤ MS by omega) (xt_w1 hB.1 m_469228ed) (xt_cdOf hB.1 m_469228ed) (hts _ m_938fcec4) hB hR hS hA (fun vv h8 bc9 bs9 kk9 nn9 H locs hk9 hn9 hq hEh8 hR hS => ?_) (fun XX ax h8 bc9 bs9 kk9 nn9 H locs hk9 hn9 hq hEh8 hex hR hS => ?_)
      · obtain ⟨r9, rfl, hw⟩ := hq
        have hw := hw hEh8
        have hE := hE.tr hEh8
        refine W.eq (g2 := F0 m 27 ls [.int r9]) rfl ?_
        refine lv_istore hx hb (xb_d D_Reader_readType 16 rfl) hl (by decide) rfl (fun ls hl => ?_)
        have hl : lv_has ls 5 [(4, .int r9), (3, .int v7), (2, .int r6), (1, .int v2), (0, .ref x0)] := hl
        refine lv_aload_n hx hb (xb_d D_Reader_readType 17 rfl) rfl (lv_at hl 4 rfl) ?_
        have hk1 : xb_k h8 x0 = 4 := hEh8.k hk1
        refine xb_getP (C := R_Reader) (T := F_Reader) (N := 6) hx hb 3 0 hts fin_Reader hown hR hk1 (by decide) rfl (by decide) rfl (hts _ m_76d8349c) (fun _ h9 => h9) (xb_d D_Reader_readType 18 rfl) ?_
        obtain ⟨b10, eb10, hw⟩ := hw
        refine xb_some eb10 ?_
        obtain ⟨hk11, hw⟩ := hw
        refine xb_getP (C := R_StackModule) (T := F_StackModule) (N := 19) hx hb 2 2 hts fin_StackModule hown hR hk11 (by decide) rfl (by decide) rfl (hts _ m_292182f2) (fun _ h9 => h9) (xb_d D_Reader_readType 19 rfl) ?_
        obtain ⟨b12, eb12, hw⟩ := hw
        refine xb_some eb12 ?_
        refine lv_iload_n hx hb (xb_d D_Reader_readType 20 rfl) rfl (lv_at hl 3 rfl) ?_
        refine lv_i2l hx hb (xb_d D_Reader_readType 21 rfl) rfl ?_
        obtain ⟨hk13, hw⟩ := hw
        refine xb_call (D := D) (A := A) (σ := σ) (h := h8) (d := 4) (mc := bc9) (ms := bs9) (maxL := 3) (rest := []) (av := [.ref b12, .long (Int32.toInt64 v2)]) (fun T hT X => by obtain ⟨cb9, ra9, rb9, rc9⟩ := xb_recv (ci := 1) hR rfl hk13 (by decide); exact xt_invV X hx hown (hts _ m_da067afc) (hts _ m_7e8d081f) (hts _ m_4e47f51a) (xt_sigOf (hts _ m_4f1bdc54)) nm_Row_add (by rw [hT]; exact ra9) rb9 rc9 (g := F0 m 38 ls [.long (Int32.toInt64 v2), .ref b12]) rfl (argsL := [.long (Int32.toInt64 v2)]) (rest := []) rfl rfl (by rw [hb]; exact (xb_d D_Reader_readType 22 rfl))) (ok_Row_add l hfl D A σ b12 (Int32.toInt64 v2) h8 bc9 bs9 _ hw) (hml.trans hl.1.symm) (by rw [hb]; exact (xb_d D_Reader_readType 22 rfl)) (Nat.le_of_ble_eq_true rfl) (Nat.le_of_ble_eq_true rfl) (Nat.le_of_ble_eq_true rfl) (show (((k + kk4) + kk6) + kk9) + bc9 ≤ MC by omega) (show (((n + nn4) + nn6) + nn9) + bs9 ≤ MS by omega) (xt_w1 hB.1 m_4f1bdc54) (xt_cdOf hB.1 m_4f1bdc54) (hts _ m_c1bef504) hB hR hS hA (fun vv h14 bc15 bs15 kk15 nn15 H locs hk15 hn15 hq hEh14 hR hS => ?_) (fun XX ax h14 bc15 bs15 kk15 nn15 H locs hk15 hn15 hq hEh14 hex hR hS => ?_)
        · obtain ⟨rfl, hw⟩ := hq
          have hw := hw hEh14
          have hE := hE.tr hEh14
          refine W.eq (g2 := F0 m 41 ls []) rfl ?_
          refine lv_aload_n hx hb (xb_d D_Reader_readType 23 rfl) rfl (lv_at hl 4 rfl) ?_
          have hk1 : xb_k h14 x0 = 4 := hEh14.k hk1
          refine xb_getP (C := R_Reader) (T := F_Reader) (N := 6) hx hb 3 0 hts fin_Reader hown hR hk1 (by decide) rfl (by decide) rfl (hts _ m_76d8349c) (fun _ h9 => h9) (xb_d D_Reader_readType 24 rfl) ?_
          obtain ⟨b16, eb16, hw⟩ := hw
          refine xb_some eb16 ?_
          obtain ⟨hk17, hw⟩ := hw
          refine xb_getP (C := R_StackModule) (T := F_StackModule) (N := 19) hx hb 2 2 hts fin_StackModule hown hR hk17 (by decide) rfl (by decide) rfl (hts _ m_292182f2) (fun _ h9 => h9) (xb_d D_Reader_readType 25 rfl) ?_
          obtain ⟨b18, eb18, hw⟩ := hw
          refine xb_some eb18 ?_
          refine lv_iload_n hx hb (xb_d D_Reader_readType 26 rfl) rfl (lv_at hl 1 rfl) ?_
          refine lv_i2l hx hb (xb_d D_Reader_readType 27 rfl) rfl ?_
          obtain ⟨hk19, hw⟩ := hw
          refine xb_call (D := D) (A := A) (σ := σ) (h := h14) (d := 4) (mc := bc15) (ms := bs15) (maxL := 3) (rest := []) (av := [.ref b18, .long (Int32.toInt64 v7)]) (fun T hT X => by obtain ⟨cb9, ra9, rb9, rc9⟩ := xb_recv (ci := 1) hR rfl hk19 (by decide); exact xt_invV X hx hown (hts _ m_da067afc) (hts _ m_7e8d081f) (hts _ m_4e47f51a) (xt_sigOf (hts _ m_4f1bdc54)) nm_Row_add (by rw [hT]; exact ra9) rb9 rc9 (g := F0 m 50 ls [.long (Int32.toInt64 v7), .ref b18]) rfl (argsL := [.long (Int32.toInt64 v7)]) (rest := []) rfl rfl (by rw [hb]; exact (xb_d D_Reader_readType 28 rfl))) (ok_Row_add l hfl D A σ b18 (Int32.toInt64 v7) h14 bc15 bs15 _ hw) (hml.trans hl.1.symm) (by rw [hb]; exact (xb_d D_Reader_readType 28 rfl)) (Nat.le_of_ble_eq_true rfl) (Nat.le_of_ble_eq_true rfl) (Nat.le_of_ble_eq_true rfl) (show ((((k + kk4) + kk6) + kk9) + kk15) + bc15 ≤ MC by omega) (show ((((n + nn4) + nn6) + nn9) + nn15) + bs15 ≤ MS by omega) (xt_w1 hB.1 m_4f1bdc54) (xt_cdOf hB.1 m_4f1bdc54) (hts _ m_c1bef504) hB hR hS hA (fun vv h20 bc21 bs21 kk21 nn21 H locs hk21 hn21 hq hEh20 hR hS => ?_) (fun XX ax h20 bc21 bs21 kk21 nn21 H locs hk21 hn21 hq hEh20 hex hR hS => ?_)
          · obtain ⟨rfl, hw⟩ := hq
            have hw := hw hEh20
            have hE := hE.tr hEh20
            refine W.eq (g2 := F0 m 53 ls []) rfl ?_
            refine lv_aload_n hx hb (xb_d D_Reader_readType 29 rfl) rfl (lv_at hl 4 rfl) ?_
            have hk1 : xb_k h20 x0 = 4 := hEh20.k hk1
            refine xb_getP (C := R_Reader) (T := F_Reader) (N := 6) hx hb 3 0 hts fin_Reader hown hR hk1 (by decide) rfl (by decide) rfl (hts _ m_76d8349c) (fun _ h9 => h9) (xb_d D_Reader_readType 30 rfl) ?_
            obtain ⟨b22, eb22, hw⟩ := hw
            refine xb_some eb22 ?_
            obtain ⟨hk23, hw⟩ := hw
            refine xb_getP (C := R_StackModule) (T := F_StackModule) (N := 19) hx hb 2 2 hts fin_StackModule hown hR hk23 (by decide) rfl (by decide) rfl (hts _ m_292182f2) (fun _ h9 => h9) (xb_d D_Reader_readType 31 rfl) ?_
            obtain ⟨b24, eb24, hw⟩ := hw
            refine xb_some eb24 ?_
            refine lv_iload_n hx hb (xb_d D_Reader_readType 32 rfl) rfl (lv_at hl 2 rfl) ?_
            refine lv_i2l hx hb (xb_d D_Reader_readType 33 rfl) rfl ?_
            obtain ⟨hk25, hw⟩ := hw
            refine xb_call (D := D) (A := A) (σ := σ) (h := h20) (d := 4) (mc := bc21) (ms := bs21) (maxL := 3) (rest := []) (av := [.ref b24, .long (Int32.toInt64 r6)]) (fun T hT X => by obtain ⟨cb9, ra9, rb9, rc9⟩ := xb_recv (ci := 1) hR rfl hk25 (by decide); exact xt_invV X hx hown (hts _ m_da067afc) (hts _ m_7e8d081f) (hts _ m_4e47f51a) (xt_sigOf (hts _ m_4f1bdc54)) nm_Row_add (by rw [hT]; exact ra9) rb9 rc9 (g := F0 m 62 ls [.long (Int32.toInt64 r6), .ref b24]) rfl (argsL := [.long (Int32.toInt64 r6)]) (rest := []) rfl rfl (by rw [hb]; exact (xb_d D_Reader_readType 34 rfl))) (ok_Row_add l hfl D A σ b24 (Int32.toInt64 r6) h20 bc21 bs21 _ hw) (hml.trans hl.1.symm) (by rw [hb]; exact (xb_d D_Reader_readType 34 rfl)) (Nat.le_of_ble_eq_true rfl) (Nat.le_of_ble_eq_true rfl) (Nat.le_of_ble_eq_true rfl) (show (((((k + kk4) + kk6) + kk9) + kk15) + kk21) + bc21 ≤ MC by omega) (show (((((n + nn4) + nn6) + nn9) + nn15) + nn21) + bs21 ≤ MS by omega) (xt_w1 hB.1 m_4f1bdc54) (xt_cdOf hB.1 m_4f1bdc54) (hts _ m_c1bef504) hB hR hS hA (fun vv h26 bc27 bs27 kk27 nn27 H locs hk27 hn27 hq hEh26 hR hS => ?_) (fun XX ax h26 bc27 bs27 kk27 nn27 H locs hk27 hn27 hq hEh26 hex hR hS => ?_)
            · obtain ⟨rfl, hw⟩ := hq
              have hw := hw hEh26
              have hE := hE.tr hEh26
              refine W.eq (g2 := F0 m 65 ls []) rfl ?_
              refine lv_aload_n hx hb (xb_d D_Reader_readType 35 rfl) rfl (lv_at hl 4 rfl) ?_
              have hk1 : xb_k h26 x0 = 4 := hEh26.k hk1
              refine xb_getP (C := R_Reader) (T := F_Reader) (N := 6) hx hb 3 0 hts fin_Reader hown hR hk1 (by decide) rfl (by decide) rfl (hts _ m_76d8349c) (fun _ h9 => h9) (xb_d D_Reader_readType 36 rfl) ?_
              obtain ⟨b28, eb28, hw⟩ := hw
              refine xb_some eb28 ?_
              obtain ⟨hk29, hw⟩ := hw
              refine xb_getP (C := R_StackModule) (T := F_StackModule) (N := 19) hx hb 2 2 hts fin_StackModule hown hR hk29 (by decide) rfl (by decide) rfl (hts _ m_292182f2) (fun _ h9 => h9) (xb_d D_Reader_readType 37 rfl) ?_
              obtain ⟨b30, eb30, hw⟩ := hw
              refine xb_some eb30 ?_
              refine lv_iload hx hb (xb_d D_Reader_readType 38 rfl) (lv_at hl 0 rfl) ?_
              refine lv_i2l hx hb (xb_d D_Reader_readType 39 rfl) rfl ?_
              obtain ⟨hk31, hw⟩ := hw
              refine xb_call (D := D) (A := A) (σ := σ) (h := h26) (d := 4) (mc := bc27) (ms := bs27) (maxL := 3) (rest := []) (av := [.ref b30, .long (Int32.toInt64 r9)]) (fun T hT X => by obtain ⟨cb9, ra9, rb9, rc9⟩ := xb_recv (ci := 1) hR rfl hk31 (by decide); exact xt_invV X hx hown (hts _ m_da067afc) (hts _ m_7e8d081f) (hts _ m_4e47f51a) (xt_sigOf (hts _ m_4f1bdc54)) nm_Row_add (by rw [hT]; exact ra9) rb9 rc9 (g := F0 m 75 ls [.long (Int32.toInt64 r9), .ref b30]) rfl (argsL := [.long (Int32.toInt64 r9)]) (rest := []) rfl rfl (by rw [hb]; exact (xb_d D_Reader_readType 40 rfl))) (ok_Row_add l hfl D A σ b30 (Int32.toInt64 r9) h26 bc27 bs27 _ hw) (hml.trans hl.1.symm) (by rw [hb]; exact (xb_d D_Reader_readType 40 rfl)) (Nat.le_of_ble_eq_true rfl) (Nat.le_of_ble_eq_true rfl) (Nat.le_of_ble_eq_true rfl) (show ((((((k + kk4) + kk6) + kk9) + kk15) + kk21) + kk27) + bc27 ≤ MC by omega) (show ((((((n + nn4) + nn6) + nn9) + nn15) + nn21) + nn27) + bs27 ≤ MS by omega) (xt_w1 hB.1 m_4f1bdc54) (xt_cdOf hB.1 m_4f1bdc54) (hts _ m_c1bef504) hB hR hS hA (fun vv h32 bc33 bs33 kk33 nn33 H locs hk33 hn33 hq hEh32 hR hS => ?_) (fun XX ax h32 bc33 bs33 kk33 nn33 H locs hk33 hn33 hq hEh32 hex hR hS => ?_)
              · obtain ⟨rfl, hw⟩ := hq
                have hw := hw hEh32
                have hE := hE.tr hEh32
                refine W.eq (g2 := F0 m 78 ls []) rfl ?_
                refine lv_aload_n hx hb (xb_d D_Reader_readType 41 rfl) rfl (lv_at hl 4 rfl) ?_
                have hk1 : xb_k h32 x0 = 4 := hEh32.k hk1
                refine xb_getP (C := R_Reader) (T := F_Reader) (N := 6) hx hb 3 0 hts fin_Reader hown hR hk1 (by decide) rfl (by decide) rfl (hts _ m_76d8349c) (fun _ h9 => h9) (xb_d D_Reader_readType 42 rfl) ?_
                obtain ⟨b34, eb34, hw⟩ := hw
                refine xb_some eb34 ?_
                obtain ⟨hk35, hw⟩ := hw
                refine xb_getP (C := R_StackModule) (T := F_StackModule) (N := 19) hx hb 2 2 hts fin_StackModule hown hR hk35 (by decide) rfl (by decide) rfl (hts _ m_292182f2) (fun _ h9 => h9) (xb_d D_Reader_readType 43 rfl) ?_
                obtain ⟨b36, eb36, hw⟩ := hw
                refine xb_some eb36 ?_
                refine lv_iload hx hb (xb_d D_Reader_readType 44 rfl) (lv_at hl 0 rfl) ?_
                refine lv_if_ne (tgt := 96) hx hb (xb_d D_Reader_readType 45 rfl) rfl (fun hc37 => ?_) (fun hc37 => ?_)
                · have hw := hw.1 hc37
                  refine lv_aload_n hx hb (xb_d D_Reader_readType 48 rfl) rfl (lv_at hl 4 rfl) ?_
                  refine xb_getP (C := R_Reader) (T := F_Reader) (N := 6) hx hb 3 1 hts fin_Reader hown hR hk1 (by decide) rfl (by decide) rfl (hts _ m_d1ba4be8) (fun _ h9 => h9) (xb_d D_Reader_readType 49 rfl) ?_
                  obtain ⟨b38, eb38, hw⟩ := hw
                  refine xb_some eb38 ?_
                  refine lv_aload_n hx hb (xb_d D_Reader_readType 50 rfl) rfl (lv_at hl 4 rfl) ?_
                  refine xb_getI (C := R_Reader) (T := F_Reader) (N := 6) hx hb 3 3 hts fin_Reader hown hR hk1 (by decide) rfl (by decide) rfl (hts _ m_a9b84ac2) (fun _ h9 => h9) (xb_d D_Reader_readType 51 rfl) ?_
                  refine lv_iload hx hb (xb_d D_Reader_readType 52 rfl) (lv_at hl 0 rfl) ?_
                  refine lv_isub hx hb (xb_d D_Reader_readType 53 rfl) ?_
                  obtain ⟨hk40, hw⟩ := hw
                  obtain ⟨hi39, hw⟩ := hw
                  refine xb_bald hx hb hR hk40 hi39 (xb_d D_Reader_readType 54 rfl) ?_
                  refine lv_i2l hx hb (xb_d D_Reader_readType 55 rfl) rfl ?_
                  exact am_Reader_readType_L109 l hfl D A σ MC MS h0 Qr Qt (Int32.toInt64 (xb_i h32 b38 (Int32.toNatClampNeg ((xb_i h32 x0 3) - r9)))) b36 h32 bc33 bs33 hw p e s m args below meth c hC H locs ls (((((((k + kk4) + kk6) + kk9) + kk15) + kk21) + kk27) + kk33) (((((((n + nn4) + nn6) + nn9) + nn15) + nn21) + nn27) + nn33) hE (lv_sub hl [] rfl) hR hS (by omega) (by omega)
                · have hw := hw.2 hc37
                  refine lv_ldc2 (v := 64) hx hb hown (hts _ m_4544bd18) (xb_d D_Reader_readType 46 rfl) ?_
                  refine lv_goto (tgt := 109) hx hb (xb_d D_Reader_readType 47 rfl) rfl ?_
                  exact am_Reader_readType_L109 l hfl D A σ MC MS h0 Qr Qt 64 b36 h32 bc33 bs33 hw p e s m args below meth c hC H locs ls (((((((k + kk4) + kk6) + kk9) + kk15) + kk21) + kk27) + kk33) (((((((n + nn4) + nn6) + nn9) + nn15) + nn21) + nn27) + nn33) hE (lv_sub hl [] rfl) hR hS (by omega) (by omega)
              · exact False.elim hq
            · exact False.elim hq
          · exact False.elim hq
        · exact False.elim hq
      · exact xb_pass hlocks (fun x hx9 => by rw [htab] at hx9; first | (cases hx9; done) | (simp [tableOf] at hx9; subst hx9; decide) | (simp [tableOf] at hx9; rcases hx9 with rfl | rfl <;> decide) | (simp [tableOf] at hx9; rcases hx9 with rfl | rfl | rfl <;> decide)) (show (((k + kk4) + kk6) + kk9) + bc9 ≤ MC by omega) (show (((n + nn4) + nn6) + nn9) + bs9 ≤ MS by omega) (hE.tr hEh8) hR hS hex hq
    · exact xb_pass hlocks (fun x hx9 => by rw [htab] at hx9; first | (cases hx9; done) | (simp [tableOf] at hx9; subst hx9; decide) | (simp [tableOf] at hx9; rcases hx9 with rfl | rfl <;> decide) | (simp [tableOf] at hx9; rcases hx9 with rfl | rfl | rfl <;> decide)) (show ((k + kk4) + kk6) + bc6 ≤ MC by omega) (show ((n + nn4) + nn6) + bs6 ≤ MS by omega) (hE.tr hEh5) hR hS hex hq
  · exact xb_pass hlocks (fun x hx9 => by rw [htab] at hx9; first | (cases hx9; done) | (simp [tableOf] at hx9; subst hx9; decide) | (simp [tableOf] at hx9; rcases hx9 with rfl | rfl <;> decide) | (simp [tableOf] at hx9; rcases hx9 with rfl | rfl | rfl <;> decide)) (show (k + kk4) + bc4 ≤ MC by omega) (show (n + nn4) + bs4 ≤ MS by omega) (hE.tr hEh3) hR hS hex hq

set_option maxRecDepth 100000 in
def T_Reader_readVariable : List (Nat × Instr × Nat) := [(0, .aload_n 0, 1), (1, .aload_n 0, 1), (2, .getfield 41, 3), (5, .invokevirtual 158, 3), (8, .aload_n 0, 1), (9, .getfield 15, 3), (12, .getfield 161, 3), (15, .aload_n 0, 1), (16, .getfield 41, 3), (19, .i2l, 1), (20, .invokevirtual 87, 3), (23, .aload_n 0, 1), (24, .invokevirtual 166, 3), (27, .return_, 1)]
theorem D_Reader_readVariable : ∀ q ∈ T_Reader_readVariable, decode b_Reader_readVariable q.1 = .ok (q.2.1, q.2.2) := by decide +kernel

set_option maxHeartbeats 4000000 in
set_option maxRecDepth 100000 in
theorem ok_Reader_readVariable (l : Launch) (hfl : l.flags = pinnedFlags ++ [noTraceFlag]) (D : va_G) (A : Nat → Prop) (σ : Nat) (x0 : Nat) (h : xb_H) (bc : Nat) (bs : Nat) (Qr : xb_H → Nat → Nat → Prop) (Qt : String → xb_H → Nat → Nat → Prop) (hw : w_Reader_readVariable x0 h bc bs Qr Qt) : xb_Met l y_Reader_readVariable [.code y_Reader_readVariable b_Reader_readVariable 1 none] (xb_rm 6 bc bs) (xb_Pc D A σ h [.ref x0]) (xb_Qc D A h bc bs (fun v h bc bs => v = none ∧ Qr h bc bs) Qt) A := by
  refine xb_ofAm (cc := b_Reader_readVariable) (by decide) (Nat.le_of_ble_eq_true rfl) ?_
  unfold w_Reader_readVariable at hw
  show xb_am l D A σ 6 bc bs h (fun v h bc bs => v = none ∧ Qr h bc bs) Qt y_Reader_readVariable.cls y_Reader_readVariable.name b_Reader_readVariable 1 ([] : List ExceptionTableEntry) none 0 [(0, .ref x0)] [] h bc bs
  obtain ⟨MC, hMC⟩ : ∃ x, x = bc := ⟨_, rfl⟩
  obtain ⟨MS, hMS⟩ : ∃ x, x = bs := ⟨_, rfl⟩
  rw [show xb_am l D A σ 6 bc bs = xb_am l D A σ 6 MC MS by rw [hMC, hMS]]
  obtain ⟨h0, hh0⟩ : ∃ x, x = h := ⟨_, rfl⟩
  rw [show xb_am l D A σ 6 MC MS h = xb_am l D A σ 6 MC MS h0 by rw [hh0]]
  intro p e s m args below meth c hC H locs ls k n hE hl hR hS hk hn
  obtain ⟨hx, hb, hown, hlocks, htab, hml, hr, hB, hA, hnm⟩ := id hC
  have hts := hB.1.1.at args
  refine lv_aload_n hx hb (xb_d D_Reader_readVariable 0 rfl) rfl (lv_at hl 0 rfl) ?_
  refine lv_aload_n hx hb (xb_d D_Reader_readVariable 1 rfl) rfl (lv_at hl 0 rfl) ?_
  obtain ⟨hk1, hw⟩ := hw
  refine xb_getI (C := R_Reader) (T := F_Reader) (N := 6) hx hb 3 3 hts fin_Reader hown hR hk1 (by decide) rfl (by decide) rfl (hts _ m_a9b84ac2) (fun _ h9 => h9) (xb_d D_Reader_readVariable 2 rfl) ?_
  refine xb_call (D := D) (A := A) (σ := σ) (h := h) (d := 5) (mc := bc) (ms := bs) (maxL := 2) (rest := []) (av := [.ref x0, .int (xb_i h x0 3)]) (fun T hT X => by obtain ⟨cb9, ra9, rb9, rc9⟩ := xb_recv (ci := 3) hR rfl hk1 (by decide); exact xt_invV X hx hown (hts _ m_544cf043) (hts _ m_43060829) (hts _ m_ec78475f) (xt_sigOf (hts _ m_a4ac8e6b)) nm_Reader_readVariableType (by rw [hT]; exact ra9) rb9 rc9 (g := F0 m 5 ls [.int (xb_i h x0 3), .ref x0]) rfl (argsL := [.int (xb_i h x0 3)]) (rest := []) rfl rfl (by rw [hb]; exact (xb_d D_Reader_readVariable 3 rfl))) (ok_Reader_readVariableType l hfl D A σ x0 (xb_i h x0 3) h bc bs _ _ hw) (hml.trans hl.1.symm) (by rw [hb]; exact (xb_d D_Reader_readVariable 3 rfl)) (Nat.le_of_ble_eq_true rfl) (Nat.le_of_ble_eq_true rfl) (Nat.le_of_ble_eq_true rfl) (show k + bc ≤ MC by omega) (show n + bs ≤ MS by omega) (xt_w1 hB.1 m_a4ac8e6b) (xt_cdOf hB.1 m_a4ac8e6b) (hts _ m_938fcec4) hB hR hS hA (fun vv h2 bc3 bs3 kk3 nn3 H locs hk3 hn3 hq hEh2 hR hS => ?_) (fun XX ax h2 bc3 bs3 kk3 nn3 H locs hk3 hn3 hq hEh2 hex hR hS => ?_)
  · obtain ⟨rfl, hw⟩ := hq
    have hw := hw hEh2
    have hE := hE.tr hEh2
    refine W.eq (g2 := F0 m 8 ls []) rfl ?_
    refine lv_aload_n hx hb (xb_d D_Reader_readVariable 4 rfl) rfl (lv_at hl 0 rfl) ?_
    have hk1 : xb_k h2 x0 = 4 := hEh2.k hk1
    refine xb_getP (C := R_Reader) (T := F_Reader) (N := 6) hx hb 3 0 hts fin_Reader hown hR hk1 (by decide) rfl (by decide) rfl (hts _ m_76d8349c) (fun _ h9 => h9) (xb_d D_Reader_readVariable 5 rfl) ?_
    obtain ⟨b4, eb4, hw⟩ := hw
    refine xb_some eb4 ?_
    obtain ⟨hk5, hw⟩ := hw
    refine xb_getP (C := R_StackModule) (T := F_StackModule) (N := 19) hx hb 2 7 hts fin_StackModule hown hR hk5 (by decide) rfl (by decide) rfl (hts _ m_040d1f1f) (fun _ h9 => h9) (xb_d D_Reader_readVariable 6 rfl) ?_
    obtain ⟨b6, eb6, hw⟩ := hw
    refine xb_some eb6 ?_
    refine lv_aload_n hx hb (xb_d D_Reader_readVariable 7 rfl) rfl (lv_at hl 0 rfl) ?_
    refine xb_getI (C := R_Reader) (T := F_Reader) (N := 6) hx hb 3 3 hts fin_Reader hown hR hk1 (by decide) rfl (by decide) rfl (hts _ m_a9b84ac2) (fun _ h9 => h9) (xb_d D_Reader_readVariable 8 rfl) ?_
    refine lv_i2l hx hb (xb_d D_Reader_readVariable 9 rfl) rfl ?_
    obtain ⟨hk7, hw⟩ := hw
    refine xb_call (D := D) (A := A) (σ := σ) (h := h2) (d := 4) (mc := bc3) (ms := bs3) (maxL := 3) (rest := []) (av := [.ref b6, .long (Int32.toInt64 (xb_i h2 x0 3))]) (fun T hT X => by obtain ⟨cb9, ra9, rb9, rc9⟩ := xb_recv (ci := 1) hR rfl hk7 (by decide); exact xt_invV X hx hown (hts _ m_da067afc) (hts _ m_7e8d081f) (hts _ m_4e47f51a) (xt_sigOf (hts _ m_4f1bdc54)) nm_Row_add (by rw [hT]; exact ra9) rb9 rc9 (g := F0 m 20 ls [.long (Int32.toInt64 (xb_i h2 x0 3)), .ref b6]) rfl (argsL := [.long (Int32.toInt64 (xb_i h2 x0 3))]) (rest := []) rfl rfl (by rw [hb]; exact (xb_d D_Reader_readVariable 10 rfl))) (ok_Row_add l hfl D A σ b6 (Int32.toInt64 (xb_i h2 x0 3)) h2 bc3 bs3 _ hw) (hml.trans hl.1.symm) (by rw [hb]; exact (xb_d D_Reader_readVariable 10 rfl)) (Nat.le_of_ble_eq_true rfl) (Nat.le_of_ble_eq_true rfl) (Nat.le_of_ble_eq_true rfl) (show (k + kk3) + bc3 ≤ MC by omega) (show (n + nn3) + bs3 ≤ MS by omega) (xt_w1 hB.1 m_4f1bdc54) (xt_cdOf hB.1 m_4f1bdc54) (hts _ m_c1bef504) hB hR hS hA (fun vv h8 bc9 bs9 kk9 nn9 H locs hk9 hn9 hq hEh8 hR hS => ?_) (fun XX ax h8 bc9 bs9 kk9 nn9 H locs hk9 hn9 hq hEh8 hex hR hS => ?_)
    · obtain ⟨rfl, hw⟩ := hq
      have hw := hw hEh8
      have hE := hE.tr hEh8
      refine W.eq (g2 := F0 m 23 ls []) rfl ?_
      refine lv_aload_n hx hb (xb_d D_Reader_readVariable 11 rfl) rfl (lv_at hl 0 rfl) ?_
      have hk1 : xb_k h8 x0 = 4 := hEh8.k hk1
      refine xb_call (D := D) (A := A) (σ := σ) (h := h8) (d := 5) (mc := bc9) (ms := bs9) (maxL := 6) (rest := []) (av := [.ref x0]) (fun T hT X => by obtain ⟨cb9, ra9, rb9, rc9⟩ := xb_recv (ci := 3) hR rfl hk1 (by decide); exact xt_invV X hx hown (hts _ m_90e667a6) (hts _ m_02684d67) (hts _ m_97aecff3) (xt_sigOf (hts _ m_150d97f6)) nm_Reader_readExpression (by rw [hT]; exact ra9) rb9 rc9 (g := F0 m 24 ls [.ref x0]) rfl (argsL := []) (rest := []) rfl rfl (by rw [hb]; exact (xb_d D_Reader_readVariable 12 rfl))) (ok_Reader_readExpression l hfl D A σ x0 h8 bc9 bs9 _ _ hw) (hml.trans hl.1.symm) (by rw [hb]; exact (xb_d D_Reader_readVariable 12 rfl)) (Nat.le_of_ble_eq_true rfl) (Nat.le_of_ble_eq_true rfl) (Nat.le_of_ble_eq_true rfl) (show ((k + kk3) + kk9) + bc9 ≤ MC by omega) (show ((n + nn3) + nn9) + bs9 ≤ MS by omega) (xt_w1 hB.1 m_150d97f6) (xt_cdOf hB.1 m_150d97f6) (hts _ m_938fcec4) hB hR hS hA (fun vv h10 bc11 bs11 kk11 nn11 H locs hk11 hn11 hq hEh10 hR hS => ?_) (fun XX ax h10 bc11 bs11 kk11 nn11 H locs hk11 hn11 hq hEh10 hex hR hS => ?_)
      · obtain ⟨rfl, hw⟩ := hq
        have hw := hw hEh10
        have hE := hE.tr hEh10
        refine W.eq (g2 := F0 m 27 ls []) rfl ?_
        exact xb_vret bc11 bs11 hx hb hr hlocks (show (((k + kk3) + kk9) + kk11) + bc11 ≤ MC by omega) (show (((n + nn3) + nn9) + nn11) + bs11 ≤ MS by omega) hE hR hS (xb_d D_Reader_readVariable 13 rfl) hw
      · exact xb_pass hlocks (fun x hx9 => by rw [htab] at hx9; first | (cases hx9; done) | (simp [tableOf] at hx9; subst hx9; decide) | (simp [tableOf] at hx9; rcases hx9 with rfl | rfl <;> decide) | (simp [tableOf] at hx9; rcases hx9 with rfl | rfl | rfl <;> decide)) (show (((k + kk3) + kk9) + kk11) + bc11 ≤ MC by omega) (show (((n + nn3) + nn9) + nn11) + bs11 ≤ MS by omega) (hE.tr hEh10) hR hS hex hq
    · exact False.elim hq
  · exact xb_pass hlocks (fun x hx9 => by rw [htab] at hx9; first | (cases hx9; done) | (simp [tableOf] at hx9; subst hx9; decide) | (simp [tableOf] at hx9; rcases hx9 with rfl | rfl <;> decide) | (simp [tableOf] at hx9; rcases hx9 with rfl | rfl | rfl <;> decide)) (show (k + kk3) + bc3 ≤ MC by omega) (show (n + nn3) + bs3 ≤ MS by omega) (hE.tr hEh2) hR hS hex hq

theorem m_82571c05 : (.methodLink "StackHost$World" 144 y_World_instanceNamed : Cond) ∈ xt_tbl := xt_in (xt_t6 (List.mem_of_getElem? (i := 152) (by decide +kernel))) (by decide +kernel)
theorem m_d2aefc78 : (.instanceMethod y_World_instanceNamed : Cond) ∈ xt_tbl := xt_in (xt_t6 (List.mem_of_getElem? (i := 154) (by decide +kernel))) (by decide +kernel)
theorem m_ef239df8 : (.selects "StackHost$World" y_World_instanceNamed y_World_instanceNamed : Cond) ∈ xt_tbl := xt_in (xt_v5 (q := (⟨"StackHost$World", "instanceNamed", "([BII)I"⟩, 16)) (List.mem_of_getElem? (i := 4) (by decide +kernel))) (by decide +kernel)
theorem m_d216223b : (.code y_World_instanceNamed b_World_instanceNamed 5 (some .int) : Cond) ∈ xt_tbl := xt_in (xt_t6 (List.mem_of_getElem? (i := 155) (by decide +kernel))) (by decide +kernel)
theorem m_283934a1 : (.methodLink "StackHost$World" 152 y_StackModule_exportNamed : Cond) ∈ xt_tbl := xt_in (xt_t6 (List.mem_of_getElem? (i := 156) (by decide +kernel))) (by decide +kernel)
theorem m_f95700ce : (.fieldLink "StackHost$World" 155 "StackHost$StackModule" "exports" "LStackHost$Row;" : Cond) ∈ xt_tbl := xt_in (xt_t3 (List.mem_of_getElem? (i := 86) (by decide +kernel))) (by decide +kernel)
theorem m_c3811901 : (.methodLink "StackHost$World" 158 y_World_takeOver : Cond) ∈ xt_tbl := xt_in (xt_t6 (List.mem_of_getElem? (i := 162) (by decide +kernel))) (by decide +kernel)
theorem m_54b7b2cd : (.instanceMethod y_World_takeOver : Cond) ∈ xt_tbl := xt_in (xt_t6 (List.mem_of_getElem? (i := 164) (by decide +kernel))) (by decide +kernel)
theorem m_6cd3c2dd : (.selects "StackHost$World" y_World_takeOver y_World_takeOver : Cond) ∈ xt_tbl := xt_in (xt_v5 (q := (⟨"StackHost$World", "takeOver", "(LStackHost$StackModule;ILStackHost$Instance;I)Z"⟩, 16)) (List.mem_of_getElem? (i := 5) (by decide +kernel))) (by decide +kernel)
theorem m_01f582a2 : (.code y_World_takeOver b_World_takeOver 6 (some .boolean) : Cond) ∈ xt_tbl := xt_in (xt_t6 (List.mem_of_getElem? (i := 165) (by decide +kernel))) (by decide +kernel)
theorem m_60a95da7 : (.fieldLinkNest "StackHost$World" 135 "StackHost" "HOST_NAME" "[B" "StackHost" : Cond) ∈ xt_tbl := xt_in (xt_t6 (List.mem_of_getElem? (i := 122) (by decide +kernel))) (by decide +kernel)
theorem m_04d9e99c : (.methodLink "StackHost$World" 141 y_World_lookUpAtHost : Cond) ∈ xt_tbl := xt_in (xt_t6 (List.mem_of_getElem? (i := 125) (by decide +kernel))) (by decide +kernel)
theorem m_42cc9cb7 : (.instanceMethod y_World_lookUpAtHost : Cond) ∈ xt_tbl := xt_in (xt_t6 (List.mem_of_getElem? (i := 127) (by decide +kernel))) (by decide +kernel)
theorem m_ba72ab16 : (.selects "StackHost$World" y_World_lookUpAtHost y_World_lookUpAtHost : Cond) ∈ xt_tbl := xt_in (xt_v5 (q := (⟨"StackHost$World", "lookUpAtHost", "(LStackHost$StackModule;I)I"⟩, 16)) (List.mem_of_getElem? (i := 3) (by decide +kernel))) (by decide +kernel)
theorem m_002f0ab6 : (.code y_World_lookUpAtHost b_World_lookUpAtHost 5 (some .int) : Cond) ∈ xt_tbl := xt_in (xt_t6 (List.mem_of_getElem? (i := 128) (by decide +kernel))) (by decide +kernel)
theorem nm_World_instanceNamed : xt_nm y_World_instanceNamed 3 := ⟨by decide +kernel, by decide +kernel⟩
theorem nm_World_takeOver : xt_nm y_World_takeOver 4 := ⟨by decide +kernel, by decide +kernel⟩
theorem nm_World_lookUpAtHost : xt_nm y_World_lookUpAtHost 2 := ⟨by decide +kernel, by decide +kernel⟩
set_option maxRecDepth 100000 in
def T_World_lookUp : List (Nat × Instr × Nat) := [(0, .aload_n 1, 1), (1, .getfield 102, 3), (4, .astore_n 3, 1), (5, .aload_n 3, 1), (6, .iload_n 2, 1), (7, .iconst 3, 1), (8, .invokevirtual 51, 3), (11, .istore 4, 2), (13, .aload_n 3, 1), (14, .iload_n 2, 1), (15, .iconst 4, 1), (16, .invokevirtual 51, 3), (19, .istore 5, 2), (21, .iload 5, 2), (23, .getstatic 135, 3), (26, .arraylength, 1), (27, .if_icmp .ne 28, 3), (30, .aload_n 1, 1), (31, .getfield 138, 3), (34, .iload 4, 2), (36, .getstatic 135, 3), (39, .iconst 0, 1), (40, .iload 5, 2), (42, .invokestatic 79, 3), (45, .ifCond .eq 10, 3), (48, .aload_n 0, 1), (49, .aload_n 1, 1), (50, .iload_n 2, 1), (51, .invokevirtual 141, 3), (54, .ireturn, 1), (55, .aload_n 0, 1), (56, .aload_n 1, 1), (57, .getfield 138, 3), (60, .iload 4, 2), (62, .iload 5, 2), (64, .invokevirtual 144, 3), (67, .istore 6, 2), (69, .iload 6, 2), (71, .iconst (-1), 1), (72, .if_icmp .ne 6, 3), (75, .bipush 41, 2), (77, .ireturn, 1), (78, .aload_n 0, 1), (79, .getfield 11, 3), (82, .iload 6, 2), (84, .aaload, 1), (85, .getfield 148, 3), (88, .astore 7, 2), (90, .aload_n 3, 1), (91, .iload_n 2, 1), (92, .iconst 5, 1), (93, .invokevirtual 51, 3), (96, .istore 8, 2), (98, .aload 7, 2), (100, .aload_n 1, 1), (101, .getfield 138, 3), (104, .iload 8, 2), (106, .aload_n 3, 1), (107, .iload_n 2, 1), (108, .bipush 6, 2), (110, .invokevirtual 51, 3), (113, .invokevirtual 152, 3), (116, .istore 9, 2), (118, .iload 9, 2), (120, .iconst (-1), 1), (121, .if_icmp .ne 6, 3), (124, .bipush 42, 2), (126, .ireturn, 1), (127, .aload 7, 2), (129, .getfield 155, 3), (132, .iload 9, 2), (134, .iconst 1, 1), (135, .invokevirtual 51, 3), (138, .aload_n 3, 1), (139, .iload_n 2, 1), (140, .iconst 1, 1), (141, .invokevirtual 51, 3), (144, .if_icmp .eq 6, 3), (147, .bipush 43, 2), (149, .ireturn, 1), (150, .aload_n 0, 1), (151, .aload_n 1, 1), (152, .iload_n 2, 1), (153, .aload_n 0, 1), (154, .getfield 11, 3), (157, .iload 6, 2), (159, .aaload, 1), (160, .aload 7, 2), (162, .getfield 155, 3), (165, .iload 9, 2), (167, .iconst 2, 1), (168, .invokevirtual 51, 3), (171, .invokevirtual 158, 3), (174, .ifCond .eq 7, 3), (177, .iconst 0, 1), (178, .goto 5, 3), (181, .bipush 43, 2), (183, .ireturn, 1)]
theorem D_World_lookUp : ∀ q ∈ T_World_lookUp, decode b_World_lookUp q.1 = .ok (q.2.1, q.2.2) := by decide +kernel

set_option maxHeartbeats 4000000 in
set_option maxRecDepth 100000 in
theorem am_World_lookUp_L183 (l : Launch) (hfl : l.flags = pinnedFlags ++ [noTraceFlag]) (D : va_G) (A : Nat → Prop) (σ MC MS : Nat) (h0 : xb_H) (Qr : Int32 → xb_H → Nat → Nat → Prop) (y0 : Int32) (h : xb_H) (bc : Nat) (bs : Nat) (hw : w_World_lookUp_L183 σ Qr y0 h bc bs) : xb_am l D A σ 6 MC MS h0 (fun v h bc bs => ∃ r, v = some (.int r) ∧ Qr r h bc bs) (fun _ _ _ _ => False) y_World_lookUp.cls y_World_lookUp.name b_World_lookUp 10 ([] : List ExceptionTableEntry) (some .int) 183 [] [.int y0] h bc bs := by
  unfold w_World_lookUp_L183 at hw
  intro p e s m args below meth c hC H locs ls k n hE hl hR hS hk hn
  obtain ⟨hx, hb, hown, hlocks, htab, hml, hr, hB, hA, hnm⟩ := id hC
  have hts := hB.1.1.at args
  exact xb_iret bc bs hx hb hr hlocks (show k + bc ≤ MC by omega) (show n + bs ≤ MS by omega) hE hR hS (xb_d D_World_lookUp 97 rfl) hw

set_option maxHeartbeats 4000000 in
set_option maxRecDepth 100000 in
theorem am_World_lookUp_L55 (l : Launch) (hfl : l.flags = pinnedFlags ++ [noTraceFlag]) (D : va_G) (A : Nat → Prop) (σ MC MS : Nat) (h0 : xb_H) (Qr : Int32 → xb_H → Nat → Nat → Prop) (x0 : Nat) (x1 : Nat) (x2 : Int32) (x3 : Nat) (x4 : Int32) (x5 : Int32) (h : xb_H) (bc : Nat) (bs : Nat) (hw : w_World_lookUp_L55 σ Qr x0 x1 x2 x3 x4 x5 h bc bs) : xb_am l D A σ 6 MC MS h0 (fun v h bc bs => ∃ r, v = some (.int r) ∧ Qr r h bc bs) (fun _ _ _ _ => False) y_World_lookUp.cls y_World_lookUp.name b_World_lookUp 10 ([] : List ExceptionTableEntry) (some .int) 55 [(0, .ref x0), (1, .ref x1), (2, .int x2), (3, .ref x3), (4, .int x4), (5, .int x5)] [] h bc bs := by
  unfold w_World_lookUp_L55 at hw
  intro p e s m args below meth c hC H locs ls k n hE hl hR hS hk hn
  obtain ⟨hx, hb, hown, hlocks, htab, hml, hr, hB, hA, hnm⟩ := id hC
  have hts := hB.1.1.at args
  refine lv_aload_n hx hb (xb_d D_World_lookUp 30 rfl) rfl (lv_at hl 0 rfl) ?_
  refine lv_aload_n hx hb (xb_d D_World_lookUp 31 rfl) rfl (lv_at hl 1 rfl) ?_
  obtain ⟨hk1, hw⟩ := hw
  refine xb_getP (C := R_StackModule) (T := F_StackModule) (N := 19) hx hb 2 0 hts fin_StackModule hown hR hk1 (by decide) rfl (by decide) rfl (hts _ m_7aa5c58a) (fun _ h9 => h9) (xb_d D_World_lookUp 32 rfl) ?_
  obtain ⟨b2, eb2, hw⟩ := hw
  refine xb_some eb2 ?_
  refine lv_iload hx hb (xb_d D_World_lookUp 33 rfl) (lv_at hl 4 rfl) ?_
  refine lv_iload hx hb (xb_d D_World_lookUp 34 rfl) (lv_at hl 5 rfl) ?_
  obtain ⟨hk3, hw⟩ := hw
  refine xb_call0 (D := D) (A := A) (σ := σ) (h := h) (d := 3) (maxL := 5) (rest := []) (av := [.ref x0, .ref b2, .int x4, .int x5]) (fun T hT X => by obtain ⟨cb9, ra9, rb9, rc9⟩ := xb_recv (ci := 6) hR rfl hk3 (by decide); exact xt_invV X hx hown (hts _ m_82571c05) (hts _ m_d2aefc78) (hts _ m_ef239df8) (xt_sigOf (hts _ m_d216223b)) nm_World_instanceNamed (by rw [hT]; exact ra9) rb9 rc9 (g := F0 m 64 ls [.int x5, .int x4, .ref b2, .ref x0]) rfl (argsL := [.ref b2, .int x4, .int x5]) (rest := []) rfl rfl (by rw [hb]; exact (xb_d D_World_lookUp 35 rfl))) (ok_World_instanceNamed l hfl D A σ x0 b2 x4 x5 h _ hw) (hml.trans hl.1.symm) (by rw [hb]; exact (xb_d D_World_lookUp 35 rfl)) (Nat.le_of_ble_eq_true rfl) (Nat.le_of_ble_eq_true rfl) (Nat.le_of_ble_eq_true rfl) (show k ≤ MC by omega) (show n ≤ MS by omega) (xt_w1 hB.1 m_d216223b) (xt_cdOf hB.1 m_d216223b) (hts _ m_4534b440) hB hR hS hA (fun vv h4 H locs hq hEh4 hR hS => ?_)
  obtain ⟨r5, rfl, hw⟩ := hq
  have hw := hw hEh4
  have hE := hE.tr hEh4
  refine W.eq (g2 := F0 m 67 ls [.int r5]) rfl ?_
  refine lv_istore hx hb (xb_d D_World_lookUp 36 rfl) hl (by decide) rfl (fun ls hl => ?_)
  have hl : lv_has ls 10 [(6, .int r5), (0, .ref x0), (1, .ref x1), (2, .int x2), (3, .ref x3), (4, .int x4), (5, .int x5)] := hl
  refine lv_iload hx hb (xb_d D_World_lookUp 37 rfl) (lv_at hl 0 rfl) ?_
  refine lv_iconst (v := (-1)) hx hb (xb_d D_World_lookUp 38 rfl) (by decide) ?_
  refine lv_icmp_ne (tgt := 78) hx hb (xb_d D_World_lookUp 39 rfl) rfl (fun hc6 => ?_) (fun hc6 => ?_)
  · have hw := hw.1 hc6
    refine lv_aload_n hx hb (xb_d D_World_lookUp 42 rfl) rfl (lv_at hl 1 rfl) ?_
    have hk3 : xb_k h4 x0 = 7 := hEh4.k hk3
    refine xb_getP (C := R_World) (T := F_World) (N := 16) hx hb 6 0 hts fin_World hown hR hk3 (by decide) rfl (by decide) rfl (hts _ m_7dbedc06) (fun _ h9 => h9) (xb_d D_World_lookUp 43 rfl) ?_
    obtain ⟨b7, eb7, hw⟩ := hw
    refine xb_some eb7 ?_
    refine lv_iload hx hb (xb_d D_World_lookUp 44 rfl) (lv_at hl 0 rfl) ?_
    obtain ⟨hk9, hw⟩ := hw
    obtain ⟨hi8, hw⟩ := hw
    refine xb_aald105 hx hb hR hk9 hi8 (xb_d D_World_lookUp 45 rfl) ?_
    obtain ⟨b10, eb10, hw⟩ := hw
    refine xb_some eb10 ?_
    obtain ⟨hk11, hw⟩ := hw
    refine xb_getP (C := R_Instance) (T := F_Instance) (N := 8) hx hb 10 1 hts fin_Instance hown hR hk11 (by decide) rfl (by decide) rfl (hts _ m_22811004) (fun _ h9 => h9) (xb_d D_World_lookUp 46 rfl) ?_
    obtain ⟨b12, eb12, hw⟩ := hw
    refine xb_some eb12 ?_
    refine lv_astore hx hb (xb_d D_World_lookUp 47 rfl) hl (by decide) rfl (fun ls hl => ?_)
    have hl : lv_has ls 10 [(7, .ref b12), (6, .int r5), (0, .ref x0), (1, .ref x1), (2, .int x2), (3, .ref x3), (4, .int x4), (5, .int x5)] := hl
    refine lv_aload_n hx hb (xb_d D_World_lookUp 48 rfl) rfl (lv_at hl 5 rfl) ?_
    refine lv_iload_n hx hb (xb_d D_World_lookUp 49 rfl) rfl (lv_at hl 4 rfl) ?_
    refine lv_iconst (v := 5) hx hb (xb_d D_World_lookUp 50 rfl) (by decide) ?_
    obtain ⟨hk13, hw⟩ := hw
    refine xb_call0 (D := D) (A := A) (σ := σ) (h := h4) (d := 2) (maxL := 3) (rest := []) (av := [.ref x3, .int x2, .int 5]) (fun T hT X => by obtain ⟨cb9, ra9, rb9, rc9⟩ := xb_recv (ci := 1) hR rfl hk13 (by decide); exact xt_invV X hx hown (hts _ m_ad29ee25) (hts _ m_8e233096) (hts _ m_27eed10c) (xt_sigOf (hts _ m_ff1c70ae)) nm_Row_at (by rw [hT]; exact ra9) rb9 rc9 (g := F0 m 93 ls [.int 5, .int x2, .ref x3]) rfl (argsL := [.int x2, .int 5]) (rest := []) rfl rfl (by rw [hb]; exact (xb_d D_World_lookUp 51 rfl))) (ok_Row_at l hfl D A σ x3 x2 5 h4 _ hw) (hml.trans hl.1.symm) (by rw [hb]; exact (xb_d D_World_lookUp 51 rfl)) (Nat.le_of_ble_eq_true rfl) (Nat.le_of_ble_eq_true rfl) (Nat.le_of_ble_eq_true rfl) (show k ≤ MC by omega) (show n ≤ MS by omega) (xt_w1 hB.1 m_ff1c70ae) (xt_cdOf hB.1 m_ff1c70ae) (hts _ m_c1bef504) hB hR hS hA (fun vv h14 H locs hq hEh14 hR hS => ?_)
    obtain ⟨r15, rfl, hw⟩ := hq
    have hw := hw hEh14
    have hE := hE.tr hEh14
    refine W.eq (g2 := F0 m 96 ls [.int r15]) rfl ?_
    refine lv_istore hx hb (xb_d D_World_lookUp 52 rfl) hl (by decide) rfl (fun ls hl => ?_)
    have hl : lv_has ls 10 [(8, .int r15), (7, .ref b12), (6, .int r5), (0, .ref x0), (1, .ref x1), (2, .int x2), (3, .ref x3), (4, .int x4), (5, .int x5)] := hl
    refine lv_aload hx hb (xb_d D_World_lookUp 53 rfl) (lv_at hl 1 rfl) ?_
    refine lv_aload_n hx hb (xb_d D_World_lookUp 54 rfl) rfl (lv_at hl 4 rfl) ?_
    have hk1 : xb_k h4 x1 = 3 := hEh4.k hk1
    have hk1 : xb_k h14 x1 = 3 := hEh14.k hk1
    refine xb_getP (C := R_StackModule) (T := F_StackModule) (N := 19) hx hb 2 0 hts fin_StackModule hown hR hk1 (by decide) rfl (by decide) rfl (hts _ m_7aa5c58a) (fun _ h9 => h9) (xb_d D_World_lookUp 55 rfl) ?_
    obtain ⟨b16, eb16, hw⟩ := hw
    refine xb_some eb16 ?_
    refine lv_iload hx hb (xb_d D_World_lookUp 56 rfl) (lv_at hl 0 rfl) ?_
    refine lv_aload_n hx hb (xb_d D_World_lookUp 57 rfl) rfl (lv_at hl 6 rfl) ?_
    refine lv_iload_n hx hb (xb_d D_World_lookUp 58 rfl) rfl (lv_at hl 5 rfl) ?_
    refine lv_bipush (v := 6) hx hb (xb_d D_World_lookUp 59 rfl) (by decide) ?_
    have hk13 : xb_k h14 x3 = 2 := hEh14.k hk13
    refine xb_call0 (D := D) (A := A) (σ := σ) (h := h14) (d := 2) (maxL := 3) (rest := [.int r15, .ref b16, .ref b12]) (av := [.ref x3, .int x2, .int 6]) (fun T hT X => by obtain ⟨cb9, ra9, rb9, rc9⟩ := xb_recv (ci := 1) hR rfl hk13 (by decide); exact xt_invV X hx hown (hts _ m_ad29ee25) (hts _ m_8e233096) (hts _ m_27eed10c) (xt_sigOf (hts _ m_ff1c70ae)) nm_Row_at (by rw [hT]; exact ra9) rb9 rc9 (g := F0 m 110 ls [.int 6, .int x2, .ref x3, .int r15, .ref b16, .ref b12]) rfl (argsL := [.int x2, .int 6]) (rest := [.int r15, .ref b16, .ref b12]) rfl rfl (by rw [hb]; exact (xb_d D_World_lookUp 60 rfl))) (ok_Row_at l hfl D A σ x3 x2 6 h14 _ hw) (hml.trans hl.1.symm) (by rw [hb]; exact (xb_d D_World_lookUp 60 rfl)) (Nat.le_of_ble_eq_true rfl) (Nat.le_of_ble_eq_true rfl) (Nat.le_of_ble_eq_true rfl) (show k ≤ MC by omega) (show n ≤ MS by omega) (xt_w1 hB.1 m_ff1c70ae) (xt_cdOf hB.1 m_ff1c70ae) (hts _ m_c1bef504) hB hR hS hA (fun vv h17 H locs hq hEh17 hR hS => ?_)
    obtain ⟨r18, rfl, hw⟩ := hq
    have hw := hw hEh17
    have hE := hE.tr hEh17
    refine W.eq (g2 := F0 m 113 ls [.int r18, .int r15, .ref b16, .ref b12]) rfl ?_
    obtain ⟨hk19, hw⟩ := hw
    refine xb_call0 (D := D) (A := A) (σ := σ) (h := h17) (d := 4) (maxL := 4) (rest := []) (av := [.ref b12, .ref b16, .int r15, .int r18]) (fun T hT X => by obtain ⟨cb9, ra9, rb9, rc9⟩ := xb_recv (ci := 2) hR rfl hk19 (by decide); exact xt_invV X hx hown (hts _ m_283934a1) (hts _ m_56ec8fb6) (hts _ m_b1e53fc5) (xt_sigOf (hts _ m_bdadcc5e)) nm_StackModule_exportNamed (by rw [hT]; exact ra9) rb9 rc9 (g := F0 m 113 ls [.int r18, .int r15, .ref b16, .ref b12]) rfl (argsL := [.ref b16, .int r15, .int r18]) (rest := []) rfl rfl (by rw [hb]; exact (xb_d D_World_lookUp 61 rfl))) (ok_StackModule_exportNamed l hfl D A σ b12 b16 r15 r18 h17 _ hw) (hml.trans hl.1.symm) (by rw [hb]; exact (xb_d D_World_lookUp 61 rfl)) (Nat.le_of_ble_eq_true rfl) (Nat.le_of_ble_eq_true rfl) (Nat.le_of_ble_eq_true rfl) (show k ≤ MC by omega) (show n ≤ MS by omega) (xt_w1 hB.1 m_bdadcc5e) (xt_cdOf hB.1 m_bdadcc5e) (hts _ m_9c375545) hB hR hS hA (fun vv h20 H locs hq hEh20 hR hS => ?_)
    obtain ⟨r21, rfl, hw⟩ := hq
    have hw := hw hEh20
    have hE := hE.tr hEh20
    refine W.eq (g2 := F0 m 116 ls [.int r21]) rfl ?_
    refine lv_istore hx hb (xb_d D_World_lookUp 62 rfl) hl (by decide) rfl (fun ls hl => ?_)
    have hl : lv_has ls 10 [(9, .int r21), (8, .int r15), (7, .ref b12), (6, .int r5), (0, .ref x0), (1, .ref x1), (2, .int x2), (3, .ref x3), (4, .int x4), (5, .int x5)] := hl
    refine lv_iload hx hb (xb_d D_World_lookUp 63 rfl) (lv_at hl 0 rfl) ?_
    refine lv_iconst (v := (-1)) hx hb (xb_d D_World_lookUp 64 rfl) (by decide) ?_
    refine lv_icmp_ne (tgt := 127) hx hb (xb_d D_World_lookUp 65 rfl) rfl (fun hc22 => ?_) (fun hc22 => ?_)
    · have hw := hw.1 hc22
      refine lv_aload hx hb (xb_d D_World_lookUp 68 rfl) (lv_at hl 2 rfl) ?_
      have hk19 : xb_k h20 b12 = 3 := hEh20.k hk19
      refine xb_getP (C := R_StackModule) (T := F_StackModule) (N := 19) hx hb 2 8 hts fin_StackModule hown hR hk19 (by decide) rfl (by decide) rfl (hts _ m_f95700ce) (fun _ h9 => h9) (xb_d D_World_lookUp 69 rfl) ?_
      obtain ⟨b23, eb23, hw⟩ := hw
      refine xb_some eb23 ?_
      refine lv_iload hx hb (xb_d D_World_lookUp 70 rfl) (lv_at hl 0 rfl) ?_
      refine lv_iconst (v := 1) hx hb (xb_d D_World_lookUp 71 rfl) (by decide) ?_
      obtain ⟨hk24, hw⟩ := hw
      refine xb_call0 (D := D) (A := A) (σ := σ) (h := h20) (d := 2) (maxL := 3) (rest := []) (av := [.ref b23, .int r21, .int 1]) (fun T hT X => by obtain ⟨cb9, ra9, rb9, rc9⟩ := xb_recv (ci := 1) hR rfl hk24 (by decide); exact xt_invV X hx hown (hts _ m_ad29ee25) (hts _ m_8e233096) (hts _ m_27eed10c) (xt_sigOf (hts _ m_ff1c70ae)) nm_Row_at (by rw [hT]; exact ra9) rb9 rc9 (g := F0 m 135 ls [.int 1, .int r21, .ref b23]) rfl (argsL := [.int r21, .int 1]) (rest := []) rfl rfl (by rw [hb]; exact (xb_d D_World_lookUp 72 rfl))) (ok_Row_at l hfl D A σ b23 r21 1 h20 _ hw) (hml.trans hl.1.symm) (by rw [hb]; exact (xb_d D_World_lookUp 72 rfl)) (Nat.le_of_ble_eq_true rfl) (Nat.le_of_ble_eq_true rfl) (Nat.le_of_ble_eq_true rfl) (show k ≤ MC by omega) (show n ≤ MS by omega) (xt_w1 hB.1 m_ff1c70ae) (xt_cdOf hB.1 m_ff1c70ae) (hts _ m_c1bef504) hB hR hS hA (fun vv h25 H locs hq hEh25 hR hS => ?_)
      obtain ⟨r26, rfl, hw⟩ := hq
      have hw := hw hEh25
      have hE := hE.tr hEh25
      refine W.eq (g2 := F0 m 138 ls [.int r26]) rfl ?_
      refine lv_aload_n hx hb (xb_d D_World_lookUp 73 rfl) rfl (lv_at hl 7 rfl) ?_
      refine lv_iload_n hx hb (xb_d D_World_lookUp 74 rfl) rfl (lv_at hl 6 rfl) ?_
      refine lv_iconst (v := 1) hx hb (xb_d D_World_lookUp 75 rfl) (by decide) ?_
      have hk13 : xb_k h17 x3 = 2 := hEh17.k hk13
      have hk13 : xb_k h20 x3 = 2 := hEh20.k hk13
      have hk13 : xb_k h25 x3 = 2 := hEh25.k hk13
      refine xb_call0 (D := D) (A := A) (σ := σ) (h := h25) (d := 2) (maxL := 3) (rest := [.int r26]) (av := [.ref x3, .int x2, .int 1]) (fun T hT X => by obtain ⟨cb9, ra9, rb9, rc9⟩ := xb_recv (ci := 1) hR rfl hk13 (by decide); exact xt_invV X hx hown (hts _ m_ad29ee25) (hts _ m_8e233096) (hts _ m_27eed10c) (xt_sigOf (hts _ m_ff1c70ae)) nm_Row_at (by rw [hT]; exact ra9) rb9 rc9 (g := F0 m 141 ls [.int 1, .int x2, .ref x3, .int r26]) rfl (argsL := [.int x2, .int 1]) (rest := [.int r26]) rfl rfl (by rw [hb]; exact (xb_d D_World_lookUp 76 rfl))) (ok_Row_at l hfl D A σ x3 x2 1 h25 _ hw) (hml.trans hl.1.symm) (by rw [hb]; exact (xb_d D_World_lookUp 76 rfl)) (Nat.le_of_ble_eq_true rfl) (Nat.le_of_ble_eq_true rfl) (Nat.le_of_ble_eq_true rfl) (show k ≤ MC by omega) (show n ≤ MS by omega) (xt_w1 hB.1 m_ff1c70ae) (xt_cdOf hB.1 m_ff1c70ae) (hts _ m_c1bef504) hB hR hS hA (fun vv h27 H locs hq hEh27 hR hS => ?_)
      obtain ⟨r28, rfl, hw⟩ := hq
      have hw := hw hEh27
      have hE := hE.tr hEh27
      refine W.eq (g2 := F0 m 144 ls [.int r28, .int r26]) rfl ?_
      refine lv_icmp_eq (tgt := 150) hx hb (xb_d D_World_lookUp 77 rfl) rfl (fun hc29 => ?_) (fun hc29 => ?_)
      · have hw := hw.1 hc29
        refine lv_aload_n hx hb (xb_d D_World_lookUp 80 rfl) rfl (lv_at hl 4 rfl) ?_
        refine lv_aload_n hx hb (xb_d D_World_lookUp 81 rfl) rfl (lv_at hl 5 rfl) ?_
        refine lv_iload_n hx hb (xb_d D_World_lookUp 82 rfl) rfl (lv_at hl 6 rfl) ?_
        refine lv_aload_n hx hb (xb_d D_World_lookUp 83 rfl) rfl (lv_at hl 4 rfl) ?_
        have hk3 : xb_k h14 x0 = 7 := hEh14.k hk3
        have hk3 : xb_k h17 x0 = 7 := hEh17.k hk3
        have hk3 : xb_k h20 x0 = 7 := hEh20.k hk3
        have hk3 : xb_k h25 x0 = 7 := hEh25.k hk3
        have hk3 : xb_k h27 x0 = 7 := hEh27.k hk3
        refine xb_getP (C := R_World) (T := F_World) (N := 16) hx hb 6 0 hts fin_World hown hR hk3 (by decide) rfl (by decide) rfl (hts _ m_7dbedc06) (fun _ h9 => h9) (xb_d D_World_lookUp 84 rfl) ?_
        obtain ⟨b30, eb30, hw⟩ := hw
        refine xb_some eb30 ?_
        refine lv_iload hx hb (xb_d D_World_lookUp 85 rfl) (lv_at hl 3 rfl) ?_
        obtain ⟨hk32, hw⟩ := hw
        obtain ⟨hi31, hw⟩ := hw
        refine xb_aald105 hx hb hR hk32 hi31 (xb_d D_World_lookUp 86 rfl) ?_
        obtain ⟨b33, eb33, hw⟩ := hw
        refine xb_some eb33 ?_
        refine lv_aload hx hb (xb_d D_World_lookUp 87 rfl) (lv_at hl 2 rfl) ?_
        have hk19 : xb_k h25 b12 = 3 := hEh25.k hk19
        have hk19 : xb_k h27 b12 = 3 := hEh27.k hk19
        refine xb_getP (C := R_StackModule) (T := F_StackModule) (N := 19) hx hb 2 8 hts fin_StackModule hown hR hk19 (by decide) rfl (by decide) rfl (hts _ m_f95700ce) (fun _ h9 => h9) (xb_d D_World_lookUp 88 rfl) ?_
        obtain ⟨b34, eb34, hw⟩ := hw
        refine xb_some eb34 ?_
        refine lv_iload hx hb (xb_d D_World_lookUp 89 rfl) (lv_at hl 0 rfl) ?_
        refine lv_iconst (v := 2) hx hb (xb_d D_World_lookUp 90 rfl) (by decide) ?_
        obtain ⟨hk35, hw⟩ := hw
        refine xb_call0 (D := D) (A := A) (σ := σ) (h := h27) (d := 2) (maxL := 3) (rest := [.ref b33, .int x2, .ref x1, .ref x0]) (av := [.ref b34, .int r21, .int 2]) (fun T hT X => by obtain ⟨cb9, ra9, rb9, rc9⟩ := xb_recv (ci := 1) hR rfl hk35 (by decide); exact xt_invV X hx hown (hts _ m_ad29ee25) (hts _ m_8e233096) (hts _ m_27eed10c) (xt_sigOf (hts _ m_ff1c70ae)) nm_Row_at (by rw [hT]; exact ra9) rb9 rc9 (g := F0 m 168 ls [.int 2, .int r21, .ref b34, .ref b33, .int x2, .ref x1, .ref x0]) rfl (argsL := [.int r21, .int 2]) (rest := [.ref b33, .int x2, .ref x1, .ref x0]) rfl rfl (by rw [hb]; exact (xb_d D_World_lookUp 91 rfl))) (ok_Row_at l hfl D A σ b34 r21 2 h27 _ hw) (hml.trans hl.1.symm) (by rw [hb]; exact (xb_d D_World_lookUp 91 rfl)) (Nat.le_of_ble_eq_true rfl) (Nat.le_of_ble_eq_true rfl) (Nat.le_of_ble_eq_true rfl) (show k ≤ MC by omega) (show n ≤ MS by omega) (xt_w1 hB.1 m_ff1c70ae) (xt_cdOf hB.1 m_ff1c70ae) (hts _ m_c1bef504) hB hR hS hA (fun vv h36 H locs hq hEh36 hR hS => ?_)
        obtain ⟨r37, rfl, hw⟩ := hq
        have hw := hw hEh36
        have hE := hE.tr hEh36
        refine W.eq (g2 := F0 m 171 ls [.int r37, .ref b33, .int x2, .ref x1, .ref x0]) rfl ?_
        have hk3 : xb_k h36 x0 = 7 := hEh36.k hk3
        refine xb_call (D := D) (A := A) (σ := σ) (h := h36) (d := 5) (mc := bc) (ms := bs) (maxL := 6) (rest := []) (av := [.ref x0, .ref x1, .int x2, .ref b33, .int r37]) (fun T hT X => by obtain ⟨cb9, ra9, rb9, rc9⟩ := xb_recv (ci := 6) hR rfl hk3 (by decide); exact xt_invV X hx hown (hts _ m_c3811901) (hts _ m_54b7b2cd) (hts _ m_6cd3c2dd) (xt_sigOf (hts _ m_01f582a2)) nm_World_takeOver (by rw [hT]; exact ra9) rb9 rc9 (g := F0 m 171 ls [.int r37, .ref b33, .int x2, .ref x1, .ref x0]) rfl (argsL := [.ref x1, .int x2, .ref b33, .int r37]) (rest := []) rfl rfl (by rw [hb]; exact (xb_d D_World_lookUp 92 rfl))) (ok_World_takeOver l hfl D A σ x0 x1 x2 b33 r37 h36 bc bs _ hw) (hml.trans hl.1.symm) (by rw [hb]; exact (xb_d D_World_lookUp 92 rfl)) (Nat.le_of_ble_eq_true rfl) (Nat.le_of_ble_eq_true rfl) (Nat.le_of_ble_eq_true rfl) (show k + bc ≤ MC by omega) (show n + bs ≤ MS by omega) (xt_w1 hB.1 m_01f582a2) (xt_cdOf hB.1 m_01f582a2) (hts _ m_4534b440) hB hR hS hA (fun vv h38 bc39 bs39 kk39 nn39 H locs hk39 hn39 hq hEh38 hR hS => ?_) (fun XX ax h38 bc39 bs39 kk39 nn39 H locs hk39 hn39 hq hEh38 hex hR hS => ?_)
        · obtain ⟨r39, rfl, hw⟩ := hq
          have hw := hw hEh38
          have hE := hE.tr hEh38
          refine W.eq (g2 := F0 m 174 ls [.int r39]) rfl ?_
          refine lv_if_eq (tgt := 181) hx hb (xb_d D_World_lookUp 93 rfl) rfl (fun hc40 => ?_) (fun hc40 => ?_)
          · have hw := hw.1 hc40
            refine lv_bipush (v := 43) hx hb (xb_d D_World_lookUp 96 rfl) (by decide) ?_
            exact am_World_lookUp_L183 l hfl D A σ MC MS h0 Qr 43 h38 bc39 bs39 hw p e s m args below meth c hC H locs ls (k + kk39) (n + nn39) hE (lv_sub hl [] rfl) hR hS (by omega) (by omega)
          · have hw := hw.2 hc40
            refine lv_iconst (v := 0) hx hb (xb_d D_World_lookUp 94 rfl) (by decide) ?_
            refine lv_goto (tgt := 183) hx hb (xb_d D_World_lookUp 95 rfl) rfl ?_
            exact am_World_lookUp_L183 l hfl D A σ MC MS h0 Qr 0 h38 bc39 bs39 hw p e s m args below meth c hC H locs ls (k + kk39) (n + nn39) hE (lv_sub hl [] rfl) hR hS (by omega) (by omega)
        · exact False.elim hq
      · have hw := hw.2 hc29
        refine lv_bipush (v := 43) hx hb (xb_d D_World_lookUp 78 rfl) (by decide) ?_
        exact xb_iret bc bs hx hb hr hlocks (show k + bc ≤ MC by omega) (show n + bs ≤ MS by omega) hE hR hS (xb_d D_World_lookUp 79 rfl) hw
    · have hw := hw.2 hc22
      refine lv_bipush (v := 42) hx hb (xb_d D_World_lookUp 66 rfl) (by decide) ?_
      exact xb_iret bc bs hx hb hr hlocks (show k + bc ≤ MC by omega) (show n + bs ≤ MS by omega) hE hR hS (xb_d D_World_lookUp 67 rfl) hw
  · have hw := hw.2 hc6
    refine lv_bipush (v := 41) hx hb (xb_d D_World_lookUp 40 rfl) (by decide) ?_
    exact xb_iret bc bs hx hb hr hlocks (show k + bc ≤ MC by omega) (show n + bs ≤ MS by omega) hE hR hS (xb_d D_World_lookUp 41 rfl) hw

set_option maxHeartbeats 4000000 in
set_option maxRecDepth 100000 in
theorem ok_World_lookUp (l : Launch) (hfl : l.flags = pinnedFlags ++ [noTraceFlag]) (D : va_G) (A : Nat → Prop) (σ : Nat) (x0 : Nat) (x1 : Nat) (x2 : Int32) (h : xb_H) (bc : Nat) (bs : Nat) (Qr : Int32 → xb_H → Nat → Nat → Prop) (hw : w_World_lookUp σ x0 x1 x2 h bc bs Qr) : xb_Met l y_World_lookUp [.code y_World_lookUp b_World_lookUp 10 (some .int)] (xb_rm 6 bc bs) (xb_Pc D A σ h [.ref x0, .ref x1, .int x2]) (xb_Qc D A h bc bs (fun v h bc bs => ∃ r, v = some (.int r) ∧ Qr r h bc bs) (fun _ _ _ _ => False)) A := by
  refine xb_ofAm (cc := b_World_lookUp) (by decide) (Nat.le_of_ble_eq_true rfl) ?_
  unfold w_World_lookUp at hw
  show xb_am l D A σ 6 bc bs h (fun v h bc bs => ∃ r, v = some (.int r) ∧ Qr r h bc bs) (fun _ _ _ _ => False) y_World_lookUp.cls y_World_lookUp.name b_World_lookUp 10 ([] : List ExceptionTableEntry) (some .int) 0 [(0, .ref x0), (1, .ref x1), (2, .int x2)] [] h bc bs
  obtain ⟨MC, hMC⟩ : ∃ x, x = bc := ⟨_, rfl⟩
  obtain ⟨MS, hMS⟩ : ∃ x, x = bs := ⟨_, rfl⟩
  rw [show xb_am l D A σ 6 bc bs = xb_am l D A σ 6 MC MS by rw [hMC, hMS]]
  obtain ⟨h0, hh0⟩ : ∃ x, x = h := ⟨_, rfl⟩
  rw [show xb_am l D A σ 6 MC MS h = xb_am l D A σ 6 MC MS h0 by rw [hh0]]
  intro p e s m args below meth c hC H locs ls k n hE hl hR hS hk hn
  obtain ⟨hx, hb, hown, hlocks, htab, hml, hr, hB, hA, hnm⟩ := id hC
  have hts := hB.1.1.at args
  refine lv_aload_n hx hb (xb_d D_World_lookUp 0 rfl) rfl (lv_at hl 1 rfl) ?_
  obtain ⟨hk1, hw⟩ := hw
  refine xb_getP (C := R_StackModule) (T := F_StackModule) (N := 19) hx hb 2 3 hts fin_StackModule hown hR hk1 (by decide) rfl (by decide) rfl (hts _ m_73c47404) (fun _ h9 => h9) (xb_d D_World_lookUp 1 rfl) ?_
  obtain ⟨b2, eb2, hw⟩ := hw
  refine xb_some eb2 ?_
  refine lv_astore_n hx hb (xb_d D_World_lookUp 2 rfl) rfl hl (by decide) rfl (fun ls hl => ?_)
  have hl : lv_has ls 10 [(3, .ref b2), (0, .ref x0), (1, .ref x1), (2, .int x2)] := hl
  refine lv_aload_n hx hb (xb_d D_World_lookUp 3 rfl) rfl (lv_at hl 0 rfl) ?_
  refine lv_iload_n hx hb (xb_d D_World_lookUp 4 rfl) rfl (lv_at hl 3 rfl) ?_
  refine lv_iconst (v := 3) hx hb (xb_d D_World_lookUp 5 rfl) (by decide) ?_
  obtain ⟨hk3, hw⟩ := hw
  refine xb_call0 (D := D) (A := A) (σ := σ) (h := h) (d := 2) (maxL := 3) (rest := []) (av := [.ref b2, .int x2, .int 3]) (fun T hT X => by obtain ⟨cb9, ra9, rb9, rc9⟩ := xb_recv (ci := 1) hR rfl hk3 (by decide); exact xt_invV X hx hown (hts _ m_ad29ee25) (hts _ m_8e233096) (hts _ m_27eed10c) (xt_sigOf (hts _ m_ff1c70ae)) nm_Row_at (by rw [hT]; exact ra9) rb9 rc9 (g := F0 m 8 ls [.int 3, .int x2, .ref b2]) rfl (argsL := [.int x2, .int 3]) (rest := []) rfl rfl (by rw [hb]; exact (xb_d D_World_lookUp 6 rfl))) (ok_Row_at l hfl D A σ b2 x2 3 h _ hw) (hml.trans hl.1.symm) (by rw [hb]; exact (xb_d D_World_lookUp 6 rfl)) (Nat.le_of_ble_eq_true rfl) (Nat.le_of_ble_eq_true rfl) (Nat.le_of_ble_eq_true rfl) (show k ≤ MC by omega) (show n ≤ MS by omega) (xt_w1 hB.1 m_ff1c70ae) (xt_cdOf hB.1 m_ff1c70ae) (hts _ m_c1bef504) hB hR hS hA (fun vv h4 H locs hq hEh4 hR hS => ?_)
  obtain ⟨r5, rfl, hw⟩ := hq
  have hw := hw hEh4
  have hE := hE.tr hEh4
  refine W.eq (g2 := F0 m 11 ls [.int r5]) rfl ?_
  refine lv_istore hx hb (xb_d D_World_lookUp 7 rfl) hl (by decide) rfl (fun ls hl => ?_)
  have hl : lv_has ls 10 [(4, .int r5), (3, .ref b2), (0, .ref x0), (1, .ref x1), (2, .int x2)] := hl
  refine lv_aload_n hx hb (xb_d D_World_lookUp 8 rfl) rfl (lv_at hl 1 rfl) ?_
  refine lv_iload_n hx hb (xb_d D_World_lookUp 9 rfl) rfl (lv_at hl 4 rfl) ?_
  refine lv_iconst (v := 4) hx hb (xb_d D_World_lookUp 10 rfl) (by decide) ?_
  have hk3 : xb_k h4 b2 = 2 := hEh4.k hk3
  refine xb_call0 (D := D) (A := A) (σ := σ) (h := h4) (d := 2) (maxL := 3) (rest := []) (av := [.ref b2, .int x2, .int 4]) (fun T hT X => by obtain ⟨cb9, ra9, rb9, rc9⟩ := xb_recv (ci := 1) hR rfl hk3 (by decide); exact xt_invV X hx hown (hts _ m_ad29ee25) (hts _ m_8e233096) (hts _ m_27eed10c) (xt_sigOf (hts _ m_ff1c70ae)) nm_Row_at (by rw [hT]; exact ra9) rb9 rc9 (g := F0 m 16 ls [.int 4, .int x2, .ref b2]) rfl (argsL := [.int x2, .int 4]) (rest := []) rfl rfl (by rw [hb]; exact (xb_d D_World_lookUp 11 rfl))) (ok_Row_at l hfl D A σ b2 x2 4 h4 _ hw) (hml.trans hl.1.symm) (by rw [hb]; exact (xb_d D_World_lookUp 11 rfl)) (Nat.le_of_ble_eq_true rfl) (Nat.le_of_ble_eq_true rfl) (Nat.le_of_ble_eq_true rfl) (show k ≤ MC by omega) (show n ≤ MS by omega) (xt_w1 hB.1 m_ff1c70ae) (xt_cdOf hB.1 m_ff1c70ae) (hts _ m_c1bef504) hB hR hS hA (fun vv h6 H locs hq hEh6 hR hS => ?_)
  obtain ⟨r7, rfl, hw⟩ := hq
  have hw := hw hEh6
  have hE := hE.tr hEh6
  refine W.eq (g2 := F0 m 19 ls [.int r7]) rfl ?_
  refine lv_istore hx hb (xb_d D_World_lookUp 12 rfl) hl (by decide) rfl (fun ls hl => ?_)
  have hl : lv_has ls 10 [(5, .int r7), (4, .int r5), (3, .ref b2), (0, .ref x0), (1, .ref x1), (2, .int x2)] := hl
  refine lv_iload hx hb (xb_d D_World_lookUp 13 rfl) (lv_at hl 0 rfl) ?_
  refine va_getsN hx hb hB.2.2.2.2.2.1 hS hown (hts _ m_60a95da7) (fun _ h9 => h9) (xb_d D_World_lookUp 14 rfl) ?_
  refine va_tlen (v := 4) hx hb hB.2.2.2.2.2.2 hS (by decide +kernel) (xb_d D_World_lookUp 15 rfl) ?_
  refine lv_icmp_ne (tgt := 55) hx hb (xb_d D_World_lookUp 16 rfl) rfl (fun hc9 => ?_) (fun hc9 => ?_)
  · have hw := hw.1 hc9
    exact am_World_lookUp_L55 l hfl D A σ MC MS h0 Qr x0 x1 x2 b2 r5 r7 h6 bc bs hw p e s m args below meth c hC H locs ls k n hE (lv_sub hl [3, 4, 5, 2, 1, 0] rfl) hR hS (by omega) (by omega)
  · have hw := hw.2 hc9
    refine lv_aload_n hx hb (xb_d D_World_lookUp 17 rfl) rfl (lv_at hl 4 rfl) ?_
    have hk1 : xb_k h4 x1 = 3 := hEh4.k hk1
    have hk1 : xb_k h6 x1 = 3 := hEh6.k hk1
    refine xb_getP (C := R_StackModule) (T := F_StackModule) (N := 19) hx hb 2 0 hts fin_StackModule hown hR hk1 (by decide) rfl (by decide) rfl (hts _ m_7aa5c58a) (fun _ h9 => h9) (xb_d D_World_lookUp 18 rfl) ?_
    obtain ⟨b10, eb10, hw⟩ := hw
    refine xb_some eb10 ?_
    refine lv_iload hx hb (xb_d D_World_lookUp 19 rfl) (lv_at hl 1 rfl) ?_
    refine va_getsN hx hb hB.2.2.2.2.2.1 hS hown (hts _ m_60a95da7) (fun _ h9 => h9) (xb_d D_World_lookUp 20 rfl) ?_
    refine lv_iconst (v := 0) hx hb (xb_d D_World_lookUp 21 rfl) (by decide) ?_
    refine lv_iload hx hb (xb_d D_World_lookUp 22 rfl) (lv_at hl 0 rfl) ?_
    refine xb_call0 (D := D) (A := A) (σ := σ) (h := h6) (d := 2) (maxL := 6) (rest := []) (av := [.ref b10, .int r5, .ref σ, .int 0, .int r7]) (fun T hT X => xt_invS X hx hown (hts _ m_1dd644e2) (hts _ m_60db31ff) (hts _ m_9c375545) (xt_sgS (hts _ m_e49b5738)).1 (xt_sgS (hts _ m_e49b5738)).2 nm_StackModule_sameBytes (g := F0 m 42 ls [.int r7, .int 0, .ref σ, .int r5, .ref b10]) rfl (argsL := [.ref b10, .int r5, .ref σ, .int 0, .int r7]) (rest := []) rfl rfl (by rw [hb]; exact (xb_d D_World_lookUp 23 rfl))) (ok_StackModule_sameBytesS l hfl D A σ b10 r5 0 r7 h6 _ hw) (hml.trans hl.1.symm) (by rw [hb]; exact (xb_d D_World_lookUp 23 rfl)) (Nat.le_of_ble_eq_true rfl) (Nat.le_of_ble_eq_true rfl) (Nat.le_of_ble_eq_true rfl) (show k ≤ MC by omega) (show n ≤ MS by omega) (xt_w1 hB.1 m_e49b5738) (xt_cdOf hB.1 m_e49b5738) (hts _ m_9c375545) hB hR hS hA (fun vv h11 H locs hq hEh11 hR hS => ?_)
    obtain ⟨r12, rfl, hw⟩ := hq
    have hw := hw hEh11
    have hE := hE.tr hEh11
    refine W.eq (g2 := F0 m 45 ls [.int r12]) rfl ?_
    refine lv_if_eq (tgt := 55) hx hb (xb_d D_World_lookUp 24 rfl) rfl (fun hc13 => ?_) (fun hc13 => ?_)
    · have hw := hw.1 hc13
      exact am_World_lookUp_L55 l hfl D A σ MC MS h0 Qr x0 x1 x2 b2 r5 r7 h11 bc bs hw p e s m args below meth c hC H locs ls k n hE (lv_sub hl [3, 4, 5, 2, 1, 0] rfl) hR hS (by omega) (by omega)
    · have hw := hw.2 hc13
      refine lv_aload_n hx hb (xb_d D_World_lookUp 25 rfl) rfl (lv_at hl 3 rfl) ?_
      refine lv_aload_n hx hb (xb_d D_World_lookUp 26 rfl) rfl (lv_at hl 4 rfl) ?_
      refine lv_iload_n hx hb (xb_d D_World_lookUp 27 rfl) rfl (lv_at hl 5 rfl) ?_
      obtain ⟨hk14, hw⟩ := hw
      refine xb_call (D := D) (A := A) (σ := σ) (h := h11) (d := 5) (mc := bc) (ms := bs) (maxL := 5) (rest := []) (av := [.ref x0, .ref x1, .int x2]) (fun T hT X => by obtain ⟨cb9, ra9, rb9, rc9⟩ := xb_recv (ci := 6) hR rfl hk14 (by decide); exact xt_invV X hx hown (hts _ m_04d9e99c) (hts _ m_42cc9cb7) (hts _ m_ba72ab16) (xt_sigOf (hts _ m_002f0ab6)) nm_World_lookUpAtHost (by rw [hT]; exact ra9) rb9 rc9 (g := F0 m 51 ls [.int x2, .ref x1, .ref x0]) rfl (argsL := [.ref x1, .int x2]) (rest := []) rfl rfl (by rw [hb]; exact (xb_d D_World_lookUp 28 rfl))) (ok_World_lookUpAtHost l hfl D A σ x0 x1 x2 h11 bc bs _ hw) (hml.trans hl.1.symm) (by rw [hb]; exact (xb_d D_World_lookUp 28 rfl)) (Nat.le_of_ble_eq_true rfl) (Nat.le_of_ble_eq_true rfl) (Nat.le_of_ble_eq_true rfl) (show k + bc ≤ MC by omega) (show n + bs ≤ MS by omega) (xt_w1 hB.1 m_002f0ab6) (xt_cdOf hB.1 m_002f0ab6) (hts _ m_4534b440) hB hR hS hA (fun vv h15 bc16 bs16 kk16 nn16 H locs hk16 hn16 hq hEh15 hR hS => ?_) (fun XX ax h15 bc16 bs16 kk16 nn16 H locs hk16 hn16 hq hEh15 hex hR hS => ?_)
      · obtain ⟨r16, rfl, hw⟩ := hq
        have hw := hw hEh15
        have hE := hE.tr hEh15
        refine W.eq (g2 := F0 m 54 ls [.int r16]) rfl ?_
        exact xb_iret bc16 bs16 hx hb hr hlocks (show (k + kk16) + bc16 ≤ MC by omega) (show (n + nn16) + bs16 ≤ MS by omega) hE hR hS (xb_d D_World_lookUp 29 rfl) hw
      · exact False.elim hq

