theorem m_bc6f1cef : (.methodLink "StackHost$Reader" 134 y_Reader_readMark : Cond) ∈ xt_tbl := xt_in (xt_t3 (List.mem_of_getElem? (i := 208) (by decide +kernel))) (by decide +kernel)
theorem m_6ae404a7 : (.instanceMethod y_Reader_readMark : Cond) ∈ xt_tbl := xt_in (xt_t3 (List.mem_of_getElem? (i := 210) (by decide +kernel))) (by decide +kernel)
theorem m_7b6b2ffe : (.selects "StackHost$Reader" y_Reader_readMark y_Reader_readMark : Cond) ∈ xt_tbl := xt_in (xt_v1 (q := (⟨"StackHost$Reader", "readMark", "(I)V"⟩, 6)) (List.mem_of_getElem? (i := 9) (by decide +kernel))) (by decide +kernel)
theorem m_e431c1f6 : (.code y_Reader_readMark b_Reader_readMark 2 none : Cond) ∈ xt_tbl := xt_in (xt_t3 (List.mem_of_getElem? (i := 211) (by decide +kernel))) (by decide +kernel)
theorem m_903bb93e : (.methodLink "StackHost$Reader" 205 y_Reader_signed : Cond) ∈ xt_tbl := xt_in (xt_t4 (List.mem_of_getElem? (i := 50) (by decide +kernel))) (by decide +kernel)
theorem m_1631781f : (.instanceMethod y_Reader_signed : Cond) ∈ xt_tbl := xt_in (xt_t4 (List.mem_of_getElem? (i := 52) (by decide +kernel))) (by decide +kernel)
theorem m_ad7ad53c : (.selects "StackHost$Reader" y_Reader_signed y_Reader_signed : Cond) ∈ xt_tbl := xt_in (xt_v2 (q := (⟨"StackHost$Reader", "signed", "(I)J"⟩, 6)) (List.mem_of_getElem? (i := 8) (by decide +kernel))) (by decide +kernel)
theorem m_7e8e77b8 : (.code y_Reader_signed b_Reader_signed 7 (some .long) : Cond) ∈ xt_tbl := xt_in (xt_t4 (List.mem_of_getElem? (i := 53) (by decide +kernel))) (by decide +kernel)
theorem m_dc270ec6 : (.methodLink "StackHost$Reader" 209 y_Reader_noteLong : Cond) ∈ xt_tbl := xt_in (xt_t4 (List.mem_of_getElem? (i := 57) (by decide +kernel))) (by decide +kernel)
theorem m_c7891398 : (.instanceMethod y_Reader_noteLong : Cond) ∈ xt_tbl := xt_in (xt_t4 (List.mem_of_getElem? (i := 59) (by decide +kernel))) (by decide +kernel)
theorem m_c987b880 : (.selects "StackHost$Reader" y_Reader_noteLong y_Reader_noteLong : Cond) ∈ xt_tbl := xt_in (xt_v2 (q := (⟨"StackHost$Reader", "noteLong", "(IJ)V"⟩, 6)) (List.mem_of_getElem? (i := 9) (by decide +kernel))) (by decide +kernel)
theorem m_3ca9c0e1 : (.code y_Reader_noteLong b_Reader_noteLong 4 none : Cond) ∈ xt_tbl := xt_in (xt_t4 (List.mem_of_getElem? (i := 60) (by decide +kernel))) (by decide +kernel)
theorem m_a14af40f : (.methodLink "StackHost$Reader" 213 y_Reader_plainBytes : Cond) ∈ xt_tbl := xt_in (xt_t4 (List.mem_of_getElem? (i := 61) (by decide +kernel))) (by decide +kernel)
theorem m_558b41ae : (.instanceMethod y_Reader_plainBytes : Cond) ∈ xt_tbl := xt_in (xt_t4 (List.mem_of_getElem? (i := 63) (by decide +kernel))) (by decide +kernel)
theorem m_a62fdb5c : (.selects "StackHost$Reader" y_Reader_plainBytes y_Reader_plainBytes : Cond) ∈ xt_tbl := xt_in (xt_v2 (q := (⟨"StackHost$Reader", "plainBytes", "(I)J"⟩, 6)) (List.mem_of_getElem? (i := 10) (by decide +kernel))) (by decide +kernel)
theorem m_43b45542 : (.code y_Reader_plainBytes b_Reader_plainBytes 5 (some .long) : Cond) ∈ xt_tbl := xt_in (xt_t4 (List.mem_of_getElem? (i := 64) (by decide +kernel))) (by decide +kernel)
theorem nm_Reader_readMark : xt_nm y_Reader_readMark 1 := ⟨by decide +kernel, by decide +kernel⟩
theorem nm_Reader_signed : xt_nm y_Reader_signed 1 := ⟨by decide +kernel, by decide +kernel⟩
theorem nm_Reader_noteLong : xt_nm y_Reader_noteLong 2 := ⟨by decide +kernel, by decide +kernel⟩
theorem nm_Reader_plainBytes : xt_nm y_Reader_plainBytes 1 := ⟨by decide +kernel, by decide +kernel⟩
set_option maxRecDepth 100000 in
def T_Reader_readOperands : List (Nat × Instr × Nat) := [(0, .iload_n 1, 1), (1, .tableswitch 183 4 12 #[51, 183, 66, 86, 113, 121, 138, 152, 169], 51), (52, .aload_n 0, 1), (53, .getfield 29, 3), (56, .iload_n 2, 1), (57, .iconst 1, 1), (58, .iadd, 1), (59, .aload_n 0, 1), (60, .invokevirtual 70, 3), (63, .iastore, 1), (64, .goto 129, 3), (67, .aload_n 0, 1), (68, .getfield 29, 3), (71, .iload_n 2, 1), (72, .iconst 1, 1), (73, .iadd, 1), (74, .aload_n 0, 1), (75, .invokevirtual 70, 3), (78, .iastore, 1), (79, .aload_n 0, 1), (80, .iconst 0, 1), (81, .invokevirtual 134, 3), (84, .goto 109, 3), (87, .aload_n 0, 1), (88, .getfield 29, 3), (91, .iload_n 2, 1), (92, .iconst 1, 1), (93, .iadd, 1), (94, .aload_n 0, 1), (95, .invokevirtual 70, 3), (98, .iastore, 1), (99, .aload_n 0, 1), (100, .getfield 29, 3), (103, .iload_n 2, 1), (104, .iconst 2, 1), (105, .iadd, 1), (106, .aload_n 0, 1), (107, .invokevirtual 70, 3), (110, .iastore, 1), (111, .goto 82, 3), (114, .aload_n 0, 1), (115, .iconst 0, 1), (116, .invokevirtual 134, 3), (119, .goto 74, 3), (122, .aload_n 0, 1), (123, .getfield 29, 3), (126, .iload_n 2, 1), (127, .iconst 1, 1), (128, .iadd, 1), (129, .aload_n 0, 1), (130, .iconst 5, 1), (131, .invokevirtual 205, 3), (134, .l2i, 1), (135, .iastore, 1), (136, .goto 57, 3), (139, .aload_n 0, 1), (140, .iload_n 2, 1), (141, .aload_n 0, 1), (142, .bipush 10, 2), (144, .invokevirtual 205, 3), (147, .invokevirtual 209, 3), (150, .goto 43, 3), (153, .aload_n 0, 1), (154, .getfield 29, 3), (157, .iload_n 2, 1), (158, .iconst 1, 1), (159, .iadd, 1), (160, .aload_n 0, 1), (161, .iconst 4, 1), (162, .invokevirtual 213, 3), (165, .l2i, 1), (166, .iastore, 1), (167, .goto 26, 3), (170, .aload_n 0, 1), (171, .iload_n 2, 1), (172, .aload_n 0, 1), (173, .bipush 8, 2), (175, .invokevirtual 213, 3), (178, .invokevirtual 209, 3), (181, .goto 12, 3), (184, .aload_n 0, 1), (185, .getfield 15, 3), (188, .iconst 5, 1), (189, .iload_n 2, 1), (190, .invokevirtual 37, 3), (193, .aload_n 0, 1), (194, .getfield 29, 3), (197, .iload_n 2, 1), (198, .aload_n 0, 1), (199, .getfield 41, 3), (202, .iastore, 1), (203, .return_, 1)]
theorem D_Reader_readOperands : ∀ q ∈ T_Reader_readOperands, decode b_Reader_readOperands q.1 = .ok (q.2.1, q.2.2) := by decide +kernel
def w_Reader_readOperands_L193 (Qr : xb_H → Prop) (Qt : String → xb_H → Prop) (x0 : Nat) (x2 : Int32) (h : xb_H) (bc : Nat) (bs : Nat) : Prop :=
    xb_k h x0 = 4 ∧ ∃ b2 : Nat, (xb_r h x0 2) = some b2 ∧ xb_k h b2 = 102 ∧ vp_in x2 (xb_n h b2) ∧ ∀ h5 : xb_H, h5 = xb_I h b2 (Int32.toNatClampNeg x2) (xb_i h x0 3) → Qr h5

def w_Reader_readOperands_L184 (Qr : xb_H → Prop) (Qt : String → xb_H → Prop) (x0 : Nat) (x2 : Int32) (h : xb_H) (bc : Nat) (bs : Nat) : Prop :=
    xb_k h x0 = 4 ∧ ∃ b2 : Nat, (xb_r h x0 0) = some b2 ∧ xb_k h b2 = 3 ∧ ∃ c6 sc6 : Nat, c6 ≤ bc ∧ sc6 ≤ bs ∧ w_StackModule_fail b2 5 x2 h c6 sc6 (fun (h4 : xb_H) => xb_ext h h4 → w_Reader_readOperands_L193 Qr Qt x0 x2 h4 (bc - c6) (bs - sc6)) Qt

def w_Reader_readOperands (x0 : Nat) (x1 : Int32) (x2 : Int32) (h : xb_H) (bc : Nat) (bs : Nat) (Qr : xb_H → Prop) (Qt : String → xb_H → Prop) : Prop :=
    ((x1 = 4 → xb_k h x0 = 4 ∧ ∃ b3 : Nat, (xb_r h x0 2) = some b3 ∧ ∃ c6 sc6 : Nat, c6 ≤ bc ∧ sc6 ≤ bs ∧ w_Reader_count x0 h c6 sc6 (fun (r5 : Int32) (h4 : xb_H) => xb_ext h h4 → xb_k h4 b3 = 102 ∧ vp_in (x2 + 1) (xb_n h4 b3) ∧ ∀ h9 : xb_H, h9 = xb_I h4 b3 (Int32.toNatClampNeg (x2 + 1)) r5 → w_Reader_readOperands_L193 Qr Qt x0 x2 h9 (bc - c6) (bs - sc6)) Qt) ∧ (x1 = 5 → w_Reader_readOperands_L184 Qr Qt x0 x2 h bc bs) ∧ (x1 = 6 → xb_k h x0 = 4 ∧ ∃ b13 : Nat, (xb_r h x0 2) = some b13 ∧ ∃ c16 sc16 : Nat, c16 ≤ bc ∧ sc16 ≤ bs ∧ w_Reader_count x0 h c16 sc16 (fun (r15 : Int32) (h14 : xb_H) => xb_ext h h14 → xb_k h14 b13 = 102 ∧ vp_in (x2 + 1) (xb_n h14 b13) ∧ ∀ h19 : xb_H, h19 = xb_I h14 b13 (Int32.toNatClampNeg (x2 + 1)) r15 → ∃ c22 sc22 : Nat, c22 ≤ (bc - c16) ∧ sc22 ≤ (bs - sc16) ∧ w_Reader_readMark x0 0 h19 c22 sc22 (fun (h20 : xb_H) => xb_ext h19 h20 → w_Reader_readOperands_L193 Qr Qt x0 x2 h20 ((bc - c16) - c22) ((bs - sc16) - sc22)) Qt) Qt) ∧ (x1 = 7 → xb_k h x0 = 4 ∧ ∃ b25 : Nat, (xb_r h x0 2) = some b25 ∧ ∃ c28 sc28 : Nat, c28 ≤ bc ∧ sc28 ≤ bs ∧ w_Reader_count x0 h c28 sc28 (fun (r27 : Int32) (h26 : xb_H) => xb_ext h h26 → xb_k h26 b25 = 102 ∧ vp_in (x2 + 1) (xb_n h26 b25) ∧ ∀ h31 : xb_H, h31 = xb_I h26 b25 (Int32.toNatClampNeg (x2 + 1)) r27 → ∃ b32 : Nat, (xb_r h31 x0 2) = some b32 ∧ ∃ c35 sc35 : Nat, c35 ≤ (bc - c28) ∧ sc35 ≤ (bs - sc28) ∧ w_Reader_count x0 h31 c35 sc35 (fun (r34 : Int32) (h33 : xb_H) => xb_ext h31 h33 → xb_k h33 b32 = 102 ∧ vp_in (x2 + 2) (xb_n h33 b32) ∧ ∀ h38 : xb_H, h38 = xb_I h33 b32 (Int32.toNatClampNeg (x2 + 2)) r34 → w_Reader_readOperands_L193 Qr Qt x0 x2 h38 ((bc - c28) - c35) ((bs - sc28) - sc35)) Qt) Qt) ∧ (x1 = 8 → xb_k h x0 = 4 ∧ ∃ c43 sc43 : Nat, c43 ≤ bc ∧ sc43 ≤ bs ∧ w_Reader_readMark x0 0 h c43 sc43 (fun (h41 : xb_H) => xb_ext h h41 → w_Reader_readOperands_L193 Qr Qt x0 x2 h41 (bc - c43) (bs - sc43)) Qt) ∧ (x1 = 9 → xb_k h x0 = 4 ∧ ∃ b46 : Nat, (xb_r h x0 2) = some b46 ∧ ∃ c49 sc49 : Nat, c49 ≤ bc ∧ sc49 ≤ bs ∧ w_Reader_signed x0 5 h c49 sc49 (fun (r48 : Int64) (h47 : xb_H) => xb_ext h h47 → xb_k h47 b46 = 102 ∧ vp_in (x2 + 1) (xb_n h47 b46) ∧ ∀ h52 : xb_H, h52 = xb_I h47 b46 (Int32.toNatClampNeg (x2 + 1)) (Int64.toInt32 r48) → w_Reader_readOperands_L193 Qr Qt x0 x2 h52 (bc - c49) (bs - sc49)) Qt) ∧ (x1 = 10 → xb_k h x0 = 4 ∧ ∃ c57 sc57 : Nat, c57 ≤ bc ∧ sc57 ≤ bs ∧ w_Reader_signed x0 10 h c57 sc57 (fun (r56 : Int64) (h55 : xb_H) => xb_ext h h55 → w_Reader_noteLong x0 x2 r56 h55 (fun (h58 : xb_H) => xb_ext h55 h58 → w_Reader_readOperands_L193 Qr Qt x0 x2 h58 (bc - c57) (bs - sc57))) Qt) ∧ (x1 = 11 → xb_k h x0 = 4 ∧ ∃ b62 : Nat, (xb_r h x0 2) = some b62 ∧ ∃ c65 sc65 : Nat, c65 ≤ bc ∧ sc65 ≤ bs ∧ w_Reader_plainBytes x0 4 h c65 sc65 (fun (r64 : Int64) (h63 : xb_H) => xb_ext h h63 → xb_k h63 b62 = 102 ∧ vp_in (x2 + 1) (xb_n h63 b62) ∧ ∀ h68 : xb_H, h68 = xb_I h63 b62 (Int32.toNatClampNeg (x2 + 1)) (Int64.toInt32 r64) → w_Reader_readOperands_L193 Qr Qt x0 x2 h68 (bc - c65) (bs - sc65)) Qt) ∧ (x1 = 12 → xb_k h x0 = 4 ∧ ∃ c73 sc73 : Nat, c73 ≤ bc ∧ sc73 ≤ bs ∧ w_Reader_plainBytes x0 8 h c73 sc73 (fun (r72 : Int64) (h71 : xb_H) => xb_ext h h71 → w_Reader_noteLong x0 x2 r72 h71 (fun (h74 : xb_H) => xb_ext h71 h74 → w_Reader_readOperands_L193 Qr Qt x0 x2 h74 (bc - c73) (bs - sc73))) Qt) ∧ (¬ x1 = 4 → ¬ x1 = 5 → ¬ x1 = 6 → ¬ x1 = 7 → ¬ x1 = 8 → ¬ x1 = 9 → ¬ x1 = 10 → ¬ x1 = 11 → ¬ x1 = 12 → w_Reader_readOperands_L184 Qr Qt x0 x2 h bc bs))

set_option maxHeartbeats 4000000 in
set_option maxRecDepth 100000 in
theorem am_Reader_readOperands_L193 (l : Launch) (hfl : l.flags = pinnedFlags ++ [noTraceFlag]) (D : va_G) (A : Nat → Prop) (σ MC MS : Nat) (h0 : xb_H) (Qr : xb_H → Prop) (Qt : String → xb_H → Prop) (x0 : Nat) (x2 : Int32) (h : xb_H) (bc : Nat) (bs : Nat) (hw : w_Reader_readOperands_L193 Qr Qt x0 x2 h bc bs) : xb_am l D A σ 4 MC MS h0 (fun v h => v = none ∧ Qr h) Qt y_Reader_readOperands.cls y_Reader_readOperands.name b_Reader_readOperands 3 ([] : List ExceptionTableEntry) none 193 [(0, .ref x0), (2, .int x2)] [] h bc bs := by
  unfold w_Reader_readOperands_L193 at hw
  intro p e s m args below meth c hC H locs ls k n hE hl hR hS hk hn
  obtain ⟨hx, hb, hown, hlocks, htab, hml, hr, hB, hA, hnm⟩ := id hC
  have hts := hB.1.1.at args
  refine lv_aload_n hx hb (xb_d D_Reader_readOperands 85 rfl) rfl (lv_at hl 0 rfl) ?_
  obtain ⟨hk1, hw⟩ := hw
  refine xb_getP (C := R_Reader) (T := F_Reader) (N := 6) hx hb 3 2 hts fin_Reader hown hR hk1 (by decide) rfl (by decide) rfl (hts _ m_5660bdee) (fun _ h9 => h9) (xb_d D_Reader_readOperands 86 rfl) ?_
  obtain ⟨b2, eb2, hw⟩ := hw
  refine xb_some eb2 ?_
  refine lv_iload_n hx hb (xb_d D_Reader_readOperands 87 rfl) rfl (lv_at hl 1 rfl) ?_
  refine lv_aload_n hx hb (xb_d D_Reader_readOperands 88 rfl) rfl (lv_at hl 0 rfl) ?_
  refine xb_getI (C := R_Reader) (T := F_Reader) (N := 6) hx hb 3 3 hts fin_Reader hown hR hk1 (by decide) rfl (by decide) rfl (hts _ m_a9b84ac2) (fun _ h9 => h9) (xb_d D_Reader_readOperands 89 rfl) ?_
  obtain ⟨hk3, hw⟩ := hw
  obtain ⟨hi4, hw⟩ := hw
  refine xb_iast hx hb hR hS hk3 hi4 (xb_d D_Reader_readOperands 90 rfl) (fun H locs hR hS => ?_)
  obtain ⟨h5, eh5⟩ : ∃ x : xb_H, x = xb_I h b2 (Int32.toNatClampNeg x2) (xb_i h x0 3) := ⟨_, rfl⟩
  rw [← eh5] at hR
  have hw := hw h5 eh5
  have hE : xb_ext h0 h5 := by rw [eh5]; exact hE
  exact xb_vret hx hb hr hlocks (show k ≤ MC by omega) (show n ≤ MS by omega) hE hR hS (xb_d D_Reader_readOperands 91 rfl) hw

set_option maxHeartbeats 4000000 in
set_option maxRecDepth 100000 in
theorem am_Reader_readOperands_L184 (l : Launch) (hfl : l.flags = pinnedFlags ++ [noTraceFlag]) (D : va_G) (A : Nat → Prop) (σ MC MS : Nat) (h0 : xb_H) (Qr : xb_H → Prop) (Qt : String → xb_H → Prop) (x0 : Nat) (x2 : Int32) (h : xb_H) (bc : Nat) (bs : Nat) (hw : w_Reader_readOperands_L184 Qr Qt x0 x2 h bc bs) : xb_am l D A σ 4 MC MS h0 (fun v h => v = none ∧ Qr h) Qt y_Reader_readOperands.cls y_Reader_readOperands.name b_Reader_readOperands 3 ([] : List ExceptionTableEntry) none 184 [(0, .ref x0), (2, .int x2)] [] h bc bs := by
  unfold w_Reader_readOperands_L184 at hw
  intro p e s m args below meth c hC H locs ls k n hE hl hR hS hk hn
  obtain ⟨hx, hb, hown, hlocks, htab, hml, hr, hB, hA, hnm⟩ := id hC
  have hts := hB.1.1.at args
  refine lv_aload_n hx hb (xb_d D_Reader_readOperands 80 rfl) rfl (lv_at hl 0 rfl) ?_
  obtain ⟨hk1, hw⟩ := hw
  refine xb_getP (C := R_Reader) (T := F_Reader) (N := 6) hx hb 3 0 hts fin_Reader hown hR hk1 (by decide) rfl (by decide) rfl (hts _ m_76d8349c) (fun _ h9 => h9) (xb_d D_Reader_readOperands 81 rfl) ?_
  obtain ⟨b2, eb2, hw⟩ := hw
  refine xb_some eb2 ?_
  refine lv_iconst (v := 5) hx hb (xb_d D_Reader_readOperands 82 rfl) (by decide) ?_
  refine lv_iload_n hx hb (xb_d D_Reader_readOperands 83 rfl) rfl (lv_at hl 1 rfl) ?_
  obtain ⟨hk3, hw⟩ := hw
  obtain ⟨c6, sc6, hlc6, hlsc6, hw⟩ := hw
  refine xb_call (D := D) (A := A) (σ := σ) (h := h) (d := 2) (mc := c6) (ms := sc6) (maxL := 3) (rest := []) (av := [.ref b2, .int 5, .int x2]) (fun T hT X => by obtain ⟨cb, r1, r2, r3⟩ := xb_recv (ci := 2) hR rfl hk3 (by decide); exact xt_invV X hx hown (hts _ m_6fcde429) (hts _ m_865d5b07) (hts _ m_113f8f75) (xt_sigOf (hts _ m_73e65e5f)) nm_StackModule_fail (by rw [hT]; exact r1) r2 r3 (g := F0 m 190 ls [.int x2, .int 5, .ref b2]) rfl (argsL := [.int 5, .int x2]) (rest := []) rfl rfl (by rw [hb]; exact (xb_d D_Reader_readOperands 84 rfl))) (ok_StackModule_fail l hfl D A σ b2 5 x2 h c6 sc6 _ _ hw) (hml.trans hl.1.symm) (by rw [hb]; exact (xb_d D_Reader_readOperands 84 rfl)) (Nat.le_of_ble_eq_true rfl) (Nat.le_of_ble_eq_true rfl) (Nat.le_of_ble_eq_true rfl) (show k + c6 ≤ MC by omega) (show n + sc6 ≤ MS by omega) (xt_w1 hB.1 m_73e65e5f) (xt_cdOf hB.1 m_73e65e5f) (hts _ m_9c375545) hB hR hS hA (fun vv h4 H locs hq hEh4 hR hS => ?_) (fun XX ax h4 H locs hq hEh4 hex hR hS => ?_)
  · obtain ⟨rfl, hw⟩ := hq
    have hw := hw hEh4
    have hE := hE.tr hEh4
    refine W.eq (g2 := F0 m 193 ls []) rfl ?_
    exact am_Reader_readOperands_L193 l hfl D A σ MC MS h0 Qr Qt x0 x2 h4 (bc - c6) (bs - sc6) hw p e s m args below meth c hC H locs ls (k + c6) (n + sc6) hE (lv_sub hl [0, 1] rfl) hR hS (by omega) (by omega)
  · exact xb_pass hlocks (fun x hx9 => by rw [htab] at hx9; first | cases hx9 | (simp [tableOf] at hx9; rcases hx9 with rfl | rfl | rfl <;> decide)) (show (k + c6) ≤ MC by omega) (show (n + sc6) ≤ MS by omega) (hE.tr hEh4) hR hS hex hq

set_option maxHeartbeats 4000000 in
set_option maxRecDepth 100000 in
theorem ok_Reader_readOperands (l : Launch) (hfl : l.flags = pinnedFlags ++ [noTraceFlag]) (D : va_G) (A : Nat → Prop) (σ : Nat) (x0 : Nat) (x1 : Int32) (x2 : Int32) (h : xb_H) (bc : Nat) (bs : Nat) (Qr : xb_H → Prop) (Qt : String → xb_H → Prop) (hw : w_Reader_readOperands x0 x1 x2 h bc bs Qr Qt) : xt_Met l y_Reader_readOperands [.code y_Reader_readOperands b_Reader_readOperands 3 none] (xb_rm 4 bc bs) (xb_Pc D A σ h [.ref x0, .int x1, .int x2]) (xb_Qc D A h (fun v h => v = none ∧ Qr h) Qt) bc bs A := by
  refine xb_ofAm (cc := b_Reader_readOperands) (by decide) (Nat.le_of_ble_eq_true rfl) ?_
  unfold w_Reader_readOperands at hw
  show xb_am l D A σ 4 bc bs h (fun v h => v = none ∧ Qr h) Qt y_Reader_readOperands.cls y_Reader_readOperands.name b_Reader_readOperands 3 ([] : List ExceptionTableEntry) none 0 [(0, .ref x0), (1, .int x1), (2, .int x2)] [] h bc bs
  obtain ⟨MC, hMC⟩ : ∃ x, x = bc := ⟨_, rfl⟩
  obtain ⟨MS, hMS⟩ : ∃ x, x = bs := ⟨_, rfl⟩
  rw [show xb_am l D A σ 4 bc bs = xb_am l D A σ 4 MC MS by rw [hMC, hMS]]
  obtain ⟨h0, hh0⟩ : ∃ x, x = h := ⟨_, rfl⟩
  rw [show xb_am l D A σ 4 MC MS h = xb_am l D A σ 4 MC MS h0 by rw [hh0]]
  intro p e s m args below meth c hC H locs ls k n hE hl hR hS hk hn
  obtain ⟨hx, hb, hown, hlocks, htab, hml, hr, hB, hA, hnm⟩ := id hC
  have hts := hB.1.1.at args
  refine lv_iload_n hx hb (xb_d D_Reader_readOperands 0 rfl) rfl (lv_at hl 1 rfl) ?_
  by_cases hc1 : x1 = 4
  · have hw := hw.1 hc1
    refine xt_numi hc1 ?_
    refine lv_tableIn (off := 51) (tgt := 52) hx hb (xb_d D_Reader_readOperands 1 rfl) (by decide +kernel) (by decide +kernel) (by decide +kernel) (by decide) ?_
    refine lv_aload_n hx hb (xb_d D_Reader_readOperands 2 rfl) rfl (lv_at hl 0 rfl) ?_
    obtain ⟨hk2, hw⟩ := hw
    refine xb_getP (C := R_Reader) (T := F_Reader) (N := 6) hx hb 3 2 hts fin_Reader hown hR hk2 (by decide) rfl (by decide) rfl (hts _ m_5660bdee) (fun _ h9 => h9) (xb_d D_Reader_readOperands 3 rfl) ?_
    obtain ⟨b3, eb3, hw⟩ := hw
    refine xb_some eb3 ?_
    refine lv_iload_n hx hb (xb_d D_Reader_readOperands 4 rfl) rfl (lv_at hl 2 rfl) ?_
    refine lv_iconst (v := 1) hx hb (xb_d D_Reader_readOperands 5 rfl) (by decide) ?_
    refine lv_iadd hx hb (xb_d D_Reader_readOperands 6 rfl) ?_
    refine lv_aload_n hx hb (xb_d D_Reader_readOperands 7 rfl) rfl (lv_at hl 0 rfl) ?_
    obtain ⟨c6, sc6, hlc6, hlsc6, hw⟩ := hw
    refine xb_call (D := D) (A := A) (σ := σ) (h := h) (d := 3) (mc := c6) (ms := sc6) (maxL := 4) (rest := [.int (x2 + 1), .ref b3]) (av := [.ref x0]) (fun T hT X => by obtain ⟨cb, r1, r2, r3⟩ := xb_recv (ci := 3) hR rfl hk2 (by decide); exact xt_invV X hx hown (hts _ m_2c379b4d) (hts _ m_a120e786) (hts _ m_e903c73e) (xt_sigOf (hts _ m_99690a98)) nm_Reader_count (by rw [hT]; exact r1) r2 r3 (g := F0 m 60 ls [.ref x0, .int (x2 + 1), .ref b3]) rfl (argsL := []) (rest := [.int (x2 + 1), .ref b3]) rfl rfl (by rw [hb]; exact (xb_d D_Reader_readOperands 8 rfl))) (ok_Reader_count l hfl D A σ x0 h c6 sc6 _ _ hw) (hml.trans hl.1.symm) (by rw [hb]; exact (xb_d D_Reader_readOperands 8 rfl)) (Nat.le_of_ble_eq_true rfl) (Nat.le_of_ble_eq_true rfl) (Nat.le_of_ble_eq_true rfl) (show k + c6 ≤ MC by omega) (show n + sc6 ≤ MS by omega) (xt_w1 hB.1 m_99690a98) (xt_cdOf hB.1 m_99690a98) (hts _ m_938fcec4) hB hR hS hA (fun vv h4 H locs hq hEh4 hR hS => ?_) (fun XX ax h4 H locs hq hEh4 hex hR hS => ?_)
    · obtain ⟨r5, rfl, hw⟩ := hq
      have hw := hw hEh4
      have hE := hE.tr hEh4
      refine W.eq (g2 := F0 m 63 ls [.int r5, .int (x2 + 1), .ref b3]) rfl ?_
      obtain ⟨hk7, hw⟩ := hw
      obtain ⟨hi8, hw⟩ := hw
      refine xb_iast hx hb hR hS hk7 hi8 (xb_d D_Reader_readOperands 9 rfl) (fun H locs hR hS => ?_)
      obtain ⟨h9, eh9⟩ : ∃ x : xb_H, x = xb_I h4 b3 (Int32.toNatClampNeg (x2 + 1)) r5 := ⟨_, rfl⟩
      rw [← eh9] at hR
      have hw := hw h9 eh9
      have hE : xb_ext h0 h9 := by rw [eh9]; exact hE
      refine lv_goto (tgt := 193) hx hb (xb_d D_Reader_readOperands 10 rfl) rfl ?_
      exact am_Reader_readOperands_L193 l hfl D A σ MC MS h0 Qr Qt x0 x2 h9 (bc - c6) (bs - sc6) hw p e s m args below meth c hC H locs ls (k + c6) (n + sc6) hE (lv_sub hl [0, 2] rfl) hR hS (by omega) (by omega)
    · exact xb_pass hlocks (fun x hx9 => by rw [htab] at hx9; first | cases hx9 | (simp [tableOf] at hx9; rcases hx9 with rfl | rfl | rfl <;> decide)) (show (k + c6) ≤ MC by omega) (show (n + sc6) ≤ MS by omega) (hE.tr hEh4) hR hS hex hq
  have hw := hw.2
  by_cases hc10 : x1 = 5
  · have hw := hw.1 hc10
    refine xt_numi hc10 ?_
    refine lv_tableIn (off := 183) (tgt := 184) hx hb (xb_d D_Reader_readOperands 1 rfl) (by decide +kernel) (by decide +kernel) (by decide +kernel) (by decide) ?_
    exact am_Reader_readOperands_L184 l hfl D A σ MC MS h0 Qr Qt x0 x2 h bc bs hw p e s m args below meth c hC H locs ls k n hE (lv_sub hl [0, 2] rfl) hR hS (by omega) (by omega)
  have hw := hw.2
  by_cases hc11 : x1 = 6
  · have hw := hw.1 hc11
    refine xt_numi hc11 ?_
    refine lv_tableIn (off := 66) (tgt := 67) hx hb (xb_d D_Reader_readOperands 1 rfl) (by decide +kernel) (by decide +kernel) (by decide +kernel) (by decide) ?_
    refine lv_aload_n hx hb (xb_d D_Reader_readOperands 11 rfl) rfl (lv_at hl 0 rfl) ?_
    obtain ⟨hk12, hw⟩ := hw
    refine xb_getP (C := R_Reader) (T := F_Reader) (N := 6) hx hb 3 2 hts fin_Reader hown hR hk12 (by decide) rfl (by decide) rfl (hts _ m_5660bdee) (fun _ h9 => h9) (xb_d D_Reader_readOperands 12 rfl) ?_
    obtain ⟨b13, eb13, hw⟩ := hw
    refine xb_some eb13 ?_
    refine lv_iload_n hx hb (xb_d D_Reader_readOperands 13 rfl) rfl (lv_at hl 2 rfl) ?_
    refine lv_iconst (v := 1) hx hb (xb_d D_Reader_readOperands 14 rfl) (by decide) ?_
    refine lv_iadd hx hb (xb_d D_Reader_readOperands 15 rfl) ?_
    refine lv_aload_n hx hb (xb_d D_Reader_readOperands 16 rfl) rfl (lv_at hl 0 rfl) ?_
    obtain ⟨c16, sc16, hlc16, hlsc16, hw⟩ := hw
    refine xb_call (D := D) (A := A) (σ := σ) (h := h) (d := 3) (mc := c16) (ms := sc16) (maxL := 4) (rest := [.int (x2 + 1), .ref b13]) (av := [.ref x0]) (fun T hT X => by obtain ⟨cb, r1, r2, r3⟩ := xb_recv (ci := 3) hR rfl hk12 (by decide); exact xt_invV X hx hown (hts _ m_2c379b4d) (hts _ m_a120e786) (hts _ m_e903c73e) (xt_sigOf (hts _ m_99690a98)) nm_Reader_count (by rw [hT]; exact r1) r2 r3 (g := F0 m 75 ls [.ref x0, .int (x2 + 1), .ref b13]) rfl (argsL := []) (rest := [.int (x2 + 1), .ref b13]) rfl rfl (by rw [hb]; exact (xb_d D_Reader_readOperands 17 rfl))) (ok_Reader_count l hfl D A σ x0 h c16 sc16 _ _ hw) (hml.trans hl.1.symm) (by rw [hb]; exact (xb_d D_Reader_readOperands 17 rfl)) (Nat.le_of_ble_eq_true rfl) (Nat.le_of_ble_eq_true rfl) (Nat.le_of_ble_eq_true rfl) (show k + c16 ≤ MC by omega) (show n + sc16 ≤ MS by omega) (xt_w1 hB.1 m_99690a98) (xt_cdOf hB.1 m_99690a98) (hts _ m_938fcec4) hB hR hS hA (fun vv h14 H locs hq hEh14 hR hS => ?_) (fun XX ax h14 H locs hq hEh14 hex hR hS => ?_)
    · obtain ⟨r15, rfl, hw⟩ := hq
      have hw := hw hEh14
      have hE := hE.tr hEh14
      refine W.eq (g2 := F0 m 78 ls [.int r15, .int (x2 + 1), .ref b13]) rfl ?_
      obtain ⟨hk17, hw⟩ := hw
      obtain ⟨hi18, hw⟩ := hw
      refine xb_iast hx hb hR hS hk17 hi18 (xb_d D_Reader_readOperands 18 rfl) (fun H locs hR hS => ?_)
      obtain ⟨h19, eh19⟩ : ∃ x : xb_H, x = xb_I h14 b13 (Int32.toNatClampNeg (x2 + 1)) r15 := ⟨_, rfl⟩
      rw [← eh19] at hR
      have hw := hw h19 eh19
      have hE : xb_ext h0 h19 := by rw [eh19]; exact hE
      refine lv_aload_n hx hb (xb_d D_Reader_readOperands 19 rfl) rfl (lv_at hl 0 rfl) ?_
      refine lv_iconst (v := 0) hx hb (xb_d D_Reader_readOperands 20 rfl) (by decide) ?_
      have hk12 : xb_k h14 x0 = 4 := hEh14.k hk12
      have hk12 : xb_k h19 x0 = 4 := by rw [eh19]; exact hk12
      obtain ⟨c22, sc22, hlc22, hlsc22, hw⟩ := hw
      refine xb_call (D := D) (A := A) (σ := σ) (h := h19) (d := 3) (mc := c22) (ms := sc22) (maxL := 2) (rest := []) (av := [.ref x0, .int 0]) (fun T hT X => by obtain ⟨cb, r1, r2, r3⟩ := xb_recv (ci := 3) hR rfl hk12 (by decide); exact xt_invV X hx hown (hts _ m_bc6f1cef) (hts _ m_6ae404a7) (hts _ m_7b6b2ffe) (xt_sigOf (hts _ m_e431c1f6)) nm_Reader_readMark (by rw [hT]; exact r1) r2 r3 (g := F0 m 81 ls [.int 0, .ref x0]) rfl (argsL := [.int 0]) (rest := []) rfl rfl (by rw [hb]; exact (xb_d D_Reader_readOperands 21 rfl))) (ok_Reader_readMark l hfl D A σ x0 0 h19 c22 sc22 _ _ hw) (hml.trans hl.1.symm) (by rw [hb]; exact (xb_d D_Reader_readOperands 21 rfl)) (Nat.le_of_ble_eq_true rfl) (Nat.le_of_ble_eq_true rfl) (Nat.le_of_ble_eq_true rfl) (show (k + c16) + c22 ≤ MC by omega) (show (n + sc16) + sc22 ≤ MS by omega) (xt_w1 hB.1 m_e431c1f6) (xt_cdOf hB.1 m_e431c1f6) (hts _ m_938fcec4) hB hR hS hA (fun vv h20 H locs hq hEh20 hR hS => ?_) (fun XX ax h20 H locs hq hEh20 hex hR hS => ?_)
      · obtain ⟨rfl, hw⟩ := hq
        have hw := hw hEh20
        have hE := hE.tr hEh20
        refine W.eq (g2 := F0 m 84 ls []) rfl ?_
        refine lv_goto (tgt := 193) hx hb (xb_d D_Reader_readOperands 22 rfl) rfl ?_
        exact am_Reader_readOperands_L193 l hfl D A σ MC MS h0 Qr Qt x0 x2 h20 ((bc - c16) - c22) ((bs - sc16) - sc22) hw p e s m args below meth c hC H locs ls ((k + c16) + c22) ((n + sc16) + sc22) hE (lv_sub hl [0, 2] rfl) hR hS (by omega) (by omega)
      · exact xb_pass hlocks (fun x hx9 => by rw [htab] at hx9; first | cases hx9 | (simp [tableOf] at hx9; rcases hx9 with rfl | rfl | rfl <;> decide)) (show ((k + c16) + c22) ≤ MC by omega) (show ((n + sc16) + sc22) ≤ MS by omega) (hE.tr hEh20) hR hS hex hq
    · exact xb_pass hlocks (fun x hx9 => by rw [htab] at hx9; first | cases hx9 | (simp [tableOf] at hx9; rcases hx9 with rfl | rfl | rfl <;> decide)) (show (k + c16) ≤ MC by omega) (show (n + sc16) ≤ MS by omega) (hE.tr hEh14) hR hS hex hq
  have hw := hw.2
  by_cases hc23 : x1 = 7
  · have hw := hw.1 hc23
    refine xt_numi hc23 ?_
    refine lv_tableIn (off := 86) (tgt := 87) hx hb (xb_d D_Reader_readOperands 1 rfl) (by decide +kernel) (by decide +kernel) (by decide +kernel) (by decide) ?_
    refine lv_aload_n hx hb (xb_d D_Reader_readOperands 23 rfl) rfl (lv_at hl 0 rfl) ?_
    obtain ⟨hk24, hw⟩ := hw
    refine xb_getP (C := R_Reader) (T := F_Reader) (N := 6) hx hb 3 2 hts fin_Reader hown hR hk24 (by decide) rfl (by decide) rfl (hts _ m_5660bdee) (fun _ h9 => h9) (xb_d D_Reader_readOperands 24 rfl) ?_
    obtain ⟨b25, eb25, hw⟩ := hw
    refine xb_some eb25 ?_
    refine lv_iload_n hx hb (xb_d D_Reader_readOperands 25 rfl) rfl (lv_at hl 2 rfl) ?_
    refine lv_iconst (v := 1) hx hb (xb_d D_Reader_readOperands 26 rfl) (by decide) ?_
    refine lv_iadd hx hb (xb_d D_Reader_readOperands 27 rfl) ?_
    refine lv_aload_n hx hb (xb_d D_Reader_readOperands 28 rfl) rfl (lv_at hl 0 rfl) ?_
    obtain ⟨c28, sc28, hlc28, hlsc28, hw⟩ := hw
    refine xb_call (D := D) (A := A) (σ := σ) (h := h) (d := 3) (mc := c28) (ms := sc28) (maxL := 4) (rest := [.int (x2 + 1), .ref b25]) (av := [.ref x0]) (fun T hT X => by obtain ⟨cb, r1, r2, r3⟩ := xb_recv (ci := 3) hR rfl hk24 (by decide); exact xt_invV X hx hown (hts _ m_2c379b4d) (hts _ m_a120e786) (hts _ m_e903c73e) (xt_sigOf (hts _ m_99690a98)) nm_Reader_count (by rw [hT]; exact r1) r2 r3 (g := F0 m 95 ls [.ref x0, .int (x2 + 1), .ref b25]) rfl (argsL := []) (rest := [.int (x2 + 1), .ref b25]) rfl rfl (by rw [hb]; exact (xb_d D_Reader_readOperands 29 rfl))) (ok_Reader_count l hfl D A σ x0 h c28 sc28 _ _ hw) (hml.trans hl.1.symm) (by rw [hb]; exact (xb_d D_Reader_readOperands 29 rfl)) (Nat.le_of_ble_eq_true rfl) (Nat.le_of_ble_eq_true rfl) (Nat.le_of_ble_eq_true rfl) (show k + c28 ≤ MC by omega) (show n + sc28 ≤ MS by omega) (xt_w1 hB.1 m_99690a98) (xt_cdOf hB.1 m_99690a98) (hts _ m_938fcec4) hB hR hS hA (fun vv h26 H locs hq hEh26 hR hS => ?_) (fun XX ax h26 H locs hq hEh26 hex hR hS => ?_)
    · obtain ⟨r27, rfl, hw⟩ := hq
      have hw := hw hEh26
      have hE := hE.tr hEh26
      refine W.eq (g2 := F0 m 98 ls [.int r27, .int (x2 + 1), .ref b25]) rfl ?_
      obtain ⟨hk29, hw⟩ := hw
      obtain ⟨hi30, hw⟩ := hw
      refine xb_iast hx hb hR hS hk29 hi30 (xb_d D_Reader_readOperands 30 rfl) (fun H locs hR hS => ?_)
      obtain ⟨h31, eh31⟩ : ∃ x : xb_H, x = xb_I h26 b25 (Int32.toNatClampNeg (x2 + 1)) r27 := ⟨_, rfl⟩
      rw [← eh31] at hR
      have hw := hw h31 eh31
      have hE : xb_ext h0 h31 := by rw [eh31]; exact hE
      refine lv_aload_n hx hb (xb_d D_Reader_readOperands 31 rfl) rfl (lv_at hl 0 rfl) ?_
      have hk24 : xb_k h26 x0 = 4 := hEh26.k hk24
      have hk24 : xb_k h31 x0 = 4 := by rw [eh31]; exact hk24
      refine xb_getP (C := R_Reader) (T := F_Reader) (N := 6) hx hb 3 2 hts fin_Reader hown hR hk24 (by decide) rfl (by decide) rfl (hts _ m_5660bdee) (fun _ h9 => h9) (xb_d D_Reader_readOperands 32 rfl) ?_
      obtain ⟨b32, eb32, hw⟩ := hw
      refine xb_some eb32 ?_
      refine lv_iload_n hx hb (xb_d D_Reader_readOperands 33 rfl) rfl (lv_at hl 2 rfl) ?_
      refine lv_iconst (v := 2) hx hb (xb_d D_Reader_readOperands 34 rfl) (by decide) ?_
      refine lv_iadd hx hb (xb_d D_Reader_readOperands 35 rfl) ?_
      refine lv_aload_n hx hb (xb_d D_Reader_readOperands 36 rfl) rfl (lv_at hl 0 rfl) ?_
      obtain ⟨c35, sc35, hlc35, hlsc35, hw⟩ := hw
      refine xb_call (D := D) (A := A) (σ := σ) (h := h31) (d := 3) (mc := c35) (ms := sc35) (maxL := 4) (rest := [.int (x2 + 2), .ref b32]) (av := [.ref x0]) (fun T hT X => by obtain ⟨cb, r1, r2, r3⟩ := xb_recv (ci := 3) hR rfl hk24 (by decide); exact xt_invV X hx hown (hts _ m_2c379b4d) (hts _ m_a120e786) (hts _ m_e903c73e) (xt_sigOf (hts _ m_99690a98)) nm_Reader_count (by rw [hT]; exact r1) r2 r3 (g := F0 m 107 ls [.ref x0, .int (x2 + 2), .ref b32]) rfl (argsL := []) (rest := [.int (x2 + 2), .ref b32]) rfl rfl (by rw [hb]; exact (xb_d D_Reader_readOperands 37 rfl))) (ok_Reader_count l hfl D A σ x0 h31 c35 sc35 _ _ hw) (hml.trans hl.1.symm) (by rw [hb]; exact (xb_d D_Reader_readOperands 37 rfl)) (Nat.le_of_ble_eq_true rfl) (Nat.le_of_ble_eq_true rfl) (Nat.le_of_ble_eq_true rfl) (show (k + c28) + c35 ≤ MC by omega) (show (n + sc28) + sc35 ≤ MS by omega) (xt_w1 hB.1 m_99690a98) (xt_cdOf hB.1 m_99690a98) (hts _ m_938fcec4) hB hR hS hA (fun vv h33 H locs hq hEh33 hR hS => ?_) (fun XX ax h33 H locs hq hEh33 hex hR hS => ?_)
      · obtain ⟨r34, rfl, hw⟩ := hq
        have hw := hw hEh33
        have hE := hE.tr hEh33
        refine W.eq (g2 := F0 m 110 ls [.int r34, .int (x2 + 2), .ref b32]) rfl ?_
        obtain ⟨hk36, hw⟩ := hw
        obtain ⟨hi37, hw⟩ := hw
        refine xb_iast hx hb hR hS hk36 hi37 (xb_d D_Reader_readOperands 38 rfl) (fun H locs hR hS => ?_)
        obtain ⟨h38, eh38⟩ : ∃ x : xb_H, x = xb_I h33 b32 (Int32.toNatClampNeg (x2 + 2)) r34 := ⟨_, rfl⟩
        rw [← eh38] at hR
        have hw := hw h38 eh38
        have hE : xb_ext h0 h38 := by rw [eh38]; exact hE
        refine lv_goto (tgt := 193) hx hb (xb_d D_Reader_readOperands 39 rfl) rfl ?_
        exact am_Reader_readOperands_L193 l hfl D A σ MC MS h0 Qr Qt x0 x2 h38 ((bc - c28) - c35) ((bs - sc28) - sc35) hw p e s m args below meth c hC H locs ls ((k + c28) + c35) ((n + sc28) + sc35) hE (lv_sub hl [0, 2] rfl) hR hS (by omega) (by omega)
      · exact xb_pass hlocks (fun x hx9 => by rw [htab] at hx9; first | cases hx9 | (simp [tableOf] at hx9; rcases hx9 with rfl | rfl | rfl <;> decide)) (show ((k + c28) + c35) ≤ MC by omega) (show ((n + sc28) + sc35) ≤ MS by omega) (hE.tr hEh33) hR hS hex hq
    · exact xb_pass hlocks (fun x hx9 => by rw [htab] at hx9; first | cases hx9 | (simp [tableOf] at hx9; rcases hx9 with rfl | rfl | rfl <;> decide)) (show (k + c28) ≤ MC by omega) (show (n + sc28) ≤ MS by omega) (hE.tr hEh26) hR hS hex hq
  have hw := hw.2
  by_cases hc39 : x1 = 8
  · have hw := hw.1 hc39
    refine xt_numi hc39 ?_
    refine lv_tableIn (off := 113) (tgt := 114) hx hb (xb_d D_Reader_readOperands 1 rfl) (by decide +kernel) (by decide +kernel) (by decide +kernel) (by decide) ?_
    refine lv_aload_n hx hb (xb_d D_Reader_readOperands 40 rfl) rfl (lv_at hl 0 rfl) ?_
    refine lv_iconst (v := 0) hx hb (xb_d D_Reader_readOperands 41 rfl) (by decide) ?_
    obtain ⟨hk40, hw⟩ := hw
    obtain ⟨c43, sc43, hlc43, hlsc43, hw⟩ := hw
    refine xb_call (D := D) (A := A) (σ := σ) (h := h) (d := 3) (mc := c43) (ms := sc43) (maxL := 2) (rest := []) (av := [.ref x0, .int 0]) (fun T hT X => by obtain ⟨cb, r1, r2, r3⟩ := xb_recv (ci := 3) hR rfl hk40 (by decide); exact xt_invV X hx hown (hts _ m_bc6f1cef) (hts _ m_6ae404a7) (hts _ m_7b6b2ffe) (xt_sigOf (hts _ m_e431c1f6)) nm_Reader_readMark (by rw [hT]; exact r1) r2 r3 (g := F0 m 116 ls [.int 0, .ref x0]) rfl (argsL := [.int 0]) (rest := []) rfl rfl (by rw [hb]; exact (xb_d D_Reader_readOperands 42 rfl))) (ok_Reader_readMark l hfl D A σ x0 0 h c43 sc43 _ _ hw) (hml.trans hl.1.symm) (by rw [hb]; exact (xb_d D_Reader_readOperands 42 rfl)) (Nat.le_of_ble_eq_true rfl) (Nat.le_of_ble_eq_true rfl) (Nat.le_of_ble_eq_true rfl) (show k + c43 ≤ MC by omega) (show n + sc43 ≤ MS by omega) (xt_w1 hB.1 m_e431c1f6) (xt_cdOf hB.1 m_e431c1f6) (hts _ m_938fcec4) hB hR hS hA (fun vv h41 H locs hq hEh41 hR hS => ?_) (fun XX ax h41 H locs hq hEh41 hex hR hS => ?_)
    · obtain ⟨rfl, hw⟩ := hq
      have hw := hw hEh41
      have hE := hE.tr hEh41
      refine W.eq (g2 := F0 m 119 ls []) rfl ?_
      refine lv_goto (tgt := 193) hx hb (xb_d D_Reader_readOperands 43 rfl) rfl ?_
      exact am_Reader_readOperands_L193 l hfl D A σ MC MS h0 Qr Qt x0 x2 h41 (bc - c43) (bs - sc43) hw p e s m args below meth c hC H locs ls (k + c43) (n + sc43) hE (lv_sub hl [0, 2] rfl) hR hS (by omega) (by omega)
    · exact xb_pass hlocks (fun x hx9 => by rw [htab] at hx9; first | cases hx9 | (simp [tableOf] at hx9; rcases hx9 with rfl | rfl | rfl <;> decide)) (show (k + c43) ≤ MC by omega) (show (n + sc43) ≤ MS by omega) (hE.tr hEh41) hR hS hex hq
  have hw := hw.2
  by_cases hc44 : x1 = 9
  · have hw := hw.1 hc44
    refine xt_numi hc44 ?_
    refine lv_tableIn (off := 121) (tgt := 122) hx hb (xb_d D_Reader_readOperands 1 rfl) (by decide +kernel) (by decide +kernel) (by decide +kernel) (by decide) ?_
    refine lv_aload_n hx hb (xb_d D_Reader_readOperands 44 rfl) rfl (lv_at hl 0 rfl) ?_
    obtain ⟨hk45, hw⟩ := hw
    refine xb_getP (C := R_Reader) (T := F_Reader) (N := 6) hx hb 3 2 hts fin_Reader hown hR hk45 (by decide) rfl (by decide) rfl (hts _ m_5660bdee) (fun _ h9 => h9) (xb_d D_Reader_readOperands 45 rfl) ?_
    obtain ⟨b46, eb46, hw⟩ := hw
    refine xb_some eb46 ?_
    refine lv_iload_n hx hb (xb_d D_Reader_readOperands 46 rfl) rfl (lv_at hl 2 rfl) ?_
    refine lv_iconst (v := 1) hx hb (xb_d D_Reader_readOperands 47 rfl) (by decide) ?_
    refine lv_iadd hx hb (xb_d D_Reader_readOperands 48 rfl) ?_
    refine lv_aload_n hx hb (xb_d D_Reader_readOperands 49 rfl) rfl (lv_at hl 0 rfl) ?_
    refine lv_iconst (v := 5) hx hb (xb_d D_Reader_readOperands 50 rfl) (by decide) ?_
    obtain ⟨c49, sc49, hlc49, hlsc49, hw⟩ := hw
    refine xb_call (D := D) (A := A) (σ := σ) (h := h) (d := 3) (mc := c49) (ms := sc49) (maxL := 7) (rest := [.int (x2 + 1), .ref b46]) (av := [.ref x0, .int 5]) (fun T hT X => by obtain ⟨cb, r1, r2, r3⟩ := xb_recv (ci := 3) hR rfl hk45 (by decide); exact xt_invV X hx hown (hts _ m_903bb93e) (hts _ m_1631781f) (hts _ m_ad7ad53c) (xt_sigOf (hts _ m_7e8e77b8)) nm_Reader_signed (by rw [hT]; exact r1) r2 r3 (g := F0 m 131 ls [.int 5, .ref x0, .int (x2 + 1), .ref b46]) rfl (argsL := [.int 5]) (rest := [.int (x2 + 1), .ref b46]) rfl rfl (by rw [hb]; exact (xb_d D_Reader_readOperands 51 rfl))) (ok_Reader_signed l hfl D A σ x0 5 h c49 sc49 _ _ hw) (hml.trans hl.1.symm) (by rw [hb]; exact (xb_d D_Reader_readOperands 51 rfl)) (Nat.le_of_ble_eq_true rfl) (Nat.le_of_ble_eq_true rfl) (Nat.le_of_ble_eq_true rfl) (show k + c49 ≤ MC by omega) (show n + sc49 ≤ MS by omega) (xt_w1 hB.1 m_7e8e77b8) (xt_cdOf hB.1 m_7e8e77b8) (hts _ m_938fcec4) hB hR hS hA (fun vv h47 H locs hq hEh47 hR hS => ?_) (fun XX ax h47 H locs hq hEh47 hex hR hS => ?_)
    · obtain ⟨r48, rfl, hw⟩ := hq
      have hw := hw hEh47
      have hE := hE.tr hEh47
      refine W.eq (g2 := F0 m 134 ls [.long r48, .int (x2 + 1), .ref b46]) rfl ?_
      refine lv_l2i hx hb (xb_d D_Reader_readOperands 52 rfl) rfl ?_
      obtain ⟨hk50, hw⟩ := hw
      obtain ⟨hi51, hw⟩ := hw
      refine xb_iast hx hb hR hS hk50 hi51 (xb_d D_Reader_readOperands 53 rfl) (fun H locs hR hS => ?_)
      obtain ⟨h52, eh52⟩ : ∃ x : xb_H, x = xb_I h47 b46 (Int32.toNatClampNeg (x2 + 1)) (Int64.toInt32 r48) := ⟨_, rfl⟩
      rw [← eh52] at hR
      have hw := hw h52 eh52
      have hE : xb_ext h0 h52 := by rw [eh52]; exact hE
      refine lv_goto (tgt := 193) hx hb (xb_d D_Reader_readOperands 54 rfl) rfl ?_
      exact am_Reader_readOperands_L193 l hfl D A σ MC MS h0 Qr Qt x0 x2 h52 (bc - c49) (bs - sc49) hw p e s m args below meth c hC H locs ls (k + c49) (n + sc49) hE (lv_sub hl [0, 2] rfl) hR hS (by omega) (by omega)
    · exact xb_pass hlocks (fun x hx9 => by rw [htab] at hx9; first | cases hx9 | (simp [tableOf] at hx9; rcases hx9 with rfl | rfl | rfl <;> decide)) (show (k + c49) ≤ MC by omega) (show (n + sc49) ≤ MS by omega) (hE.tr hEh47) hR hS hex hq
  have hw := hw.2
  by_cases hc53 : x1 = 10
  · have hw := hw.1 hc53
    refine xt_numi hc53 ?_
    refine lv_tableIn (off := 138) (tgt := 139) hx hb (xb_d D_Reader_readOperands 1 rfl) (by decide +kernel) (by decide +kernel) (by decide +kernel) (by decide) ?_
    refine lv_aload_n hx hb (xb_d D_Reader_readOperands 55 rfl) rfl (lv_at hl 0 rfl) ?_
    refine lv_iload_n hx hb (xb_d D_Reader_readOperands 56 rfl) rfl (lv_at hl 2 rfl) ?_
    refine lv_aload_n hx hb (xb_d D_Reader_readOperands 57 rfl) rfl (lv_at hl 0 rfl) ?_
    refine lv_bipush (v := 10) hx hb (xb_d D_Reader_readOperands 58 rfl) (by decide) ?_
    obtain ⟨hk54, hw⟩ := hw
    obtain ⟨c57, sc57, hlc57, hlsc57, hw⟩ := hw
    refine xb_call (D := D) (A := A) (σ := σ) (h := h) (d := 3) (mc := c57) (ms := sc57) (maxL := 7) (rest := [.int x2, .ref x0]) (av := [.ref x0, .int 10]) (fun T hT X => by obtain ⟨cb, r1, r2, r3⟩ := xb_recv (ci := 3) hR rfl hk54 (by decide); exact xt_invV X hx hown (hts _ m_903bb93e) (hts _ m_1631781f) (hts _ m_ad7ad53c) (xt_sigOf (hts _ m_7e8e77b8)) nm_Reader_signed (by rw [hT]; exact r1) r2 r3 (g := F0 m 144 ls [.int 10, .ref x0, .int x2, .ref x0]) rfl (argsL := [.int 10]) (rest := [.int x2, .ref x0]) rfl rfl (by rw [hb]; exact (xb_d D_Reader_readOperands 59 rfl))) (ok_Reader_signed l hfl D A σ x0 10 h c57 sc57 _ _ hw) (hml.trans hl.1.symm) (by rw [hb]; exact (xb_d D_Reader_readOperands 59 rfl)) (Nat.le_of_ble_eq_true rfl) (Nat.le_of_ble_eq_true rfl) (Nat.le_of_ble_eq_true rfl) (show k + c57 ≤ MC by omega) (show n + sc57 ≤ MS by omega) (xt_w1 hB.1 m_7e8e77b8) (xt_cdOf hB.1 m_7e8e77b8) (hts _ m_938fcec4) hB hR hS hA (fun vv h55 H locs hq hEh55 hR hS => ?_) (fun XX ax h55 H locs hq hEh55 hex hR hS => ?_)
    · obtain ⟨r56, rfl, hw⟩ := hq
      have hw := hw hEh55
      have hE := hE.tr hEh55
      refine W.eq (g2 := F0 m 147 ls [.long r56, .int x2, .ref x0]) rfl ?_
      have hk54 : xb_k h55 x0 = 4 := hEh55.k hk54
      refine xb_call (D := D) (A := A) (σ := σ) (h := h55) (d := 2) (mc := 0) (ms := 0) (maxL := 4) (rest := []) (av := [.ref x0, .int x2, .long r56]) (fun T hT X => by obtain ⟨cb, r1, r2, r3⟩ := xb_recv (ci := 3) hR rfl hk54 (by decide); exact xt_invV X hx hown (hts _ m_dc270ec6) (hts _ m_c7891398) (hts _ m_c987b880) (xt_sigOf (hts _ m_3ca9c0e1)) nm_Reader_noteLong (by rw [hT]; exact r1) r2 r3 (g := F0 m 147 ls [.long r56, .int x2, .ref x0]) rfl (argsL := [.int x2, .long r56]) (rest := []) rfl rfl (by rw [hb]; exact (xb_d D_Reader_readOperands 60 rfl))) (ok_Reader_noteLong l hfl D A σ x0 x2 r56 h55 _ hw) (hml.trans hl.1.symm) (by rw [hb]; exact (xb_d D_Reader_readOperands 60 rfl)) (Nat.le_of_ble_eq_true rfl) (Nat.le_of_ble_eq_true rfl) (Nat.le_of_ble_eq_true rfl) (show (k + c57) + 0 ≤ MC by omega) (show (n + sc57) + 0 ≤ MS by omega) (xt_w1 hB.1 m_3ca9c0e1) (xt_cdOf hB.1 m_3ca9c0e1) (hts _ m_938fcec4) hB hR hS hA (fun vv h58 H locs hq hEh58 hR hS => ?_) (fun XX ax h58 H locs hq hEh58 hex hR hS => ?_)
      · obtain ⟨rfl, hw⟩ := hq
        have hw := hw hEh58
        have hE := hE.tr hEh58
        refine W.eq (g2 := F0 m 150 ls []) rfl ?_
        refine lv_goto (tgt := 193) hx hb (xb_d D_Reader_readOperands 61 rfl) rfl ?_
        exact am_Reader_readOperands_L193 l hfl D A σ MC MS h0 Qr Qt x0 x2 h58 (bc - c57) (bs - sc57) hw p e s m args below meth c hC H locs ls (k + c57) (n + sc57) hE (lv_sub hl [0, 2] rfl) hR hS (by omega) (by omega)
      · exact False.elim hq
    · exact xb_pass hlocks (fun x hx9 => by rw [htab] at hx9; first | cases hx9 | (simp [tableOf] at hx9; rcases hx9 with rfl | rfl | rfl <;> decide)) (show (k + c57) ≤ MC by omega) (show (n + sc57) ≤ MS by omega) (hE.tr hEh55) hR hS hex hq
  have hw := hw.2
  by_cases hc60 : x1 = 11
  · have hw := hw.1 hc60
    refine xt_numi hc60 ?_
    refine lv_tableIn (off := 152) (tgt := 153) hx hb (xb_d D_Reader_readOperands 1 rfl) (by decide +kernel) (by decide +kernel) (by decide +kernel) (by decide) ?_
    refine lv_aload_n hx hb (xb_d D_Reader_readOperands 62 rfl) rfl (lv_at hl 0 rfl) ?_
    obtain ⟨hk61, hw⟩ := hw
    refine xb_getP (C := R_Reader) (T := F_Reader) (N := 6) hx hb 3 2 hts fin_Reader hown hR hk61 (by decide) rfl (by decide) rfl (hts _ m_5660bdee) (fun _ h9 => h9) (xb_d D_Reader_readOperands 63 rfl) ?_
    obtain ⟨b62, eb62, hw⟩ := hw
    refine xb_some eb62 ?_
    refine lv_iload_n hx hb (xb_d D_Reader_readOperands 64 rfl) rfl (lv_at hl 2 rfl) ?_
    refine lv_iconst (v := 1) hx hb (xb_d D_Reader_readOperands 65 rfl) (by decide) ?_
    refine lv_iadd hx hb (xb_d D_Reader_readOperands 66 rfl) ?_
    refine lv_aload_n hx hb (xb_d D_Reader_readOperands 67 rfl) rfl (lv_at hl 0 rfl) ?_
    refine lv_iconst (v := 4) hx hb (xb_d D_Reader_readOperands 68 rfl) (by decide) ?_
    obtain ⟨c65, sc65, hlc65, hlsc65, hw⟩ := hw
    refine xb_call (D := D) (A := A) (σ := σ) (h := h) (d := 3) (mc := c65) (ms := sc65) (maxL := 5) (rest := [.int (x2 + 1), .ref b62]) (av := [.ref x0, .int 4]) (fun T hT X => by obtain ⟨cb, r1, r2, r3⟩ := xb_recv (ci := 3) hR rfl hk61 (by decide); exact xt_invV X hx hown (hts _ m_a14af40f) (hts _ m_558b41ae) (hts _ m_a62fdb5c) (xt_sigOf (hts _ m_43b45542)) nm_Reader_plainBytes (by rw [hT]; exact r1) r2 r3 (g := F0 m 162 ls [.int 4, .ref x0, .int (x2 + 1), .ref b62]) rfl (argsL := [.int 4]) (rest := [.int (x2 + 1), .ref b62]) rfl rfl (by rw [hb]; exact (xb_d D_Reader_readOperands 69 rfl))) (ok_Reader_plainBytes l hfl D A σ x0 4 h c65 sc65 _ _ hw) (hml.trans hl.1.symm) (by rw [hb]; exact (xb_d D_Reader_readOperands 69 rfl)) (Nat.le_of_ble_eq_true rfl) (Nat.le_of_ble_eq_true rfl) (Nat.le_of_ble_eq_true rfl) (show k + c65 ≤ MC by omega) (show n + sc65 ≤ MS by omega) (xt_w1 hB.1 m_43b45542) (xt_cdOf hB.1 m_43b45542) (hts _ m_938fcec4) hB hR hS hA (fun vv h63 H locs hq hEh63 hR hS => ?_) (fun XX ax h63 H locs hq hEh63 hex hR hS => ?_)
    · obtain ⟨r64, rfl, hw⟩ := hq
      have hw := hw hEh63
      have hE := hE.tr hEh63
      refine W.eq (g2 := F0 m 165 ls [.long r64, .int (x2 + 1), .ref b62]) rfl ?_
      refine lv_l2i hx hb (xb_d D_Reader_readOperands 70 rfl) rfl ?_
      obtain ⟨hk66, hw⟩ := hw
      obtain ⟨hi67, hw⟩ := hw
      refine xb_iast hx hb hR hS hk66 hi67 (xb_d D_Reader_readOperands 71 rfl) (fun H locs hR hS => ?_)
      obtain ⟨h68, eh68⟩ : ∃ x : xb_H, x = xb_I h63 b62 (Int32.toNatClampNeg (x2 + 1)) (Int64.toInt32 r64) := ⟨_, rfl⟩
      rw [← eh68] at hR
      have hw := hw h68 eh68
      have hE : xb_ext h0 h68 := by rw [eh68]; exact hE
      refine lv_goto (tgt := 193) hx hb (xb_d D_Reader_readOperands 72 rfl) rfl ?_
      exact am_Reader_readOperands_L193 l hfl D A σ MC MS h0 Qr Qt x0 x2 h68 (bc - c65) (bs - sc65) hw p e s m args below meth c hC H locs ls (k + c65) (n + sc65) hE (lv_sub hl [0, 2] rfl) hR hS (by omega) (by omega)
    · exact xb_pass hlocks (fun x hx9 => by rw [htab] at hx9; first | cases hx9 | (simp [tableOf] at hx9; rcases hx9 with rfl | rfl | rfl <;> decide)) (show (k + c65) ≤ MC by omega) (show (n + sc65) ≤ MS by omega) (hE.tr hEh63) hR hS hex hq
  have hw := hw.2
  by_cases hc69 : x1 = 12
  · have hw := hw.1 hc69
    refine xt_numi hc69 ?_
    refine lv_tableIn (off := 169) (tgt := 170) hx hb (xb_d D_Reader_readOperands 1 rfl) (by decide +kernel) (by decide +kernel) (by decide +kernel) (by decide) ?_
    refine lv_aload_n hx hb (xb_d D_Reader_readOperands 73 rfl) rfl (lv_at hl 0 rfl) ?_
    refine lv_iload_n hx hb (xb_d D_Reader_readOperands 74 rfl) rfl (lv_at hl 2 rfl) ?_
    refine lv_aload_n hx hb (xb_d D_Reader_readOperands 75 rfl) rfl (lv_at hl 0 rfl) ?_
    refine lv_bipush (v := 8) hx hb (xb_d D_Reader_readOperands 76 rfl) (by decide) ?_
    obtain ⟨hk70, hw⟩ := hw
    obtain ⟨c73, sc73, hlc73, hlsc73, hw⟩ := hw
    refine xb_call (D := D) (A := A) (σ := σ) (h := h) (d := 3) (mc := c73) (ms := sc73) (maxL := 5) (rest := [.int x2, .ref x0]) (av := [.ref x0, .int 8]) (fun T hT X => by obtain ⟨cb, r1, r2, r3⟩ := xb_recv (ci := 3) hR rfl hk70 (by decide); exact xt_invV X hx hown (hts _ m_a14af40f) (hts _ m_558b41ae) (hts _ m_a62fdb5c) (xt_sigOf (hts _ m_43b45542)) nm_Reader_plainBytes (by rw [hT]; exact r1) r2 r3 (g := F0 m 175 ls [.int 8, .ref x0, .int x2, .ref x0]) rfl (argsL := [.int 8]) (rest := [.int x2, .ref x0]) rfl rfl (by rw [hb]; exact (xb_d D_Reader_readOperands 77 rfl))) (ok_Reader_plainBytes l hfl D A σ x0 8 h c73 sc73 _ _ hw) (hml.trans hl.1.symm) (by rw [hb]; exact (xb_d D_Reader_readOperands 77 rfl)) (Nat.le_of_ble_eq_true rfl) (Nat.le_of_ble_eq_true rfl) (Nat.le_of_ble_eq_true rfl) (show k + c73 ≤ MC by omega) (show n + sc73 ≤ MS by omega) (xt_w1 hB.1 m_43b45542) (xt_cdOf hB.1 m_43b45542) (hts _ m_938fcec4) hB hR hS hA (fun vv h71 H locs hq hEh71 hR hS => ?_) (fun XX ax h71 H locs hq hEh71 hex hR hS => ?_)
    · obtain ⟨r72, rfl, hw⟩ := hq
      have hw := hw hEh71
      have hE := hE.tr hEh71
      refine W.eq (g2 := F0 m 178 ls [.long r72, .int x2, .ref x0]) rfl ?_
      have hk70 : xb_k h71 x0 = 4 := hEh71.k hk70
      refine xb_call (D := D) (A := A) (σ := σ) (h := h71) (d := 2) (mc := 0) (ms := 0) (maxL := 4) (rest := []) (av := [.ref x0, .int x2, .long r72]) (fun T hT X => by obtain ⟨cb, r1, r2, r3⟩ := xb_recv (ci := 3) hR rfl hk70 (by decide); exact xt_invV X hx hown (hts _ m_dc270ec6) (hts _ m_c7891398) (hts _ m_c987b880) (xt_sigOf (hts _ m_3ca9c0e1)) nm_Reader_noteLong (by rw [hT]; exact r1) r2 r3 (g := F0 m 178 ls [.long r72, .int x2, .ref x0]) rfl (argsL := [.int x2, .long r72]) (rest := []) rfl rfl (by rw [hb]; exact (xb_d D_Reader_readOperands 78 rfl))) (ok_Reader_noteLong l hfl D A σ x0 x2 r72 h71 _ hw) (hml.trans hl.1.symm) (by rw [hb]; exact (xb_d D_Reader_readOperands 78 rfl)) (Nat.le_of_ble_eq_true rfl) (Nat.le_of_ble_eq_true rfl) (Nat.le_of_ble_eq_true rfl) (show (k + c73) + 0 ≤ MC by omega) (show (n + sc73) + 0 ≤ MS by omega) (xt_w1 hB.1 m_3ca9c0e1) (xt_cdOf hB.1 m_3ca9c0e1) (hts _ m_938fcec4) hB hR hS hA (fun vv h74 H locs hq hEh74 hR hS => ?_) (fun XX ax h74 H locs hq hEh74 hex hR hS => ?_)
      · obtain ⟨rfl, hw⟩ := hq
        have hw := hw hEh74
        have hE := hE.tr hEh74
        refine W.eq (g2 := F0 m 181 ls []) rfl ?_
        refine lv_goto (tgt := 193) hx hb (xb_d D_Reader_readOperands 79 rfl) rfl ?_
        exact am_Reader_readOperands_L193 l hfl D A σ MC MS h0 Qr Qt x0 x2 h74 (bc - c73) (bs - sc73) hw p e s m args below meth c hC H locs ls (k + c73) (n + sc73) hE (lv_sub hl [0, 2] rfl) hR hS (by omega) (by omega)
      · exact False.elim hq
    · exact xb_pass hlocks (fun x hx9 => by rw [htab] at hx9; first | cases hx9 | (simp [tableOf] at hx9; rcases hx9 with rfl | rfl | rfl <;> decide)) (show (k + c73) ≤ MC by omega) (show (n + sc73) ≤ MS by omega) (hE.tr hEh71) hR hS hex hq
  have hw := hw.2
  have hw := hw hc1 hc10 hc11 hc23 hc39 hc44 hc53 hc60 hc69
  refine lv_tableOut (tgt := 184) hx hb (xb_d D_Reader_readOperands 1 rfl) (by have a0 := xb_nl (4) 4 (by decide) hc1; have a1 := xb_nl (5) 5 (by decide) hc10; have a2 := xb_nl (6) 6 (by decide) hc11; have a3 := xb_nl (7) 7 (by decide) hc23; have a4 := xb_nl (8) 8 (by decide) hc39; have a5 := xb_nl (9) 9 (by decide) hc44; have a6 := xb_nl (10) 10 (by decide) hc53; have a7 := xb_nl (11) 11 (by decide) hc60; have a8 := xb_nl (12) 12 (by decide) hc69; omega) (by decide) ?_
  exact am_Reader_readOperands_L184 l hfl D A σ MC MS h0 Qr Qt x0 x2 h bc bs hw p e s m args below meth c hC H locs ls k n hE (lv_sub hl [0, 2] rfl) hR hS (by omega) (by omega)

set_option maxRecDepth 100000 in
def T_Reader_valueType : List (Nat × Instr × Nat) := [(0, .aload_n 0, 1), (1, .invokevirtual 122, 3), (4, .istore_n 1, 1), (5, .iload_n 1, 1), (6, .bipush 124, 2), (8, .if_icmp .lt 9, 3), (11, .iload_n 1, 1), (12, .bipush 127, 2), (14, .if_icmp .le 17, 3), (17, .aload_n 0, 1), (18, .getfield 15, 3), (21, .iconst 5, 1), (22, .aload_n 0, 1), (23, .getfield 41, 3), (26, .iconst 1, 1), (27, .isub, 1), (28, .invokevirtual 37, 3), (31, .iload_n 1, 1), (32, .ireturn, 1)]
theorem D_Reader_valueType : ∀ q ∈ T_Reader_valueType, decode b_Reader_valueType q.1 = .ok (q.2.1, q.2.2) := by decide +kernel
def w_Reader_valueType_L31 (Qr : Int32 → xb_H → Prop) (Qt : String → xb_H → Prop) (x1 : Int32) (h : xb_H) (bc : Nat) (bs : Nat) : Prop :=
    Qr x1 h

def w_Reader_valueType_L17 (Qr : Int32 → xb_H → Prop) (Qt : String → xb_H → Prop) (x0 : Nat) (x1 : Int32) (h : xb_H) (bc : Nat) (bs : Nat) : Prop :=
    xb_k h x0 = 4 ∧ ∃ b2 : Nat, (xb_r h x0 0) = some b2 ∧ xb_k h b2 = 3 ∧ ∃ c6 sc6 : Nat, c6 ≤ bc ∧ sc6 ≤ bs ∧ w_StackModule_fail b2 5 ((xb_i h x0 3) - 1) h c6 sc6 (fun (h4 : xb_H) => xb_ext h h4 → w_Reader_valueType_L31 Qr Qt x1 h4 (bc - c6) (bs - sc6)) Qt

def w_Reader_valueType (x0 : Nat) (h : xb_H) (bc : Nat) (bs : Nat) (Qr : Int32 → xb_H → Prop) (Qt : String → xb_H → Prop) : Prop :=
    xb_k h x0 = 4 ∧ ∃ c4 sc4 : Nat, c4 ≤ bc ∧ sc4 ≤ bs ∧ w_Reader_nextByte x0 h c4 sc4 (fun (r3 : Int32) (h2 : xb_H) => xb_ext h h2 → ((r3 < (124 : Int32) → w_Reader_valueType_L17 Qr Qt x0 r3 h2 (bc - c4) (bs - sc4)) ∧ (¬ r3 < (124 : Int32) → ((r3 ≤ (127 : Int32) → w_Reader_valueType_L31 Qr Qt r3 h2 (bc - c4) (bs - sc4)) ∧ (¬ r3 ≤ (127 : Int32) → w_Reader_valueType_L17 Qr Qt x0 r3 h2 (bc - c4) (bs - sc4)))))) Qt

set_option maxHeartbeats 4000000 in
set_option maxRecDepth 100000 in
theorem am_Reader_valueType_L31 (l : Launch) (hfl : l.flags = pinnedFlags ++ [noTraceFlag]) (D : va_G) (A : Nat → Prop) (σ MC MS : Nat) (h0 : xb_H) (Qr : Int32 → xb_H → Prop) (Qt : String → xb_H → Prop) (x1 : Int32) (h : xb_H) (bc : Nat) (bs : Nat) (hw : w_Reader_valueType_L31 Qr Qt x1 h bc bs) : xb_am l D A σ 4 MC MS h0 (fun v h => ∃ r, v = some (.int r) ∧ Qr r h) Qt y_Reader_valueType.cls y_Reader_valueType.name b_Reader_valueType 2 ([] : List ExceptionTableEntry) (some .int) 31 [(1, .int x1)] [] h bc bs := by
  unfold w_Reader_valueType_L31 at hw
  intro p e s m args below meth c hC H locs ls k n hE hl hR hS hk hn
  obtain ⟨hx, hb, hown, hlocks, htab, hml, hr, hB, hA, hnm⟩ := id hC
  have hts := hB.1.1.at args
  refine lv_iload_n hx hb (xb_d D_Reader_valueType 17 rfl) rfl (lv_at hl 0 rfl) ?_
  exact xb_iret hx hb hr hlocks (show k ≤ MC by omega) (show n ≤ MS by omega) hE hR hS (xb_d D_Reader_valueType 18 rfl) hw

set_option maxHeartbeats 4000000 in
set_option maxRecDepth 100000 in
theorem am_Reader_valueType_L17 (l : Launch) (hfl : l.flags = pinnedFlags ++ [noTraceFlag]) (D : va_G) (A : Nat → Prop) (σ MC MS : Nat) (h0 : xb_H) (Qr : Int32 → xb_H → Prop) (Qt : String → xb_H → Prop) (x0 : Nat) (x1 : Int32) (h : xb_H) (bc : Nat) (bs : Nat) (hw : w_Reader_valueType_L17 Qr Qt x0 x1 h bc bs) : xb_am l D A σ 4 MC MS h0 (fun v h => ∃ r, v = some (.int r) ∧ Qr r h) Qt y_Reader_valueType.cls y_Reader_valueType.name b_Reader_valueType 2 ([] : List ExceptionTableEntry) (some .int) 17 [(0, .ref x0), (1, .int x1)] [] h bc bs := by
  unfold w_Reader_valueType_L17 at hw
  intro p e s m args below meth c hC H locs ls k n hE hl hR hS hk hn
  obtain ⟨hx, hb, hown, hlocks, htab, hml, hr, hB, hA, hnm⟩ := id hC
  have hts := hB.1.1.at args
  refine lv_aload_n hx hb (xb_d D_Reader_valueType 9 rfl) rfl (lv_at hl 0 rfl) ?_
  obtain ⟨hk1, hw⟩ := hw
  refine xb_getP (C := R_Reader) (T := F_Reader) (N := 6) hx hb 3 0 hts fin_Reader hown hR hk1 (by decide) rfl (by decide) rfl (hts _ m_76d8349c) (fun _ h9 => h9) (xb_d D_Reader_valueType 10 rfl) ?_
  obtain ⟨b2, eb2, hw⟩ := hw
  refine xb_some eb2 ?_
  refine lv_iconst (v := 5) hx hb (xb_d D_Reader_valueType 11 rfl) (by decide) ?_
  refine lv_aload_n hx hb (xb_d D_Reader_valueType 12 rfl) rfl (lv_at hl 0 rfl) ?_
  refine xb_getI (C := R_Reader) (T := F_Reader) (N := 6) hx hb 3 3 hts fin_Reader hown hR hk1 (by decide) rfl (by decide) rfl (hts _ m_a9b84ac2) (fun _ h9 => h9) (xb_d D_Reader_valueType 13 rfl) ?_
  refine lv_iconst (v := 1) hx hb (xb_d D_Reader_valueType 14 rfl) (by decide) ?_
  refine lv_isub hx hb (xb_d D_Reader_valueType 15 rfl) ?_
  obtain ⟨hk3, hw⟩ := hw
  obtain ⟨c6, sc6, hlc6, hlsc6, hw⟩ := hw
  refine xb_call (D := D) (A := A) (σ := σ) (h := h) (d := 2) (mc := c6) (ms := sc6) (maxL := 3) (rest := []) (av := [.ref b2, .int 5, .int ((xb_i h x0 3) - 1)]) (fun T hT X => by obtain ⟨cb, r1, r2, r3⟩ := xb_recv (ci := 2) hR rfl hk3 (by decide); exact xt_invV X hx hown (hts _ m_6fcde429) (hts _ m_865d5b07) (hts _ m_113f8f75) (xt_sigOf (hts _ m_73e65e5f)) nm_StackModule_fail (by rw [hT]; exact r1) r2 r3 (g := F0 m 28 ls [.int ((xb_i h x0 3) - 1), .int 5, .ref b2]) rfl (argsL := [.int 5, .int ((xb_i h x0 3) - 1)]) (rest := []) rfl rfl (by rw [hb]; exact (xb_d D_Reader_valueType 16 rfl))) (ok_StackModule_fail l hfl D A σ b2 5 ((xb_i h x0 3) - 1) h c6 sc6 _ _ hw) (hml.trans hl.1.symm) (by rw [hb]; exact (xb_d D_Reader_valueType 16 rfl)) (Nat.le_of_ble_eq_true rfl) (Nat.le_of_ble_eq_true rfl) (Nat.le_of_ble_eq_true rfl) (show k + c6 ≤ MC by omega) (show n + sc6 ≤ MS by omega) (xt_w1 hB.1 m_73e65e5f) (xt_cdOf hB.1 m_73e65e5f) (hts _ m_9c375545) hB hR hS hA (fun vv h4 H locs hq hEh4 hR hS => ?_) (fun XX ax h4 H locs hq hEh4 hex hR hS => ?_)
  · obtain ⟨rfl, hw⟩ := hq
    have hw := hw hEh4
    have hE := hE.tr hEh4
    refine W.eq (g2 := F0 m 31 ls []) rfl ?_
    exact am_Reader_valueType_L31 l hfl D A σ MC MS h0 Qr Qt x1 h4 (bc - c6) (bs - sc6) hw p e s m args below meth c hC H locs ls (k + c6) (n + sc6) hE (lv_sub hl [1] rfl) hR hS (by omega) (by omega)
  · exact xb_pass hlocks (fun x hx9 => by rw [htab] at hx9; first | cases hx9 | (simp [tableOf] at hx9; rcases hx9 with rfl | rfl | rfl <;> decide)) (show (k + c6) ≤ MC by omega) (show (n + sc6) ≤ MS by omega) (hE.tr hEh4) hR hS hex hq

set_option maxHeartbeats 4000000 in
set_option maxRecDepth 100000 in
theorem ok_Reader_valueType (l : Launch) (hfl : l.flags = pinnedFlags ++ [noTraceFlag]) (D : va_G) (A : Nat → Prop) (σ : Nat) (x0 : Nat) (h : xb_H) (bc : Nat) (bs : Nat) (Qr : Int32 → xb_H → Prop) (Qt : String → xb_H → Prop) (hw : w_Reader_valueType x0 h bc bs Qr Qt) : xt_Met l y_Reader_valueType [.code y_Reader_valueType b_Reader_valueType 2 (some .int)] (xb_rm 4 bc bs) (xb_Pc D A σ h [.ref x0]) (xb_Qc D A h (fun v h => ∃ r, v = some (.int r) ∧ Qr r h) Qt) bc bs A := by
  refine xb_ofAm (cc := b_Reader_valueType) (by decide) (Nat.le_of_ble_eq_true rfl) ?_
  unfold w_Reader_valueType at hw
  show xb_am l D A σ 4 bc bs h (fun v h => ∃ r, v = some (.int r) ∧ Qr r h) Qt y_Reader_valueType.cls y_Reader_valueType.name b_Reader_valueType 2 ([] : List ExceptionTableEntry) (some .int) 0 [(0, .ref x0)] [] h bc bs
  obtain ⟨MC, hMC⟩ : ∃ x, x = bc := ⟨_, rfl⟩
  obtain ⟨MS, hMS⟩ : ∃ x, x = bs := ⟨_, rfl⟩
  rw [show xb_am l D A σ 4 bc bs = xb_am l D A σ 4 MC MS by rw [hMC, hMS]]
  obtain ⟨h0, hh0⟩ : ∃ x, x = h := ⟨_, rfl⟩
  rw [show xb_am l D A σ 4 MC MS h = xb_am l D A σ 4 MC MS h0 by rw [hh0]]
  intro p e s m args below meth c hC H locs ls k n hE hl hR hS hk hn
  obtain ⟨hx, hb, hown, hlocks, htab, hml, hr, hB, hA, hnm⟩ := id hC
  have hts := hB.1.1.at args
  refine lv_aload_n hx hb (xb_d D_Reader_valueType 0 rfl) rfl (lv_at hl 0 rfl) ?_
  obtain ⟨hk1, hw⟩ := hw
  obtain ⟨c4, sc4, hlc4, hlsc4, hw⟩ := hw
  refine xb_call (D := D) (A := A) (σ := σ) (h := h) (d := 3) (mc := c4) (ms := sc4) (maxL := 1) (rest := []) (av := [.ref x0]) (fun T hT X => by obtain ⟨cb, r1, r2, r3⟩ := xb_recv (ci := 3) hR rfl hk1 (by decide); exact xt_invV X hx hown (hts _ m_16104bdc) (hts _ m_5816e59e) (hts _ m_447444c2) (xt_sigOf (hts _ m_a7435405)) nm_Reader_nextByte (by rw [hT]; exact r1) r2 r3 (g := F0 m 1 ls [.ref x0]) rfl (argsL := []) (rest := []) rfl rfl (by rw [hb]; exact (xb_d D_Reader_valueType 1 rfl))) (ok_Reader_nextByte l hfl D A σ x0 h c4 sc4 _ _ hw) (hml.trans hl.1.symm) (by rw [hb]; exact (xb_d D_Reader_valueType 1 rfl)) (Nat.le_of_ble_eq_true rfl) (Nat.le_of_ble_eq_true rfl) (Nat.le_of_ble_eq_true rfl) (show k + c4 ≤ MC by omega) (show n + sc4 ≤ MS by omega) (xt_w1 hB.1 m_a7435405) (xt_cdOf hB.1 m_a7435405) (hts _ m_938fcec4) hB hR hS hA (fun vv h2 H locs hq hEh2 hR hS => ?_) (fun XX ax h2 H locs hq hEh2 hex hR hS => ?_)
  · obtain ⟨r3, rfl, hw⟩ := hq
    have hw := hw hEh2
    have hE := hE.tr hEh2
    refine W.eq (g2 := F0 m 4 ls [.int r3]) rfl ?_
    refine lv_istore_n hx hb (xb_d D_Reader_valueType 2 rfl) rfl hl (by decide) rfl (fun ls hl => ?_)
    have hl : lv_has ls 2 [(1, .int r3), (0, .ref x0)] := hl
    refine lv_iload_n hx hb (xb_d D_Reader_valueType 3 rfl) rfl (lv_at hl 0 rfl) ?_
    refine lv_bipush (v := 124) hx hb (xb_d D_Reader_valueType 4 rfl) (by decide) ?_
    refine lv_icmp_lt (tgt := 17) hx hb (xb_d D_Reader_valueType 5 rfl) rfl (fun hc5 => ?_) (fun hc5 => ?_)
    · have hw := hw.1 hc5
      exact am_Reader_valueType_L17 l hfl D A σ MC MS h0 Qr Qt x0 r3 h2 (bc - c4) (bs - sc4) hw p e s m args below meth c hC H locs ls (k + c4) (n + sc4) hE (lv_sub hl [1, 0] rfl) hR hS (by omega) (by omega)
    · have hw := hw.2 hc5
      refine lv_iload_n hx hb (xb_d D_Reader_valueType 6 rfl) rfl (lv_at hl 0 rfl) ?_
      refine lv_bipush (v := 127) hx hb (xb_d D_Reader_valueType 7 rfl) (by decide) ?_
      refine lv_icmp_le (tgt := 31) hx hb (xb_d D_Reader_valueType 8 rfl) rfl (fun hc6 => ?_) (fun hc6 => ?_)
      · have hw := hw.1 hc6
        exact am_Reader_valueType_L31 l hfl D A σ MC MS h0 Qr Qt r3 h2 (bc - c4) (bs - sc4) hw p e s m args below meth c hC H locs ls (k + c4) (n + sc4) hE (lv_sub hl [0] rfl) hR hS (by omega) (by omega)
      · have hw := hw.2 hc6
        exact am_Reader_valueType_L17 l hfl D A σ MC MS h0 Qr Qt x0 r3 h2 (bc - c4) (bs - sc4) hw p e s m args below meth c hC H locs ls (k + c4) (n + sc4) hE (lv_sub hl [1, 0] rfl) hR hS (by omega) (by omega)
  · exact xb_pass hlocks (fun x hx9 => by rw [htab] at hx9; first | cases hx9 | (simp [tableOf] at hx9; rcases hx9 with rfl | rfl | rfl <;> decide)) (show (k + c4) ≤ MC by omega) (show (n + sc4) ≤ MS by omega) (hE.tr hEh2) hR hS hex hq

theorem m_cbb6e9b1 : (.methodLink "StackHost$Row" 32 y_Row_makeRoom : Cond) ∈ xt_tbl := xt_in (xt_t3 (List.mem_of_getElem? (i := 228) (by decide +kernel))) (by decide +kernel)
theorem m_624132aa : (.instanceMethod y_Row_makeRoom : Cond) ∈ xt_tbl := xt_in (xt_t3 (List.mem_of_getElem? (i := 229) (by decide +kernel))) (by decide +kernel)
theorem m_74be88f7 : (.selects "StackHost$Row" y_Row_makeRoom y_Row_makeRoom : Cond) ∈ xt_tbl := xt_in (xt_t3 (List.mem_of_getElem? (i := 230) (by decide +kernel))) (by decide +kernel)
theorem m_8b494096 : (.code y_Row_makeRoom b_Row_makeRoom 2 none : Cond) ∈ xt_tbl := xt_in (xt_t3 (List.mem_of_getElem? (i := 231) (by decide +kernel))) (by decide +kernel)
theorem nm_Row_makeRoom : xt_nm y_Row_makeRoom 1 := ⟨by decide +kernel, by decide +kernel⟩
set_option maxRecDepth 100000 in
def T_Row_add : List (Nat × Instr × Nat) := [(0, .aload_n 0, 1), (1, .aload_n 0, 1), (2, .getfield 29, 3), (5, .iconst 1, 1), (6, .iadd, 1), (7, .invokevirtual 32, 3), (10, .aload_n 0, 1), (11, .getfield 13, 3), (14, .aload_n 0, 1), (15, .getfield 29, 3), (18, .lload_n 1, 1), (19, .lastore, 1), (20, .aload_n 0, 1), (21, .dup, 1), (22, .getfield 29, 3), (25, .iconst 1, 1), (26, .iadd, 1), (27, .putfield 29, 3), (30, .return_, 1)]
theorem D_Row_add : ∀ q ∈ T_Row_add, decode b_Row_add q.1 = .ok (q.2.1, q.2.2) := by decide +kernel
def w_Row_add (x0 : Nat) (x1 : Int64) (h : xb_H) (bc : Nat) (bs : Nat) (Qr : xb_H → Prop) : Prop :=
    xb_k h x0 = 2 ∧ ∃ c4 sc4 : Nat, c4 ≤ bc ∧ sc4 ≤ bs ∧ w_Row_makeRoom x0 ((xb_i h x0 1) + 1) h c4 sc4 (fun (h2 : xb_H) => xb_ext h h2 → ∃ b5 : Nat, (xb_r h2 x0 0) = some b5 ∧ xb_k h2 b5 = 103 ∧ vp_in (xb_i h2 x0 1) (xb_n h2 b5) ∧ ∀ h8 : xb_H, h8 = xb_L h2 b5 (Int32.toNatClampNeg (xb_i h2 x0 1)) x1 → ∀ h9 : xb_H, h9 = xb_I h8 x0 1 ((xb_i h8 x0 1) + 1) → Qr h9)

set_option maxHeartbeats 4000000 in
set_option maxRecDepth 100000 in
theorem ok_Row_add (l : Launch) (hfl : l.flags = pinnedFlags ++ [noTraceFlag]) (D : va_G) (A : Nat → Prop) (σ : Nat) (x0 : Nat) (x1 : Int64) (h : xb_H) (bc : Nat) (bs : Nat) (Qr : xb_H → Prop) (hw : w_Row_add x0 x1 h bc bs Qr) : xt_Met l y_Row_add [.code y_Row_add b_Row_add 3 none] (xb_rm 4 bc bs) (xb_Pc D A σ h [.ref x0, .long x1]) (xb_Qc D A h (fun v h => v = none ∧ Qr h) (fun _ _ => False)) bc bs A := by
  refine xb_ofAm (cc := b_Row_add) (by decide) (Nat.le_of_ble_eq_true rfl) ?_
  unfold w_Row_add at hw
  show xb_am l D A σ 4 bc bs h (fun v h => v = none ∧ Qr h) (fun _ _ => False) y_Row_add.cls y_Row_add.name b_Row_add 3 ([] : List ExceptionTableEntry) none 0 [(0, .ref x0), (1, .long x1)] [] h bc bs
  obtain ⟨MC, hMC⟩ : ∃ x, x = bc := ⟨_, rfl⟩
  obtain ⟨MS, hMS⟩ : ∃ x, x = bs := ⟨_, rfl⟩
  rw [show xb_am l D A σ 4 bc bs = xb_am l D A σ 4 MC MS by rw [hMC, hMS]]
  obtain ⟨h0, hh0⟩ : ∃ x, x = h := ⟨_, rfl⟩
  rw [show xb_am l D A σ 4 MC MS h = xb_am l D A σ 4 MC MS h0 by rw [hh0]]
  intro p e s m args below meth c hC H locs ls k n hE hl hR hS hk hn
  obtain ⟨hx, hb, hown, hlocks, htab, hml, hr, hB, hA, hnm⟩ := id hC
  have hts := hB.1.1.at args
  refine lv_aload_n hx hb (xb_d D_Row_add 0 rfl) rfl (lv_at hl 0 rfl) ?_
  refine lv_aload_n hx hb (xb_d D_Row_add 1 rfl) rfl (lv_at hl 0 rfl) ?_
  obtain ⟨hk1, hw⟩ := hw
  refine xb_getI (C := R_Row) (T := F_Row) (N := 3) hx hb 1 1 hts fin_Row hown hR hk1 (by decide) rfl (by decide) rfl (hts _ m_2c4f5cfd) (fun _ h9 => h9) (xb_d D_Row_add 2 rfl) ?_
  refine lv_iconst (v := 1) hx hb (xb_d D_Row_add 3 rfl) (by decide) ?_
  refine lv_iadd hx hb (xb_d D_Row_add 4 rfl) ?_
  obtain ⟨c4, sc4, hlc4, hlsc4, hw⟩ := hw
  refine xb_call (D := D) (A := A) (σ := σ) (h := h) (d := 3) (mc := c4) (ms := sc4) (maxL := 2) (rest := []) (av := [.ref x0, .int ((xb_i h x0 1) + 1)]) (fun T hT X => by obtain ⟨cb, r1, r2, r3⟩ := xb_recv (ci := 1) hR rfl hk1 (by decide); exact xt_invV X hx hown (hts _ m_cbb6e9b1) (hts _ m_624132aa) (hts _ m_74be88f7) (xt_sigOf (hts _ m_8b494096)) nm_Row_makeRoom (by rw [hT]; exact r1) r2 r3 (g := F0 m 7 ls [.int ((xb_i h x0 1) + 1), .ref x0]) rfl (argsL := [.int ((xb_i h x0 1) + 1)]) (rest := []) rfl rfl (by rw [hb]; exact (xb_d D_Row_add 5 rfl))) (ok_Row_makeRoom l hfl D A σ x0 ((xb_i h x0 1) + 1) h c4 sc4 _ hw) (hml.trans hl.1.symm) (by rw [hb]; exact (xb_d D_Row_add 5 rfl)) (Nat.le_of_ble_eq_true rfl) (Nat.le_of_ble_eq_true rfl) (Nat.le_of_ble_eq_true rfl) (show k + c4 ≤ MC by omega) (show n + sc4 ≤ MS by omega) (xt_w1 hB.1 m_8b494096) (xt_cdOf hB.1 m_8b494096) (hts _ m_c1bef504) hB hR hS hA (fun vv h2 H locs hq hEh2 hR hS => ?_) (fun XX ax h2 H locs hq hEh2 hex hR hS => ?_)
  · obtain ⟨rfl, hw⟩ := hq
    have hw := hw hEh2
    have hE := hE.tr hEh2
    refine W.eq (g2 := F0 m 10 ls []) rfl ?_
    refine lv_aload_n hx hb (xb_d D_Row_add 6 rfl) rfl (lv_at hl 0 rfl) ?_
    have hk1 : xb_k h2 x0 = 2 := hEh2.k hk1
    refine xb_getP (C := R_Row) (T := F_Row) (N := 3) hx hb 1 0 hts fin_Row hown hR hk1 (by decide) rfl (by decide) rfl (hts _ m_8e18d96c) (fun _ h9 => h9) (xb_d D_Row_add 7 rfl) ?_
    obtain ⟨b5, eb5, hw⟩ := hw
    refine xb_some eb5 ?_
    refine lv_aload_n hx hb (xb_d D_Row_add 8 rfl) rfl (lv_at hl 0 rfl) ?_
    refine xb_getI (C := R_Row) (T := F_Row) (N := 3) hx hb 1 1 hts fin_Row hown hR hk1 (by decide) rfl (by decide) rfl (hts _ m_2c4f5cfd) (fun _ h9 => h9) (xb_d D_Row_add 9 rfl) ?_
    refine lv_lload_n hx hb (xb_d D_Row_add 10 rfl) rfl (lv_at hl 1 rfl) ?_
    obtain ⟨hk6, hw⟩ := hw
    obtain ⟨hi7, hw⟩ := hw
    refine xb_last hx hb hR hS hk6 hi7 (xb_d D_Row_add 11 rfl) (fun H locs hR hS => ?_)
    obtain ⟨h8, eh8⟩ : ∃ x : xb_H, x = xb_L h2 b5 (Int32.toNatClampNeg (xb_i h2 x0 1)) x1 := ⟨_, rfl⟩
    rw [← eh8] at hR
    have hw := hw h8 eh8
    have hE : xb_ext h0 h8 := by rw [eh8]; exact hE
    refine lv_aload_n hx hb (xb_d D_Row_add 12 rfl) rfl (lv_at hl 0 rfl) ?_
    refine lv_dup hx hb (xb_d D_Row_add 13 rfl) rfl ?_
    have hk1 : xb_k h8 x0 = 2 := by rw [eh8]; exact hk1
    refine xb_getI (C := R_Row) (T := F_Row) (N := 3) hx hb 1 1 hts fin_Row hown hR hk1 (by decide) rfl (by decide) rfl (hts _ m_2c4f5cfd) (fun _ h9 => h9) (xb_d D_Row_add 14 rfl) ?_
    refine lv_iconst (v := 1) hx hb (xb_d D_Row_add 15 rfl) (by decide) ?_
    refine lv_iadd hx hb (xb_d D_Row_add 16 rfl) ?_
    refine xb_putI (C := R_Row) (T := F_Row) (N := 3) (ty := .int) (x := ((xb_i h8 x0 1) + 1)) hx hb 1 1 hts fin_Row t_Row t_Row_ok n_Row hown hR hS hk1 (by decide) rfl (by decide) rfl (hts _ m_2c4f5cfd) (fun _ h9 => h9) rfl (by decide +kernel) rfl rfl (xb_d D_Row_add 17 rfl) (fun H locs hR hS => ?_)
    obtain ⟨h9, eh9⟩ : ∃ x : xb_H, x = xb_I h8 x0 1 ((xb_i h8 x0 1) + 1) := ⟨_, rfl⟩
    rw [← eh9] at hR
    have hw := hw h9 eh9
    have hE : xb_ext h0 h9 := by rw [eh9]; exact hE
    exact xb_vret hx hb hr hlocks (show (k + c4) ≤ MC by omega) (show (n + sc4) ≤ MS by omega) hE hR hS (xb_d D_Row_add 18 rfl) hw
  · exact False.elim hq

theorem m_a6f16d11 : (.methodLink "StackHost$Row" 36 y_Arrays_fill1 : Cond) ∈ xt_tbl := xt_in (xt_t7 (List.mem_of_getElem? (i := 41) (by decide +kernel))) (by decide +kernel)
theorem m_4775e2a5 : (.static y_Arrays_fill1 : Cond) ∈ xt_tbl := xt_in (xt_t7 (List.mem_of_getElem? (i := 42) (by decide +kernel))) (by decide +kernel)
theorem m_afc58b1e : (.code y_Arrays_fill1 b_Arrays_fill1 6 none : Cond) ∈ xt_tbl := xt_in (xt_t7 (List.mem_of_getElem? (i := 43) (by decide +kernel))) (by decide +kernel)
theorem nm_Arrays_fill1 : xt_nm y_Arrays_fill1 4 := ⟨by decide +kernel, by decide +kernel⟩
set_option maxRecDepth 100000 in
def T_Row_addMany : List (Nat × Instr × Nat) := [(0, .aload_n 0, 1), (1, .aload_n 0, 1), (2, .getfield 29, 3), (5, .iload_n 1, 1), (6, .iadd, 1), (7, .invokevirtual 32, 3), (10, .aload_n 0, 1), (11, .getfield 13, 3), (14, .aload_n 0, 1), (15, .getfield 29, 3), (18, .aload_n 0, 1), (19, .getfield 29, 3), (22, .iload_n 1, 1), (23, .iadd, 1), (24, .lload_n 2, 1), (25, .invokestatic 36, 3), (28, .aload_n 0, 1), (29, .dup, 1), (30, .getfield 29, 3), (33, .iload_n 1, 1), (34, .iadd, 1), (35, .putfield 29, 3), (38, .return_, 1)]
theorem D_Row_addMany : ∀ q ∈ T_Row_addMany, decode b_Row_addMany q.1 = .ok (q.2.1, q.2.2) := by decide +kernel
def w_Row_addMany (x0 : Nat) (x1 : Int32) (x2 : Int64) (h : xb_H) (bc : Nat) (bs : Nat) (Qr : xb_H → Prop) : Prop :=
    xb_k h x0 = 2 ∧ ∃ c4 sc4 : Nat, c4 ≤ bc ∧ sc4 ≤ bs ∧ w_Row_makeRoom x0 ((xb_i h x0 1) + x1) h c4 sc4 (fun (h2 : xb_H) => xb_ext h h2 → ∃ b5 : Nat, (xb_r h2 x0 0) = some b5 ∧ w_Arrays_fill1 b5 (xb_i h2 x0 1) ((xb_i h2 x0 1) + x1) x2 h2 (fun (h6 : xb_H) => xb_ext h2 h6 → ∀ h8 : xb_H, h8 = xb_I h6 x0 1 ((xb_i h6 x0 1) + x1) → Qr h8))

set_option maxHeartbeats 4000000 in
set_option maxRecDepth 100000 in
theorem ok_Row_addMany (l : Launch) (hfl : l.flags = pinnedFlags ++ [noTraceFlag]) (D : va_G) (A : Nat → Prop) (σ : Nat) (x0 : Nat) (x1 : Int32) (x2 : Int64) (h : xb_H) (bc : Nat) (bs : Nat) (Qr : xb_H → Prop) (hw : w_Row_addMany x0 x1 x2 h bc bs Qr) : xt_Met l y_Row_addMany [.code y_Row_addMany b_Row_addMany 4 none] (xb_rm 4 bc bs) (xb_Pc D A σ h [.ref x0, .int x1, .long x2]) (xb_Qc D A h (fun v h => v = none ∧ Qr h) (fun _ _ => False)) bc bs A := by
  refine xb_ofAm (cc := b_Row_addMany) (by decide) (Nat.le_of_ble_eq_true rfl) ?_
  unfold w_Row_addMany at hw
  show xb_am l D A σ 4 bc bs h (fun v h => v = none ∧ Qr h) (fun _ _ => False) y_Row_addMany.cls y_Row_addMany.name b_Row_addMany 4 ([] : List ExceptionTableEntry) none 0 [(0, .ref x0), (1, .int x1), (2, .long x2)] [] h bc bs
  obtain ⟨MC, hMC⟩ : ∃ x, x = bc := ⟨_, rfl⟩
  obtain ⟨MS, hMS⟩ : ∃ x, x = bs := ⟨_, rfl⟩
  rw [show xb_am l D A σ 4 bc bs = xb_am l D A σ 4 MC MS by rw [hMC, hMS]]
  obtain ⟨h0, hh0⟩ : ∃ x, x = h := ⟨_, rfl⟩
  rw [show xb_am l D A σ 4 MC MS h = xb_am l D A σ 4 MC MS h0 by rw [hh0]]
  intro p e s m args below meth c hC H locs ls k n hE hl hR hS hk hn
  obtain ⟨hx, hb, hown, hlocks, htab, hml, hr, hB, hA, hnm⟩ := id hC
  have hts := hB.1.1.at args
  refine lv_aload_n hx hb (xb_d D_Row_addMany 0 rfl) rfl (lv_at hl 0 rfl) ?_
  refine lv_aload_n hx hb (xb_d D_Row_addMany 1 rfl) rfl (lv_at hl 0 rfl) ?_
  obtain ⟨hk1, hw⟩ := hw
  refine xb_getI (C := R_Row) (T := F_Row) (N := 3) hx hb 1 1 hts fin_Row hown hR hk1 (by decide) rfl (by decide) rfl (hts _ m_2c4f5cfd) (fun _ h9 => h9) (xb_d D_Row_addMany 2 rfl) ?_
  refine lv_iload_n hx hb (xb_d D_Row_addMany 3 rfl) rfl (lv_at hl 1 rfl) ?_
  refine lv_iadd hx hb (xb_d D_Row_addMany 4 rfl) ?_
  obtain ⟨c4, sc4, hlc4, hlsc4, hw⟩ := hw
  refine xb_call (D := D) (A := A) (σ := σ) (h := h) (d := 3) (mc := c4) (ms := sc4) (maxL := 2) (rest := []) (av := [.ref x0, .int ((xb_i h x0 1) + x1)]) (fun T hT X => by obtain ⟨cb, r1, r2, r3⟩ := xb_recv (ci := 1) hR rfl hk1 (by decide); exact xt_invV X hx hown (hts _ m_cbb6e9b1) (hts _ m_624132aa) (hts _ m_74be88f7) (xt_sigOf (hts _ m_8b494096)) nm_Row_makeRoom (by rw [hT]; exact r1) r2 r3 (g := F0 m 7 ls [.int ((xb_i h x0 1) + x1), .ref x0]) rfl (argsL := [.int ((xb_i h x0 1) + x1)]) (rest := []) rfl rfl (by rw [hb]; exact (xb_d D_Row_addMany 5 rfl))) (ok_Row_makeRoom l hfl D A σ x0 ((xb_i h x0 1) + x1) h c4 sc4 _ hw) (hml.trans hl.1.symm) (by rw [hb]; exact (xb_d D_Row_addMany 5 rfl)) (Nat.le_of_ble_eq_true rfl) (Nat.le_of_ble_eq_true rfl) (Nat.le_of_ble_eq_true rfl) (show k + c4 ≤ MC by omega) (show n + sc4 ≤ MS by omega) (xt_w1 hB.1 m_8b494096) (xt_cdOf hB.1 m_8b494096) (hts _ m_c1bef504) hB hR hS hA (fun vv h2 H locs hq hEh2 hR hS => ?_) (fun XX ax h2 H locs hq hEh2 hex hR hS => ?_)
  · obtain ⟨rfl, hw⟩ := hq
    have hw := hw hEh2
    have hE := hE.tr hEh2
    refine W.eq (g2 := F0 m 10 ls []) rfl ?_
    refine lv_aload_n hx hb (xb_d D_Row_addMany 6 rfl) rfl (lv_at hl 0 rfl) ?_
    have hk1 : xb_k h2 x0 = 2 := hEh2.k hk1
    refine xb_getP (C := R_Row) (T := F_Row) (N := 3) hx hb 1 0 hts fin_Row hown hR hk1 (by decide) rfl (by decide) rfl (hts _ m_8e18d96c) (fun _ h9 => h9) (xb_d D_Row_addMany 7 rfl) ?_
    obtain ⟨b5, eb5, hw⟩ := hw
    refine xb_some eb5 ?_
    refine lv_aload_n hx hb (xb_d D_Row_addMany 8 rfl) rfl (lv_at hl 0 rfl) ?_
    refine xb_getI (C := R_Row) (T := F_Row) (N := 3) hx hb 1 1 hts fin_Row hown hR hk1 (by decide) rfl (by decide) rfl (hts _ m_2c4f5cfd) (fun _ h9 => h9) (xb_d D_Row_addMany 9 rfl) ?_
    refine lv_aload_n hx hb (xb_d D_Row_addMany 10 rfl) rfl (lv_at hl 0 rfl) ?_
    refine xb_getI (C := R_Row) (T := F_Row) (N := 3) hx hb 1 1 hts fin_Row hown hR hk1 (by decide) rfl (by decide) rfl (hts _ m_2c4f5cfd) (fun _ h9 => h9) (xb_d D_Row_addMany 11 rfl) ?_
    refine lv_iload_n hx hb (xb_d D_Row_addMany 12 rfl) rfl (lv_at hl 1 rfl) ?_
    refine lv_iadd hx hb (xb_d D_Row_addMany 13 rfl) ?_
    refine lv_lload_n hx hb (xb_d D_Row_addMany 14 rfl) rfl (lv_at hl 2 rfl) ?_
    refine xb_call (D := D) (A := A) (σ := σ) (h := h2) (d := 3) (mc := 0) (ms := 0) (maxL := 6) (rest := []) (av := [.ref b5, .int (xb_i h2 x0 1), .int ((xb_i h2 x0 1) + x1), .long x2]) (fun T hT X => xt_invS X hx hown (hts _ m_a6f16d11) (hts _ m_4775e2a5) (hts _ m_b999e92a) (xt_sgS (hts _ m_afc58b1e)).1 (xt_sgS (hts _ m_afc58b1e)).2 nm_Arrays_fill1 (g := F0 m 25 ls [.long x2, .int ((xb_i h2 x0 1) + x1), .int (xb_i h2 x0 1), .ref b5]) rfl (argsL := [.ref b5, .int (xb_i h2 x0 1), .int ((xb_i h2 x0 1) + x1), .long x2]) (rest := []) rfl rfl (by rw [hb]; exact (xb_d D_Row_addMany 15 rfl))) (ok_Arrays_fill1 l hfl D A σ b5 (xb_i h2 x0 1) ((xb_i h2 x0 1) + x1) x2 h2 _ hw) (hml.trans hl.1.symm) (by rw [hb]; exact (xb_d D_Row_addMany 15 rfl)) (Nat.le_of_ble_eq_true rfl) (Nat.le_of_ble_eq_true rfl) (Nat.le_of_ble_eq_true rfl) (show (k + c4) + 0 ≤ MC by omega) (show (n + sc4) + 0 ≤ MS by omega) (xt_w1 hB.1 m_afc58b1e) (xt_cdOf hB.1 m_afc58b1e) (hts _ m_b999e92a) hB hR hS hA (fun vv h6 H locs hq hEh6 hR hS => ?_) (fun XX ax h6 H locs hq hEh6 hex hR hS => ?_)
    · obtain ⟨rfl, hw⟩ := hq
      have hw := hw hEh6
      have hE := hE.tr hEh6
      refine W.eq (g2 := F0 m 28 ls []) rfl ?_
      refine lv_aload_n hx hb (xb_d D_Row_addMany 16 rfl) rfl (lv_at hl 0 rfl) ?_
      refine lv_dup hx hb (xb_d D_Row_addMany 17 rfl) rfl ?_
      have hk1 : xb_k h6 x0 = 2 := hEh6.k hk1
      refine xb_getI (C := R_Row) (T := F_Row) (N := 3) hx hb 1 1 hts fin_Row hown hR hk1 (by decide) rfl (by decide) rfl (hts _ m_2c4f5cfd) (fun _ h9 => h9) (xb_d D_Row_addMany 18 rfl) ?_
      refine lv_iload_n hx hb (xb_d D_Row_addMany 19 rfl) rfl (lv_at hl 1 rfl) ?_
      refine lv_iadd hx hb (xb_d D_Row_addMany 20 rfl) ?_
      refine xb_putI (C := R_Row) (T := F_Row) (N := 3) (ty := .int) (x := ((xb_i h6 x0 1) + x1)) hx hb 1 1 hts fin_Row t_Row t_Row_ok n_Row hown hR hS hk1 (by decide) rfl (by decide) rfl (hts _ m_2c4f5cfd) (fun _ h9 => h9) rfl (by decide +kernel) rfl rfl (xb_d D_Row_addMany 21 rfl) (fun H locs hR hS => ?_)
      obtain ⟨h8, eh8⟩ : ∃ x : xb_H, x = xb_I h6 x0 1 ((xb_i h6 x0 1) + x1) := ⟨_, rfl⟩
      rw [← eh8] at hR
      have hw := hw h8 eh8
      have hE : xb_ext h0 h8 := by rw [eh8]; exact hE
      exact xb_vret hx hb hr hlocks (show (k + c4) ≤ MC by omega) (show (n + sc4) ≤ MS by omega) hE hR hS (xb_d D_Row_addMany 22 rfl) hw
    · exact False.elim hq
  · exact False.elim hq

theorem m_60b311dc : (.methodLink "StackHost$StackModule" 92 y_Row_lines : Cond) ∈ xt_tbl := xt_in (xt_t6 (List.mem_of_getElem? (i := 160) (by decide +kernel))) (by decide +kernel)
theorem m_a1ab8b3b : (.methodLink "StackHost$StackModule" 96 y_StackModule_exportNamedBelow : Cond) ∈ xt_tbl := xt_in (xt_t6 (List.mem_of_getElem? (i := 161) (by decide +kernel))) (by decide +kernel)
set_option maxRecDepth 100000 in
def T_StackModule_exportNamed : List (Nat × Instr × Nat) := [(0, .aload_n 0, 1), (1, .aload_n 0, 1), (2, .getfield 35, 3), (5, .invokevirtual 92, 3), (8, .aload_n 1, 1), (9, .iload_n 2, 1), (10, .iload_n 3, 1), (11, .invokevirtual 96, 3), (14, .ireturn, 1)]
theorem D_StackModule_exportNamed : ∀ q ∈ T_StackModule_exportNamed, decode b_StackModule_exportNamed q.1 = .ok (q.2.1, q.2.2) := by decide +kernel
def w_StackModule_exportNamed (x0 : Nat) (x1 : Nat) (x2 : Int32) (x3 : Int32) (h : xb_H) (Qr : Int32 → xb_H → Prop) : Prop :=
    xb_k h x0 = 3 ∧ ∃ b2 : Nat, (xb_r h x0 8) = some b2 ∧ xb_k h b2 = 2 ∧ w_Row_lines b2 h (fun (r5 : Int32) (h4 : xb_H) => xb_ext h h4 → w_StackModule_exportNamedBelow x0 r5 x1 x2 x3 h4 (fun (r7 : Int32) (h6 : xb_H) => xb_ext h4 h6 → Qr r7 h6))

set_option maxHeartbeats 4000000 in
set_option maxRecDepth 100000 in
theorem ok_StackModule_exportNamed (l : Launch) (hfl : l.flags = pinnedFlags ++ [noTraceFlag]) (D : va_G) (A : Nat → Prop) (σ : Nat) (x0 : Nat) (x1 : Nat) (x2 : Int32) (x3 : Int32) (h : xb_H) (Qr : Int32 → xb_H → Prop) (hw : w_StackModule_exportNamed x0 x1 x2 x3 h Qr) : xt_Met l y_StackModule_exportNamed [.code y_StackModule_exportNamed b_StackModule_exportNamed 4 (some .int)] (xb_rm 4 0 0) (xb_Pc D A σ h [.ref x0, .ref x1, .int x2, .int x3]) (xb_Qc D A h (fun v h => ∃ r, v = some (.int r) ∧ Qr r h) (fun _ _ => False)) 0 0 A := by
  refine xb_ofAm (cc := b_StackModule_exportNamed) (by decide) (Nat.le_of_ble_eq_true rfl) ?_
  unfold w_StackModule_exportNamed at hw
  show xb_am l D A σ 4 0 0 h (fun v h => ∃ r, v = some (.int r) ∧ Qr r h) (fun _ _ => False) y_StackModule_exportNamed.cls y_StackModule_exportNamed.name b_StackModule_exportNamed 4 ([] : List ExceptionTableEntry) (some .int) 0 [(0, .ref x0), (1, .ref x1), (2, .int x2), (3, .int x3)] [] h 0 0
  obtain ⟨MC, hMC⟩ : ∃ x, x = 0 := ⟨_, rfl⟩
  obtain ⟨MS, hMS⟩ : ∃ x, x = 0 := ⟨_, rfl⟩
  rw [show xb_am l D A σ 4 0 0 = xb_am l D A σ 4 MC MS by rw [hMC, hMS]]
  obtain ⟨h0, hh0⟩ : ∃ x, x = h := ⟨_, rfl⟩
  rw [show xb_am l D A σ 4 MC MS h = xb_am l D A σ 4 MC MS h0 by rw [hh0]]
  intro p e s m args below meth c hC H locs ls k n hE hl hR hS hk hn
  obtain ⟨hx, hb, hown, hlocks, htab, hml, hr, hB, hA, hnm⟩ := id hC
  have hts := hB.1.1.at args
  refine lv_aload_n hx hb (xb_d D_StackModule_exportNamed 0 rfl) rfl (lv_at hl 0 rfl) ?_
  refine lv_aload_n hx hb (xb_d D_StackModule_exportNamed 1 rfl) rfl (lv_at hl 0 rfl) ?_
  obtain ⟨hk1, hw⟩ := hw
  refine xb_getP (C := R_StackModule) (T := F_StackModule) (N := 19) hx hb 2 8 hts fin_StackModule hown hR hk1 (by decide) rfl (by decide) rfl (hts _ m_d9eb608a) (fun _ h9 => h9) (xb_d D_StackModule_exportNamed 2 rfl) ?_
  obtain ⟨b2, eb2, hw⟩ := hw
  refine xb_some eb2 ?_
  obtain ⟨hk3, hw⟩ := hw
  refine xb_call (D := D) (A := A) (σ := σ) (h := h) (d := 2) (mc := 0) (ms := 0) (maxL := 1) (rest := [.ref x0]) (av := [.ref b2]) (fun T hT X => by obtain ⟨cb, r1, r2, r3⟩ := xb_recv (ci := 1) hR rfl hk3 (by decide); exact xt_invV X hx hown (hts _ m_60b311dc) (hts _ m_ded65609) (hts _ m_a4161156) (xt_sigOf (hts _ m_83ba3721)) nm_Row_lines (by rw [hT]; exact r1) r2 r3 (g := F0 m 5 ls [.ref b2, .ref x0]) rfl (argsL := []) (rest := [.ref x0]) rfl rfl (by rw [hb]; exact (xb_d D_StackModule_exportNamed 3 rfl))) (ok_Row_lines l hfl D A σ b2 h _ hw) (hml.trans hl.1.symm) (by rw [hb]; exact (xb_d D_StackModule_exportNamed 3 rfl)) (Nat.le_of_ble_eq_true rfl) (Nat.le_of_ble_eq_true rfl) (Nat.le_of_ble_eq_true rfl) (show k + 0 ≤ MC by omega) (show n + 0 ≤ MS by omega) (xt_w1 hB.1 m_83ba3721) (xt_cdOf hB.1 m_83ba3721) (hts _ m_c1bef504) hB hR hS hA (fun vv h4 H locs hq hEh4 hR hS => ?_) (fun XX ax h4 H locs hq hEh4 hex hR hS => ?_)
  · obtain ⟨r5, rfl, hw⟩ := hq
    have hw := hw hEh4
    have hE := hE.tr hEh4
    refine W.eq (g2 := F0 m 8 ls [.int r5, .ref x0]) rfl ?_
    refine lv_aload_n hx hb (xb_d D_StackModule_exportNamed 4 rfl) rfl (lv_at hl 1 rfl) ?_
    refine lv_iload_n hx hb (xb_d D_StackModule_exportNamed 5 rfl) rfl (lv_at hl 2 rfl) ?_
    refine lv_iload_n hx hb (xb_d D_StackModule_exportNamed 6 rfl) rfl (lv_at hl 3 rfl) ?_
    have hk1 : xb_k h4 x0 = 3 := hEh4.k hk1
    refine xb_call (D := D) (A := A) (σ := σ) (h := h4) (d := 3) (mc := 0) (ms := 0) (maxL := 6) (rest := []) (av := [.ref x0, .int r5, .ref x1, .int x2, .int x3]) (fun T hT X => by obtain ⟨cb, r1, r2, r3⟩ := xb_recv (ci := 2) hR rfl hk1 (by decide); exact xt_invV X hx hown (hts _ m_a1ab8b3b) (hts _ m_fc9f46d2) (hts _ m_c4e66bf2) (xt_sigOf (hts _ m_e88eaefc)) nm_StackModule_exportNamedBelow (by rw [hT]; exact r1) r2 r3 (g := F0 m 11 ls [.int x3, .int x2, .ref x1, .int r5, .ref x0]) rfl (argsL := [.int r5, .ref x1, .int x2, .int x3]) (rest := []) rfl rfl (by rw [hb]; exact (xb_d D_StackModule_exportNamed 7 rfl))) (ok_StackModule_exportNamedBelow l hfl D A σ x0 r5 x1 x2 x3 h4 _ hw) (hml.trans hl.1.symm) (by rw [hb]; exact (xb_d D_StackModule_exportNamed 7 rfl)) (Nat.le_of_ble_eq_true rfl) (Nat.le_of_ble_eq_true rfl) (Nat.le_of_ble_eq_true rfl) (show k + 0 ≤ MC by omega) (show n + 0 ≤ MS by omega) (xt_w1 hB.1 m_e88eaefc) (xt_cdOf hB.1 m_e88eaefc) (hts _ m_9c375545) hB hR hS hA (fun vv h6 H locs hq hEh6 hR hS => ?_) (fun XX ax h6 H locs hq hEh6 hex hR hS => ?_)
    · obtain ⟨r7, rfl, hw⟩ := hq
      have hw := hw hEh6
      have hE := hE.tr hEh6
      refine W.eq (g2 := F0 m 14 ls [.int r7]) rfl ?_
      exact xb_iret hx hb hr hlocks (show k ≤ MC by omega) (show n ≤ MS by omega) hE hR hS (xb_d D_StackModule_exportNamed 8 rfl) hw
    · exact False.elim hq
  · exact False.elim hq

theorem m_bd6e92b0 : (.methodLink "StackHost$Whole" 39 y_Whole_divideLong : Cond) ∈ xt_tbl := xt_in (xt_t8 (List.mem_of_getElem? (i := 206) (by decide +kernel))) (by decide +kernel)
theorem m_6938001e : (.static y_Whole_divideLong : Cond) ∈ xt_tbl := xt_in (xt_t8 (List.mem_of_getElem? (i := 207) (by decide +kernel))) (by decide +kernel)
theorem m_6bc45bcd : (.code y_Whole_divideLong b_Whole_divideLong 5 (some .long) : Cond) ∈ xt_tbl := xt_in (xt_t8 (List.mem_of_getElem? (i := 208) (by decide +kernel))) (by decide +kernel)
theorem nm_Whole_divideLong : xt_nm y_Whole_divideLong 3 := ⟨by decide +kernel, by decide +kernel⟩
set_option maxRecDepth 100000 in
def T_Whole_reckonLong : List (Nat × Instr × Nat) := [(0, .iload_n 0, 1), (1, .tableswitch 138 0 13 #[71, 75, 79, 83, 83, 83, 83, 100, 104, 108, 112, 117, 122, 127], 71), (72, .lload_n 1, 1), (73, .lload_n 3, 1), (74, .ladd, 1), (75, .lreturn, 1), (76, .lload_n 1, 1), (77, .lload_n 3, 1), (78, .lsub, 1), (79, .lreturn, 1), (80, .lload_n 1, 1), (81, .lload_n 3, 1), (82, .lmul, 1), (83, .lreturn, 1), (84, .lload_n 3, 1), (85, .lconst 0, 1), (86, .lcmp, 1), (87, .ifCond .ne 7, 3), (90, .lconst 0, 1), (91, .goto 9, 3), (94, .iload_n 0, 1), (95, .lload_n 1, 1), (96, .lload_n 3, 1), (97, .invokestatic 39, 3), (100, .lreturn, 1), (101, .lload_n 1, 1), (102, .lload_n 3, 1), (103, .land, 1), (104, .lreturn, 1), (105, .lload_n 1, 1), (106, .lload_n 3, 1), (107, .lor, 1), (108, .lreturn, 1), (109, .lload_n 1, 1), (110, .lload_n 3, 1), (111, .lxor, 1), (112, .lreturn, 1), (113, .lload_n 1, 1), (114, .lload_n 3, 1), (115, .l2i, 1), (116, .lshl, 1), (117, .lreturn, 1), (118, .lload_n 1, 1), (119, .lload_n 3, 1), (120, .l2i, 1), (121, .lshr, 1), (122, .lreturn, 1), (123, .lload_n 1, 1), (124, .lload_n 3, 1), (125, .l2i, 1), (126, .lushr, 1), (127, .lreturn, 1), (128, .lload_n 1, 1), (129, .lload_n 3, 1), (130, .l2i, 1), (131, .lshl, 1), (132, .lload_n 1, 1), (133, .lload_n 3, 1), (134, .lneg, 1), (135, .l2i, 1), (136, .lushr, 1), (137, .lor, 1), (138, .lreturn, 1), (139, .lload_n 1, 1), (140, .lload_n 3, 1), (141, .l2i, 1), (142, .lushr, 1), (143, .lload_n 1, 1), (144, .lload_n 3, 1), (145, .lneg, 1), (146, .l2i, 1), (147, .lshl, 1), (148, .lor, 1), (149, .lreturn, 1)]
theorem D_Whole_reckonLong : ∀ q ∈ T_Whole_reckonLong, decode b_Whole_reckonLong q.1 = .ok (q.2.1, q.2.2) := by decide +kernel
def w_Whole_reckonLong_L100 (Qr : Int64 → xb_H → Prop) (y0 : Int64) (h : xb_H) : Prop :=
    Qr y0 h

def w_Whole_reckonLong_L84 (Qr : Int64 → xb_H → Prop) (x0 : Int32) (x1 : Int64) (x3 : Int64) (h : xb_H) : Prop :=
    ((¬ x3 = (0 : Int64) → w_Whole_divideLong x0 x1 x3 h (fun (r3 : Int64) (h2 : xb_H) => xb_ext h h2 → w_Whole_reckonLong_L100 Qr r3 h2)) ∧ (x3 = (0 : Int64) → w_Whole_reckonLong_L100 Qr 0 h))

def w_Whole_reckonLong (x0 : Int32) (x1 : Int64) (x3 : Int64) (h : xb_H) (Qr : Int64 → xb_H → Prop) : Prop :=
    ((x0 = 0 → Qr (x1 + x3) h) ∧ (x0 = 1 → Qr (x1 - x3) h) ∧ (x0 = 2 → Qr (x1 * x3) h) ∧ (x0 = 3 → w_Whole_reckonLong_L84 Qr x0 x1 x3 h) ∧ (x0 = 4 → w_Whole_reckonLong_L84 Qr x0 x1 x3 h) ∧ (x0 = 5 → w_Whole_reckonLong_L84 Qr x0 x1 x3 h) ∧ (x0 = 6 → w_Whole_reckonLong_L84 Qr x0 x1 x3 h) ∧ (x0 = 7 → Qr (x1 &&& x3) h) ∧ (x0 = 8 → Qr (x1 ||| x3) h) ∧ (x0 = 9 → Qr (x1 ^^^ x3) h) ∧ (x0 = 10 → Qr (xb_lshl x1 (Int64.toInt32 x3)) h) ∧ (x0 = 11 → Qr (xb_lshr x1 (Int64.toInt32 x3)) h) ∧ (x0 = 12 → Qr (xb_lushr x1 (Int64.toInt32 x3)) h) ∧ (x0 = 13 → Qr ((xb_lshl x1 (Int64.toInt32 x3)) ||| (xb_lushr x1 (Int64.toInt32 (-x3)))) h) ∧ (¬ x0 = 0 → ¬ x0 = 1 → ¬ x0 = 2 → ¬ x0 = 3 → ¬ x0 = 4 → ¬ x0 = 5 → ¬ x0 = 6 → ¬ x0 = 7 → ¬ x0 = 8 → ¬ x0 = 9 → ¬ x0 = 10 → ¬ x0 = 11 → ¬ x0 = 12 → ¬ x0 = 13 → Qr ((xb_lushr x1 (Int64.toInt32 x3)) ||| (xb_lshl x1 (Int64.toInt32 (-x3)))) h))

set_option maxHeartbeats 4000000 in
set_option maxRecDepth 100000 in
theorem am_Whole_reckonLong_L100 (l : Launch) (hfl : l.flags = pinnedFlags ++ [noTraceFlag]) (D : va_G) (A : Nat → Prop) (σ MC MS : Nat) (h0 : xb_H) (Qr : Int64 → xb_H → Prop) (y0 : Int64) (h : xb_H) (hw : w_Whole_reckonLong_L100 Qr y0 h) : xb_am l D A σ 4 MC MS h0 (fun v h => ∃ r, v = some (.long r) ∧ Qr r h) (fun _ _ => False) y_Whole_reckonLong.cls y_Whole_reckonLong.name b_Whole_reckonLong 5 ([] : List ExceptionTableEntry) (some .long) 100 [] [.long y0] h 0 0 := by
  unfold w_Whole_reckonLong_L100 at hw
  intro p e s m args below meth c hC H locs ls k n hE hl hR hS hk hn
  obtain ⟨hx, hb, hown, hlocks, htab, hml, hr, hB, hA, hnm⟩ := id hC
  have hts := hB.1.1.at args
  exact xb_lret hx hb hr hlocks (show k ≤ MC by omega) (show n ≤ MS by omega) hE hR hS (xb_d D_Whole_reckonLong 24 rfl) hw

set_option maxHeartbeats 4000000 in
set_option maxRecDepth 100000 in
theorem am_Whole_reckonLong_L84 (l : Launch) (hfl : l.flags = pinnedFlags ++ [noTraceFlag]) (D : va_G) (A : Nat → Prop) (σ MC MS : Nat) (h0 : xb_H) (Qr : Int64 → xb_H → Prop) (x0 : Int32) (x1 : Int64) (x3 : Int64) (h : xb_H) (hw : w_Whole_reckonLong_L84 Qr x0 x1 x3 h) : xb_am l D A σ 4 MC MS h0 (fun v h => ∃ r, v = some (.long r) ∧ Qr r h) (fun _ _ => False) y_Whole_reckonLong.cls y_Whole_reckonLong.name b_Whole_reckonLong 5 ([] : List ExceptionTableEntry) (some .long) 84 [(0, .int x0), (1, .long x1), (3, .long x3)] [] h 0 0 := by
  unfold w_Whole_reckonLong_L84 at hw
  intro p e s m args below meth c hC H locs ls k n hE hl hR hS hk hn
  obtain ⟨hx, hb, hown, hlocks, htab, hml, hr, hB, hA, hnm⟩ := id hC
  have hts := hB.1.1.at args
  refine lv_lload_n hx hb (xb_d D_Whole_reckonLong 14 rfl) rfl (lv_at hl 2 rfl) ?_
  refine lv_lconst (v := 0) hx hb (xb_d D_Whole_reckonLong 15 rfl) (by decide) ?_
  refine xb_lc_ne (tgt := 94) hx hb (xb_d D_Whole_reckonLong 16 rfl) (xb_d D_Whole_reckonLong 17 rfl) rfl (fun hc1 => ?_) (fun hc1 => ?_)
  · have hw := hw.1 hc1
    refine lv_iload_n hx hb (xb_d D_Whole_reckonLong 20 rfl) rfl (lv_at hl 0 rfl) ?_
    refine lv_lload_n hx hb (xb_d D_Whole_reckonLong 21 rfl) rfl (lv_at hl 1 rfl) ?_
    refine lv_lload_n hx hb (xb_d D_Whole_reckonLong 22 rfl) rfl (lv_at hl 2 rfl) ?_
    refine xb_call (D := D) (A := A) (σ := σ) (h := h) (d := 3) (mc := 0) (ms := 0) (maxL := 5) (rest := []) (av := [.int x0, .long x1, .long x3]) (fun T hT X => xt_invS X hx hown (hts _ m_bd6e92b0) (hts _ m_6938001e) (hts _ m_912e4ef6) (xt_sgS (hts _ m_6bc45bcd)).1 (xt_sgS (hts _ m_6bc45bcd)).2 nm_Whole_divideLong (g := F0 m 97 ls [.long x3, .long x1, .int x0]) rfl (argsL := [.int x0, .long x1, .long x3]) (rest := []) rfl rfl (by rw [hb]; exact (xb_d D_Whole_reckonLong 23 rfl))) (ok_Whole_divideLong l hfl D A σ x0 x1 x3 h _ hw) (hml.trans hl.1.symm) (by rw [hb]; exact (xb_d D_Whole_reckonLong 23 rfl)) (Nat.le_of_ble_eq_true rfl) (Nat.le_of_ble_eq_true rfl) (Nat.le_of_ble_eq_true rfl) (show k + 0 ≤ MC by omega) (show n + 0 ≤ MS by omega) (xt_w1 hB.1 m_6bc45bcd) (xt_cdOf hB.1 m_6bc45bcd) (hts _ m_912e4ef6) hB hR hS hA (fun vv h2 H locs hq hEh2 hR hS => ?_) (fun XX ax h2 H locs hq hEh2 hex hR hS => ?_)
    · obtain ⟨r3, rfl, hw⟩ := hq
      have hw := hw hEh2
      have hE := hE.tr hEh2
      refine W.eq (g2 := F0 m 100 ls [.long r3]) rfl ?_
      exact am_Whole_reckonLong_L100 l hfl D A σ MC MS h0 Qr r3 h2 hw p e s m args below meth c hC H locs ls k n hE (lv_sub hl [] rfl) hR hS (by omega) (by omega)
    · exact False.elim hq
  · have hw := hw.2 hc1
    refine lv_lconst (v := 0) hx hb (xb_d D_Whole_reckonLong 18 rfl) (by decide) ?_
    refine lv_goto (tgt := 100) hx hb (xb_d D_Whole_reckonLong 19 rfl) rfl ?_
    exact am_Whole_reckonLong_L100 l hfl D A σ MC MS h0 Qr 0 h hw p e s m args below meth c hC H locs ls k n hE (lv_sub hl [] rfl) hR hS (by omega) (by omega)

set_option maxHeartbeats 4000000 in
set_option maxRecDepth 100000 in
theorem ok_Whole_reckonLong (l : Launch) (hfl : l.flags = pinnedFlags ++ [noTraceFlag]) (D : va_G) (A : Nat → Prop) (σ : Nat) (x0 : Int32) (x1 : Int64) (x3 : Int64) (h : xb_H) (Qr : Int64 → xb_H → Prop) (hw : w_Whole_reckonLong x0 x1 x3 h Qr) : xt_Met l y_Whole_reckonLong [.code y_Whole_reckonLong b_Whole_reckonLong 5 (some .long)] (xb_rm 4 0 0) (xb_Pc D A σ h [.int x0, .long x1, .long x3]) (xb_Qc D A h (fun v h => ∃ r, v = some (.long r) ∧ Qr r h) (fun _ _ => False)) 0 0 A := by
  refine xb_ofAm (cc := b_Whole_reckonLong) (by decide) (Nat.le_of_ble_eq_true rfl) ?_
  unfold w_Whole_reckonLong at hw
  show xb_am l D A σ 4 0 0 h (fun v h => ∃ r, v = some (.long r) ∧ Qr r h) (fun _ _ => False) y_Whole_reckonLong.cls y_Whole_reckonLong.name b_Whole_reckonLong 5 ([] : List ExceptionTableEntry) (some .long) 0 [(0, .int x0), (1, .long x1), (3, .long x3)] [] h 0 0
  obtain ⟨MC, hMC⟩ : ∃ x, x = 0 := ⟨_, rfl⟩
  obtain ⟨MS, hMS⟩ : ∃ x, x = 0 := ⟨_, rfl⟩
  rw [show xb_am l D A σ 4 0 0 = xb_am l D A σ 4 MC MS by rw [hMC, hMS]]
  obtain ⟨h0, hh0⟩ : ∃ x, x = h := ⟨_, rfl⟩
  rw [show xb_am l D A σ 4 MC MS h = xb_am l D A σ 4 MC MS h0 by rw [hh0]]
  intro p e s m args below meth c hC H locs ls k n hE hl hR hS hk hn
  obtain ⟨hx, hb, hown, hlocks, htab, hml, hr, hB, hA, hnm⟩ := id hC
  have hts := hB.1.1.at args
  refine lv_iload_n hx hb (xb_d D_Whole_reckonLong 0 rfl) rfl (lv_at hl 0 rfl) ?_
  by_cases hc1 : x0 = 0
  · have hw := hw.1 hc1
    refine xt_numi hc1 ?_
    refine lv_tableIn (off := 71) (tgt := 72) hx hb (xb_d D_Whole_reckonLong 1 rfl) (by decide +kernel) (by decide +kernel) (by decide +kernel) (by decide) ?_
    refine lv_lload_n hx hb (xb_d D_Whole_reckonLong 2 rfl) rfl (lv_at hl 1 rfl) ?_
    refine lv_lload_n hx hb (xb_d D_Whole_reckonLong 3 rfl) rfl (lv_at hl 2 rfl) ?_
    refine lv_ladd hx hb (xb_d D_Whole_reckonLong 4 rfl) ?_
    exact xb_lret hx hb hr hlocks (show k ≤ MC by omega) (show n ≤ MS by omega) hE hR hS (xb_d D_Whole_reckonLong 5 rfl) hw
  have hw := hw.2
  by_cases hc2 : x0 = 1
  · have hw := hw.1 hc2
    refine xt_numi hc2 ?_
    refine lv_tableIn (off := 75) (tgt := 76) hx hb (xb_d D_Whole_reckonLong 1 rfl) (by decide +kernel) (by decide +kernel) (by decide +kernel) (by decide) ?_
    refine lv_lload_n hx hb (xb_d D_Whole_reckonLong 6 rfl) rfl (lv_at hl 1 rfl) ?_
    refine lv_lload_n hx hb (xb_d D_Whole_reckonLong 7 rfl) rfl (lv_at hl 2 rfl) ?_
    refine lv_lsub hx hb (xb_d D_Whole_reckonLong 8 rfl) ?_
    exact xb_lret hx hb hr hlocks (show k ≤ MC by omega) (show n ≤ MS by omega) hE hR hS (xb_d D_Whole_reckonLong 9 rfl) hw
  have hw := hw.2
  by_cases hc3 : x0 = 2
  · have hw := hw.1 hc3
    refine xt_numi hc3 ?_
    refine lv_tableIn (off := 79) (tgt := 80) hx hb (xb_d D_Whole_reckonLong 1 rfl) (by decide +kernel) (by decide +kernel) (by decide +kernel) (by decide) ?_
    refine lv_lload_n hx hb (xb_d D_Whole_reckonLong 10 rfl) rfl (lv_at hl 1 rfl) ?_
    refine lv_lload_n hx hb (xb_d D_Whole_reckonLong 11 rfl) rfl (lv_at hl 2 rfl) ?_
    refine lv_lmul hx hb (xb_d D_Whole_reckonLong 12 rfl) ?_
    exact xb_lret hx hb hr hlocks (show k ≤ MC by omega) (show n ≤ MS by omega) hE hR hS (xb_d D_Whole_reckonLong 13 rfl) hw
  have hw := hw.2
  by_cases hc4 : x0 = 3
  · have hw := hw.1 hc4
    refine xt_numi hc4 ?_
    refine lv_tableIn (off := 83) (tgt := 84) hx hb (xb_d D_Whole_reckonLong 1 rfl) (by decide +kernel) (by decide +kernel) (by decide +kernel) (by decide) ?_
    exact am_Whole_reckonLong_L84 l hfl D A σ MC MS h0 Qr x0 x1 x3 h hw p e s m args below meth c hC H locs ls k n hE (lv_sub hl [0, 1, 2] rfl) hR hS (by omega) (by omega)
  have hw := hw.2
  by_cases hc5 : x0 = 4
  · have hw := hw.1 hc5
    refine xt_numi hc5 ?_
    refine lv_tableIn (off := 83) (tgt := 84) hx hb (xb_d D_Whole_reckonLong 1 rfl) (by decide +kernel) (by decide +kernel) (by decide +kernel) (by decide) ?_
    exact am_Whole_reckonLong_L84 l hfl D A σ MC MS h0 Qr x0 x1 x3 h hw p e s m args below meth c hC H locs ls k n hE (lv_sub hl [0, 1, 2] rfl) hR hS (by omega) (by omega)
  have hw := hw.2
  by_cases hc6 : x0 = 5
  · have hw := hw.1 hc6
    refine xt_numi hc6 ?_
    refine lv_tableIn (off := 83) (tgt := 84) hx hb (xb_d D_Whole_reckonLong 1 rfl) (by decide +kernel) (by decide +kernel) (by decide +kernel) (by decide) ?_
    exact am_Whole_reckonLong_L84 l hfl D A σ MC MS h0 Qr x0 x1 x3 h hw p e s m args below meth c hC H locs ls k n hE (lv_sub hl [0, 1, 2] rfl) hR hS (by omega) (by omega)
  have hw := hw.2
  by_cases hc7 : x0 = 6
  · have hw := hw.1 hc7
    refine xt_numi hc7 ?_
    refine lv_tableIn (off := 83) (tgt := 84) hx hb (xb_d D_Whole_reckonLong 1 rfl) (by decide +kernel) (by decide +kernel) (by decide +kernel) (by decide) ?_
    exact am_Whole_reckonLong_L84 l hfl D A σ MC MS h0 Qr x0 x1 x3 h hw p e s m args below meth c hC H locs ls k n hE (lv_sub hl [0, 1, 2] rfl) hR hS (by omega) (by omega)
  have hw := hw.2
  by_cases hc8 : x0 = 7
  · have hw := hw.1 hc8
    refine xt_numi hc8 ?_
    refine lv_tableIn (off := 100) (tgt := 101) hx hb (xb_d D_Whole_reckonLong 1 rfl) (by decide +kernel) (by decide +kernel) (by decide +kernel) (by decide) ?_
    refine lv_lload_n hx hb (xb_d D_Whole_reckonLong 25 rfl) rfl (lv_at hl 1 rfl) ?_
    refine lv_lload_n hx hb (xb_d D_Whole_reckonLong 26 rfl) rfl (lv_at hl 2 rfl) ?_
    refine lv_land hx hb (xb_d D_Whole_reckonLong 27 rfl) ?_
    exact xb_lret hx hb hr hlocks (show k ≤ MC by omega) (show n ≤ MS by omega) hE hR hS (xb_d D_Whole_reckonLong 28 rfl) hw
  have hw := hw.2
  by_cases hc9 : x0 = 8
  · have hw := hw.1 hc9
    refine xt_numi hc9 ?_
    refine lv_tableIn (off := 104) (tgt := 105) hx hb (xb_d D_Whole_reckonLong 1 rfl) (by decide +kernel) (by decide +kernel) (by decide +kernel) (by decide) ?_
    refine lv_lload_n hx hb (xb_d D_Whole_reckonLong 29 rfl) rfl (lv_at hl 1 rfl) ?_
    refine lv_lload_n hx hb (xb_d D_Whole_reckonLong 30 rfl) rfl (lv_at hl 2 rfl) ?_
    refine lv_lor hx hb (xb_d D_Whole_reckonLong 31 rfl) ?_
    exact xb_lret hx hb hr hlocks (show k ≤ MC by omega) (show n ≤ MS by omega) hE hR hS (xb_d D_Whole_reckonLong 32 rfl) hw
  have hw := hw.2
  by_cases hc10 : x0 = 9
  · have hw := hw.1 hc10
    refine xt_numi hc10 ?_
    refine lv_tableIn (off := 108) (tgt := 109) hx hb (xb_d D_Whole_reckonLong 1 rfl) (by decide +kernel) (by decide +kernel) (by decide +kernel) (by decide) ?_
    refine lv_lload_n hx hb (xb_d D_Whole_reckonLong 33 rfl) rfl (lv_at hl 1 rfl) ?_
    refine lv_lload_n hx hb (xb_d D_Whole_reckonLong 34 rfl) rfl (lv_at hl 2 rfl) ?_
    refine lv_lxor hx hb (xb_d D_Whole_reckonLong 35 rfl) ?_
    exact xb_lret hx hb hr hlocks (show k ≤ MC by omega) (show n ≤ MS by omega) hE hR hS (xb_d D_Whole_reckonLong 36 rfl) hw
  have hw := hw.2
  by_cases hc11 : x0 = 10
  · have hw := hw.1 hc11
    refine xt_numi hc11 ?_
    refine lv_tableIn (off := 112) (tgt := 113) hx hb (xb_d D_Whole_reckonLong 1 rfl) (by decide +kernel) (by decide +kernel) (by decide +kernel) (by decide) ?_
    refine lv_lload_n hx hb (xb_d D_Whole_reckonLong 37 rfl) rfl (lv_at hl 1 rfl) ?_
    refine lv_lload_n hx hb (xb_d D_Whole_reckonLong 38 rfl) rfl (lv_at hl 2 rfl) ?_
    refine lv_l2i hx hb (xb_d D_Whole_reckonLong 39 rfl) rfl ?_
    refine lv_lshl (v := (xb_lshl x1 (Int64.toInt32 x3))) hx hb (xb_d D_Whole_reckonLong 40 rfl) rfl ?_
    exact xb_lret hx hb hr hlocks (show k ≤ MC by omega) (show n ≤ MS by omega) hE hR hS (xb_d D_Whole_reckonLong 41 rfl) hw
  have hw := hw.2
  by_cases hc12 : x0 = 11
  · have hw := hw.1 hc12
    refine xt_numi hc12 ?_
    refine lv_tableIn (off := 117) (tgt := 118) hx hb (xb_d D_Whole_reckonLong 1 rfl) (by decide +kernel) (by decide +kernel) (by decide +kernel) (by decide) ?_
    refine lv_lload_n hx hb (xb_d D_Whole_reckonLong 42 rfl) rfl (lv_at hl 1 rfl) ?_
    refine lv_lload_n hx hb (xb_d D_Whole_reckonLong 43 rfl) rfl (lv_at hl 2 rfl) ?_
    refine lv_l2i hx hb (xb_d D_Whole_reckonLong 44 rfl) rfl ?_
    refine lv_lshr (v := (xb_lshr x1 (Int64.toInt32 x3))) hx hb (xb_d D_Whole_reckonLong 45 rfl) rfl ?_
    exact xb_lret hx hb hr hlocks (show k ≤ MC by omega) (show n ≤ MS by omega) hE hR hS (xb_d D_Whole_reckonLong 46 rfl) hw
  have hw := hw.2
  by_cases hc13 : x0 = 12
  · have hw := hw.1 hc13
    refine xt_numi hc13 ?_
    refine lv_tableIn (off := 122) (tgt := 123) hx hb (xb_d D_Whole_reckonLong 1 rfl) (by decide +kernel) (by decide +kernel) (by decide +kernel) (by decide) ?_
    refine lv_lload_n hx hb (xb_d D_Whole_reckonLong 47 rfl) rfl (lv_at hl 1 rfl) ?_
    refine lv_lload_n hx hb (xb_d D_Whole_reckonLong 48 rfl) rfl (lv_at hl 2 rfl) ?_
    refine lv_l2i hx hb (xb_d D_Whole_reckonLong 49 rfl) rfl ?_
    refine lv_lushr (v := (xb_lushr x1 (Int64.toInt32 x3))) hx hb (xb_d D_Whole_reckonLong 50 rfl) rfl ?_
    exact xb_lret hx hb hr hlocks (show k ≤ MC by omega) (show n ≤ MS by omega) hE hR hS (xb_d D_Whole_reckonLong 51 rfl) hw
  have hw := hw.2
  by_cases hc14 : x0 = 13
  · have hw := hw.1 hc14
    refine xt_numi hc14 ?_
    refine lv_tableIn (off := 127) (tgt := 128) hx hb (xb_d D_Whole_reckonLong 1 rfl) (by decide +kernel) (by decide +kernel) (by decide +kernel) (by decide) ?_
    refine lv_lload_n hx hb (xb_d D_Whole_reckonLong 52 rfl) rfl (lv_at hl 1 rfl) ?_
    refine lv_lload_n hx hb (xb_d D_Whole_reckonLong 53 rfl) rfl (lv_at hl 2 rfl) ?_
    refine lv_l2i hx hb (xb_d D_Whole_reckonLong 54 rfl) rfl ?_
    refine lv_lshl (v := (xb_lshl x1 (Int64.toInt32 x3))) hx hb (xb_d D_Whole_reckonLong 55 rfl) rfl ?_
    refine lv_lload_n hx hb (xb_d D_Whole_reckonLong 56 rfl) rfl (lv_at hl 1 rfl) ?_
    refine lv_lload_n hx hb (xb_d D_Whole_reckonLong 57 rfl) rfl (lv_at hl 2 rfl) ?_
    refine lv_lneg hx hb (xb_d D_Whole_reckonLong 58 rfl) ?_
    refine lv_l2i hx hb (xb_d D_Whole_reckonLong 59 rfl) rfl ?_
    refine lv_lushr (v := (xb_lushr x1 (Int64.toInt32 (-x3)))) hx hb (xb_d D_Whole_reckonLong 60 rfl) rfl ?_
    refine lv_lor hx hb (xb_d D_Whole_reckonLong 61 rfl) ?_
    exact xb_lret hx hb hr hlocks (show k ≤ MC by omega) (show n ≤ MS by omega) hE hR hS (xb_d D_Whole_reckonLong 62 rfl) hw
  have hw := hw.2
  have hw := hw hc1 hc2 hc3 hc4 hc5 hc6 hc7 hc8 hc9 hc10 hc11 hc12 hc13 hc14
  refine lv_tableOut (tgt := 139) hx hb (xb_d D_Whole_reckonLong 1 rfl) (by have a0 := xb_nl (0) 0 (by decide) hc1; have a1 := xb_nl (1) 1 (by decide) hc2; have a2 := xb_nl (2) 2 (by decide) hc3; have a3 := xb_nl (3) 3 (by decide) hc4; have a4 := xb_nl (4) 4 (by decide) hc5; have a5 := xb_nl (5) 5 (by decide) hc6; have a6 := xb_nl (6) 6 (by decide) hc7; have a7 := xb_nl (7) 7 (by decide) hc8; have a8 := xb_nl (8) 8 (by decide) hc9; have a9 := xb_nl (9) 9 (by decide) hc10; have a10 := xb_nl (10) 10 (by decide) hc11; have a11 := xb_nl (11) 11 (by decide) hc12; have a12 := xb_nl (12) 12 (by decide) hc13; have a13 := xb_nl (13) 13 (by decide) hc14; omega) (by decide) ?_
  refine lv_lload_n hx hb (xb_d D_Whole_reckonLong 63 rfl) rfl (lv_at hl 1 rfl) ?_
  refine lv_lload_n hx hb (xb_d D_Whole_reckonLong 64 rfl) rfl (lv_at hl 2 rfl) ?_
  refine lv_l2i hx hb (xb_d D_Whole_reckonLong 65 rfl) rfl ?_
  refine lv_lushr (v := (xb_lushr x1 (Int64.toInt32 x3))) hx hb (xb_d D_Whole_reckonLong 66 rfl) rfl ?_
  refine lv_lload_n hx hb (xb_d D_Whole_reckonLong 67 rfl) rfl (lv_at hl 1 rfl) ?_
  refine lv_lload_n hx hb (xb_d D_Whole_reckonLong 68 rfl) rfl (lv_at hl 2 rfl) ?_
  refine lv_lneg hx hb (xb_d D_Whole_reckonLong 69 rfl) ?_
  refine lv_l2i hx hb (xb_d D_Whole_reckonLong 70 rfl) rfl ?_
  refine lv_lshl (v := (xb_lshl x1 (Int64.toInt32 (-x3)))) hx hb (xb_d D_Whole_reckonLong 71 rfl) rfl ?_
  refine lv_lor hx hb (xb_d D_Whole_reckonLong 72 rfl) ?_
  exact xb_lret hx hb hr hlocks (show k ≤ MC by omega) (show n ≤ MS by omega) hE hR hS (xb_d D_Whole_reckonLong 73 rfl) hw

theorem m_0dd66e73 : (.fieldLink "StackHost$World" 98 "StackHost$World" "foundMemory" "LStackHost$Memory;" : Cond) ∈ xt_tbl := xt_in (xt_t1 (List.mem_of_getElem? (i := 196) (by decide +kernel))) (by decide +kernel)
theorem m_b7b853d9 : (.fieldLink "StackHost$World" 216 "StackHost$StackModule" "memories" "LStackHost$Row;" : Cond) ∈ xt_tbl := xt_in (xt_t3 (List.mem_of_getElem? (i := 79) (by decide +kernel))) (by decide +kernel)
theorem m_aaaefe3c : (.methodLink "StackHost$World" 249 y_World_ownLeast : Cond) ∈ xt_tbl := xt_in (xt_t6 (List.mem_of_getElem? (i := 190) (by decide +kernel))) (by decide +kernel)
theorem m_e4859522 : (.static y_World_ownLeast : Cond) ∈ xt_tbl := xt_in (xt_t6 (List.mem_of_getElem? (i := 191) (by decide +kernel))) (by decide +kernel)
theorem m_c12fcdc9 : (.code y_World_ownLeast b_World_ownLeast 3 (some .long) : Cond) ∈ xt_tbl := xt_in (xt_t6 (List.mem_of_getElem? (i := 192) (by decide +kernel))) (by decide +kernel)
theorem m_281426cf : (.constantLong "StackHost$World" 263 65536 : Cond) ∈ xt_tbl := xt_in (xt_t6 (List.mem_of_getElem? (i := 229) (by decide +kernel))) (by decide +kernel)
theorem m_365e6e69 : (.methodLink "StackHost$World" 260 y_Memory_bytes : Cond) ∈ xt_tbl := xt_in (xt_t6 (List.mem_of_getElem? (i := 224) (by decide +kernel))) (by decide +kernel)
theorem nm_World_ownLeast : xt_nm y_World_ownLeast 3 := ⟨by decide +kernel, by decide +kernel⟩
set_option maxRecDepth 100000 in
def T_World_bytesOf : List (Nat × Instr × Nat) := [(0, .aload_n 0, 1), (1, .getfield 98, 3), (4, .ifnull 14, 3), (7, .aload_n 0, 1), (8, .getfield 98, 3), (11, .invokevirtual 260, 3), (14, .i2l, 1), (15, .goto 16, 3), (18, .aload_n 1, 1), (19, .aload_n 1, 1), (20, .getfield 216, 3), (23, .iconst 2, 1), (24, .invokestatic 249, 3), (27, .ldc2_w 263, 3), (30, .lmul, 1), (31, .lreturn, 1)]
theorem D_World_bytesOf : ∀ q ∈ T_World_bytesOf, decode b_World_bytesOf q.1 = .ok (q.2.1, q.2.2) := by decide +kernel
def w_World_bytesOf_L31 (Qr : Int64 → xb_H → Prop) (y0 : Int64) (h : xb_H) : Prop :=
    Qr y0 h

def w_World_bytesOf (x0 : Nat) (x1 : Nat) (h : xb_H) (Qr : Int64 → xb_H → Prop) : Prop :=
    xb_k h x0 = 7 ∧ (((xb_r h x0 15) = none → xb_k h x1 = 3 ∧ ∃ b4 : Nat, (xb_r h x1 6) = some b4 ∧ w_World_ownLeast x1 b4 2 h (fun (r6 : Int64) (h5 : xb_H) => xb_ext h h5 → w_World_bytesOf_L31 Qr (r6 * 65536) h5)) ∧ (∀ b2 : Nat, (xb_r h x0 15) = some b2 → ∃ b7 : Nat, (xb_r h x0 15) = some b7 ∧ xb_k h b7 = 13 ∧ w_Memory_bytes b7 h (fun (r10 : Int32) (h9 : xb_H) => xb_ext h h9 → w_World_bytesOf_L31 Qr (Int32.toInt64 r10) h9)))

set_option maxHeartbeats 4000000 in
set_option maxRecDepth 100000 in
theorem am_World_bytesOf_L31 (l : Launch) (hfl : l.flags = pinnedFlags ++ [noTraceFlag]) (D : va_G) (A : Nat → Prop) (σ MC MS : Nat) (h0 : xb_H) (Qr : Int64 → xb_H → Prop) (y0 : Int64) (h : xb_H) (hw : w_World_bytesOf_L31 Qr y0 h) : xb_am l D A σ 4 MC MS h0 (fun v h => ∃ r, v = some (.long r) ∧ Qr r h) (fun _ _ => False) y_World_bytesOf.cls y_World_bytesOf.name b_World_bytesOf 2 ([] : List ExceptionTableEntry) (some .long) 31 [] [.long y0] h 0 0 := by
  unfold w_World_bytesOf_L31 at hw
  intro p e s m args below meth c hC H locs ls k n hE hl hR hS hk hn
  obtain ⟨hx, hb, hown, hlocks, htab, hml, hr, hB, hA, hnm⟩ := id hC
  have hts := hB.1.1.at args
  exact xb_lret hx hb hr hlocks (show k ≤ MC by omega) (show n ≤ MS by omega) hE hR hS (xb_d D_World_bytesOf 15 rfl) hw

set_option maxHeartbeats 4000000 in
set_option maxRecDepth 100000 in
theorem ok_World_bytesOf (l : Launch) (hfl : l.flags = pinnedFlags ++ [noTraceFlag]) (D : va_G) (A : Nat → Prop) (σ : Nat) (x0 : Nat) (x1 : Nat) (h : xb_H) (Qr : Int64 → xb_H → Prop) (hw : w_World_bytesOf x0 x1 h Qr) : xt_Met l y_World_bytesOf [.code y_World_bytesOf b_World_bytesOf 2 (some .long)] (xb_rm 4 0 0) (xb_Pc D A σ h [.ref x0, .ref x1]) (xb_Qc D A h (fun v h => ∃ r, v = some (.long r) ∧ Qr r h) (fun _ _ => False)) 0 0 A := by
  refine xb_ofAm (cc := b_World_bytesOf) (by decide) (Nat.le_of_ble_eq_true rfl) ?_
  unfold w_World_bytesOf at hw
  show xb_am l D A σ 4 0 0 h (fun v h => ∃ r, v = some (.long r) ∧ Qr r h) (fun _ _ => False) y_World_bytesOf.cls y_World_bytesOf.name b_World_bytesOf 2 ([] : List ExceptionTableEntry) (some .long) 0 [(0, .ref x0), (1, .ref x1)] [] h 0 0
  obtain ⟨MC, hMC⟩ : ∃ x, x = 0 := ⟨_, rfl⟩
  obtain ⟨MS, hMS⟩ : ∃ x, x = 0 := ⟨_, rfl⟩
  rw [show xb_am l D A σ 4 0 0 = xb_am l D A σ 4 MC MS by rw [hMC, hMS]]
  obtain ⟨h0, hh0⟩ : ∃ x, x = h := ⟨_, rfl⟩
  rw [show xb_am l D A σ 4 MC MS h = xb_am l D A σ 4 MC MS h0 by rw [hh0]]
  intro p e s m args below meth c hC H locs ls k n hE hl hR hS hk hn
  obtain ⟨hx, hb, hown, hlocks, htab, hml, hr, hB, hA, hnm⟩ := id hC
  have hts := hB.1.1.at args
  refine lv_aload_n hx hb (xb_d D_World_bytesOf 0 rfl) rfl (lv_at hl 0 rfl) ?_
  obtain ⟨hk1, hw⟩ := hw
  refine xb_getP (C := R_World) (T := F_World) (N := 16) hx hb 6 15 hts fin_World hown hR hk1 (by decide) rfl (by decide) rfl (hts _ m_0dd66e73) (fun _ h9 => h9) (xb_d D_World_bytesOf 1 rfl) ?_
  refine xb_split (fun ho => ?_) (fun b2 ho => ?_)
  · have hw := hw.1 ho
    refine lv_ifnullN (tgt := 18) hx hb (xb_d D_World_bytesOf 2 rfl) rfl ?_
    refine lv_aload_n hx hb (xb_d D_World_bytesOf 8 rfl) rfl (lv_at hl 1 rfl) ?_
    refine lv_aload_n hx hb (xb_d D_World_bytesOf 9 rfl) rfl (lv_at hl 1 rfl) ?_
    obtain ⟨hk3, hw⟩ := hw
    refine xb_getP (C := R_StackModule) (T := F_StackModule) (N := 19) hx hb 2 6 hts fin_StackModule hown hR hk3 (by decide) rfl (by decide) rfl (hts _ m_b7b853d9) (fun _ h9 => h9) (xb_d D_World_bytesOf 10 rfl) ?_
    obtain ⟨b4, eb4, hw⟩ := hw
    refine xb_some eb4 ?_
    refine lv_iconst (v := 2) hx hb (xb_d D_World_bytesOf 11 rfl) (by decide) ?_
    refine xb_call (D := D) (A := A) (σ := σ) (h := h) (d := 3) (mc := 0) (ms := 0) (maxL := 3) (rest := []) (av := [.ref x1, .ref b4, .int 2]) (fun T hT X => xt_invS X hx hown (hts _ m_aaaefe3c) (hts _ m_e4859522) (hts _ m_4534b440) (xt_sgS (hts _ m_c12fcdc9)).1 (xt_sgS (hts _ m_c12fcdc9)).2 nm_World_ownLeast (g := F0 m 24 ls [.int 2, .ref b4, .ref x1]) rfl (argsL := [.ref x1, .ref b4, .int 2]) (rest := []) rfl rfl (by rw [hb]; exact (xb_d D_World_bytesOf 12 rfl))) (ok_World_ownLeast l hfl D A σ x1 b4 2 h _ hw) (hml.trans hl.1.symm) (by rw [hb]; exact (xb_d D_World_bytesOf 12 rfl)) (Nat.le_of_ble_eq_true rfl) (Nat.le_of_ble_eq_true rfl) (Nat.le_of_ble_eq_true rfl) (show k + 0 ≤ MC by omega) (show n + 0 ≤ MS by omega) (xt_w1 hB.1 m_c12fcdc9) (xt_cdOf hB.1 m_c12fcdc9) (hts _ m_4534b440) hB hR hS hA (fun vv h5 H locs hq hEh5 hR hS => ?_) (fun XX ax h5 H locs hq hEh5 hex hR hS => ?_)
    · obtain ⟨r6, rfl, hw⟩ := hq
      have hw := hw hEh5
      have hE := hE.tr hEh5
      refine W.eq (g2 := F0 m 27 ls [.long r6]) rfl ?_
      refine lv_ldc2 (v := 65536) hx hb hown (hts _ m_281426cf) (xb_d D_World_bytesOf 13 rfl) ?_
      refine lv_lmul hx hb (xb_d D_World_bytesOf 14 rfl) ?_
      exact am_World_bytesOf_L31 l hfl D A σ MC MS h0 Qr (r6 * 65536) h5 hw p e s m args below meth c hC H locs ls k n hE (lv_sub hl [] rfl) hR hS (by omega) (by omega)
    · exact False.elim hq
  · have hw := hw.2 b2 ho
    refine lv_ifnull hx hb (xb_d D_World_bytesOf 2 rfl) ?_
    refine lv_aload_n hx hb (xb_d D_World_bytesOf 3 rfl) rfl (lv_at hl 0 rfl) ?_
    refine xb_getP (C := R_World) (T := F_World) (N := 16) hx hb 6 15 hts fin_World hown hR hk1 (by decide) rfl (by decide) rfl (hts _ m_0dd66e73) (fun _ h9 => h9) (xb_d D_World_bytesOf 4 rfl) ?_
    obtain ⟨b7, eb7, hw⟩ := hw
    refine xb_some eb7 ?_
    obtain ⟨hk8, hw⟩ := hw
    refine xb_call (D := D) (A := A) (σ := σ) (h := h) (d := 2) (mc := 0) (ms := 0) (maxL := 1) (rest := []) (av := [.ref b7]) (fun T hT X => by obtain ⟨cb, r1, r2, r3⟩ := xb_recv (ci := 12) hR rfl hk8 (by decide); exact xt_invV X hx hown (hts _ m_365e6e69) (hts _ m_68bf618d) (hts _ m_e440a9a2) (xt_sigOf (hts _ m_f2e0b002)) nm_Memory_bytes (by rw [hT]; exact r1) r2 r3 (g := F0 m 11 ls [.ref b7]) rfl (argsL := []) (rest := []) rfl rfl (by rw [hb]; exact (xb_d D_World_bytesOf 5 rfl))) (ok_Memory_bytes l hfl D A σ b7 h _ hw) (hml.trans hl.1.symm) (by rw [hb]; exact (xb_d D_World_bytesOf 5 rfl)) (Nat.le_of_ble_eq_true rfl) (Nat.le_of_ble_eq_true rfl) (Nat.le_of_ble_eq_true rfl) (show k + 0 ≤ MC by omega) (show n + 0 ≤ MS by omega) (xt_w1 hB.1 m_f2e0b002) (xt_cdOf hB.1 m_f2e0b002) (hts _ m_e7289b5f) hB hR hS hA (fun vv h9 H locs hq hEh9 hR hS => ?_) (fun XX ax h9 H locs hq hEh9 hex hR hS => ?_)
    · obtain ⟨r10, rfl, hw⟩ := hq
      have hw := hw hEh9
      have hE := hE.tr hEh9
      refine W.eq (g2 := F0 m 14 ls [.int r10]) rfl ?_
      refine lv_i2l hx hb (xb_d D_World_bytesOf 6 rfl) rfl ?_
      refine lv_goto (tgt := 31) hx hb (xb_d D_World_bytesOf 7 rfl) rfl ?_
      exact am_World_bytesOf_L31 l hfl D A σ MC MS h0 Qr (Int32.toInt64 r10) h9 hw p e s m args below meth c hC H locs ls k n hE (lv_sub hl [] rfl) hR hS (by omega) (by omega)
    · exact False.elim hq

theorem m_ed0a73ed : (.fieldLink "StackHost$World" 94 "StackHost$World" "foundTable" "LStackHost$Table;" : Cond) ∈ xt_tbl := xt_in (xt_t1 (List.mem_of_getElem? (i := 194) (by decide +kernel))) (by decide +kernel)
theorem m_dbd9d8fa : (.fieldLink "StackHost$World" 199 "StackHost$StackModule" "tables" "LStackHost$Row;" : Cond) ∈ xt_tbl := xt_in (xt_t3 (List.mem_of_getElem? (i := 73) (by decide +kernel))) (by decide +kernel)
theorem m_d3fe0b65 : (.fieldLink "StackHost$World" 202 "StackHost$Table" "size" "I" : Cond) ∈ xt_tbl := xt_in (xt_t7 (List.mem_of_getElem? (i := 55) (by decide +kernel))) (by decide +kernel)
set_option maxRecDepth 100000 in
def T_World_elementsOf : List (Nat × Instr × Nat) := [(0, .aload_n 0, 1), (1, .getfield 94, 3), (4, .ifnull 14, 3), (7, .aload_n 0, 1), (8, .getfield 94, 3), (11, .getfield 202, 3), (14, .i2l, 1), (15, .goto 12, 3), (18, .aload_n 1, 1), (19, .aload_n 1, 1), (20, .getfield 199, 3), (23, .iconst 1, 1), (24, .invokestatic 249, 3), (27, .lreturn, 1)]
theorem D_World_elementsOf : ∀ q ∈ T_World_elementsOf, decode b_World_elementsOf q.1 = .ok (q.2.1, q.2.2) := by decide +kernel
def w_World_elementsOf_L27 (Qr : Int64 → xb_H → Prop) (y0 : Int64) (h : xb_H) : Prop :=
    Qr y0 h

def w_World_elementsOf (x0 : Nat) (x1 : Nat) (h : xb_H) (Qr : Int64 → xb_H → Prop) : Prop :=
    xb_k h x0 = 7 ∧ (((xb_r h x0 14) = none → xb_k h x1 = 3 ∧ ∃ b4 : Nat, (xb_r h x1 5) = some b4 ∧ w_World_ownLeast x1 b4 1 h (fun (r6 : Int64) (h5 : xb_H) => xb_ext h h5 → w_World_elementsOf_L27 Qr r6 h5)) ∧ (∀ b2 : Nat, (xb_r h x0 14) = some b2 → ∃ b7 : Nat, (xb_r h x0 14) = some b7 ∧ xb_k h b7 = 12 ∧ w_World_elementsOf_L27 Qr (Int32.toInt64 (xb_i h b7 1)) h))

set_option maxHeartbeats 4000000 in
set_option maxRecDepth 100000 in
theorem am_World_elementsOf_L27 (l : Launch) (hfl : l.flags = pinnedFlags ++ [noTraceFlag]) (D : va_G) (A : Nat → Prop) (σ MC MS : Nat) (h0 : xb_H) (Qr : Int64 → xb_H → Prop) (y0 : Int64) (h : xb_H) (hw : w_World_elementsOf_L27 Qr y0 h) : xb_am l D A σ 4 MC MS h0 (fun v h => ∃ r, v = some (.long r) ∧ Qr r h) (fun _ _ => False) y_World_elementsOf.cls y_World_elementsOf.name b_World_elementsOf 2 ([] : List ExceptionTableEntry) (some .long) 27 [] [.long y0] h 0 0 := by
  unfold w_World_elementsOf_L27 at hw
  intro p e s m args below meth c hC H locs ls k n hE hl hR hS hk hn
  obtain ⟨hx, hb, hown, hlocks, htab, hml, hr, hB, hA, hnm⟩ := id hC
  have hts := hB.1.1.at args
  exact xb_lret hx hb hr hlocks (show k ≤ MC by omega) (show n ≤ MS by omega) hE hR hS (xb_d D_World_elementsOf 13 rfl) hw

set_option maxHeartbeats 4000000 in
set_option maxRecDepth 100000 in
theorem ok_World_elementsOf (l : Launch) (hfl : l.flags = pinnedFlags ++ [noTraceFlag]) (D : va_G) (A : Nat → Prop) (σ : Nat) (x0 : Nat) (x1 : Nat) (h : xb_H) (Qr : Int64 → xb_H → Prop) (hw : w_World_elementsOf x0 x1 h Qr) : xt_Met l y_World_elementsOf [.code y_World_elementsOf b_World_elementsOf 2 (some .long)] (xb_rm 4 0 0) (xb_Pc D A σ h [.ref x0, .ref x1]) (xb_Qc D A h (fun v h => ∃ r, v = some (.long r) ∧ Qr r h) (fun _ _ => False)) 0 0 A := by
  refine xb_ofAm (cc := b_World_elementsOf) (by decide) (Nat.le_of_ble_eq_true rfl) ?_
  unfold w_World_elementsOf at hw
  show xb_am l D A σ 4 0 0 h (fun v h => ∃ r, v = some (.long r) ∧ Qr r h) (fun _ _ => False) y_World_elementsOf.cls y_World_elementsOf.name b_World_elementsOf 2 ([] : List ExceptionTableEntry) (some .long) 0 [(0, .ref x0), (1, .ref x1)] [] h 0 0
  obtain ⟨MC, hMC⟩ : ∃ x, x = 0 := ⟨_, rfl⟩
  obtain ⟨MS, hMS⟩ : ∃ x, x = 0 := ⟨_, rfl⟩
  rw [show xb_am l D A σ 4 0 0 = xb_am l D A σ 4 MC MS by rw [hMC, hMS]]
  obtain ⟨h0, hh0⟩ : ∃ x, x = h := ⟨_, rfl⟩
  rw [show xb_am l D A σ 4 MC MS h = xb_am l D A σ 4 MC MS h0 by rw [hh0]]
  intro p e s m args below meth c hC H locs ls k n hE hl hR hS hk hn
  obtain ⟨hx, hb, hown, hlocks, htab, hml, hr, hB, hA, hnm⟩ := id hC
  have hts := hB.1.1.at args
  refine lv_aload_n hx hb (xb_d D_World_elementsOf 0 rfl) rfl (lv_at hl 0 rfl) ?_
  obtain ⟨hk1, hw⟩ := hw
  refine xb_getP (C := R_World) (T := F_World) (N := 16) hx hb 6 14 hts fin_World hown hR hk1 (by decide) rfl (by decide) rfl (hts _ m_ed0a73ed) (fun _ h9 => h9) (xb_d D_World_elementsOf 1 rfl) ?_
  refine xb_split (fun ho => ?_) (fun b2 ho => ?_)
  · have hw := hw.1 ho
    refine lv_ifnullN (tgt := 18) hx hb (xb_d D_World_elementsOf 2 rfl) rfl ?_
    refine lv_aload_n hx hb (xb_d D_World_elementsOf 8 rfl) rfl (lv_at hl 1 rfl) ?_
    refine lv_aload_n hx hb (xb_d D_World_elementsOf 9 rfl) rfl (lv_at hl 1 rfl) ?_
    obtain ⟨hk3, hw⟩ := hw
    refine xb_getP (C := R_StackModule) (T := F_StackModule) (N := 19) hx hb 2 5 hts fin_StackModule hown hR hk3 (by decide) rfl (by decide) rfl (hts _ m_dbd9d8fa) (fun _ h9 => h9) (xb_d D_World_elementsOf 10 rfl) ?_
    obtain ⟨b4, eb4, hw⟩ := hw
    refine xb_some eb4 ?_
    refine lv_iconst (v := 1) hx hb (xb_d D_World_elementsOf 11 rfl) (by decide) ?_
    refine xb_call (D := D) (A := A) (σ := σ) (h := h) (d := 3) (mc := 0) (ms := 0) (maxL := 3) (rest := []) (av := [.ref x1, .ref b4, .int 1]) (fun T hT X => xt_invS X hx hown (hts _ m_aaaefe3c) (hts _ m_e4859522) (hts _ m_4534b440) (xt_sgS (hts _ m_c12fcdc9)).1 (xt_sgS (hts _ m_c12fcdc9)).2 nm_World_ownLeast (g := F0 m 24 ls [.int 1, .ref b4, .ref x1]) rfl (argsL := [.ref x1, .ref b4, .int 1]) (rest := []) rfl rfl (by rw [hb]; exact (xb_d D_World_elementsOf 12 rfl))) (ok_World_ownLeast l hfl D A σ x1 b4 1 h _ hw) (hml.trans hl.1.symm) (by rw [hb]; exact (xb_d D_World_elementsOf 12 rfl)) (Nat.le_of_ble_eq_true rfl) (Nat.le_of_ble_eq_true rfl) (Nat.le_of_ble_eq_true rfl) (show k + 0 ≤ MC by omega) (show n + 0 ≤ MS by omega) (xt_w1 hB.1 m_c12fcdc9) (xt_cdOf hB.1 m_c12fcdc9) (hts _ m_4534b440) hB hR hS hA (fun vv h5 H locs hq hEh5 hR hS => ?_) (fun XX ax h5 H locs hq hEh5 hex hR hS => ?_)
    · obtain ⟨r6, rfl, hw⟩ := hq
      have hw := hw hEh5
      have hE := hE.tr hEh5
      refine W.eq (g2 := F0 m 27 ls [.long r6]) rfl ?_
      exact am_World_elementsOf_L27 l hfl D A σ MC MS h0 Qr r6 h5 hw p e s m args below meth c hC H locs ls k n hE (lv_sub hl [] rfl) hR hS (by omega) (by omega)
    · exact False.elim hq
  · have hw := hw.2 b2 ho
    refine lv_ifnull hx hb (xb_d D_World_elementsOf 2 rfl) ?_
    refine lv_aload_n hx hb (xb_d D_World_elementsOf 3 rfl) rfl (lv_at hl 0 rfl) ?_
    refine xb_getP (C := R_World) (T := F_World) (N := 16) hx hb 6 14 hts fin_World hown hR hk1 (by decide) rfl (by decide) rfl (hts _ m_ed0a73ed) (fun _ h9 => h9) (xb_d D_World_elementsOf 4 rfl) ?_
    obtain ⟨b7, eb7, hw⟩ := hw
    refine xb_some eb7 ?_
    obtain ⟨hk8, hw⟩ := hw
    refine xb_getI (C := R_Table) (T := F_Table) (N := 3) hx hb 11 1 hts fin_Table hown hR hk8 (by decide) rfl (by decide) rfl (hts _ m_d3fe0b65) (fun _ h9 => h9) (xb_d D_World_elementsOf 5 rfl) ?_
    refine lv_i2l hx hb (xb_d D_World_elementsOf 6 rfl) rfl ?_
    refine lv_goto (tgt := 27) hx hb (xb_d D_World_elementsOf 7 rfl) rfl ?_
    exact am_World_elementsOf_L27 l hfl D A σ MC MS h0 Qr (Int32.toInt64 (xb_i h b7 1)) h hw p e s m args below meth c hC H locs ls k n hE (lv_sub hl [] rfl) hR hS (by omega) (by omega)

theorem m_84358e4b : (.methodLink "StackHost$World" 183 y_World_ownerOf : Cond) ∈ xt_tbl := xt_in (xt_t6 (List.mem_of_getElem? (i := 139) (by decide +kernel))) (by decide +kernel)
theorem m_22811004 : (.fieldLink "StackHost$World" 148 "StackHost$Instance" "module" "LStackHost$StackModule;" : Cond) ∈ xt_tbl := xt_in (xt_t7 (List.mem_of_getElem? (i := 5) (by decide +kernel))) (by decide +kernel)
theorem m_e099c950 : (.methodLink "StackHost$World" 187 y_Instance_numberOf : Cond) ∈ xt_tbl := xt_in (xt_t6 (List.mem_of_getElem? (i := 143) (by decide +kernel))) (by decide +kernel)
theorem m_a6959a1f : (.methodLink "StackHost$World" 165 y_StackModule_typeOf : Cond) ∈ xt_tbl := xt_in (xt_t6 (List.mem_of_getElem? (i := 131) (by decide +kernel))) (by decide +kernel)
theorem m_a05a316c : (.methodLink "StackHost$World" 190 y_StackModule_sameType : Cond) ∈ xt_tbl := xt_in (xt_t6 (List.mem_of_getElem? (i := 147) (by decide +kernel))) (by decide +kernel)
theorem m_6fc80bc6 : (.instanceMethod y_StackModule_sameType : Cond) ∈ xt_tbl := xt_in (xt_t6 (List.mem_of_getElem? (i := 148) (by decide +kernel))) (by decide +kernel)
theorem m_86df440b : (.selects "StackHost$StackModule" y_StackModule_sameType y_StackModule_sameType : Cond) ∈ xt_tbl := xt_in (xt_t6 (List.mem_of_getElem? (i := 149) (by decide +kernel))) (by decide +kernel)
theorem m_a750e73b : (.code y_StackModule_sameType b_StackModule_sameType 6 (some .boolean) : Cond) ∈ xt_tbl := xt_in (xt_t6 (List.mem_of_getElem? (i := 150) (by decide +kernel))) (by decide +kernel)
theorem m_ad940516 : (.methodLink "StackHost$World" 173 y_StackModule_parameters : Cond) ∈ xt_tbl := xt_in (xt_t6 (List.mem_of_getElem? (i := 136) (by decide +kernel))) (by decide +kernel)
theorem m_bedf49fe : (.methodLink "StackHost$World" 176 y_StackModule_hasResult : Cond) ∈ xt_tbl := xt_in (xt_t6 (List.mem_of_getElem? (i := 137) (by decide +kernel))) (by decide +kernel)
theorem m_2580e83c : (.methodLink "StackHost$World" 180 y_StackModule_parameterType : Cond) ∈ xt_tbl := xt_in (xt_t6 (List.mem_of_getElem? (i := 138) (by decide +kernel))) (by decide +kernel)
theorem nm_StackModule_sameType : xt_nm y_StackModule_sameType 3 := ⟨by decide +kernel, by decide +kernel⟩
set_option maxRecDepth 100000 in
def T_World_fits : List (Nat × Instr × Nat) := [(0, .iload_n 1, 1), (1, .sipush 8192, 3), (4, .if_icmp .lt 43, 3), (7, .aload_n 2, 1), (8, .iload_n 3, 1), (9, .invokevirtual 173, 3), (12, .iconst 1, 1), (13, .if_icmp .ne 32, 3), (16, .aload_n 2, 1), (17, .iload_n 3, 1), (18, .invokevirtual 176, 3), (21, .ifCond .ne 24, 3), (24, .aload_n 2, 1), (25, .iload_n 3, 1), (26, .iconst 0, 1), (27, .invokevirtual 180, 3), (30, .bipush 127, 2), (32, .iload_n 1, 1), (33, .sipush 8192, 3), (36, .isub, 1), (37, .isub, 1), (38, .if_icmp .ne 7, 3), (41, .iconst 1, 1), (42, .goto 4, 3), (45, .iconst 0, 1), (46, .ireturn, 1), (47, .aload_n 0, 1), (48, .iload_n 1, 1), (49, .invokevirtual 183, 3), (52, .astore 4, 2), (54, .aload 4, 2), (56, .getfield 148, 3), (59, .aload 4, 2), (61, .getfield 148, 3), (64, .aload 4, 2), (66, .iload_n 1, 1), (67, .invokevirtual 187, 3), (70, .invokevirtual 165, 3), (73, .aload_n 2, 1), (74, .iload_n 3, 1), (75, .invokevirtual 190, 3), (78, .ireturn, 1)]
theorem D_World_fits : ∀ q ∈ T_World_fits, decode b_World_fits q.1 = .ok (q.2.1, q.2.2) := by decide +kernel
def w_World_fits_L46 (Qr : Int32 → xb_H → Prop) (y0 : Int32) (h : xb_H) : Prop :=
    (y0 = 0 ∨ y0 = 1) ∧ Qr y0 h

def w_World_fits_L45 (Qr : Int32 → xb_H → Prop) (h : xb_H) : Prop :=
    w_World_fits_L46 Qr 0 h

def w_World_fits (x0 : Nat) (x1 : Int32) (x2 : Nat) (x3 : Int32) (h : xb_H) (Qr : Int32 → xb_H → Prop) : Prop :=
    ((x1 < (8192 : Int32) → xb_k h x0 = 7 ∧ w_World_ownerOf x0 x1 h (fun (r4 : Nat) (h3 : xb_H) => xb_ext h h3 → xb_k h3 r4 = 11 ∧ ∃ b6 : Nat, (xb_r h3 r4 1) = some b6 ∧ ∃ b7 : Nat, (xb_r h3 r4 1) = some b7 ∧ w_Instance_numberOf r4 x1 h3 (fun (r9 : Int32) (h8 : xb_H) => xb_ext h3 h8 → xb_k h8 b7 = 3 ∧ w_StackModule_typeOf b7 r9 h8 (fun (r12 : Int32) (h11 : xb_H) => xb_ext h8 h11 → xb_k h11 b6 = 3 ∧ w_StackModule_sameType b6 r12 x2 x3 h11 (fun (r15 : Int32) (h14 : xb_H) => xb_ext h11 h14 → (r15 = 0 ∨ r15 = 1) ∧ Qr r15 h14))))) ∧ (¬ x1 < (8192 : Int32) → xb_k h x2 = 3 ∧ w_StackModule_parameters x2 x3 h (fun (r18 : Int32) (h17 : xb_H) => xb_ext h h17 → ((¬ r18 = (1 : Int32) → w_World_fits_L45 Qr h17) ∧ (r18 = (1 : Int32) → w_StackModule_hasResult x2 x3 h17 (fun (r21 : Int32) (h20 : xb_H) => xb_ext h17 h20 → ((¬ r21 = (0 : Int32) → w_World_fits_L45 Qr h20) ∧ (r21 = (0 : Int32) → w_StackModule_parameterType x2 x3 0 h20 (fun (r24 : Int32) (h23 : xb_H) => xb_ext h20 h23 → ((¬ r24 = (127 - (x1 - 8192)) → w_World_fits_L45 Qr h23) ∧ (r24 = (127 - (x1 - 8192)) → w_World_fits_L46 Qr 1 h23)))))))))))

set_option maxHeartbeats 4000000 in
set_option maxRecDepth 100000 in
theorem am_World_fits_L46 (l : Launch) (hfl : l.flags = pinnedFlags ++ [noTraceFlag]) (D : va_G) (A : Nat → Prop) (σ MC MS : Nat) (h0 : xb_H) (Qr : Int32 → xb_H → Prop) (y0 : Int32) (h : xb_H) (hw : w_World_fits_L46 Qr y0 h) : xb_am l D A σ 4 MC MS h0 (fun v h => ∃ r, v = some (.int r) ∧ Qr r h) (fun _ _ => False) y_World_fits.cls y_World_fits.name b_World_fits 5 ([] : List ExceptionTableEntry) (some .boolean) 46 [] [.int y0] h 0 0 := by
  unfold w_World_fits_L46 at hw
  intro p e s m args below meth c hC H locs ls k n hE hl hR hS hk hn
  obtain ⟨hx, hb, hown, hlocks, htab, hml, hr, hB, hA, hnm⟩ := id hC
  have hts := hB.1.1.at args
  exact xb_zret hx hb hr hlocks (show k ≤ MC by omega) (show n ≤ MS by omega) hw.1 hE hR hS (xb_d D_World_fits 25 rfl) hw.2

set_option maxHeartbeats 4000000 in
set_option maxRecDepth 100000 in
theorem am_World_fits_L45 (l : Launch) (hfl : l.flags = pinnedFlags ++ [noTraceFlag]) (D : va_G) (A : Nat → Prop) (σ MC MS : Nat) (h0 : xb_H) (Qr : Int32 → xb_H → Prop) (h : xb_H) (hw : w_World_fits_L45 Qr h) : xb_am l D A σ 4 MC MS h0 (fun v h => ∃ r, v = some (.int r) ∧ Qr r h) (fun _ _ => False) y_World_fits.cls y_World_fits.name b_World_fits 5 ([] : List ExceptionTableEntry) (some .boolean) 45 [] [] h 0 0 := by
  unfold w_World_fits_L45 at hw
  intro p e s m args below meth c hC H locs ls k n hE hl hR hS hk hn
  obtain ⟨hx, hb, hown, hlocks, htab, hml, hr, hB, hA, hnm⟩ := id hC
  have hts := hB.1.1.at args
  refine lv_iconst (v := 0) hx hb (xb_d D_World_fits 24 rfl) (by decide) ?_
  exact am_World_fits_L46 l hfl D A σ MC MS h0 Qr 0 h hw p e s m args below meth c hC H locs ls k n hE (lv_sub hl [] rfl) hR hS (by omega) (by omega)

set_option maxHeartbeats 4000000 in
set_option maxRecDepth 100000 in
theorem ok_World_fits (l : Launch) (hfl : l.flags = pinnedFlags ++ [noTraceFlag]) (D : va_G) (A : Nat → Prop) (σ : Nat) (x0 : Nat) (x1 : Int32) (x2 : Nat) (x3 : Int32) (h : xb_H) (Qr : Int32 → xb_H → Prop) (hw : w_World_fits x0 x1 x2 x3 h Qr) : xt_Met l y_World_fits [.code y_World_fits b_World_fits 5 (some .boolean)] (xb_rm 4 0 0) (xb_Pc D A σ h [.ref x0, .int x1, .ref x2, .int x3]) (xb_Qc D A h (fun v h => ∃ r, v = some (.int r) ∧ Qr r h) (fun _ _ => False)) 0 0 A := by
  refine xb_ofAm (cc := b_World_fits) (by decide) (Nat.le_of_ble_eq_true rfl) ?_
  unfold w_World_fits at hw
  show xb_am l D A σ 4 0 0 h (fun v h => ∃ r, v = some (.int r) ∧ Qr r h) (fun _ _ => False) y_World_fits.cls y_World_fits.name b_World_fits 5 ([] : List ExceptionTableEntry) (some .boolean) 0 [(0, .ref x0), (1, .int x1), (2, .ref x2), (3, .int x3)] [] h 0 0
  obtain ⟨MC, hMC⟩ : ∃ x, x = 0 := ⟨_, rfl⟩
  obtain ⟨MS, hMS⟩ : ∃ x, x = 0 := ⟨_, rfl⟩
  rw [show xb_am l D A σ 4 0 0 = xb_am l D A σ 4 MC MS by rw [hMC, hMS]]
  obtain ⟨h0, hh0⟩ : ∃ x, x = h := ⟨_, rfl⟩
  rw [show xb_am l D A σ 4 MC MS h = xb_am l D A σ 4 MC MS h0 by rw [hh0]]
  intro p e s m args below meth c hC H locs ls k n hE hl hR hS hk hn
  obtain ⟨hx, hb, hown, hlocks, htab, hml, hr, hB, hA, hnm⟩ := id hC
  have hts := hB.1.1.at args
  refine lv_iload_n hx hb (xb_d D_World_fits 0 rfl) rfl (lv_at hl 1 rfl) ?_
  refine lv_sipush (v := 8192) hx hb (xb_d D_World_fits 1 rfl) (by decide) ?_
  refine lv_icmp_lt (tgt := 47) hx hb (xb_d D_World_fits 2 rfl) rfl (fun hc1 => ?_) (fun hc1 => ?_)
  · have hw := hw.1 hc1
    refine lv_aload_n hx hb (xb_d D_World_fits 26 rfl) rfl (lv_at hl 0 rfl) ?_
    refine lv_iload_n hx hb (xb_d D_World_fits 27 rfl) rfl (lv_at hl 1 rfl) ?_
    obtain ⟨hk2, hw⟩ := hw
    refine xb_call (D := D) (A := A) (σ := σ) (h := h) (d := 3) (mc := 0) (ms := 0) (maxL := 2) (rest := []) (av := [.ref x0, .int x1]) (fun T hT X => by obtain ⟨cb, r1, r2, r3⟩ := xb_recv (ci := 6) hR rfl hk2 (by decide); exact xt_invV X hx hown (hts _ m_84358e4b) (hts _ m_905f65dc) (hts _ m_94d0d6f7) (xt_sigOf (hts _ m_267eaad3)) nm_World_ownerOf (by rw [hT]; exact r1) r2 r3 (g := F0 m 49 ls [.int x1, .ref x0]) rfl (argsL := [.int x1]) (rest := []) rfl rfl (by rw [hb]; exact (xb_d D_World_fits 28 rfl))) (ok_World_ownerOf l hfl D A σ x0 x1 h _ hw) (hml.trans hl.1.symm) (by rw [hb]; exact (xb_d D_World_fits 28 rfl)) (Nat.le_of_ble_eq_true rfl) (Nat.le_of_ble_eq_true rfl) (Nat.le_of_ble_eq_true rfl) (show k + 0 ≤ MC by omega) (show n + 0 ≤ MS by omega) (xt_w1 hB.1 m_267eaad3) (xt_cdOf hB.1 m_267eaad3) (hts _ m_4534b440) hB hR hS hA (fun vv h3 H locs hq hEh3 hR hS => ?_) (fun XX ax h3 H locs hq hEh3 hex hR hS => ?_)
    · obtain ⟨r4, rfl, hw⟩ := hq
      have hw := hw hEh3
      have hE := hE.tr hEh3
      refine W.eq (g2 := F0 m 52 ls [.ref r4]) rfl ?_
      refine lv_astore hx hb (xb_d D_World_fits 29 rfl) hl (by decide) rfl (fun ls hl => ?_)
      have hl : lv_has ls 5 [(4, .ref r4), (0, .ref x0), (1, .int x1), (2, .ref x2), (3, .int x3)] := hl
      refine lv_aload hx hb (xb_d D_World_fits 30 rfl) (lv_at hl 0 rfl) ?_
      obtain ⟨hk5, hw⟩ := hw
      refine xb_getP (C := R_Instance) (T := F_Instance) (N := 8) hx hb 10 1 hts fin_Instance hown hR hk5 (by decide) rfl (by decide) rfl (hts _ m_22811004) (fun _ h9 => h9) (xb_d D_World_fits 31 rfl) ?_
      obtain ⟨b6, eb6, hw⟩ := hw
      refine xb_some eb6 ?_
      refine lv_aload hx hb (xb_d D_World_fits 32 rfl) (lv_at hl 0 rfl) ?_
      refine xb_getP (C := R_Instance) (T := F_Instance) (N := 8) hx hb 10 1 hts fin_Instance hown hR hk5 (by decide) rfl (by decide) rfl (hts _ m_22811004) (fun _ h9 => h9) (xb_d D_World_fits 33 rfl) ?_
      obtain ⟨b7, eb7, hw⟩ := hw
      refine xb_some eb7 ?_
      refine lv_aload hx hb (xb_d D_World_fits 34 rfl) (lv_at hl 0 rfl) ?_
      refine lv_iload_n hx hb (xb_d D_World_fits 35 rfl) rfl (lv_at hl 2 rfl) ?_
      refine xb_call (D := D) (A := A) (σ := σ) (h := h3) (d := 2) (mc := 0) (ms := 0) (maxL := 2) (rest := [.ref b7, .ref b6]) (av := [.ref r4, .int x1]) (fun T hT X => by obtain ⟨cb, r1, r2, r3⟩ := xb_recv (ci := 10) hR rfl hk5 (by decide); exact xt_invV X hx hown (hts _ m_e099c950) (hts _ m_5272c608) (hts _ m_455039e8) (xt_sigOf (hts _ m_bf66480a)) nm_Instance_numberOf (by rw [hT]; exact r1) r2 r3 (g := F0 m 67 ls [.int x1, .ref r4, .ref b7, .ref b6]) rfl (argsL := [.int x1]) (rest := [.ref b7, .ref b6]) rfl rfl (by rw [hb]; exact (xb_d D_World_fits 36 rfl))) (ok_Instance_numberOf l hfl D A σ r4 x1 h3 _ hw) (hml.trans hl.1.symm) (by rw [hb]; exact (xb_d D_World_fits 36 rfl)) (Nat.le_of_ble_eq_true rfl) (Nat.le_of_ble_eq_true rfl) (Nat.le_of_ble_eq_true rfl) (show k + 0 ≤ MC by omega) (show n + 0 ≤ MS by omega) (xt_w1 hB.1 m_bf66480a) (xt_cdOf hB.1 m_bf66480a) (hts _ m_7a4e907b) hB hR hS hA (fun vv h8 H locs hq hEh8 hR hS => ?_) (fun XX ax h8 H locs hq hEh8 hex hR hS => ?_)
      · obtain ⟨r9, rfl, hw⟩ := hq
        have hw := hw hEh8
        have hE := hE.tr hEh8
        refine W.eq (g2 := F0 m 70 ls [.int r9, .ref b7, .ref b6]) rfl ?_
        obtain ⟨hk10, hw⟩ := hw
        refine xb_call (D := D) (A := A) (σ := σ) (h := h8) (d := 3) (mc := 0) (ms := 0) (maxL := 2) (rest := [.ref b6]) (av := [.ref b7, .int r9]) (fun T hT X => by obtain ⟨cb, r1, r2, r3⟩ := xb_recv (ci := 2) hR rfl hk10 (by decide); exact xt_invV X hx hown (hts _ m_a6959a1f) (hts _ m_eb5729e5) (hts _ m_9cf0d8be) (xt_sigOf (hts _ m_42e2443a)) nm_StackModule_typeOf (by rw [hT]; exact r1) r2 r3 (g := F0 m 70 ls [.int r9, .ref b7, .ref b6]) rfl (argsL := [.int r9]) (rest := [.ref b6]) rfl rfl (by rw [hb]; exact (xb_d D_World_fits 37 rfl))) (ok_StackModule_typeOf l hfl D A σ b7 r9 h8 _ hw) (hml.trans hl.1.symm) (by rw [hb]; exact (xb_d D_World_fits 37 rfl)) (Nat.le_of_ble_eq_true rfl) (Nat.le_of_ble_eq_true rfl) (Nat.le_of_ble_eq_true rfl) (show k + 0 ≤ MC by omega) (show n + 0 ≤ MS by omega) (xt_w1 hB.1 m_42e2443a) (xt_cdOf hB.1 m_42e2443a) (hts _ m_9c375545) hB hR hS hA (fun vv h11 H locs hq hEh11 hR hS => ?_) (fun XX ax h11 H locs hq hEh11 hex hR hS => ?_)
        · obtain ⟨r12, rfl, hw⟩ := hq
          have hw := hw hEh11
          have hE := hE.tr hEh11
          refine W.eq (g2 := F0 m 73 ls [.int r12, .ref b6]) rfl ?_
          refine lv_aload_n hx hb (xb_d D_World_fits 38 rfl) rfl (lv_at hl 3 rfl) ?_
          refine lv_iload_n hx hb (xb_d D_World_fits 39 rfl) rfl (lv_at hl 4 rfl) ?_
          obtain ⟨hk13, hw⟩ := hw
          refine xb_call (D := D) (A := A) (σ := σ) (h := h11) (d := 3) (mc := 0) (ms := 0) (maxL := 6) (rest := []) (av := [.ref b6, .int r12, .ref x2, .int x3]) (fun T hT X => by obtain ⟨cb, r1, r2, r3⟩ := xb_recv (ci := 2) hR rfl hk13 (by decide); exact xt_invV X hx hown (hts _ m_a05a316c) (hts _ m_6fc80bc6) (hts _ m_86df440b) (xt_sigOf (hts _ m_a750e73b)) nm_StackModule_sameType (by rw [hT]; exact r1) r2 r3 (g := F0 m 75 ls [.int x3, .ref x2, .int r12, .ref b6]) rfl (argsL := [.int r12, .ref x2, .int x3]) (rest := []) rfl rfl (by rw [hb]; exact (xb_d D_World_fits 40 rfl))) (ok_StackModule_sameType l hfl D A σ b6 r12 x2 x3 h11 _ hw) (hml.trans hl.1.symm) (by rw [hb]; exact (xb_d D_World_fits 40 rfl)) (Nat.le_of_ble_eq_true rfl) (Nat.le_of_ble_eq_true rfl) (Nat.le_of_ble_eq_true rfl) (show k + 0 ≤ MC by omega) (show n + 0 ≤ MS by omega) (xt_w1 hB.1 m_a750e73b) (xt_cdOf hB.1 m_a750e73b) (hts _ m_9c375545) hB hR hS hA (fun vv h14 H locs hq hEh14 hR hS => ?_) (fun XX ax h14 H locs hq hEh14 hex hR hS => ?_)
          · obtain ⟨r15, rfl, hw⟩ := hq
            have hw := hw hEh14
            have hE := hE.tr hEh14
            refine W.eq (g2 := F0 m 78 ls [.int r15]) rfl ?_
            exact xb_zret hx hb hr hlocks (show k ≤ MC by omega) (show n ≤ MS by omega) hw.1 hE hR hS (xb_d D_World_fits 41 rfl) hw.2
          · exact False.elim hq
        · exact False.elim hq
      · exact False.elim hq
    · exact False.elim hq
  · have hw := hw.2 hc1
    refine lv_aload_n hx hb (xb_d D_World_fits 3 rfl) rfl (lv_at hl 2 rfl) ?_
    refine lv_iload_n hx hb (xb_d D_World_fits 4 rfl) rfl (lv_at hl 3 rfl) ?_
    obtain ⟨hk16, hw⟩ := hw
    refine xb_call (D := D) (A := A) (σ := σ) (h := h) (d := 3) (mc := 0) (ms := 0) (maxL := 2) (rest := []) (av := [.ref x2, .int x3]) (fun T hT X => by obtain ⟨cb, r1, r2, r3⟩ := xb_recv (ci := 2) hR rfl hk16 (by decide); exact xt_invV X hx hown (hts _ m_ad940516) (hts _ m_aa97372f) (hts _ m_8160d9b3) (xt_sigOf (hts _ m_8621e59b)) nm_StackModule_parameters (by rw [hT]; exact r1) r2 r3 (g := F0 m 9 ls [.int x3, .ref x2]) rfl (argsL := [.int x3]) (rest := []) rfl rfl (by rw [hb]; exact (xb_d D_World_fits 5 rfl))) (ok_StackModule_parameters l hfl D A σ x2 x3 h _ hw) (hml.trans hl.1.symm) (by rw [hb]; exact (xb_d D_World_fits 5 rfl)) (Nat.le_of_ble_eq_true rfl) (Nat.le_of_ble_eq_true rfl) (Nat.le_of_ble_eq_true rfl) (show k + 0 ≤ MC by omega) (show n + 0 ≤ MS by omega) (xt_w1 hB.1 m_8621e59b) (xt_cdOf hB.1 m_8621e59b) (hts _ m_9c375545) hB hR hS hA (fun vv h17 H locs hq hEh17 hR hS => ?_) (fun XX ax h17 H locs hq hEh17 hex hR hS => ?_)
    · obtain ⟨r18, rfl, hw⟩ := hq
      have hw := hw hEh17
      have hE := hE.tr hEh17
      refine W.eq (g2 := F0 m 12 ls [.int r18]) rfl ?_
      refine lv_iconst (v := 1) hx hb (xb_d D_World_fits 6 rfl) (by decide) ?_
      refine lv_icmp_ne (tgt := 45) hx hb (xb_d D_World_fits 7 rfl) rfl (fun hc19 => ?_) (fun hc19 => ?_)
      · have hw := hw.1 hc19
        exact am_World_fits_L45 l hfl D A σ MC MS h0 Qr h17 hw p e s m args below meth c hC H locs ls k n hE (lv_sub hl [] rfl) hR hS (by omega) (by omega)
      · have hw := hw.2 hc19
        refine lv_aload_n hx hb (xb_d D_World_fits 8 rfl) rfl (lv_at hl 2 rfl) ?_
        refine lv_iload_n hx hb (xb_d D_World_fits 9 rfl) rfl (lv_at hl 3 rfl) ?_
        have hk16 : xb_k h17 x2 = 3 := hEh17.k hk16
        refine xb_call (D := D) (A := A) (σ := σ) (h := h17) (d := 3) (mc := 0) (ms := 0) (maxL := 2) (rest := []) (av := [.ref x2, .int x3]) (fun T hT X => by obtain ⟨cb, r1, r2, r3⟩ := xb_recv (ci := 2) hR rfl hk16 (by decide); exact xt_invV X hx hown (hts _ m_bedf49fe) (hts _ m_00587e6f) (hts _ m_d605b1a5) (xt_sigOf (hts _ m_ac93cd0b)) nm_StackModule_hasResult (by rw [hT]; exact r1) r2 r3 (g := F0 m 18 ls [.int x3, .ref x2]) rfl (argsL := [.int x3]) (rest := []) rfl rfl (by rw [hb]; exact (xb_d D_World_fits 10 rfl))) (ok_StackModule_hasResult l hfl D A σ x2 x3 h17 _ hw) (hml.trans hl.1.symm) (by rw [hb]; exact (xb_d D_World_fits 10 rfl)) (Nat.le_of_ble_eq_true rfl) (Nat.le_of_ble_eq_true rfl) (Nat.le_of_ble_eq_true rfl) (show k + 0 ≤ MC by omega) (show n + 0 ≤ MS by omega) (xt_w1 hB.1 m_ac93cd0b) (xt_cdOf hB.1 m_ac93cd0b) (hts _ m_9c375545) hB hR hS hA (fun vv h20 H locs hq hEh20 hR hS => ?_) (fun XX ax h20 H locs hq hEh20 hex hR hS => ?_)
        · obtain ⟨r21, rfl, hw⟩ := hq
          have hw := hw hEh20
          have hE := hE.tr hEh20
          refine W.eq (g2 := F0 m 21 ls [.int r21]) rfl ?_
          refine lv_if_ne (tgt := 45) hx hb (xb_d D_World_fits 11 rfl) rfl (fun hc22 => ?_) (fun hc22 => ?_)
          · have hw := hw.1 hc22
            exact am_World_fits_L45 l hfl D A σ MC MS h0 Qr h20 hw p e s m args below meth c hC H locs ls k n hE (lv_sub hl [] rfl) hR hS (by omega) (by omega)
          · have hw := hw.2 hc22
            refine lv_aload_n hx hb (xb_d D_World_fits 12 rfl) rfl (lv_at hl 2 rfl) ?_
            refine lv_iload_n hx hb (xb_d D_World_fits 13 rfl) rfl (lv_at hl 3 rfl) ?_
            refine lv_iconst (v := 0) hx hb (xb_d D_World_fits 14 rfl) (by decide) ?_
            have hk16 : xb_k h20 x2 = 3 := hEh20.k hk16
            refine xb_call (D := D) (A := A) (σ := σ) (h := h20) (d := 3) (mc := 0) (ms := 0) (maxL := 3) (rest := []) (av := [.ref x2, .int x3, .int 0]) (fun T hT X => by obtain ⟨cb, r1, r2, r3⟩ := xb_recv (ci := 2) hR rfl hk16 (by decide); exact xt_invV X hx hown (hts _ m_2580e83c) (hts _ m_8ffa2b15) (hts _ m_4526d57b) (xt_sigOf (hts _ m_4049389a)) nm_StackModule_parameterType (by rw [hT]; exact r1) r2 r3 (g := F0 m 27 ls [.int 0, .int x3, .ref x2]) rfl (argsL := [.int x3, .int 0]) (rest := []) rfl rfl (by rw [hb]; exact (xb_d D_World_fits 15 rfl))) (ok_StackModule_parameterType l hfl D A σ x2 x3 0 h20 _ hw) (hml.trans hl.1.symm) (by rw [hb]; exact (xb_d D_World_fits 15 rfl)) (Nat.le_of_ble_eq_true rfl) (Nat.le_of_ble_eq_true rfl) (Nat.le_of_ble_eq_true rfl) (show k + 0 ≤ MC by omega) (show n + 0 ≤ MS by omega) (xt_w1 hB.1 m_4049389a) (xt_cdOf hB.1 m_4049389a) (hts _ m_9c375545) hB hR hS hA (fun vv h23 H locs hq hEh23 hR hS => ?_) (fun XX ax h23 H locs hq hEh23 hex hR hS => ?_)
            · obtain ⟨r24, rfl, hw⟩ := hq
              have hw := hw hEh23
              have hE := hE.tr hEh23
              refine W.eq (g2 := F0 m 30 ls [.int r24]) rfl ?_
              refine lv_bipush (v := 127) hx hb (xb_d D_World_fits 16 rfl) (by decide) ?_
              refine lv_iload_n hx hb (xb_d D_World_fits 17 rfl) rfl (lv_at hl 1 rfl) ?_
              refine lv_sipush (v := 8192) hx hb (xb_d D_World_fits 18 rfl) (by decide) ?_
              refine lv_isub hx hb (xb_d D_World_fits 19 rfl) ?_
              refine lv_isub hx hb (xb_d D_World_fits 20 rfl) ?_
              refine lv_icmp_ne (tgt := 45) hx hb (xb_d D_World_fits 21 rfl) rfl (fun hc25 => ?_) (fun hc25 => ?_)
              · have hw := hw.1 hc25
                exact am_World_fits_L45 l hfl D A σ MC MS h0 Qr h23 hw p e s m args below meth c hC H locs ls k n hE (lv_sub hl [] rfl) hR hS (by omega) (by omega)
              · have hw := hw.2 hc25
                refine lv_iconst (v := 1) hx hb (xb_d D_World_fits 22 rfl) (by decide) ?_
                refine lv_goto (tgt := 46) hx hb (xb_d D_World_fits 23 rfl) rfl ?_
                exact am_World_fits_L46 l hfl D A σ MC MS h0 Qr 1 h23 hw p e s m args below meth c hC H locs ls k n hE (lv_sub hl [] rfl) hR hS (by omega) (by omega)
            · exact False.elim hq
        · exact False.elim hq
    · exact False.elim hq

theorem m_a27121bd : (.fieldLink "StackHost$World" 243 "StackHost$World" "instanceCount" "I" : Cond) ∈ xt_tbl := xt_in (xt_t1 (List.mem_of_getElem? (i := 168) (by decide +kernel))) (by decide +kernel)
theorem m_a2ee8d3c : (.fieldLink "StackHost$World" 246 "StackHost$StackModule" "functions" "LStackHost$Row;" : Cond) ∈ xt_tbl := xt_in (xt_t3 (List.mem_of_getElem? (i := 69) (by decide +kernel))) (by decide +kernel)
theorem m_121fd332 : (.constantLong "StackHost$World" 253 16384 : Cond) ∈ xt_tbl := xt_in (xt_t6 (List.mem_of_getElem? (i := 193) (by decide +kernel))) (by decide +kernel)
theorem m_c49dc661 : (.methodLink "StackHost$World" 255 y_World_usedPages : Cond) ∈ xt_tbl := xt_in (xt_t6 (List.mem_of_getElem? (i := 194) (by decide +kernel))) (by decide +kernel)
theorem m_18ec7f73 : (.instanceMethod y_World_usedPages : Cond) ∈ xt_tbl := xt_in (xt_t6 (List.mem_of_getElem? (i := 196) (by decide +kernel))) (by decide +kernel)
theorem m_0533db1f : (.selects "StackHost$World" y_World_usedPages y_World_usedPages : Cond) ∈ xt_tbl := xt_in (xt_v5 (q := (⟨"StackHost$World", "usedPages", "()I"⟩, 16)) (List.mem_of_getElem? (i := 8) (by decide +kernel))) (by decide +kernel)
theorem m_a760c7b9 : (.code y_World_usedPages b_World_usedPages 1 (some .int) : Cond) ∈ xt_tbl := xt_in (xt_t6 (List.mem_of_getElem? (i := 197) (by decide +kernel))) (by decide +kernel)
theorem m_c3cad591 : (.constantLong "StackHost$World" 258 16 : Cond) ∈ xt_tbl := xt_in (xt_t6 (List.mem_of_getElem? (i := 198) (by decide +kernel))) (by decide +kernel)
theorem nm_World_usedPages : xt_nm y_World_usedPages 0 := ⟨by decide +kernel, by decide +kernel⟩
set_option maxRecDepth 100000 in
def T_World_isTooMuch : List (Nat × Instr × Nat) := [(0, .aload_n 0, 1), (1, .getfield 243, 3), (4, .bipush 24, 2), (6, .if_icmp .ge 106, 3), (9, .aload_n 0, 1), (10, .getfield 22, 3), (13, .getfield 91, 3), (16, .aload_n 1, 1), (17, .getfield 246, 3), (20, .invokevirtual 75, 3), (23, .iadd, 1), (24, .aload_n 1, 1), (25, .getfield 239, 3), (28, .iconst 0, 1), (29, .iaload, 1), (30, .isub, 1), (31, .sipush 8192, 3), (34, .if_icmp .gt 78, 3), (37, .aload_n 0, 1), (38, .getfield 26, 3), (41, .getfield 91, 3), (44, .aload_n 1, 1), (45, .getfield 238, 3), (48, .invokevirtual 75, 3), (51, .iadd, 1), (52, .aload_n 1, 1), (53, .getfield 239, 3), (56, .iconst 3, 1), (57, .iaload, 1), (58, .isub, 1), (59, .sipush 4096, 3), (62, .if_icmp .gt 50, 3), (65, .aload_n 0, 1), (66, .getfield 29, 3), (69, .getfield 91, 3), (72, .i2l, 1), (73, .aload_n 1, 1), (74, .aload_n 1, 1), (75, .getfield 199, 3), (78, .iconst 1, 1), (79, .invokestatic 249, 3), (82, .ladd, 1), (83, .ldc2_w 253, 3), (86, .lcmp, 1), (87, .ifCond .gt 25, 3), (90, .aload_n 0, 1), (91, .invokevirtual 255, 3), (94, .i2l, 1), (95, .aload_n 1, 1), (96, .aload_n 1, 1), (97, .getfield 216, 3), (100, .iconst 2, 1), (101, .invokestatic 249, 3), (104, .ladd, 1), (105, .ldc2_w 258, 3), (108, .lcmp, 1), (109, .ifCond .le 7, 3), (112, .iconst 1, 1), (113, .goto 4, 3), (116, .iconst 0, 1), (117, .ireturn, 1)]
theorem D_World_isTooMuch : ∀ q ∈ T_World_isTooMuch, decode b_World_isTooMuch q.1 = .ok (q.2.1, q.2.2) := by decide +kernel
def w_World_isTooMuch_L117 (Qr : Int32 → xb_H → Prop) (y0 : Int32) (h : xb_H) : Prop :=
    (y0 = 0 ∨ y0 = 1) ∧ Qr y0 h

def w_World_isTooMuch_L112 (Qr : Int32 → xb_H → Prop) (h : xb_H) : Prop :=
    w_World_isTooMuch_L117 Qr 1 h

def w_World_isTooMuch (x0 : Nat) (x1 : Nat) (h : xb_H) (Qr : Int32 → xb_H → Prop) : Prop :=
    xb_k h x0 = 7 ∧ (((24 : Int32) ≤ (xb_i h x0 1) → w_World_isTooMuch_L112 Qr h) ∧ (¬ (24 : Int32) ≤ (xb_i h x0 1) → ∃ b3 : Nat, (xb_r h x0 2) = some b3 ∧ xb_k h b3 = 2 ∧ xb_k h x1 = 3 ∧ ∃ b6 : Nat, (xb_r h x1 4) = some b6 ∧ xb_k h b6 = 2 ∧ w_Row_lines b6 h (fun (r9 : Int32) (h8 : xb_H) => xb_ext h h8 → ∃ b10 : Nat, (xb_r h8 x1 14) = some b10 ∧ xb_k h8 b10 = 102 ∧ vp_in 0 (xb_n h8 b10) ∧ (((8192 : Int32) < (((xb_i h b3 1) + r9) - (xb_i h8 b10 0)) → w_World_isTooMuch_L112 Qr h8) ∧ (¬ (8192 : Int32) < (((xb_i h b3 1) + r9) - (xb_i h8 b10 0)) → ∃ b14 : Nat, (xb_r h8 x0 3) = some b14 ∧ xb_k h8 b14 = 2 ∧ ∃ b16 : Nat, (xb_r h8 x1 7) = some b16 ∧ xb_k h8 b16 = 2 ∧ w_Row_lines b16 h8 (fun (r19 : Int32) (h18 : xb_H) => xb_ext h8 h18 → ∃ b20 : Nat, (xb_r h18 x1 14) = some b20 ∧ xb_k h18 b20 = 102 ∧ vp_in 3 (xb_n h18 b20) ∧ (((4096 : Int32) < (((xb_i h8 b14 1) + r19) - (xb_i h18 b20 3)) → w_World_isTooMuch_L112 Qr h18) ∧ (¬ (4096 : Int32) < (((xb_i h8 b14 1) + r19) - (xb_i h18 b20 3)) → ∃ b24 : Nat, (xb_r h18 x0 4) = some b24 ∧ xb_k h18 b24 = 2 ∧ ∃ b26 : Nat, (xb_r h18 x1 5) = some b26 ∧ w_World_ownLeast x1 b26 1 h18 (fun (r28 : Int64) (h27 : xb_H) => xb_ext h18 h27 → (((16384 : Int64) < ((Int32.toInt64 (xb_i h18 b24 1)) + r28) → w_World_isTooMuch_L112 Qr h27) ∧ (¬ (16384 : Int64) < ((Int32.toInt64 (xb_i h18 b24 1)) + r28) → w_World_usedPages x0 h27 (fun (r31 : Int32) (h30 : xb_H) => xb_ext h27 h30 → ∃ b32 : Nat, (xb_r h30 x1 6) = some b32 ∧ w_World_ownLeast x1 b32 2 h30 (fun (r34 : Int64) (h33 : xb_H) => xb_ext h30 h33 → ((((Int32.toInt64 r31) + r34) ≤ (16 : Int64) → w_World_isTooMuch_L117 Qr 0 h33) ∧ (¬ ((Int32.toInt64 r31) + r34) ≤ (16 : Int64) → w_World_isTooMuch_L112 Qr h33)))))))))))))))

set_option maxHeartbeats 4000000 in
set_option maxRecDepth 100000 in
theorem am_World_isTooMuch_L117 (l : Launch) (hfl : l.flags = pinnedFlags ++ [noTraceFlag]) (D : va_G) (A : Nat → Prop) (σ MC MS : Nat) (h0 : xb_H) (Qr : Int32 → xb_H → Prop) (y0 : Int32) (h : xb_H) (hw : w_World_isTooMuch_L117 Qr y0 h) : xb_am l D A σ 4 MC MS h0 (fun v h => ∃ r, v = some (.int r) ∧ Qr r h) (fun _ _ => False) y_World_isTooMuch.cls y_World_isTooMuch.name b_World_isTooMuch 2 ([] : List ExceptionTableEntry) (some .boolean) 117 [] [.int y0] h 0 0 := by
  unfold w_World_isTooMuch_L117 at hw
  intro p e s m args below meth c hC H locs ls k n hE hl hR hS hk hn
  obtain ⟨hx, hb, hown, hlocks, htab, hml, hr, hB, hA, hnm⟩ := id hC
  have hts := hB.1.1.at args
  exact xb_zret hx hb hr hlocks (show k ≤ MC by omega) (show n ≤ MS by omega) hw.1 hE hR hS (xb_d D_World_isTooMuch 60 rfl) hw.2

set_option maxHeartbeats 4000000 in
set_option maxRecDepth 100000 in
theorem am_World_isTooMuch_L112 (l : Launch) (hfl : l.flags = pinnedFlags ++ [noTraceFlag]) (D : va_G) (A : Nat → Prop) (σ MC MS : Nat) (h0 : xb_H) (Qr : Int32 → xb_H → Prop) (h : xb_H) (hw : w_World_isTooMuch_L112 Qr h) : xb_am l D A σ 4 MC MS h0 (fun v h => ∃ r, v = some (.int r) ∧ Qr r h) (fun _ _ => False) y_World_isTooMuch.cls y_World_isTooMuch.name b_World_isTooMuch 2 ([] : List ExceptionTableEntry) (some .boolean) 112 [] [] h 0 0 := by
  unfold w_World_isTooMuch_L112 at hw
  intro p e s m args below meth c hC H locs ls k n hE hl hR hS hk hn
  obtain ⟨hx, hb, hown, hlocks, htab, hml, hr, hB, hA, hnm⟩ := id hC
  have hts := hB.1.1.at args
  refine lv_iconst (v := 1) hx hb (xb_d D_World_isTooMuch 57 rfl) (by decide) ?_
  refine lv_goto (tgt := 117) hx hb (xb_d D_World_isTooMuch 58 rfl) rfl ?_
  exact am_World_isTooMuch_L117 l hfl D A σ MC MS h0 Qr 1 h hw p e s m args below meth c hC H locs ls k n hE (lv_sub hl [] rfl) hR hS (by omega) (by omega)

set_option maxHeartbeats 4000000 in
set_option maxRecDepth 100000 in
theorem ok_World_isTooMuch (l : Launch) (hfl : l.flags = pinnedFlags ++ [noTraceFlag]) (D : va_G) (A : Nat → Prop) (σ : Nat) (x0 : Nat) (x1 : Nat) (h : xb_H) (Qr : Int32 → xb_H → Prop) (hw : w_World_isTooMuch x0 x1 h Qr) : xt_Met l y_World_isTooMuch [.code y_World_isTooMuch b_World_isTooMuch 2 (some .boolean)] (xb_rm 4 0 0) (xb_Pc D A σ h [.ref x0, .ref x1]) (xb_Qc D A h (fun v h => ∃ r, v = some (.int r) ∧ Qr r h) (fun _ _ => False)) 0 0 A := by
  refine xb_ofAm (cc := b_World_isTooMuch) (by decide) (Nat.le_of_ble_eq_true rfl) ?_
  unfold w_World_isTooMuch at hw
  show xb_am l D A σ 4 0 0 h (fun v h => ∃ r, v = some (.int r) ∧ Qr r h) (fun _ _ => False) y_World_isTooMuch.cls y_World_isTooMuch.name b_World_isTooMuch 2 ([] : List ExceptionTableEntry) (some .boolean) 0 [(0, .ref x0), (1, .ref x1)] [] h 0 0
  obtain ⟨MC, hMC⟩ : ∃ x, x = 0 := ⟨_, rfl⟩
  obtain ⟨MS, hMS⟩ : ∃ x, x = 0 := ⟨_, rfl⟩
  rw [show xb_am l D A σ 4 0 0 = xb_am l D A σ 4 MC MS by rw [hMC, hMS]]
  obtain ⟨h0, hh0⟩ : ∃ x, x = h := ⟨_, rfl⟩
  rw [show xb_am l D A σ 4 MC MS h = xb_am l D A σ 4 MC MS h0 by rw [hh0]]
  intro p e s m args below meth c hC H locs ls k n hE hl hR hS hk hn
  obtain ⟨hx, hb, hown, hlocks, htab, hml, hr, hB, hA, hnm⟩ := id hC
  have hts := hB.1.1.at args
  refine lv_aload_n hx hb (xb_d D_World_isTooMuch 0 rfl) rfl (lv_at hl 0 rfl) ?_
  obtain ⟨hk1, hw⟩ := hw
  refine xb_getI (C := R_World) (T := F_World) (N := 16) hx hb 6 1 hts fin_World hown hR hk1 (by decide) rfl (by decide) rfl (hts _ m_a27121bd) (fun _ h9 => h9) (xb_d D_World_isTooMuch 1 rfl) ?_
  refine lv_bipush (v := 24) hx hb (xb_d D_World_isTooMuch 2 rfl) (by decide) ?_
  refine lv_icmp_ge (tgt := 112) hx hb (xb_d D_World_isTooMuch 3 rfl) rfl (fun hc2 => ?_) (fun hc2 => ?_)
  · have hw := hw.1 hc2
    exact am_World_isTooMuch_L112 l hfl D A σ MC MS h0 Qr h hw p e s m args below meth c hC H locs ls k n hE (lv_sub hl [] rfl) hR hS (by omega) (by omega)
  · have hw := hw.2 hc2
    refine lv_aload_n hx hb (xb_d D_World_isTooMuch 4 rfl) rfl (lv_at hl 0 rfl) ?_
    refine xb_getP (C := R_World) (T := F_World) (N := 16) hx hb 6 2 hts fin_World hown hR hk1 (by decide) rfl (by decide) rfl (hts _ m_2d976539) (fun _ h9 => h9) (xb_d D_World_isTooMuch 5 rfl) ?_
    obtain ⟨b3, eb3, hw⟩ := hw
    refine xb_some eb3 ?_
    obtain ⟨hk4, hw⟩ := hw
    refine xb_getI (C := R_Row) (T := F_Row) (N := 3) hx hb 1 1 hts fin_Row hown hR hk4 (by decide) rfl (by decide) rfl (hts _ m_98336b3d) (fun _ h9 => h9) (xb_d D_World_isTooMuch 6 rfl) ?_
    refine lv_aload_n hx hb (xb_d D_World_isTooMuch 7 rfl) rfl (lv_at hl 1 rfl) ?_
    obtain ⟨hk5, hw⟩ := hw
    refine xb_getP (C := R_StackModule) (T := F_StackModule) (N := 19) hx hb 2 4 hts fin_StackModule hown hR hk5 (by decide) rfl (by decide) rfl (hts _ m_a2ee8d3c) (fun _ h9 => h9) (xb_d D_World_isTooMuch 8 rfl) ?_
    obtain ⟨b6, eb6, hw⟩ := hw
    refine xb_some eb6 ?_
    obtain ⟨hk7, hw⟩ := hw
    refine xb_call (D := D) (A := A) (σ := σ) (h := h) (d := 2) (mc := 0) (ms := 0) (maxL := 1) (rest := [.int (xb_i h b3 1)]) (av := [.ref b6]) (fun T hT X => by obtain ⟨cb, r1, r2, r3⟩ := xb_recv (ci := 1) hR rfl hk7 (by decide); exact xt_invV X hx hown (hts _ m_5b8308b9) (hts _ m_ded65609) (hts _ m_a4161156) (xt_sigOf (hts _ m_83ba3721)) nm_Row_lines (by rw [hT]; exact r1) r2 r3 (g := F0 m 20 ls [.ref b6, .int (xb_i h b3 1)]) rfl (argsL := []) (rest := [.int (xb_i h b3 1)]) rfl rfl (by rw [hb]; exact (xb_d D_World_isTooMuch 9 rfl))) (ok_Row_lines l hfl D A σ b6 h _ hw) (hml.trans hl.1.symm) (by rw [hb]; exact (xb_d D_World_isTooMuch 9 rfl)) (Nat.le_of_ble_eq_true rfl) (Nat.le_of_ble_eq_true rfl) (Nat.le_of_ble_eq_true rfl) (show k + 0 ≤ MC by omega) (show n + 0 ≤ MS by omega) (xt_w1 hB.1 m_83ba3721) (xt_cdOf hB.1 m_83ba3721) (hts _ m_c1bef504) hB hR hS hA (fun vv h8 H locs hq hEh8 hR hS => ?_) (fun XX ax h8 H locs hq hEh8 hex hR hS => ?_)
    · obtain ⟨r9, rfl, hw⟩ := hq
      have hw := hw hEh8
      have hE := hE.tr hEh8
      refine W.eq (g2 := F0 m 23 ls [.int r9, .int (xb_i h b3 1)]) rfl ?_
      refine lv_iadd hx hb (xb_d D_World_isTooMuch 10 rfl) ?_
      refine lv_aload_n hx hb (xb_d D_World_isTooMuch 11 rfl) rfl (lv_at hl 1 rfl) ?_
      have hk5 : xb_k h8 x1 = 3 := hEh8.k hk5
      refine xb_getP (C := R_StackModule) (T := F_StackModule) (N := 19) hx hb 2 14 hts fin_StackModule hown hR hk5 (by decide) rfl (by decide) rfl (hts _ m_64a182b7) (fun _ h9 => h9) (xb_d D_World_isTooMuch 12 rfl) ?_
      obtain ⟨b10, eb10, hw⟩ := hw
      refine xb_some eb10 ?_
      refine lv_iconst (v := 0) hx hb (xb_d D_World_isTooMuch 13 rfl) (by decide) ?_
      obtain ⟨hk12, hw⟩ := hw
      obtain ⟨hi11, hw⟩ := hw
      refine xb_iald hx hb hR hk12 hi11 (xb_d D_World_isTooMuch 14 rfl) ?_
      refine xt_numi (y := (xb_i h8 b10 0)) (congrArg (xb_i h8 b10) (by decide : (0 : Int32).toNatClampNeg = 0)) ?_
      refine lv_isub hx hb (xb_d D_World_isTooMuch 15 rfl) ?_
      refine lv_sipush (v := 8192) hx hb (xb_d D_World_isTooMuch 16 rfl) (by decide) ?_
      refine lv_icmp_gt (tgt := 112) hx hb (xb_d D_World_isTooMuch 17 rfl) rfl (fun hc13 => ?_) (fun hc13 => ?_)
      · have hw := hw.1 hc13
        exact am_World_isTooMuch_L112 l hfl D A σ MC MS h0 Qr h8 hw p e s m args below meth c hC H locs ls k n hE (lv_sub hl [] rfl) hR hS (by omega) (by omega)
      · have hw := hw.2 hc13
        refine lv_aload_n hx hb (xb_d D_World_isTooMuch 18 rfl) rfl (lv_at hl 0 rfl) ?_
        have hk1 : xb_k h8 x0 = 7 := hEh8.k hk1
        refine xb_getP (C := R_World) (T := F_World) (N := 16) hx hb 6 3 hts fin_World hown hR hk1 (by decide) rfl (by decide) rfl (hts _ m_61bedde9) (fun _ h9 => h9) (xb_d D_World_isTooMuch 19 rfl) ?_
        obtain ⟨b14, eb14, hw⟩ := hw
        refine xb_some eb14 ?_
        obtain ⟨hk15, hw⟩ := hw
        refine xb_getI (C := R_Row) (T := F_Row) (N := 3) hx hb 1 1 hts fin_Row hown hR hk15 (by decide) rfl (by decide) rfl (hts _ m_98336b3d) (fun _ h9 => h9) (xb_d D_World_isTooMuch 20 rfl) ?_
        refine lv_aload_n hx hb (xb_d D_World_isTooMuch 21 rfl) rfl (lv_at hl 1 rfl) ?_
        refine xb_getP (C := R_StackModule) (T := F_StackModule) (N := 19) hx hb 2 7 hts fin_StackModule hown hR hk5 (by decide) rfl (by decide) rfl (hts _ m_86aae10b) (fun _ h9 => h9) (xb_d D_World_isTooMuch 22 rfl) ?_
        obtain ⟨b16, eb16, hw⟩ := hw
        refine xb_some eb16 ?_
        obtain ⟨hk17, hw⟩ := hw
        refine xb_call (D := D) (A := A) (σ := σ) (h := h8) (d := 2) (mc := 0) (ms := 0) (maxL := 1) (rest := [.int (xb_i h8 b14 1)]) (av := [.ref b16]) (fun T hT X => by obtain ⟨cb, r1, r2, r3⟩ := xb_recv (ci := 1) hR rfl hk17 (by decide); exact xt_invV X hx hown (hts _ m_5b8308b9) (hts _ m_ded65609) (hts _ m_a4161156) (xt_sigOf (hts _ m_83ba3721)) nm_Row_lines (by rw [hT]; exact r1) r2 r3 (g := F0 m 48 ls [.ref b16, .int (xb_i h8 b14 1)]) rfl (argsL := []) (rest := [.int (xb_i h8 b14 1)]) rfl rfl (by rw [hb]; exact (xb_d D_World_isTooMuch 23 rfl))) (ok_Row_lines l hfl D A σ b16 h8 _ hw) (hml.trans hl.1.symm) (by rw [hb]; exact (xb_d D_World_isTooMuch 23 rfl)) (Nat.le_of_ble_eq_true rfl) (Nat.le_of_ble_eq_true rfl) (Nat.le_of_ble_eq_true rfl) (show k + 0 ≤ MC by omega) (show n + 0 ≤ MS by omega) (xt_w1 hB.1 m_83ba3721) (xt_cdOf hB.1 m_83ba3721) (hts _ m_c1bef504) hB hR hS hA (fun vv h18 H locs hq hEh18 hR hS => ?_) (fun XX ax h18 H locs hq hEh18 hex hR hS => ?_)
        · obtain ⟨r19, rfl, hw⟩ := hq
          have hw := hw hEh18
          have hE := hE.tr hEh18
          refine W.eq (g2 := F0 m 51 ls [.int r19, .int (xb_i h8 b14 1)]) rfl ?_
          refine lv_iadd hx hb (xb_d D_World_isTooMuch 24 rfl) ?_
          refine lv_aload_n hx hb (xb_d D_World_isTooMuch 25 rfl) rfl (lv_at hl 1 rfl) ?_
          have hk5 : xb_k h18 x1 = 3 := hEh18.k hk5
          refine xb_getP (C := R_StackModule) (T := F_StackModule) (N := 19) hx hb 2 14 hts fin_StackModule hown hR hk5 (by decide) rfl (by decide) rfl (hts _ m_64a182b7) (fun _ h9 => h9) (xb_d D_World_isTooMuch 26 rfl) ?_
          obtain ⟨b20, eb20, hw⟩ := hw
          refine xb_some eb20 ?_
          refine lv_iconst (v := 3) hx hb (xb_d D_World_isTooMuch 27 rfl) (by decide) ?_
          obtain ⟨hk22, hw⟩ := hw
          obtain ⟨hi21, hw⟩ := hw
          refine xb_iald hx hb hR hk22 hi21 (xb_d D_World_isTooMuch 28 rfl) ?_
          refine xt_numi (y := (xb_i h18 b20 3)) (congrArg (xb_i h18 b20) (by decide : (3 : Int32).toNatClampNeg = 3)) ?_
          refine lv_isub hx hb (xb_d D_World_isTooMuch 29 rfl) ?_
          refine lv_sipush (v := 4096) hx hb (xb_d D_World_isTooMuch 30 rfl) (by decide) ?_
          refine lv_icmp_gt (tgt := 112) hx hb (xb_d D_World_isTooMuch 31 rfl) rfl (fun hc23 => ?_) (fun hc23 => ?_)
          · have hw := hw.1 hc23
            exact am_World_isTooMuch_L112 l hfl D A σ MC MS h0 Qr h18 hw p e s m args below meth c hC H locs ls k n hE (lv_sub hl [] rfl) hR hS (by omega) (by omega)
          · have hw := hw.2 hc23
            refine lv_aload_n hx hb (xb_d D_World_isTooMuch 32 rfl) rfl (lv_at hl 0 rfl) ?_
            have hk1 : xb_k h18 x0 = 7 := hEh18.k hk1
            refine xb_getP (C := R_World) (T := F_World) (N := 16) hx hb 6 4 hts fin_World hown hR hk1 (by decide) rfl (by decide) rfl (hts _ m_1ef9f414) (fun _ h9 => h9) (xb_d D_World_isTooMuch 33 rfl) ?_
            obtain ⟨b24, eb24, hw⟩ := hw
            refine xb_some eb24 ?_
            obtain ⟨hk25, hw⟩ := hw
            refine xb_getI (C := R_Row) (T := F_Row) (N := 3) hx hb 1 1 hts fin_Row hown hR hk25 (by decide) rfl (by decide) rfl (hts _ m_98336b3d) (fun _ h9 => h9) (xb_d D_World_isTooMuch 34 rfl) ?_
            refine lv_i2l hx hb (xb_d D_World_isTooMuch 35 rfl) rfl ?_
            refine lv_aload_n hx hb (xb_d D_World_isTooMuch 36 rfl) rfl (lv_at hl 1 rfl) ?_
            refine lv_aload_n hx hb (xb_d D_World_isTooMuch 37 rfl) rfl (lv_at hl 1 rfl) ?_
            refine xb_getP (C := R_StackModule) (T := F_StackModule) (N := 19) hx hb 2 5 hts fin_StackModule hown hR hk5 (by decide) rfl (by decide) rfl (hts _ m_dbd9d8fa) (fun _ h9 => h9) (xb_d D_World_isTooMuch 38 rfl) ?_
            obtain ⟨b26, eb26, hw⟩ := hw
            refine xb_some eb26 ?_
            refine lv_iconst (v := 1) hx hb (xb_d D_World_isTooMuch 39 rfl) (by decide) ?_
            refine xb_call (D := D) (A := A) (σ := σ) (h := h18) (d := 3) (mc := 0) (ms := 0) (maxL := 3) (rest := [.long (Int32.toInt64 (xb_i h18 b24 1))]) (av := [.ref x1, .ref b26, .int 1]) (fun T hT X => xt_invS X hx hown (hts _ m_aaaefe3c) (hts _ m_e4859522) (hts _ m_4534b440) (xt_sgS (hts _ m_c12fcdc9)).1 (xt_sgS (hts _ m_c12fcdc9)).2 nm_World_ownLeast (g := F0 m 79 ls [.int 1, .ref b26, .ref x1, .long (Int32.toInt64 (xb_i h18 b24 1))]) rfl (argsL := [.ref x1, .ref b26, .int 1]) (rest := [.long (Int32.toInt64 (xb_i h18 b24 1))]) rfl rfl (by rw [hb]; exact (xb_d D_World_isTooMuch 40 rfl))) (ok_World_ownLeast l hfl D A σ x1 b26 1 h18 _ hw) (hml.trans hl.1.symm) (by rw [hb]; exact (xb_d D_World_isTooMuch 40 rfl)) (Nat.le_of_ble_eq_true rfl) (Nat.le_of_ble_eq_true rfl) (Nat.le_of_ble_eq_true rfl) (show k + 0 ≤ MC by omega) (show n + 0 ≤ MS by omega) (xt_w1 hB.1 m_c12fcdc9) (xt_cdOf hB.1 m_c12fcdc9) (hts _ m_4534b440) hB hR hS hA (fun vv h27 H locs hq hEh27 hR hS => ?_) (fun XX ax h27 H locs hq hEh27 hex hR hS => ?_)
            · obtain ⟨r28, rfl, hw⟩ := hq
              have hw := hw hEh27
              have hE := hE.tr hEh27
              refine W.eq (g2 := F0 m 82 ls [.long r28, .long (Int32.toInt64 (xb_i h18 b24 1))]) rfl ?_
              refine lv_ladd hx hb (xb_d D_World_isTooMuch 41 rfl) ?_
              refine lv_ldc2 (v := 16384) hx hb hown (hts _ m_121fd332) (xb_d D_World_isTooMuch 42 rfl) ?_
              refine xb_lc_gt (tgt := 112) hx hb (xb_d D_World_isTooMuch 43 rfl) (xb_d D_World_isTooMuch 44 rfl) rfl (fun hc29 => ?_) (fun hc29 => ?_)
              · have hw := hw.1 hc29
                exact am_World_isTooMuch_L112 l hfl D A σ MC MS h0 Qr h27 hw p e s m args below meth c hC H locs ls k n hE (lv_sub hl [] rfl) hR hS (by omega) (by omega)
              · have hw := hw.2 hc29
                refine lv_aload_n hx hb (xb_d D_World_isTooMuch 45 rfl) rfl (lv_at hl 0 rfl) ?_
                have hk1 : xb_k h27 x0 = 7 := hEh27.k hk1
                refine xb_call (D := D) (A := A) (σ := σ) (h := h27) (d := 2) (mc := 0) (ms := 0) (maxL := 1) (rest := []) (av := [.ref x0]) (fun T hT X => by obtain ⟨cb, r1, r2, r3⟩ := xb_recv (ci := 6) hR rfl hk1 (by decide); exact xt_invV X hx hown (hts _ m_c49dc661) (hts _ m_18ec7f73) (hts _ m_0533db1f) (xt_sigOf (hts _ m_a760c7b9)) nm_World_usedPages (by rw [hT]; exact r1) r2 r3 (g := F0 m 91 ls [.ref x0]) rfl (argsL := []) (rest := []) rfl rfl (by rw [hb]; exact (xb_d D_World_isTooMuch 46 rfl))) (ok_World_usedPages l hfl D A σ x0 h27 _ hw) (hml.trans hl.1.symm) (by rw [hb]; exact (xb_d D_World_isTooMuch 46 rfl)) (Nat.le_of_ble_eq_true rfl) (Nat.le_of_ble_eq_true rfl) (Nat.le_of_ble_eq_true rfl) (show k + 0 ≤ MC by omega) (show n + 0 ≤ MS by omega) (xt_w1 hB.1 m_a760c7b9) (xt_cdOf hB.1 m_a760c7b9) (hts _ m_4534b440) hB hR hS hA (fun vv h30 H locs hq hEh30 hR hS => ?_) (fun XX ax h30 H locs hq hEh30 hex hR hS => ?_)
                · obtain ⟨r31, rfl, hw⟩ := hq
                  have hw := hw hEh30
                  have hE := hE.tr hEh30
                  refine W.eq (g2 := F0 m 94 ls [.int r31]) rfl ?_
                  refine lv_i2l hx hb (xb_d D_World_isTooMuch 47 rfl) rfl ?_
                  refine lv_aload_n hx hb (xb_d D_World_isTooMuch 48 rfl) rfl (lv_at hl 1 rfl) ?_
                  refine lv_aload_n hx hb (xb_d D_World_isTooMuch 49 rfl) rfl (lv_at hl 1 rfl) ?_
                  have hk5 : xb_k h27 x1 = 3 := hEh27.k hk5
                  have hk5 : xb_k h30 x1 = 3 := hEh30.k hk5
                  refine xb_getP (C := R_StackModule) (T := F_StackModule) (N := 19) hx hb 2 6 hts fin_StackModule hown hR hk5 (by decide) rfl (by decide) rfl (hts _ m_b7b853d9) (fun _ h9 => h9) (xb_d D_World_isTooMuch 50 rfl) ?_
                  obtain ⟨b32, eb32, hw⟩ := hw
                  refine xb_some eb32 ?_
                  refine lv_iconst (v := 2) hx hb (xb_d D_World_isTooMuch 51 rfl) (by decide) ?_
                  refine xb_call (D := D) (A := A) (σ := σ) (h := h30) (d := 3) (mc := 0) (ms := 0) (maxL := 3) (rest := [.long (Int32.toInt64 r31)]) (av := [.ref x1, .ref b32, .int 2]) (fun T hT X => xt_invS X hx hown (hts _ m_aaaefe3c) (hts _ m_e4859522) (hts _ m_4534b440) (xt_sgS (hts _ m_c12fcdc9)).1 (xt_sgS (hts _ m_c12fcdc9)).2 nm_World_ownLeast (g := F0 m 101 ls [.int 2, .ref b32, .ref x1, .long (Int32.toInt64 r31)]) rfl (argsL := [.ref x1, .ref b32, .int 2]) (rest := [.long (Int32.toInt64 r31)]) rfl rfl (by rw [hb]; exact (xb_d D_World_isTooMuch 52 rfl))) (ok_World_ownLeast l hfl D A σ x1 b32 2 h30 _ hw) (hml.trans hl.1.symm) (by rw [hb]; exact (xb_d D_World_isTooMuch 52 rfl)) (Nat.le_of_ble_eq_true rfl) (Nat.le_of_ble_eq_true rfl) (Nat.le_of_ble_eq_true rfl) (show k + 0 ≤ MC by omega) (show n + 0 ≤ MS by omega) (xt_w1 hB.1 m_c12fcdc9) (xt_cdOf hB.1 m_c12fcdc9) (hts _ m_4534b440) hB hR hS hA (fun vv h33 H locs hq hEh33 hR hS => ?_) (fun XX ax h33 H locs hq hEh33 hex hR hS => ?_)
                  · obtain ⟨r34, rfl, hw⟩ := hq
                    have hw := hw hEh33
                    have hE := hE.tr hEh33
                    refine W.eq (g2 := F0 m 104 ls [.long r34, .long (Int32.toInt64 r31)]) rfl ?_
                    refine lv_ladd hx hb (xb_d D_World_isTooMuch 53 rfl) ?_
                    refine lv_ldc2 (v := 16) hx hb hown (hts _ m_c3cad591) (xb_d D_World_isTooMuch 54 rfl) ?_
                    refine xb_lc_le (tgt := 116) hx hb (xb_d D_World_isTooMuch 55 rfl) (xb_d D_World_isTooMuch 56 rfl) rfl (fun hc35 => ?_) (fun hc35 => ?_)
                    · have hw := hw.1 hc35
                      refine lv_iconst (v := 0) hx hb (xb_d D_World_isTooMuch 59 rfl) (by decide) ?_
                      exact am_World_isTooMuch_L117 l hfl D A σ MC MS h0 Qr 0 h33 hw p e s m args below meth c hC H locs ls k n hE (lv_sub hl [] rfl) hR hS (by omega) (by omega)
                    · have hw := hw.2 hc35
                      exact am_World_isTooMuch_L112 l hfl D A σ MC MS h0 Qr h33 hw p e s m args below meth c hC H locs ls k n hE (lv_sub hl [] rfl) hR hS (by omega) (by omega)
                  · exact False.elim hq
                · exact False.elim hq
            · exact False.elim hq
        · exact False.elim hq
    · exact False.elim hq

