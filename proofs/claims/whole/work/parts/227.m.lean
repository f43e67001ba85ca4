theorem m_d8dc723e : (.methodLink "StackHost" 169 y_H_refuseWhileUnderWay : Cond) ∈ xt_tbl := xt_in (xt_t6 (List.mem_of_getElem? (i := 107) (by decide +kernel))) (by decide +kernel)
theorem m_d39108b7 : (.instanceMethod y_H_refuseWhileUnderWay : Cond) ∈ xt_tbl := xt_in (xt_t6 (List.mem_of_getElem? (i := 109) (by decide +kernel))) (by decide +kernel)
theorem m_6c666fc1 : (.selects "StackHost" y_H_refuseWhileUnderWay y_H_refuseWhileUnderWay : Cond) ∈ xt_tbl := xt_in (xt_v5 (q := (⟨"StackHost", "refuseWhileUnderWay", "()V"⟩, 11)) (List.mem_of_getElem? (i := 1) (by decide +kernel))) (by decide +kernel)
theorem m_f1e2143e : (.code y_H_refuseWhileUnderWay b_H_refuseWhileUnderWay 1 none : Cond) ∈ xt_tbl := xt_in (xt_t6 (List.mem_of_getElem? (i := 110) (by decide +kernel))) (by decide +kernel)
theorem m_fbe39451 : (.methodLink "StackHost" 185 y_Instance_functionId : Cond) ∈ xt_tbl := xt_in (xt_t7 (List.mem_of_getElem? (i := 115) (by decide +kernel))) (by decide +kernel)
theorem m_3dbccea2 : (.instanceMethod y_Instance_functionId : Cond) ∈ xt_tbl := xt_in (xt_t6 (List.mem_of_getElem? (i := 167) (by decide +kernel))) (by decide +kernel)
theorem m_6ce97918 : (.selects "StackHost$Instance" y_Instance_functionId y_Instance_functionId : Cond) ∈ xt_tbl := xt_in (xt_t6 (List.mem_of_getElem? (i := 168) (by decide +kernel))) (by decide +kernel)
theorem m_0d2452ce : (.code y_Instance_functionId b_Instance_functionId 3 (some .int) : Cond) ∈ xt_tbl := xt_in (xt_t6 (List.mem_of_getElem? (i := 169) (by decide +kernel))) (by decide +kernel)
theorem m_90ed97fb : (.methodLink "StackHost" 191 y_Machine_begin : Cond) ∈ xt_tbl := xt_in (xt_t7 (List.mem_of_getElem? (i := 116) (by decide +kernel))) (by decide +kernel)
theorem m_4d4ca759 : (.instanceMethod y_Machine_begin : Cond) ∈ xt_tbl := xt_in (xt_t7 (List.mem_of_getElem? (i := 117) (by decide +kernel))) (by decide +kernel)
theorem m_74154b54 : (.selects "StackHost$Machine" y_Machine_begin y_Machine_begin : Cond) ∈ xt_tbl := xt_in (xt_t7 (List.mem_of_getElem? (i := 118) (by decide +kernel))) (by decide +kernel)
theorem m_12c1e6f5 : (.code y_Machine_begin b_Machine_begin 2 none : Cond) ∈ xt_tbl := xt_in (xt_t7 (List.mem_of_getElem? (i := 119) (by decide +kernel))) (by decide +kernel)
theorem m_0ee28be7 : (.methodLink "StackHost" 255 y_Machine_takeArguments : Cond) ∈ xt_tbl := xt_in (xt_t7 (List.mem_of_getElem? (i := 180) (by decide +kernel))) (by decide +kernel)
theorem m_e92224a6 : (.instanceMethod y_Machine_takeArguments : Cond) ∈ xt_tbl := xt_in (xt_t7 (List.mem_of_getElem? (i := 181) (by decide +kernel))) (by decide +kernel)
theorem m_7b1e614f : (.selects "StackHost$Machine" y_Machine_takeArguments y_Machine_takeArguments : Cond) ∈ xt_tbl := xt_in (xt_t7 (List.mem_of_getElem? (i := 182) (by decide +kernel))) (by decide +kernel)
theorem m_9a7ca6ad : (.code y_Machine_takeArguments b_Machine_takeArguments 6 none : Cond) ∈ xt_tbl := xt_in (xt_t7 (List.mem_of_getElem? (i := 183) (by decide +kernel))) (by decide +kernel)
theorem nm_H_refuseWhileUnderWay : xt_nm y_H_refuseWhileUnderWay 0 := ⟨by decide +kernel, by decide +kernel⟩
theorem nm_Instance_functionId : xt_nm y_Instance_functionId 1 := ⟨by decide +kernel, by decide +kernel⟩
theorem nm_Machine_begin : xt_nm y_Machine_begin 1 := ⟨by decide +kernel, by decide +kernel⟩
theorem nm_Machine_takeArguments : xt_nm y_Machine_takeArguments 3 := ⟨by decide +kernel, by decide +kernel⟩
set_option maxRecDepth 100000 in
def T_H_invoke : List (Nat × Instr × Nat) := [(0, .aload_n 0, 1), (1, .iload_n 1, 1), (2, .invokevirtual 200, 3), (5, .astore_n 3, 1), (6, .aload_n 0, 1), (7, .aload_n 3, 1), (8, .getfield 216, 3), (11, .iload_n 2, 1), (12, .invokevirtual 224, 3), (15, .aload_n 3, 1), (16, .getfield 216, 3), (19, .getfield 148, 3), (22, .iload_n 2, 1), (23, .iconst 1, 1), (24, .invokevirtual 166, 3), (27, .ifCond .eq 13, 3), (30, .new 86, 3), (33, .dup, 1), (34, .ldc 251, 2), (36, .invokespecial 90, 3), (39, .athrow, 1), (40, .aload_n 3, 1), (41, .getfield 216, 3), (44, .getfield 148, 3), (47, .iload_n 2, 1), (48, .iconst 2, 1), (49, .invokevirtual 166, 3), (52, .istore 4, 2), (54, .aload_n 3, 1), (55, .getfield 216, 3), (58, .iload 4, 2), (60, .invokevirtual 228, 3), (63, .istore 5, 2), (65, .aload_n 3, 1), (66, .getfield 216, 3), (69, .iload 5, 2), (71, .invokevirtual 231, 3), (74, .aload_n 0, 1), (75, .getfield 54, 3), (78, .getfield 242, 3), (81, .if_icmp .eq 13, 3), (84, .new 86, 3), (87, .dup, 1), (88, .ldc 253, 2), (90, .invokespecial 90, 3), (93, .athrow, 1), (94, .aload_n 0, 1), (95, .invokevirtual 169, 3), (98, .aload_n 0, 1), (99, .getfield 45, 3), (102, .aload_n 3, 1), (103, .iload 4, 2), (105, .invokevirtual 185, 3), (108, .invokevirtual 191, 3), (111, .aload_n 0, 1), (112, .getfield 45, 3), (115, .aload_n 0, 1), (116, .getfield 54, 3), (119, .aload_n 3, 1), (120, .getfield 216, 3), (123, .iload 5, 2), (125, .invokevirtual 255, 3), (128, .aload_n 0, 1), (129, .getfield 54, 3), (132, .iconst 0, 1), (133, .putfield 242, 3), (136, .return_, 1)]
theorem D_H_invoke : ∀ q ∈ T_H_invoke, decode b_H_invoke q.1 = .ok (q.2.1, q.2.2) := by decide +kernel
def w_H_invoke (x0 : Nat) (x1 : Int32) (x2 : Int32) (h : xb_H) (bc : Nat) (bs : Nat) (Qr : xb_H → Prop) (Qt : String → xb_H → Prop) : Prop :=
    xb_k h x0 = 1 ∧ ∃ c4 sc4 : Nat, c4 ≤ bc ∧ sc4 ≤ bs ∧ w_H_instanceNumbered x0 x1 h c4 sc4 (fun (r3 : Nat) (h2 : xb_H) => xb_ext h h2 → xb_k h2 r3 = 11 ∧ ∃ b6 : Nat, (xb_r h2 r3 1) = some b6 ∧ ∃ c9 sc9 : Nat, c9 ≤ (bc - c4) ∧ sc9 ≤ (bs - sc4) ∧ w_H_refuseExportBeyond x0 b6 x2 h2 c9 sc9 (fun (h7 : xb_H) => xb_ext h2 h7 → ∃ b10 : Nat, (xb_r h7 r3 1) = some b10 ∧ xb_k h7 b10 = 3 ∧ ∃ b12 : Nat, (xb_r h7 b10 8) = some b12 ∧ xb_k h7 b12 = 2 ∧ w_Row_at b12 x2 1 h7 (fun (r15 : Int32) (h14 : xb_H) => xb_ext h7 h14 → ((r15 = (0 : Int32) → ∃ b17 : Nat, (xb_r h14 r3 1) = some b17 ∧ xb_k h14 b17 = 3 ∧ ∃ b19 : Nat, (xb_r h14 b17 8) = some b19 ∧ xb_k h14 b19 = 2 ∧ w_Row_at b19 x2 2 h14 (fun (r22 : Int32) (h21 : xb_H) => xb_ext h14 h21 → ∃ b23 : Nat, (xb_r h21 r3 1) = some b23 ∧ xb_k h21 b23 = 3 ∧ w_StackModule_typeOf b23 r22 h21 (fun (r26 : Int32) (h25 : xb_H) => xb_ext h21 h25 → ∃ b27 : Nat, (xb_r h25 r3 1) = some b27 ∧ xb_k h25 b27 = 3 ∧ w_StackModule_parameters b27 r26 h25 (fun (r30 : Int32) (h29 : xb_H) => xb_ext h25 h29 → ∃ b31 : Nat, (xb_r h29 x0 8) = some b31 ∧ xb_k h29 b31 = 2 ∧ ((r30 = (xb_i h29 b31 1) → ∃ c36 sc36 : Nat, c36 ≤ ((bc - c4) - c9) ∧ sc36 ≤ ((bs - sc4) - sc9) ∧ w_H_refuseWhileUnderWay x0 h29 c36 sc36 (fun (h34 : xb_H) => xb_ext h29 h34 → ∃ b37 : Nat, (xb_r h34 x0 7) = some b37 ∧ w_Instance_functionId r3 r22 h34 (fun (r39 : Int32) (h38 : xb_H) => xb_ext h34 h38 → xb_k h38 b37 = 8 ∧ w_Machine_begin b37 r39 h38 (fun (h41 : xb_H) => xb_ext h38 h41 → ∃ b43 : Nat, (xb_r h41 x0 7) = some b43 ∧ ∃ b44 : Nat, (xb_r h41 x0 8) = some b44 ∧ ∃ b45 : Nat, (xb_r h41 r3 1) = some b45 ∧ xb_k h41 b43 = 8 ∧ ∃ c49 sc49 : Nat, c49 ≤ (((bc - c4) - c9) - c36) ∧ sc49 ≤ (((bs - sc4) - sc9) - sc36) ∧ w_Machine_takeArguments b43 b44 b45 r26 h41 c49 sc49 (fun (h47 : xb_H) => xb_ext h41 h47 → ∃ b50 : Nat, (xb_r h47 x0 8) = some b50 ∧ xb_k h47 b50 = 2 ∧ ∀ h52 : xb_H, h52 = xb_I h47 b50 1 0 → Qr h52)))) Qt) ∧ (¬ r30 = (xb_i h29 b31 1) → 1 ≤ ((bc - c4) - c9) ∧ 6 ≤ ((bs - sc4) - sc9) ∧ Qt "java/lang/IllegalArgumentException" h29)))))) ∧ (¬ r15 = (0 : Int32) → 1 ≤ ((bc - c4) - c9) ∧ 6 ≤ ((bs - sc4) - sc9) ∧ Qt "java/lang/IllegalArgumentException" h14)))) Qt) Qt

set_option maxHeartbeats 4000000 in
set_option maxRecDepth 100000 in
theorem ok_H_invoke (l : Launch) (hfl : l.flags = pinnedFlags ++ [noTraceFlag]) (D : va_G) (A : Nat → Prop) (σ : Nat) (x0 : Nat) (x1 : Int32) (x2 : Int32) (h : xb_H) (bc : Nat) (bs : Nat) (Qr : xb_H → Prop) (Qt : String → xb_H → Prop) (hw : w_H_invoke x0 x1 x2 h bc bs Qr Qt) : xt_Met l y_H_invoke [.code y_H_invoke b_H_invoke 6 none] (xb_rm 5 bc bs) (xb_Pc D A σ h [.ref x0, .int x1, .int x2]) (xb_Qc D A h (fun v h => v = none ∧ Qr h) Qt) bc bs A := by
  refine xb_ofAm (cc := b_H_invoke) (by decide) (Nat.le_of_ble_eq_true rfl) ?_
  unfold w_H_invoke at hw
  show xb_am l D A σ 5 bc bs h (fun v h => v = none ∧ Qr h) Qt y_H_invoke.cls y_H_invoke.name b_H_invoke 6 ([] : List ExceptionTableEntry) none 0 [(0, .ref x0), (1, .int x1), (2, .int x2)] [] h bc bs
  obtain ⟨MC, hMC⟩ : ∃ x, x = bc := ⟨_, rfl⟩
  obtain ⟨MS, hMS⟩ : ∃ x, x = bs := ⟨_, rfl⟩
  rw [show xb_am l D A σ 5 bc bs = xb_am l D A σ 5 MC MS by rw [hMC, hMS]]
  obtain ⟨h0, hh0⟩ : ∃ x, x = h := ⟨_, rfl⟩
  rw [show xb_am l D A σ 5 MC MS h = xb_am l D A σ 5 MC MS h0 by rw [hh0]]
  intro p e s m args below meth c hC H locs ls k n hE hl hR hS hk hn
  obtain ⟨hx, hb, hown, hlocks, htab, hml, hr, hB, hA, hnm⟩ := id hC
  have hts := hB.1.1.at args
  refine lv_aload_n hx hb (xb_d D_H_invoke 0 rfl) rfl (lv_at hl 0 rfl) ?_
  refine lv_iload_n hx hb (xb_d D_H_invoke 1 rfl) rfl (lv_at hl 1 rfl) ?_
  obtain ⟨hk1, hw⟩ := hw
  obtain ⟨c4, sc4, hlc4, hlsc4, hw⟩ := hw
  refine xb_call (D := D) (A := A) (σ := σ) (h := h) (d := 2) (mc := c4) (ms := sc4) (maxL := 2) (rest := []) (av := [.ref x0, .int x1]) (fun T hT X => by obtain ⟨cb, r1, r2, r3⟩ := xb_recv (ci := 0) hR rfl hk1 (by decide); exact xt_invV X hx hown (hts _ m_63e9a525) (hts _ m_93abae91) (hts _ m_f44e4f6a) (xt_sigOf (hts _ m_925de4f3)) nm_H_instanceNumbered (by rw [hT]; exact r1) r2 r3 (g := F0 m 2 ls [.int x1, .ref x0]) rfl (argsL := [.int x1]) (rest := []) rfl rfl (by rw [hb]; exact (xb_d D_H_invoke 2 rfl))) (ok_H_instanceNumbered l hfl D A σ x0 x1 h c4 sc4 _ _ hw) (hml.trans hl.1.symm) (by rw [hb]; exact (xb_d D_H_invoke 2 rfl)) (Nat.le_of_ble_eq_true rfl) (Nat.le_of_ble_eq_true rfl) (Nat.le_of_ble_eq_true rfl) (show k + c4 ≤ MC by omega) (show n + sc4 ≤ MS by omega) (xt_w1 hB.1 m_925de4f3) (xt_cdOf hB.1 m_925de4f3) (hts _ m_ba0734f5) hB hR hS hA (fun vv h2 H locs hq hEh2 hR hS => ?_) (fun XX ax h2 H locs hq hEh2 hex hR hS => ?_)
  · obtain ⟨r3, rfl, hw⟩ := hq
    have hw := hw hEh2
    have hE := hE.tr hEh2
    refine W.eq (g2 := F0 m 5 ls [.ref r3]) rfl ?_
    refine lv_astore_n hx hb (xb_d D_H_invoke 3 rfl) rfl hl (by decide) rfl (fun ls hl => ?_)
    have hl : lv_has ls 6 [(3, .ref r3), (0, .ref x0), (1, .int x1), (2, .int x2)] := hl
    refine lv_aload_n hx hb (xb_d D_H_invoke 4 rfl) rfl (lv_at hl 1 rfl) ?_
    refine lv_aload_n hx hb (xb_d D_H_invoke 5 rfl) rfl (lv_at hl 0 rfl) ?_
    obtain ⟨hk5, hw⟩ := hw
    refine xb_getP (C := R_Instance) (T := F_Instance) (N := 8) hx hb 10 1 hts fin_Instance hown hR hk5 (by decide) rfl (by decide) rfl (hts _ m_105e0328) (fun _ h9 => h9) (xb_d D_H_invoke 6 rfl) ?_
    obtain ⟨b6, eb6, hw⟩ := hw
    refine xb_some eb6 ?_
    refine lv_iload_n hx hb (xb_d D_H_invoke 7 rfl) rfl (lv_at hl 3 rfl) ?_
    have hk1 : xb_k h2 x0 = 1 := hEh2.k hk1
    obtain ⟨c9, sc9, hlc9, hlsc9, hw⟩ := hw
    refine xb_call (D := D) (A := A) (σ := σ) (h := h2) (d := 3) (mc := c9) (ms := sc9) (maxL := 3) (rest := []) (av := [.ref x0, .ref b6, .int x2]) (fun T hT X => by obtain ⟨cb, r1, r2, r3⟩ := xb_recv (ci := 0) hR rfl hk1 (by decide); exact xt_invV X hx hown (hts _ m_b0843a70) (hts _ m_12222290) (hts _ m_e3665496) (xt_sigOf (hts _ m_e263622d)) nm_H_refuseExportBeyond (by rw [hT]; exact r1) r2 r3 (g := F0 m 12 ls [.int x2, .ref b6, .ref x0]) rfl (argsL := [.ref b6, .int x2]) (rest := []) rfl rfl (by rw [hb]; exact (xb_d D_H_invoke 8 rfl))) (ok_H_refuseExportBeyond l hfl D A σ x0 b6 x2 h2 c9 sc9 _ _ hw) (hml.trans hl.1.symm) (by rw [hb]; exact (xb_d D_H_invoke 8 rfl)) (Nat.le_of_ble_eq_true rfl) (Nat.le_of_ble_eq_true rfl) (Nat.le_of_ble_eq_true rfl) (show (k + c4) + c9 ≤ MC by omega) (show (n + sc4) + sc9 ≤ MS by omega) (xt_w1 hB.1 m_e263622d) (xt_cdOf hB.1 m_e263622d) (hts _ m_ba0734f5) hB hR hS hA (fun vv h7 H locs hq hEh7 hR hS => ?_) (fun XX ax h7 H locs hq hEh7 hex hR hS => ?_)
    · obtain ⟨rfl, hw⟩ := hq
      have hw := hw hEh7
      have hE := hE.tr hEh7
      refine W.eq (g2 := F0 m 15 ls []) rfl ?_
      refine lv_aload_n hx hb (xb_d D_H_invoke 9 rfl) rfl (lv_at hl 0 rfl) ?_
      have hk5 : xb_k h7 r3 = 11 := hEh7.k hk5
      refine xb_getP (C := R_Instance) (T := F_Instance) (N := 8) hx hb 10 1 hts fin_Instance hown hR hk5 (by decide) rfl (by decide) rfl (hts _ m_105e0328) (fun _ h9 => h9) (xb_d D_H_invoke 10 rfl) ?_
      obtain ⟨b10, eb10, hw⟩ := hw
      refine xb_some eb10 ?_
      obtain ⟨hk11, hw⟩ := hw
      refine xb_getP (C := R_StackModule) (T := F_StackModule) (N := 19) hx hb 2 8 hts fin_StackModule hown hR hk11 (by decide) rfl (by decide) rfl (hts _ m_47aa209b) (fun _ h9 => h9) (xb_d D_H_invoke 11 rfl) ?_
      obtain ⟨b12, eb12, hw⟩ := hw
      refine xb_some eb12 ?_
      refine lv_iload_n hx hb (xb_d D_H_invoke 12 rfl) rfl (lv_at hl 3 rfl) ?_
      refine lv_iconst (v := 1) hx hb (xb_d D_H_invoke 13 rfl) (by decide) ?_
      obtain ⟨hk13, hw⟩ := hw
      refine xb_call (D := D) (A := A) (σ := σ) (h := h7) (d := 2) (mc := 0) (ms := 0) (maxL := 3) (rest := []) (av := [.ref b12, .int x2, .int 1]) (fun T hT X => by obtain ⟨cb, r1, r2, r3⟩ := xb_recv (ci := 1) hR rfl hk13 (by decide); exact xt_invV X hx hown (hts _ m_b0980f8b) (hts _ m_8e233096) (hts _ m_27eed10c) (xt_sigOf (hts _ m_ff1c70ae)) nm_Row_at (by rw [hT]; exact r1) r2 r3 (g := F0 m 24 ls [.int 1, .int x2, .ref b12]) rfl (argsL := [.int x2, .int 1]) (rest := []) rfl rfl (by rw [hb]; exact (xb_d D_H_invoke 14 rfl))) (ok_Row_at l hfl D A σ b12 x2 1 h7 _ hw) (hml.trans hl.1.symm) (by rw [hb]; exact (xb_d D_H_invoke 14 rfl)) (Nat.le_of_ble_eq_true rfl) (Nat.le_of_ble_eq_true rfl) (Nat.le_of_ble_eq_true rfl) (show ((k + c4) + c9) + 0 ≤ MC by omega) (show ((n + sc4) + sc9) + 0 ≤ MS by omega) (xt_w1 hB.1 m_ff1c70ae) (xt_cdOf hB.1 m_ff1c70ae) (hts _ m_c1bef504) hB hR hS hA (fun vv h14 H locs hq hEh14 hR hS => ?_) (fun XX ax h14 H locs hq hEh14 hex hR hS => ?_)
      · obtain ⟨r15, rfl, hw⟩ := hq
        have hw := hw hEh14
        have hE := hE.tr hEh14
        refine W.eq (g2 := F0 m 27 ls [.int r15]) rfl ?_
        refine lv_if_eq (tgt := 40) hx hb (xb_d D_H_invoke 15 rfl) rfl (fun hc16 => ?_) (fun hc16 => ?_)
        · have hw := hw.1 hc16
          refine lv_aload_n hx hb (xb_d D_H_invoke 21 rfl) rfl (lv_at hl 0 rfl) ?_
          have hk5 : xb_k h14 r3 = 11 := hEh14.k hk5
          refine xb_getP (C := R_Instance) (T := F_Instance) (N := 8) hx hb 10 1 hts fin_Instance hown hR hk5 (by decide) rfl (by decide) rfl (hts _ m_105e0328) (fun _ h9 => h9) (xb_d D_H_invoke 22 rfl) ?_
          obtain ⟨b17, eb17, hw⟩ := hw
          refine xb_some eb17 ?_
          obtain ⟨hk18, hw⟩ := hw
          refine xb_getP (C := R_StackModule) (T := F_StackModule) (N := 19) hx hb 2 8 hts fin_StackModule hown hR hk18 (by decide) rfl (by decide) rfl (hts _ m_47aa209b) (fun _ h9 => h9) (xb_d D_H_invoke 23 rfl) ?_
          obtain ⟨b19, eb19, hw⟩ := hw
          refine xb_some eb19 ?_
          refine lv_iload_n hx hb (xb_d D_H_invoke 24 rfl) rfl (lv_at hl 3 rfl) ?_
          refine lv_iconst (v := 2) hx hb (xb_d D_H_invoke 25 rfl) (by decide) ?_
          obtain ⟨hk20, hw⟩ := hw
          refine xb_call (D := D) (A := A) (σ := σ) (h := h14) (d := 2) (mc := 0) (ms := 0) (maxL := 3) (rest := []) (av := [.ref b19, .int x2, .int 2]) (fun T hT X => by obtain ⟨cb, r1, r2, r3⟩ := xb_recv (ci := 1) hR rfl hk20 (by decide); exact xt_invV X hx hown (hts _ m_b0980f8b) (hts _ m_8e233096) (hts _ m_27eed10c) (xt_sigOf (hts _ m_ff1c70ae)) nm_Row_at (by rw [hT]; exact r1) r2 r3 (g := F0 m 49 ls [.int 2, .int x2, .ref b19]) rfl (argsL := [.int x2, .int 2]) (rest := []) rfl rfl (by rw [hb]; exact (xb_d D_H_invoke 26 rfl))) (ok_Row_at l hfl D A σ b19 x2 2 h14 _ hw) (hml.trans hl.1.symm) (by rw [hb]; exact (xb_d D_H_invoke 26 rfl)) (Nat.le_of_ble_eq_true rfl) (Nat.le_of_ble_eq_true rfl) (Nat.le_of_ble_eq_true rfl) (show ((k + c4) + c9) + 0 ≤ MC by omega) (show ((n + sc4) + sc9) + 0 ≤ MS by omega) (xt_w1 hB.1 m_ff1c70ae) (xt_cdOf hB.1 m_ff1c70ae) (hts _ m_c1bef504) hB hR hS hA (fun vv h21 H locs hq hEh21 hR hS => ?_) (fun XX ax h21 H locs hq hEh21 hex hR hS => ?_)
          · obtain ⟨r22, rfl, hw⟩ := hq
            have hw := hw hEh21
            have hE := hE.tr hEh21
            refine W.eq (g2 := F0 m 52 ls [.int r22]) rfl ?_
            refine lv_istore hx hb (xb_d D_H_invoke 27 rfl) hl (by decide) rfl (fun ls hl => ?_)
            have hl : lv_has ls 6 [(4, .int r22), (3, .ref r3), (0, .ref x0), (1, .int x1), (2, .int x2)] := hl
            refine lv_aload_n hx hb (xb_d D_H_invoke 28 rfl) rfl (lv_at hl 1 rfl) ?_
            have hk5 : xb_k h21 r3 = 11 := hEh21.k hk5
            refine xb_getP (C := R_Instance) (T := F_Instance) (N := 8) hx hb 10 1 hts fin_Instance hown hR hk5 (by decide) rfl (by decide) rfl (hts _ m_105e0328) (fun _ h9 => h9) (xb_d D_H_invoke 29 rfl) ?_
            obtain ⟨b23, eb23, hw⟩ := hw
            refine xb_some eb23 ?_
            refine lv_iload hx hb (xb_d D_H_invoke 30 rfl) (lv_at hl 0 rfl) ?_
            obtain ⟨hk24, hw⟩ := hw
            refine xb_call (D := D) (A := A) (σ := σ) (h := h21) (d := 3) (mc := 0) (ms := 0) (maxL := 2) (rest := []) (av := [.ref b23, .int r22]) (fun T hT X => by obtain ⟨cb, r1, r2, r3⟩ := xb_recv (ci := 2) hR rfl hk24 (by decide); exact xt_invV X hx hown (hts _ m_813f0fde) (hts _ m_eb5729e5) (hts _ m_9cf0d8be) (xt_sigOf (hts _ m_42e2443a)) nm_StackModule_typeOf (by rw [hT]; exact r1) r2 r3 (g := F0 m 60 ls [.int r22, .ref b23]) rfl (argsL := [.int r22]) (rest := []) rfl rfl (by rw [hb]; exact (xb_d D_H_invoke 31 rfl))) (ok_StackModule_typeOf l hfl D A σ b23 r22 h21 _ hw) (hml.trans hl.1.symm) (by rw [hb]; exact (xb_d D_H_invoke 31 rfl)) (Nat.le_of_ble_eq_true rfl) (Nat.le_of_ble_eq_true rfl) (Nat.le_of_ble_eq_true rfl) (show ((k + c4) + c9) + 0 ≤ MC by omega) (show ((n + sc4) + sc9) + 0 ≤ MS by omega) (xt_w1 hB.1 m_42e2443a) (xt_cdOf hB.1 m_42e2443a) (hts _ m_9c375545) hB hR hS hA (fun vv h25 H locs hq hEh25 hR hS => ?_) (fun XX ax h25 H locs hq hEh25 hex hR hS => ?_)
            · obtain ⟨r26, rfl, hw⟩ := hq
              have hw := hw hEh25
              have hE := hE.tr hEh25
              refine W.eq (g2 := F0 m 63 ls [.int r26]) rfl ?_
              refine lv_istore hx hb (xb_d D_H_invoke 32 rfl) hl (by decide) rfl (fun ls hl => ?_)
              have hl : lv_has ls 6 [(5, .int r26), (4, .int r22), (3, .ref r3), (0, .ref x0), (1, .int x1), (2, .int x2)] := hl
              refine lv_aload_n hx hb (xb_d D_H_invoke 33 rfl) rfl (lv_at hl 2 rfl) ?_
              have hk5 : xb_k h25 r3 = 11 := hEh25.k hk5
              refine xb_getP (C := R_Instance) (T := F_Instance) (N := 8) hx hb 10 1 hts fin_Instance hown hR hk5 (by decide) rfl (by decide) rfl (hts _ m_105e0328) (fun _ h9 => h9) (xb_d D_H_invoke 34 rfl) ?_
              obtain ⟨b27, eb27, hw⟩ := hw
              refine xb_some eb27 ?_
              refine lv_iload hx hb (xb_d D_H_invoke 35 rfl) (lv_at hl 0 rfl) ?_
              obtain ⟨hk28, hw⟩ := hw
              refine xb_call (D := D) (A := A) (σ := σ) (h := h25) (d := 3) (mc := 0) (ms := 0) (maxL := 2) (rest := []) (av := [.ref b27, .int r26]) (fun T hT X => by obtain ⟨cb, r1, r2, r3⟩ := xb_recv (ci := 2) hR rfl hk28 (by decide); exact xt_invV X hx hown (hts _ m_3ab16739) (hts _ m_aa97372f) (hts _ m_8160d9b3) (xt_sigOf (hts _ m_8621e59b)) nm_StackModule_parameters (by rw [hT]; exact r1) r2 r3 (g := F0 m 71 ls [.int r26, .ref b27]) rfl (argsL := [.int r26]) (rest := []) rfl rfl (by rw [hb]; exact (xb_d D_H_invoke 36 rfl))) (ok_StackModule_parameters l hfl D A σ b27 r26 h25 _ hw) (hml.trans hl.1.symm) (by rw [hb]; exact (xb_d D_H_invoke 36 rfl)) (Nat.le_of_ble_eq_true rfl) (Nat.le_of_ble_eq_true rfl) (Nat.le_of_ble_eq_true rfl) (show ((k + c4) + c9) + 0 ≤ MC by omega) (show ((n + sc4) + sc9) + 0 ≤ MS by omega) (xt_w1 hB.1 m_8621e59b) (xt_cdOf hB.1 m_8621e59b) (hts _ m_9c375545) hB hR hS hA (fun vv h29 H locs hq hEh29 hR hS => ?_) (fun XX ax h29 H locs hq hEh29 hex hR hS => ?_)
              · obtain ⟨r30, rfl, hw⟩ := hq
                have hw := hw hEh29
                have hE := hE.tr hEh29
                refine W.eq (g2 := F0 m 74 ls [.int r30]) rfl ?_
                refine lv_aload_n hx hb (xb_d D_H_invoke 37 rfl) rfl (lv_at hl 3 rfl) ?_
                have hk1 : xb_k h7 x0 = 1 := hEh7.k hk1
                have hk1 : xb_k h14 x0 = 1 := hEh14.k hk1
                have hk1 : xb_k h21 x0 = 1 := hEh21.k hk1
                have hk1 : xb_k h25 x0 = 1 := hEh25.k hk1
                have hk1 : xb_k h29 x0 = 1 := hEh29.k hk1
                refine xb_getP (C := R_H) (T := F_H) (N := 11) hx hb 0 8 hts fin_H hown hR hk1 (by decide) rfl (by decide) rfl (hts _ m_3f9b649c) (fun _ h9 => h9) (xb_d D_H_invoke 38 rfl) ?_
                obtain ⟨b31, eb31, hw⟩ := hw
                refine xb_some eb31 ?_
                obtain ⟨hk32, hw⟩ := hw
                refine xb_getI (C := R_Row) (T := F_Row) (N := 3) hx hb 1 1 hts fin_Row hown hR hk32 (by decide) rfl (by decide) rfl (hts _ m_d32f0086) (fun _ h9 => h9) (xb_d D_H_invoke 39 rfl) ?_
                refine lv_icmp_eq (tgt := 94) hx hb (xb_d D_H_invoke 40 rfl) rfl (fun hc33 => ?_) (fun hc33 => ?_)
                · have hw := hw.1 hc33
                  refine lv_aload_n hx hb (xb_d D_H_invoke 46 rfl) rfl (lv_at hl 3 rfl) ?_
                  obtain ⟨c36, sc36, hlc36, hlsc36, hw⟩ := hw
                  refine xb_call (D := D) (A := A) (σ := σ) (h := h29) (d := 2) (mc := c36) (ms := sc36) (maxL := 1) (rest := []) (av := [.ref x0]) (fun T hT X => by obtain ⟨cb, r1, r2, r3⟩ := xb_recv (ci := 0) hR rfl hk1 (by decide); exact xt_invV X hx hown (hts _ m_d8dc723e) (hts _ m_d39108b7) (hts _ m_6c666fc1) (xt_sigOf (hts _ m_f1e2143e)) nm_H_refuseWhileUnderWay (by rw [hT]; exact r1) r2 r3 (g := F0 m 95 ls [.ref x0]) rfl (argsL := []) (rest := []) rfl rfl (by rw [hb]; exact (xb_d D_H_invoke 47 rfl))) (ok_H_refuseWhileUnderWay l hfl D A σ x0 h29 c36 sc36 _ _ hw) (hml.trans hl.1.symm) (by rw [hb]; exact (xb_d D_H_invoke 47 rfl)) (Nat.le_of_ble_eq_true rfl) (Nat.le_of_ble_eq_true rfl) (Nat.le_of_ble_eq_true rfl) (show ((k + c4) + c9) + c36 ≤ MC by omega) (show ((n + sc4) + sc9) + sc36 ≤ MS by omega) (xt_w1 hB.1 m_f1e2143e) (xt_cdOf hB.1 m_f1e2143e) (hts _ m_ba0734f5) hB hR hS hA (fun vv h34 H locs hq hEh34 hR hS => ?_) (fun XX ax h34 H locs hq hEh34 hex hR hS => ?_)
                  · obtain ⟨rfl, hw⟩ := hq
                    have hw := hw hEh34
                    have hE := hE.tr hEh34
                    refine W.eq (g2 := F0 m 98 ls []) rfl ?_
                    refine lv_aload_n hx hb (xb_d D_H_invoke 48 rfl) rfl (lv_at hl 3 rfl) ?_
                    have hk1 : xb_k h34 x0 = 1 := hEh34.k hk1
                    refine xb_getP (C := R_H) (T := F_H) (N := 11) hx hb 0 7 hts fin_H hown hR hk1 (by decide) rfl (by decide) rfl (hts _ m_ab10058e) (fun _ h9 => h9) (xb_d D_H_invoke 49 rfl) ?_
                    obtain ⟨b37, eb37, hw⟩ := hw
                    refine xb_some eb37 ?_
                    refine lv_aload_n hx hb (xb_d D_H_invoke 50 rfl) rfl (lv_at hl 2 rfl) ?_
                    refine lv_iload hx hb (xb_d D_H_invoke 51 rfl) (lv_at hl 1 rfl) ?_
                    have hk5 : xb_k h29 r3 = 11 := hEh29.k hk5
                    have hk5 : xb_k h34 r3 = 11 := hEh34.k hk5
                    refine xb_call (D := D) (A := A) (σ := σ) (h := h34) (d := 2) (mc := 0) (ms := 0) (maxL := 3) (rest := [.ref b37]) (av := [.ref r3, .int r22]) (fun T hT X => by obtain ⟨cb, r1, r2, r3⟩ := xb_recv (ci := 10) hR rfl hk5 (by decide); exact xt_invV X hx hown (hts _ m_fbe39451) (hts _ m_3dbccea2) (hts _ m_6ce97918) (xt_sigOf (hts _ m_0d2452ce)) nm_Instance_functionId (by rw [hT]; exact r1) r2 r3 (g := F0 m 105 ls [.int r22, .ref r3, .ref b37]) rfl (argsL := [.int r22]) (rest := [.ref b37]) rfl rfl (by rw [hb]; exact (xb_d D_H_invoke 52 rfl))) (ok_Instance_functionId l hfl D A σ r3 r22 h34 _ hw) (hml.trans hl.1.symm) (by rw [hb]; exact (xb_d D_H_invoke 52 rfl)) (Nat.le_of_ble_eq_true rfl) (Nat.le_of_ble_eq_true rfl) (Nat.le_of_ble_eq_true rfl) (show (((k + c4) + c9) + c36) + 0 ≤ MC by omega) (show (((n + sc4) + sc9) + sc36) + 0 ≤ MS by omega) (xt_w1 hB.1 m_0d2452ce) (xt_cdOf hB.1 m_0d2452ce) (hts _ m_7a4e907b) hB hR hS hA (fun vv h38 H locs hq hEh38 hR hS => ?_) (fun XX ax h38 H locs hq hEh38 hex hR hS => ?_)
                    · obtain ⟨r39, rfl, hw⟩ := hq
                      have hw := hw hEh38
                      have hE := hE.tr hEh38
                      refine W.eq (g2 := F0 m 108 ls [.int r39, .ref b37]) rfl ?_
                      obtain ⟨hk40, hw⟩ := hw
                      refine xb_call (D := D) (A := A) (σ := σ) (h := h38) (d := 2) (mc := 0) (ms := 0) (maxL := 2) (rest := []) (av := [.ref b37, .int r39]) (fun T hT X => by obtain ⟨cb, r1, r2, r3⟩ := xb_recv (ci := 7) hR rfl hk40 (by decide); exact xt_invV X hx hown (hts _ m_90ed97fb) (hts _ m_4d4ca759) (hts _ m_74154b54) (xt_sigOf (hts _ m_12c1e6f5)) nm_Machine_begin (by rw [hT]; exact r1) r2 r3 (g := F0 m 108 ls [.int r39, .ref b37]) rfl (argsL := [.int r39]) (rest := []) rfl rfl (by rw [hb]; exact (xb_d D_H_invoke 53 rfl))) (ok_Machine_begin l hfl D A σ b37 r39 h38 _ hw) (hml.trans hl.1.symm) (by rw [hb]; exact (xb_d D_H_invoke 53 rfl)) (Nat.le_of_ble_eq_true rfl) (Nat.le_of_ble_eq_true rfl) (Nat.le_of_ble_eq_true rfl) (show (((k + c4) + c9) + c36) + 0 ≤ MC by omega) (show (((n + sc4) + sc9) + sc36) + 0 ≤ MS by omega) (xt_w1 hB.1 m_12c1e6f5) (xt_cdOf hB.1 m_12c1e6f5) (hts _ m_73451f9b) hB hR hS hA (fun vv h41 H locs hq hEh41 hR hS => ?_) (fun XX ax h41 H locs hq hEh41 hex hR hS => ?_)
                      · obtain ⟨rfl, hw⟩ := hq
                        have hw := hw hEh41
                        have hE := hE.tr hEh41
                        refine W.eq (g2 := F0 m 111 ls []) rfl ?_
                        refine lv_aload_n hx hb (xb_d D_H_invoke 54 rfl) rfl (lv_at hl 3 rfl) ?_
                        have hk1 : xb_k h38 x0 = 1 := hEh38.k hk1
                        have hk1 : xb_k h41 x0 = 1 := hEh41.k hk1
                        refine xb_getP (C := R_H) (T := F_H) (N := 11) hx hb 0 7 hts fin_H hown hR hk1 (by decide) rfl (by decide) rfl (hts _ m_ab10058e) (fun _ h9 => h9) (xb_d D_H_invoke 55 rfl) ?_
                        obtain ⟨b43, eb43, hw⟩ := hw
                        refine xb_some eb43 ?_
                        refine lv_aload_n hx hb (xb_d D_H_invoke 56 rfl) rfl (lv_at hl 3 rfl) ?_
                        refine xb_getP (C := R_H) (T := F_H) (N := 11) hx hb 0 8 hts fin_H hown hR hk1 (by decide) rfl (by decide) rfl (hts _ m_3f9b649c) (fun _ h9 => h9) (xb_d D_H_invoke 57 rfl) ?_
                        obtain ⟨b44, eb44, hw⟩ := hw
                        refine xb_some eb44 ?_
                        refine lv_aload_n hx hb (xb_d D_H_invoke 58 rfl) rfl (lv_at hl 2 rfl) ?_
                        have hk5 : xb_k h38 r3 = 11 := hEh38.k hk5
                        have hk5 : xb_k h41 r3 = 11 := hEh41.k hk5
                        refine xb_getP (C := R_Instance) (T := F_Instance) (N := 8) hx hb 10 1 hts fin_Instance hown hR hk5 (by decide) rfl (by decide) rfl (hts _ m_105e0328) (fun _ h9 => h9) (xb_d D_H_invoke 59 rfl) ?_
                        obtain ⟨b45, eb45, hw⟩ := hw
                        refine xb_some eb45 ?_
                        refine lv_iload hx hb (xb_d D_H_invoke 60 rfl) (lv_at hl 0 rfl) ?_
                        obtain ⟨hk46, hw⟩ := hw
                        obtain ⟨c49, sc49, hlc49, hlsc49, hw⟩ := hw
                        refine xb_call (D := D) (A := A) (σ := σ) (h := h41) (d := 4) (mc := c49) (ms := sc49) (maxL := 6) (rest := []) (av := [.ref b43, .ref b44, .ref b45, .int r26]) (fun T hT X => by obtain ⟨cb, r1, r2, r3⟩ := xb_recv (ci := 7) hR rfl hk46 (by decide); exact xt_invV X hx hown (hts _ m_0ee28be7) (hts _ m_e92224a6) (hts _ m_7b1e614f) (xt_sigOf (hts _ m_9a7ca6ad)) nm_Machine_takeArguments (by rw [hT]; exact r1) r2 r3 (g := F0 m 125 ls [.int r26, .ref b45, .ref b44, .ref b43]) rfl (argsL := [.ref b44, .ref b45, .int r26]) (rest := []) rfl rfl (by rw [hb]; exact (xb_d D_H_invoke 61 rfl))) (ok_Machine_takeArguments l hfl D A σ b43 b44 b45 r26 h41 c49 sc49 _ hw) (hml.trans hl.1.symm) (by rw [hb]; exact (xb_d D_H_invoke 61 rfl)) (Nat.le_of_ble_eq_true rfl) (Nat.le_of_ble_eq_true rfl) (Nat.le_of_ble_eq_true rfl) (show (((k + c4) + c9) + c36) + c49 ≤ MC by omega) (show (((n + sc4) + sc9) + sc36) + sc49 ≤ MS by omega) (xt_w1 hB.1 m_9a7ca6ad) (xt_cdOf hB.1 m_9a7ca6ad) (hts _ m_73451f9b) hB hR hS hA (fun vv h47 H locs hq hEh47 hR hS => ?_) (fun XX ax h47 H locs hq hEh47 hex hR hS => ?_)
                        · obtain ⟨rfl, hw⟩ := hq
                          have hw := hw hEh47
                          have hE := hE.tr hEh47
                          refine W.eq (g2 := F0 m 128 ls []) rfl ?_
                          refine lv_aload_n hx hb (xb_d D_H_invoke 62 rfl) rfl (lv_at hl 3 rfl) ?_
                          have hk1 : xb_k h47 x0 = 1 := hEh47.k hk1
                          refine xb_getP (C := R_H) (T := F_H) (N := 11) hx hb 0 8 hts fin_H hown hR hk1 (by decide) rfl (by decide) rfl (hts _ m_3f9b649c) (fun _ h9 => h9) (xb_d D_H_invoke 63 rfl) ?_
                          obtain ⟨b50, eb50, hw⟩ := hw
                          refine xb_some eb50 ?_
                          refine lv_iconst (v := 0) hx hb (xb_d D_H_invoke 64 rfl) (by decide) ?_
                          obtain ⟨hk51, hw⟩ := hw
                          refine xb_putI (C := R_Row) (T := F_Row) (N := 3) (ty := .int) (x := 0) hx hb 1 1 hts fin_Row t_Row t_Row_ok n_Row hown hR hS hk51 (by decide) rfl (by decide) rfl (hts _ m_d32f0086) (fun _ h9 => h9) rfl (by decide +kernel) rfl rfl (xb_d D_H_invoke 65 rfl) (fun H locs hR hS => ?_)
                          obtain ⟨h52, eh52⟩ : ∃ x : xb_H, x = xb_I h47 b50 1 0 := ⟨_, rfl⟩
                          rw [← eh52] at hR
                          have hw := hw h52 eh52
                          have hE : xb_ext h0 h52 := by rw [eh52]; exact hE
                          exact xb_vret hx hb hr hlocks (show ((((k + c4) + c9) + c36) + c49) ≤ MC by omega) (show ((((n + sc4) + sc9) + sc36) + sc49) ≤ MS by omega) hE hR hS (xb_d D_H_invoke 66 rfl) hw
                        · exact False.elim hq
                      · exact False.elim hq
                    · exact False.elim hq
                  · exact xb_pass hlocks (fun x hx9 => by rw [htab] at hx9; first | cases hx9 | (simp [tableOf] at hx9; rcases hx9 with rfl | rfl | rfl <;> decide)) (show (((k + c4) + c9) + c36) ≤ MC by omega) (show (((n + sc4) + sc9) + sc36) ≤ MS by omega) (hE.tr hEh34) hR hS hex hq
                · have hw := hw.2 hc33
                  obtain ⟨hc9, hs9, hw⟩ := hw
                  exact xb_throw (names := ["java/lang/RuntimeException", "java/lang/Exception"]) hx hb (hml.trans hl.1.symm) hlocks hfl hown xsite_7b6ea3 hB hS (show ((k + c4) + c9) + 1 ≤ MC by omega) (show ((n + sc4) + sc9) + 6 ≤ MS by omega) (by decide) (Nat.le_of_ble_eq_true rfl) htab (xb_d D_H_invoke 41 rfl) (xb_d D_H_invoke 42 rfl) xt_l2 (xb_d D_H_invoke 43 rfl) (xb_d D_H_invoke 44 rfl) (xb_d D_H_invoke 45 rfl) hE hR hw
              · exact False.elim hq
            · exact False.elim hq
          · exact False.elim hq
        · have hw := hw.2 hc16
          obtain ⟨hc9, hs9, hw⟩ := hw
          exact xb_throw (names := ["java/lang/RuntimeException", "java/lang/Exception"]) hx hb (hml.trans hl.1.symm) hlocks hfl hown xsite_e7cd7f hB hS (show ((k + c4) + c9) + 1 ≤ MC by omega) (show ((n + sc4) + sc9) + 6 ≤ MS by omega) (by decide) (Nat.le_of_ble_eq_true rfl) htab (xb_d D_H_invoke 16 rfl) (xb_d D_H_invoke 17 rfl) xt_l2 (xb_d D_H_invoke 18 rfl) (xb_d D_H_invoke 19 rfl) (xb_d D_H_invoke 20 rfl) hE hR hw
      · exact False.elim hq
    · exact xb_pass hlocks (fun x hx9 => by rw [htab] at hx9; first | cases hx9 | (simp [tableOf] at hx9; rcases hx9 with rfl | rfl | rfl <;> decide)) (show ((k + c4) + c9) ≤ MC by omega) (show ((n + sc4) + sc9) ≤ MS by omega) (hE.tr hEh7) hR hS hex hq
  · exact xb_pass hlocks (fun x hx9 => by rw [htab] at hx9; first | cases hx9 | (simp [tableOf] at hx9; rcases hx9 with rfl | rfl | rfl <;> decide)) (show (k + c4) ≤ MC by omega) (show (n + sc4) ≤ MS by omega) (hE.tr hEh2) hR hS hex hq

theorem m_45f06a7c : (.methodLink "StackHost" 247 y_Row_add : Cond) ∈ xt_tbl := xt_in (xt_t7 (List.mem_of_getElem? (i := 170) (by decide +kernel))) (by decide +kernel)
theorem m_7e8d081f : (.instanceMethod y_Row_add : Cond) ∈ xt_tbl := xt_in (xt_t3 (List.mem_of_getElem? (i := 225) (by decide +kernel))) (by decide +kernel)
theorem m_4e47f51a : (.selects "StackHost$Row" y_Row_add y_Row_add : Cond) ∈ xt_tbl := xt_in (xt_t3 (List.mem_of_getElem? (i := 226) (by decide +kernel))) (by decide +kernel)
theorem m_4f1bdc54 : (.code y_Row_add b_Row_add 3 none : Cond) ∈ xt_tbl := xt_in (xt_t3 (List.mem_of_getElem? (i := 227) (by decide +kernel))) (by decide +kernel)
theorem nm_Row_add : xt_nm y_Row_add 1 := ⟨by decide +kernel, by decide +kernel⟩
set_option maxRecDepth 100000 in
def T_H_push : List (Nat × Instr × Nat) := [(0, .aload_n 0, 1), (1, .getfield 54, 3), (4, .getfield 242, 3), (7, .sipush 1000, 3), (10, .if_icmp .lt 13, 3), (13, .new 63, 3), (16, .dup, 1), (17, .ldc 245, 2), (19, .invokespecial 67, 3), (22, .athrow, 1), (23, .aload_n 0, 1), (24, .getfield 54, 3), (27, .lload_n 1, 1), (28, .invokevirtual 247, 3), (31, .aload_n 0, 1), (32, .getfield 54, 3), (35, .getfield 242, 3), (38, .ireturn, 1)]
theorem D_H_push : ∀ q ∈ T_H_push, decode b_H_push q.1 = .ok (q.2.1, q.2.2) := by decide +kernel
def w_H_push (x0 : Nat) (x1 : Int64) (h : xb_H) (bc : Nat) (bs : Nat) (Qr : Int32 → xb_H → Prop) (Qt : String → xb_H → Prop) : Prop :=
    xb_k h x0 = 1 ∧ ∃ b2 : Nat, (xb_r h x0 8) = some b2 ∧ xb_k h b2 = 2 ∧ (((xb_i h b2 1) < (1000 : Int32) → ∃ b5 : Nat, (xb_r h x0 8) = some b5 ∧ xb_k h b5 = 2 ∧ ∃ c9 sc9 : Nat, c9 ≤ bc ∧ sc9 ≤ bs ∧ w_Row_add b5 x1 h c9 sc9 (fun (h7 : xb_H) => xb_ext h h7 → ∃ b10 : Nat, (xb_r h7 x0 8) = some b10 ∧ xb_k h7 b10 = 2 ∧ Qr (xb_i h7 b10 1) h7)) ∧ (¬ (xb_i h b2 1) < (1000 : Int32) → 1 ≤ bc ∧ 6 ≤ bs ∧ Qt "java/lang/IllegalStateException" h))

set_option maxHeartbeats 4000000 in
set_option maxRecDepth 100000 in
theorem ok_H_push (l : Launch) (hfl : l.flags = pinnedFlags ++ [noTraceFlag]) (D : va_G) (A : Nat → Prop) (σ : Nat) (x0 : Nat) (x1 : Int64) (h : xb_H) (bc : Nat) (bs : Nat) (Qr : Int32 → xb_H → Prop) (Qt : String → xb_H → Prop) (hw : w_H_push x0 x1 h bc bs Qr Qt) : xt_Met l y_H_push [.code y_H_push b_H_push 3 (some .int)] (xb_rm 5 bc bs) (xb_Pc D A σ h [.ref x0, .long x1]) (xb_Qc D A h (fun v h => ∃ r, v = some (.int r) ∧ Qr r h) Qt) bc bs A := by
  refine xb_ofAm (cc := b_H_push) (by decide) (Nat.le_of_ble_eq_true rfl) ?_
  unfold w_H_push at hw
  show xb_am l D A σ 5 bc bs h (fun v h => ∃ r, v = some (.int r) ∧ Qr r h) Qt y_H_push.cls y_H_push.name b_H_push 3 ([] : List ExceptionTableEntry) (some .int) 0 [(0, .ref x0), (1, .long x1)] [] h bc bs
  obtain ⟨MC, hMC⟩ : ∃ x, x = bc := ⟨_, rfl⟩
  obtain ⟨MS, hMS⟩ : ∃ x, x = bs := ⟨_, rfl⟩
  rw [show xb_am l D A σ 5 bc bs = xb_am l D A σ 5 MC MS by rw [hMC, hMS]]
  obtain ⟨h0, hh0⟩ : ∃ x, x = h := ⟨_, rfl⟩
  rw [show xb_am l D A σ 5 MC MS h = xb_am l D A σ 5 MC MS h0 by rw [hh0]]
  intro p e s m args below meth c hC H locs ls k n hE hl hR hS hk hn
  obtain ⟨hx, hb, hown, hlocks, htab, hml, hr, hB, hA, hnm⟩ := id hC
  have hts := hB.1.1.at args
  refine lv_aload_n hx hb (xb_d D_H_push 0 rfl) rfl (lv_at hl 0 rfl) ?_
  obtain ⟨hk1, hw⟩ := hw
  refine xb_getP (C := R_H) (T := F_H) (N := 11) hx hb 0 8 hts fin_H hown hR hk1 (by decide) rfl (by decide) rfl (hts _ m_3f9b649c) (fun _ h9 => h9) (xb_d D_H_push 1 rfl) ?_
  obtain ⟨b2, eb2, hw⟩ := hw
  refine xb_some eb2 ?_
  obtain ⟨hk3, hw⟩ := hw
  refine xb_getI (C := R_Row) (T := F_Row) (N := 3) hx hb 1 1 hts fin_Row hown hR hk3 (by decide) rfl (by decide) rfl (hts _ m_d32f0086) (fun _ h9 => h9) (xb_d D_H_push 2 rfl) ?_
  refine lv_sipush (v := 1000) hx hb (xb_d D_H_push 3 rfl) (by decide) ?_
  refine lv_icmp_lt (tgt := 23) hx hb (xb_d D_H_push 4 rfl) rfl (fun hc4 => ?_) (fun hc4 => ?_)
  · have hw := hw.1 hc4
    refine lv_aload_n hx hb (xb_d D_H_push 10 rfl) rfl (lv_at hl 0 rfl) ?_
    refine xb_getP (C := R_H) (T := F_H) (N := 11) hx hb 0 8 hts fin_H hown hR hk1 (by decide) rfl (by decide) rfl (hts _ m_3f9b649c) (fun _ h9 => h9) (xb_d D_H_push 11 rfl) ?_
    obtain ⟨b5, eb5, hw⟩ := hw
    refine xb_some eb5 ?_
    refine lv_lload_n hx hb (xb_d D_H_push 12 rfl) rfl (lv_at hl 1 rfl) ?_
    obtain ⟨hk6, hw⟩ := hw
    obtain ⟨c9, sc9, hlc9, hlsc9, hw⟩ := hw
    refine xb_call (D := D) (A := A) (σ := σ) (h := h) (d := 4) (mc := c9) (ms := sc9) (maxL := 3) (rest := []) (av := [.ref b5, .long x1]) (fun T hT X => by obtain ⟨cb, r1, r2, r3⟩ := xb_recv (ci := 1) hR rfl hk6 (by decide); exact xt_invV X hx hown (hts _ m_45f06a7c) (hts _ m_7e8d081f) (hts _ m_4e47f51a) (xt_sigOf (hts _ m_4f1bdc54)) nm_Row_add (by rw [hT]; exact r1) r2 r3 (g := F0 m 28 ls [.long x1, .ref b5]) rfl (argsL := [.long x1]) (rest := []) rfl rfl (by rw [hb]; exact (xb_d D_H_push 13 rfl))) (ok_Row_add l hfl D A σ b5 x1 h c9 sc9 _ hw) (hml.trans hl.1.symm) (by rw [hb]; exact (xb_d D_H_push 13 rfl)) (Nat.le_of_ble_eq_true rfl) (Nat.le_of_ble_eq_true rfl) (Nat.le_of_ble_eq_true rfl) (show k + c9 ≤ MC by omega) (show n + sc9 ≤ MS by omega) (xt_w1 hB.1 m_4f1bdc54) (xt_cdOf hB.1 m_4f1bdc54) (hts _ m_c1bef504) hB hR hS hA (fun vv h7 H locs hq hEh7 hR hS => ?_) (fun XX ax h7 H locs hq hEh7 hex hR hS => ?_)
    · obtain ⟨rfl, hw⟩ := hq
      have hw := hw hEh7
      have hE := hE.tr hEh7
      refine W.eq (g2 := F0 m 31 ls []) rfl ?_
      refine lv_aload_n hx hb (xb_d D_H_push 14 rfl) rfl (lv_at hl 0 rfl) ?_
      have hk1 : xb_k h7 x0 = 1 := hEh7.k hk1
      refine xb_getP (C := R_H) (T := F_H) (N := 11) hx hb 0 8 hts fin_H hown hR hk1 (by decide) rfl (by decide) rfl (hts _ m_3f9b649c) (fun _ h9 => h9) (xb_d D_H_push 15 rfl) ?_
      obtain ⟨b10, eb10, hw⟩ := hw
      refine xb_some eb10 ?_
      obtain ⟨hk11, hw⟩ := hw
      refine xb_getI (C := R_Row) (T := F_Row) (N := 3) hx hb 1 1 hts fin_Row hown hR hk11 (by decide) rfl (by decide) rfl (hts _ m_d32f0086) (fun _ h9 => h9) (xb_d D_H_push 16 rfl) ?_
      exact xb_iret hx hb hr hlocks (show (k + c9) ≤ MC by omega) (show (n + sc9) ≤ MS by omega) hE hR hS (xb_d D_H_push 17 rfl) hw
    · exact False.elim hq
  · have hw := hw.2 hc4
    obtain ⟨hc9, hs9, hw⟩ := hw
    exact xb_throw (names := ["java/lang/RuntimeException", "java/lang/Exception"]) hx hb (hml.trans hl.1.symm) hlocks hfl hown xsite_44be5b hB hS (show k + 1 ≤ MC by omega) (show n + 6 ≤ MS by omega) (by decide) (Nat.le_of_ble_eq_true rfl) htab (xb_d D_H_push 5 rfl) (xb_d D_H_push 6 rfl) xt_l2 (xb_d D_H_push 7 rfl) (xb_d D_H_push 8 rfl) (xb_d D_H_push 9 rfl) hE hR hw

theorem m_53bf7c26 : (.methodLink "StackHost$Checker" 288 y_Checker_checkCall : Cond) ∈ xt_tbl := xt_in (xt_t6 (List.mem_of_getElem? (i := 39) (by decide +kernel))) (by decide +kernel)
theorem m_a410aa74 : (.instanceMethod y_Checker_checkCall : Cond) ∈ xt_tbl := xt_in (xt_t6 (List.mem_of_getElem? (i := 41) (by decide +kernel))) (by decide +kernel)
theorem m_96023d07 : (.selects "StackHost$Checker" y_Checker_checkCall y_Checker_checkCall : Cond) ∈ xt_tbl := xt_in (xt_v4 (q := (⟨"StackHost$Checker", "checkCall", "(I)V"⟩, 17)) (List.mem_of_getElem? (i := 14) (by decide +kernel))) (by decide +kernel)
theorem m_9846e217 : (.code y_Checker_checkCall b_Checker_checkCall 3 none : Cond) ∈ xt_tbl := xt_in (xt_t6 (List.mem_of_getElem? (i := 42) (by decide +kernel))) (by decide +kernel)
theorem m_ebec0b2b : (.methodLink "StackHost$Checker" 270 y_Checker_checkOpening : Cond) ∈ xt_tbl := xt_in (xt_t6 (List.mem_of_getElem? (i := 15) (by decide +kernel))) (by decide +kernel)
theorem m_db60f69f : (.instanceMethod y_Checker_checkOpening : Cond) ∈ xt_tbl := xt_in (xt_t6 (List.mem_of_getElem? (i := 17) (by decide +kernel))) (by decide +kernel)
theorem m_7a0b68c1 : (.selects "StackHost$Checker" y_Checker_checkOpening y_Checker_checkOpening : Cond) ∈ xt_tbl := xt_in (xt_v4 (q := (⟨"StackHost$Checker", "checkOpening", "(I)V"⟩, 17)) (List.mem_of_getElem? (i := 8) (by decide +kernel))) (by decide +kernel)
theorem m_13d3f185 : (.code y_Checker_checkOpening b_Checker_checkOpening 3 none : Cond) ∈ xt_tbl := xt_in (xt_t6 (List.mem_of_getElem? (i := 18) (by decide +kernel))) (by decide +kernel)
theorem m_102bfd31 : (.methodLink "StackHost$Checker" 273 y_Checker_checkElse : Cond) ∈ xt_tbl := xt_in (xt_t6 (List.mem_of_getElem? (i := 19) (by decide +kernel))) (by decide +kernel)
theorem m_011d9088 : (.instanceMethod y_Checker_checkElse : Cond) ∈ xt_tbl := xt_in (xt_t6 (List.mem_of_getElem? (i := 21) (by decide +kernel))) (by decide +kernel)
theorem m_67c49da1 : (.selects "StackHost$Checker" y_Checker_checkElse y_Checker_checkElse : Cond) ∈ xt_tbl := xt_in (xt_v4 (q := (⟨"StackHost$Checker", "checkElse", "()V"⟩, 17)) (List.mem_of_getElem? (i := 9) (by decide +kernel))) (by decide +kernel)
theorem m_ccfdfad1 : (.code y_Checker_checkElse b_Checker_checkElse 2 none : Cond) ∈ xt_tbl := xt_in (xt_t6 (List.mem_of_getElem? (i := 22) (by decide +kernel))) (by decide +kernel)
theorem m_6283ab69 : (.methodLink "StackHost$Checker" 276 y_Checker_checkEnd : Cond) ∈ xt_tbl := xt_in (xt_t6 (List.mem_of_getElem? (i := 23) (by decide +kernel))) (by decide +kernel)
theorem m_caa07f69 : (.instanceMethod y_Checker_checkEnd : Cond) ∈ xt_tbl := xt_in (xt_t6 (List.mem_of_getElem? (i := 25) (by decide +kernel))) (by decide +kernel)
theorem m_e60b8634 : (.selects "StackHost$Checker" y_Checker_checkEnd y_Checker_checkEnd : Cond) ∈ xt_tbl := xt_in (xt_v4 (q := (⟨"StackHost$Checker", "checkEnd", "()V"⟩, 17)) (List.mem_of_getElem? (i := 10) (by decide +kernel))) (by decide +kernel)
theorem m_31680164 : (.code y_Checker_checkEnd b_Checker_checkEnd 2 none : Cond) ∈ xt_tbl := xt_in (xt_t6 (List.mem_of_getElem? (i := 26) (by decide +kernel))) (by decide +kernel)
theorem m_87752099 : (.methodLink "StackHost$Checker" 282 y_Checker_checkBranchIf : Cond) ∈ xt_tbl := xt_in (xt_t6 (List.mem_of_getElem? (i := 31) (by decide +kernel))) (by decide +kernel)
theorem m_1f86a52a : (.instanceMethod y_Checker_checkBranchIf : Cond) ∈ xt_tbl := xt_in (xt_t6 (List.mem_of_getElem? (i := 33) (by decide +kernel))) (by decide +kernel)
theorem m_1a0dfcd9 : (.selects "StackHost$Checker" y_Checker_checkBranchIf y_Checker_checkBranchIf : Cond) ∈ xt_tbl := xt_in (xt_v4 (q := (⟨"StackHost$Checker", "checkBranchIf", "()V"⟩, 17)) (List.mem_of_getElem? (i := 12) (by decide +kernel))) (by decide +kernel)
theorem m_13cb0be3 : (.code y_Checker_checkBranchIf b_Checker_checkBranchIf 2 none : Cond) ∈ xt_tbl := xt_in (xt_t6 (List.mem_of_getElem? (i := 34) (by decide +kernel))) (by decide +kernel)
theorem m_abe3f354 : (.methodLink "StackHost$Checker" 285 y_Checker_checkLabels : Cond) ∈ xt_tbl := xt_in (xt_t6 (List.mem_of_getElem? (i := 35) (by decide +kernel))) (by decide +kernel)
theorem m_644c3cad : (.instanceMethod y_Checker_checkLabels : Cond) ∈ xt_tbl := xt_in (xt_t6 (List.mem_of_getElem? (i := 37) (by decide +kernel))) (by decide +kernel)
theorem m_bd10a36b : (.selects "StackHost$Checker" y_Checker_checkLabels y_Checker_checkLabels : Cond) ∈ xt_tbl := xt_in (xt_v4 (q := (⟨"StackHost$Checker", "checkLabels", "()V"⟩, 17)) (List.mem_of_getElem? (i := 13) (by decide +kernel))) (by decide +kernel)
theorem m_1cced3c4 : (.code y_Checker_checkLabels b_Checker_checkLabels 4 none : Cond) ∈ xt_tbl := xt_in (xt_t6 (List.mem_of_getElem? (i := 38) (by decide +kernel))) (by decide +kernel)
theorem m_16ce30ef : (.methodLink "StackHost$Checker" 291 y_Checker_checkSelect : Cond) ∈ xt_tbl := xt_in (xt_t6 (List.mem_of_getElem? (i := 43) (by decide +kernel))) (by decide +kernel)
theorem m_a56d2e34 : (.instanceMethod y_Checker_checkSelect : Cond) ∈ xt_tbl := xt_in (xt_t6 (List.mem_of_getElem? (i := 45) (by decide +kernel))) (by decide +kernel)
theorem m_3789701f : (.selects "StackHost$Checker" y_Checker_checkSelect y_Checker_checkSelect : Cond) ∈ xt_tbl := xt_in (xt_v4 (q := (⟨"StackHost$Checker", "checkSelect", "()V"⟩, 17)) (List.mem_of_getElem? (i := 15) (by decide +kernel))) (by decide +kernel)
theorem m_36ed177c : (.code y_Checker_checkSelect b_Checker_checkSelect 3 none : Cond) ∈ xt_tbl := xt_in (xt_t6 (List.mem_of_getElem? (i := 46) (by decide +kernel))) (by decide +kernel)
theorem nm_Checker_checkCall : xt_nm y_Checker_checkCall 1 := ⟨by decide +kernel, by decide +kernel⟩
theorem nm_Checker_checkOpening : xt_nm y_Checker_checkOpening 1 := ⟨by decide +kernel, by decide +kernel⟩
theorem nm_Checker_checkElse : xt_nm y_Checker_checkElse 0 := ⟨by decide +kernel, by decide +kernel⟩
theorem nm_Checker_checkEnd : xt_nm y_Checker_checkEnd 0 := ⟨by decide +kernel, by decide +kernel⟩
theorem nm_Checker_checkBranchIf : xt_nm y_Checker_checkBranchIf 0 := ⟨by decide +kernel, by decide +kernel⟩
theorem nm_Checker_checkLabels : xt_nm y_Checker_checkLabels 0 := ⟨by decide +kernel, by decide +kernel⟩
theorem nm_Checker_checkSelect : xt_nm y_Checker_checkSelect 0 := ⟨by decide +kernel, by decide +kernel⟩
set_option maxRecDepth 100000 in
def T_Checker_checkControl : List (Nat × Instr × Nat) := [(0, .iload_n 1, 1), (1, .tableswitch 372 0 27 #[127, 372, 134, 134, 134, 142, 372, 372, 372, 372, 372, 149, 156, 183, 190, 197, 220, 276, 372, 372, 372, 372, 372, 372, 372, 372, 356, 365], 127), (128, .aload_n 0, 1), (129, .invokevirtual 267, 3), (132, .goto 241, 3), (135, .aload_n 0, 1), (136, .iload_n 1, 1), (137, .invokevirtual 270, 3), (140, .goto 233, 3), (143, .aload_n 0, 1), (144, .invokevirtual 273, 3), (147, .goto 226, 3), (150, .aload_n 0, 1), (151, .invokevirtual 276, 3), (154, .goto 219, 3), (157, .aload_n 0, 1), (158, .aload_n 0, 1), (159, .getfield 25, 3), (162, .aload_n 0, 1), (163, .aload_n 0, 1), (164, .getfield 196, 3), (167, .iconst 1, 1), (168, .iadd, 1), (169, .invokevirtual 279, 3), (172, .iaload, 1), (173, .invokevirtual 251, 3), (176, .pop, 1), (177, .aload_n 0, 1), (178, .invokevirtual 267, 3), (181, .goto 192, 3), (184, .aload_n 0, 1), (185, .invokevirtual 282, 3), (188, .goto 185, 3), (191, .aload_n 0, 1), (192, .invokevirtual 285, 3), (195, .goto 178, 3), (198, .aload_n 0, 1), (199, .aload_n 0, 1), (200, .getfield 38, 3), (203, .aload_n 0, 1), (204, .getfield 181, 3), (207, .invokevirtual 199, 3), (210, .invokevirtual 251, 3), (213, .pop, 1), (214, .aload_n 0, 1), (215, .invokevirtual 267, 3), (218, .goto 155, 3), (221, .aload_n 0, 1), (222, .aload_n 0, 1), (223, .getfield 51, 3), (226, .aload_n 0, 1), (227, .getfield 196, 3), (230, .iconst 1, 1), (231, .iadd, 1), (232, .iaload, 1), (233, .i2l, 1), (234, .aload_n 0, 1), (235, .getfield 38, 3), (238, .getfield 118, 3), (241, .invokevirtual 77, 3), (244, .invokestatic 125, 3), (247, .bipush 20, 2), (249, .invokevirtual 254, 3), (252, .aload_n 0, 1), (253, .aload_n 0, 1), (254, .getfield 38, 3), (257, .aload_n 0, 1), (258, .getfield 51, 3), (261, .aload_n 0, 1), (262, .getfield 196, 3), (265, .iconst 1, 1), (266, .iadd, 1), (267, .iaload, 1), (268, .invokevirtual 158, 3), (271, .invokevirtual 288, 3), (274, .goto 99, 3), (277, .aload_n 0, 1), (278, .aload_n 0, 1), (279, .getfield 38, 3), (282, .getfield 104, 3), (285, .invokevirtual 77, 3), (288, .ifCond .le 7, 3), (291, .iconst 1, 1), (292, .goto 4, 3), (295, .iconst 0, 1), (296, .bipush 20, 2), (298, .invokevirtual 254, 3), (301, .aload_n 0, 1), (302, .aload_n 0, 1), (303, .getfield 51, 3), (306, .aload_n 0, 1), (307, .getfield 196, 3), (310, .iconst 1, 1), (311, .iadd, 1), (312, .iaload, 1), (313, .i2l, 1), (314, .aload_n 0, 1), (315, .getfield 38, 3), (318, .getfield 87, 3), (321, .invokevirtual 77, 3), (324, .invokestatic 125, 3), (327, .bipush 20, 2), (329, .invokevirtual 254, 3), (332, .aload_n 0, 1), (333, .bipush 127, 2), (335, .invokevirtual 251, 3), (338, .pop, 1), (339, .aload_n 0, 1), (340, .aload_n 0, 1), (341, .getfield 51, 3), (344, .aload_n 0, 1), (345, .getfield 196, 3), (348, .iconst 1, 1), (349, .iadd, 1), (350, .iaload, 1), (351, .invokevirtual 288, 3), (354, .goto 19, 3), (357, .aload_n 0, 1), (358, .iconst 0, 1), (359, .invokevirtual 251, 3), (362, .pop, 1), (363, .goto 10, 3), (366, .aload_n 0, 1), (367, .invokevirtual 291, 3), (370, .goto 3, 3), (373, .return_, 1)]
theorem D_Checker_checkControl : ∀ q ∈ T_Checker_checkControl, decode b_Checker_checkControl q.1 = .ok (q.2.1, q.2.2) := by decide +kernel
def w_Checker_checkControl_L373 (Qr : xb_H → Prop) (Qt : String → xb_H → Prop) (h : xb_H) (bc : Nat) (bs : Nat) : Prop :=
    Qr h

def w_Checker_checkControl_L296 (Qr : xb_H → Prop) (Qt : String → xb_H → Prop) (x0 : Nat) (y0 : Int32) (y1 : Nat) (h : xb_H) (bc : Nat) (bs : Nat) : Prop :=
    xb_k h y1 = 5 ∧ ∃ c4 sc4 : Nat, c4 ≤ bc ∧ sc4 ≤ bs ∧ w_Checker_require y1 y0 20 h c4 sc4 (fun (h2 : xb_H) => xb_ext h h2 → xb_k h2 x0 = 5 ∧ ∃ b6 : Nat, (xb_r h2 x0 2) = some b6 ∧ xb_k h2 b6 = 102 ∧ vp_in ((xb_i h2 x0 9) + 1) (xb_n h2 b6) ∧ ∃ b9 : Nat, (xb_r h2 x0 0) = some b9 ∧ xb_k h2 b9 = 3 ∧ ∃ b11 : Nat, (xb_r h2 b9 2) = some b11 ∧ xb_k h2 b11 = 2 ∧ w_Row_lines b11 h2 (fun (r14 : Int32) (h13 : xb_H) => xb_ext h2 h13 → w_Checker_isThere (Int32.toInt64 (xb_i h2 b6 (Int32.toNatClampNeg ((xb_i h2 x0 9) + 1)))) r14 h13 (fun (r16 : Int32) (h15 : xb_H) => xb_ext h13 h15 → ∃ c19 sc19 : Nat, c19 ≤ (bc - c4) ∧ sc19 ≤ (bs - sc4) ∧ w_Checker_require x0 r16 20 h15 c19 sc19 (fun (h17 : xb_H) => xb_ext h15 h17 → ∃ c22 sc22 : Nat, c22 ≤ ((bc - c4) - c19) ∧ sc22 ≤ ((bs - sc4) - sc19) ∧ w_Checker_take x0 127 h17 c22 sc22 (fun (r21 : Int32) (h20 : xb_H) => xb_ext h17 h20 → ∃ b23 : Nat, (xb_r h20 x0 2) = some b23 ∧ xb_k h20 b23 = 102 ∧ vp_in ((xb_i h20 x0 9) + 1) (xb_n h20 b23) ∧ ∃ c28 sc28 : Nat, c28 ≤ (((bc - c4) - c19) - c22) ∧ sc28 ≤ (((bs - sc4) - sc19) - sc22) ∧ w_Checker_checkCall x0 (xb_i h20 b23 (Int32.toNatClampNeg ((xb_i h20 x0 9) + 1))) h20 c28 sc28 (fun (h26 : xb_H) => xb_ext h20 h26 → w_Checker_checkControl_L373 Qr Qt h26 ((((bc - c4) - c19) - c22) - c28) ((((bs - sc4) - sc19) - sc22) - sc28)) Qt) Qt) Qt))) Qt

def w_Checker_checkControl_L135 (Qr : xb_H → Prop) (Qt : String → xb_H → Prop) (x0 : Nat) (x1 : Int32) (h : xb_H) (bc : Nat) (bs : Nat) : Prop :=
    xb_k h x0 = 5 ∧ ∃ c4 sc4 : Nat, c4 ≤ bc ∧ sc4 ≤ bs ∧ w_Checker_checkOpening x0 x1 h c4 sc4 (fun (h2 : xb_H) => xb_ext h h2 → w_Checker_checkControl_L373 Qr Qt h2 (bc - c4) (bs - sc4)) Qt

def w_Checker_checkControl (x0 : Nat) (x1 : Int32) (h : xb_H) (bc : Nat) (bs : Nat) (Qr : xb_H → Prop) (Qt : String → xb_H → Prop) : Prop :=
    ((x1 = 0 → xb_k h x0 = 5 ∧ w_Checker_die x0 h (fun (h3 : xb_H) => xb_ext h h3 → w_Checker_checkControl_L373 Qr Qt h3 bc bs)) ∧ (x1 = 1 → w_Checker_checkControl_L373 Qr Qt h bc bs) ∧ (x1 = 2 → w_Checker_checkControl_L135 Qr Qt x0 x1 h bc bs) ∧ (x1 = 3 → w_Checker_checkControl_L135 Qr Qt x0 x1 h bc bs) ∧ (x1 = 4 → w_Checker_checkControl_L135 Qr Qt x0 x1 h bc bs) ∧ (x1 = 5 → xb_k h x0 = 5 ∧ ∃ c13 sc13 : Nat, c13 ≤ bc ∧ sc13 ≤ bs ∧ w_Checker_checkElse x0 h c13 sc13 (fun (h11 : xb_H) => xb_ext h h11 → w_Checker_checkControl_L373 Qr Qt h11 (bc - c13) (bs - sc13)) Qt) ∧ (x1 = 6 → w_Checker_checkControl_L373 Qr Qt h bc bs) ∧ (x1 = 7 → w_Checker_checkControl_L373 Qr Qt h bc bs) ∧ (x1 = 8 → w_Checker_checkControl_L373 Qr Qt h bc bs) ∧ (x1 = 9 → w_Checker_checkControl_L373 Qr Qt h bc bs) ∧ (x1 = 10 → w_Checker_checkControl_L373 Qr Qt h bc bs) ∧ (x1 = 11 → xb_k h x0 = 5 ∧ ∃ c23 sc23 : Nat, c23 ≤ bc ∧ sc23 ≤ bs ∧ w_Checker_checkEnd x0 h c23 sc23 (fun (h21 : xb_H) => xb_ext h h21 → w_Checker_checkControl_L373 Qr Qt h21 (bc - c23) (bs - sc23)) Qt) ∧ (x1 = 12 → xb_k h x0 = 5 ∧ ∃ b26 : Nat, (xb_r h x0 12) = some b26 ∧ ∃ c29 sc29 : Nat, c29 ≤ bc ∧ sc29 ≤ bs ∧ w_Checker_checkLabel x0 ((xb_i h x0 9) + 1) h c29 sc29 (fun (r28 : Int32) (h27 : xb_H) => xb_ext h h27 → xb_k h27 b26 = 102 ∧ vp_in r28 (xb_n h27 b26) ∧ ∃ c34 sc34 : Nat, c34 ≤ (bc - c29) ∧ sc34 ≤ (bs - sc29) ∧ w_Checker_take x0 (xb_i h27 b26 (Int32.toNatClampNeg r28)) h27 c34 sc34 (fun (r33 : Int32) (h32 : xb_H) => xb_ext h27 h32 → w_Checker_die x0 h32 (fun (h35 : xb_H) => xb_ext h32 h35 → w_Checker_checkControl_L373 Qr Qt h35 ((bc - c29) - c34) ((bs - sc29) - sc34))) Qt) Qt) ∧ (x1 = 13 → xb_k h x0 = 5 ∧ ∃ c41 sc41 : Nat, c41 ≤ bc ∧ sc41 ≤ bs ∧ w_Checker_checkBranchIf x0 h c41 sc41 (fun (h39 : xb_H) => xb_ext h h39 → w_Checker_checkControl_L373 Qr Qt h39 (bc - c41) (bs - sc41)) Qt) ∧ (x1 = 14 → xb_k h x0 = 5 ∧ ∃ c46 sc46 : Nat, c46 ≤ bc ∧ sc46 ≤ bs ∧ w_Checker_checkLabels x0 h c46 sc46 (fun (h44 : xb_H) => xb_ext h h44 → w_Checker_checkControl_L373 Qr Qt h44 (bc - c46) (bs - sc46)) Qt) ∧ (x1 = 15 → xb_k h x0 = 5 ∧ ∃ b49 : Nat, (xb_r h x0 0) = some b49 ∧ xb_k h b49 = 3 ∧ w_StackModule_resultType b49 (xb_i h x0 8) h (fun (r52 : Int32) (h51 : xb_H) => xb_ext h h51 → ∃ c55 sc55 : Nat, c55 ≤ bc ∧ sc55 ≤ bs ∧ w_Checker_take x0 r52 h51 c55 sc55 (fun (r54 : Int32) (h53 : xb_H) => xb_ext h51 h53 → w_Checker_die x0 h53 (fun (h56 : xb_H) => xb_ext h53 h56 → w_Checker_checkControl_L373 Qr Qt h56 (bc - c55) (bs - sc55))) Qt)) ∧ (x1 = 16 → xb_k h x0 = 5 ∧ ∃ b60 : Nat, (xb_r h x0 2) = some b60 ∧ xb_k h b60 = 102 ∧ vp_in ((xb_i h x0 9) + 1) (xb_n h b60) ∧ ∃ b63 : Nat, (xb_r h x0 0) = some b63 ∧ xb_k h b63 = 3 ∧ ∃ b65 : Nat, (xb_r h b63 4) = some b65 ∧ xb_k h b65 = 2 ∧ w_Row_lines b65 h (fun (r68 : Int32) (h67 : xb_H) => xb_ext h h67 → w_Checker_isThere (Int32.toInt64 (xb_i h b60 (Int32.toNatClampNeg ((xb_i h x0 9) + 1)))) r68 h67 (fun (r70 : Int32) (h69 : xb_H) => xb_ext h67 h69 → ∃ c73 sc73 : Nat, c73 ≤ bc ∧ sc73 ≤ bs ∧ w_Checker_require x0 r70 20 h69 c73 sc73 (fun (h71 : xb_H) => xb_ext h69 h71 → ∃ b74 : Nat, (xb_r h71 x0 0) = some b74 ∧ ∃ b75 : Nat, (xb_r h71 x0 2) = some b75 ∧ xb_k h71 b75 = 102 ∧ vp_in ((xb_i h71 x0 9) + 1) (xb_n h71 b75) ∧ xb_k h71 b74 = 3 ∧ w_StackModule_typeOf b74 (xb_i h71 b75 (Int32.toNatClampNeg ((xb_i h71 x0 9) + 1))) h71 (fun (r80 : Int32) (h79 : xb_H) => xb_ext h71 h79 → ∃ c83 sc83 : Nat, c83 ≤ (bc - c73) ∧ sc83 ≤ (bs - sc73) ∧ w_Checker_checkCall x0 r80 h79 c83 sc83 (fun (h81 : xb_H) => xb_ext h79 h81 → w_Checker_checkControl_L373 Qr Qt h81 ((bc - c73) - c83) ((bs - sc73) - sc83)) Qt)) Qt))) ∧ (x1 = 17 → xb_k h x0 = 5 ∧ ∃ b86 : Nat, (xb_r h x0 0) = some b86 ∧ xb_k h b86 = 3 ∧ ∃ b88 : Nat, (xb_r h b86 5) = some b88 ∧ xb_k h b88 = 2 ∧ w_Row_lines b88 h (fun (r91 : Int32) (h90 : xb_H) => xb_ext h h90 → ((r91 ≤ (0 : Int32) → w_Checker_checkControl_L296 Qr Qt x0 0 x0 h90 bc bs) ∧ (¬ r91 ≤ (0 : Int32) → w_Checker_checkControl_L296 Qr Qt x0 1 x0 h90 bc bs)))) ∧ (x1 = 18 → w_Checker_checkControl_L373 Qr Qt h bc bs) ∧ (x1 = 19 → w_Checker_checkControl_L373 Qr Qt h bc bs) ∧ (x1 = 20 → w_Checker_checkControl_L373 Qr Qt h bc bs) ∧ (x1 = 21 → w_Checker_checkControl_L373 Qr Qt h bc bs) ∧ (x1 = 22 → w_Checker_checkControl_L373 Qr Qt h bc bs) ∧ (x1 = 23 → w_Checker_checkControl_L373 Qr Qt h bc bs) ∧ (x1 = 24 → w_Checker_checkControl_L373 Qr Qt h bc bs) ∧ (x1 = 25 → w_Checker_checkControl_L373 Qr Qt h bc bs) ∧ (x1 = 26 → xb_k h x0 = 5 ∧ ∃ c105 sc105 : Nat, c105 ≤ bc ∧ sc105 ≤ bs ∧ w_Checker_take x0 0 h c105 sc105 (fun (r104 : Int32) (h103 : xb_H) => xb_ext h h103 → w_Checker_checkControl_L373 Qr Qt h103 (bc - c105) (bs - sc105)) Qt) ∧ (x1 = 27 → xb_k h x0 = 5 ∧ ∃ c110 sc110 : Nat, c110 ≤ bc ∧ sc110 ≤ bs ∧ w_Checker_checkSelect x0 h c110 sc110 (fun (h108 : xb_H) => xb_ext h h108 → w_Checker_checkControl_L373 Qr Qt h108 (bc - c110) (bs - sc110)) Qt) ∧ (¬ x1 = 0 → ¬ x1 = 1 → ¬ x1 = 2 → ¬ x1 = 3 → ¬ x1 = 4 → ¬ x1 = 5 → ¬ x1 = 6 → ¬ x1 = 7 → ¬ x1 = 8 → ¬ x1 = 9 → ¬ x1 = 10 → ¬ x1 = 11 → ¬ x1 = 12 → ¬ x1 = 13 → ¬ x1 = 14 → ¬ x1 = 15 → ¬ x1 = 16 → ¬ x1 = 17 → ¬ x1 = 18 → ¬ x1 = 19 → ¬ x1 = 20 → ¬ x1 = 21 → ¬ x1 = 22 → ¬ x1 = 23 → ¬ x1 = 24 → ¬ x1 = 25 → ¬ x1 = 26 → ¬ x1 = 27 → w_Checker_checkControl_L373 Qr Qt h bc bs))

set_option maxHeartbeats 4000000 in
set_option maxRecDepth 100000 in
theorem am_Checker_checkControl_L373 (l : Launch) (hfl : l.flags = pinnedFlags ++ [noTraceFlag]) (D : va_G) (A : Nat → Prop) (σ MC MS : Nat) (h0 : xb_H) (Qr : xb_H → Prop) (Qt : String → xb_H → Prop) (h : xb_H) (bc : Nat) (bs : Nat) (hw : w_Checker_checkControl_L373 Qr Qt h bc bs) : xb_am l D A σ 5 MC MS h0 (fun v h => v = none ∧ Qr h) Qt y_Checker_checkControl.cls y_Checker_checkControl.name b_Checker_checkControl 2 ([] : List ExceptionTableEntry) none 373 [] [] h bc bs := by
  unfold w_Checker_checkControl_L373 at hw
  intro p e s m args below meth c hC H locs ls k n hE hl hR hS hk hn
  obtain ⟨hx, hb, hown, hlocks, htab, hml, hr, hB, hA, hnm⟩ := id hC
  have hts := hB.1.1.at args
  exact xb_vret hx hb hr hlocks (show k ≤ MC by omega) (show n ≤ MS by omega) hE hR hS (xb_d D_Checker_checkControl 125 rfl) hw

set_option maxHeartbeats 4000000 in
set_option maxRecDepth 100000 in
theorem am_Checker_checkControl_L296 (l : Launch) (hfl : l.flags = pinnedFlags ++ [noTraceFlag]) (D : va_G) (A : Nat → Prop) (σ MC MS : Nat) (h0 : xb_H) (Qr : xb_H → Prop) (Qt : String → xb_H → Prop) (x0 : Nat) (y0 : Int32) (y1 : Nat) (h : xb_H) (bc : Nat) (bs : Nat) (hw : w_Checker_checkControl_L296 Qr Qt x0 y0 y1 h bc bs) : xb_am l D A σ 5 MC MS h0 (fun v h => v = none ∧ Qr h) Qt y_Checker_checkControl.cls y_Checker_checkControl.name b_Checker_checkControl 2 ([] : List ExceptionTableEntry) none 296 [(0, .ref x0)] [.int y0, .ref y1] h bc bs := by
  unfold w_Checker_checkControl_L296 at hw
  intro p e s m args below meth c hC H locs ls k n hE hl hR hS hk hn
  obtain ⟨hx, hb, hown, hlocks, htab, hml, hr, hB, hA, hnm⟩ := id hC
  have hts := hB.1.1.at args
  refine lv_bipush (v := 20) hx hb (xb_d D_Checker_checkControl 85 rfl) (by decide) ?_
  obtain ⟨hk1, hw⟩ := hw
  obtain ⟨c4, sc4, hlc4, hlsc4, hw⟩ := hw
  refine xb_call (D := D) (A := A) (σ := σ) (h := h) (d := 3) (mc := c4) (ms := sc4) (maxL := 3) (rest := []) (av := [.ref y1, .int y0, .int 20]) (fun T hT X => by obtain ⟨cb, r1, r2, r3⟩ := xb_recv (ci := 4) hR rfl hk1 (by decide); exact xt_invV X hx hown (hts _ m_0a242445) (hts _ m_a99c45f7) (hts _ m_978d7491) (xt_sigOf (hts _ m_01f2fc97)) nm_Checker_require (by rw [hT]; exact r1) r2 r3 (g := F0 m 298 ls [.int 20, .int y0, .ref y1]) rfl (argsL := [.int y0, .int 20]) (rest := []) rfl rfl (by rw [hb]; exact (xb_d D_Checker_checkControl 86 rfl))) (ok_Checker_require l hfl D A σ y1 y0 20 h c4 sc4 _ _ hw) (hml.trans hl.1.symm) (by rw [hb]; exact (xb_d D_Checker_checkControl 86 rfl)) (Nat.le_of_ble_eq_true rfl) (Nat.le_of_ble_eq_true rfl) (Nat.le_of_ble_eq_true rfl) (show k + c4 ≤ MC by omega) (show n + sc4 ≤ MS by omega) (xt_w1 hB.1 m_01f2fc97) (xt_cdOf hB.1 m_01f2fc97) (hts _ m_44748ce5) hB hR hS hA (fun vv h2 H locs hq hEh2 hR hS => ?_) (fun XX ax h2 H locs hq hEh2 hex hR hS => ?_)
  · obtain ⟨rfl, hw⟩ := hq
    have hw := hw hEh2
    have hE := hE.tr hEh2
    refine W.eq (g2 := F0 m 301 ls []) rfl ?_
    refine lv_aload_n hx hb (xb_d D_Checker_checkControl 87 rfl) rfl (lv_at hl 0 rfl) ?_
    refine lv_aload_n hx hb (xb_d D_Checker_checkControl 88 rfl) rfl (lv_at hl 0 rfl) ?_
    obtain ⟨hk5, hw⟩ := hw
    refine xb_getP (C := R_Checker) (T := F_Checker) (N := 17) hx hb 4 2 hts fin_Checker hown hR hk5 (by decide) rfl (by decide) rfl (hts _ m_b5ef1148) (fun _ h9 => h9) (xb_d D_Checker_checkControl 89 rfl) ?_
    obtain ⟨b6, eb6, hw⟩ := hw
    refine xb_some eb6 ?_
    refine lv_aload_n hx hb (xb_d D_Checker_checkControl 90 rfl) rfl (lv_at hl 0 rfl) ?_
    refine xb_getI (C := R_Checker) (T := F_Checker) (N := 17) hx hb 4 9 hts fin_Checker hown hR hk5 (by decide) rfl (by decide) rfl (hts _ m_28193d38) (fun _ h9 => h9) (xb_d D_Checker_checkControl 91 rfl) ?_
    refine lv_iconst (v := 1) hx hb (xb_d D_Checker_checkControl 92 rfl) (by decide) ?_
    refine lv_iadd hx hb (xb_d D_Checker_checkControl 93 rfl) ?_
    obtain ⟨hk8, hw⟩ := hw
    obtain ⟨hi7, hw⟩ := hw
    refine xb_iald hx hb hR hk8 hi7 (xb_d D_Checker_checkControl 94 rfl) ?_
    refine lv_i2l hx hb (xb_d D_Checker_checkControl 95 rfl) rfl ?_
    refine lv_aload_n hx hb (xb_d D_Checker_checkControl 96 rfl) rfl (lv_at hl 0 rfl) ?_
    refine xb_getP (C := R_Checker) (T := F_Checker) (N := 17) hx hb 4 0 hts fin_Checker hown hR hk5 (by decide) rfl (by decide) rfl (hts _ m_070795bc) (fun _ h9 => h9) (xb_d D_Checker_checkControl 97 rfl) ?_
    obtain ⟨b9, eb9, hw⟩ := hw
    refine xb_some eb9 ?_
    obtain ⟨hk10, hw⟩ := hw
    refine xb_getP (C := R_StackModule) (T := F_StackModule) (N := 19) hx hb 2 2 hts fin_StackModule hown hR hk10 (by decide) rfl (by decide) rfl (hts _ m_e7e89823) (fun _ h9 => h9) (xb_d D_Checker_checkControl 98 rfl) ?_
    obtain ⟨b11, eb11, hw⟩ := hw
    refine xb_some eb11 ?_
    obtain ⟨hk12, hw⟩ := hw
    refine xb_call (D := D) (A := A) (σ := σ) (h := h2) (d := 2) (mc := 0) (ms := 0) (maxL := 1) (rest := [.long (Int32.toInt64 (xb_i h2 b6 (Int32.toNatClampNeg ((xb_i h2 x0 9) + 1)))), .ref x0]) (av := [.ref b11]) (fun T hT X => by obtain ⟨cb, r1, r2, r3⟩ := xb_recv (ci := 1) hR rfl hk12 (by decide); exact xt_invV X hx hown (hts _ m_c8b950b4) (hts _ m_ded65609) (hts _ m_a4161156) (xt_sigOf (hts _ m_83ba3721)) nm_Row_lines (by rw [hT]; exact r1) r2 r3 (g := F0 m 321 ls [.ref b11, .long (Int32.toInt64 (xb_i h2 b6 (Int32.toNatClampNeg ((xb_i h2 x0 9) + 1)))), .ref x0]) rfl (argsL := []) (rest := [.long (Int32.toInt64 (xb_i h2 b6 (Int32.toNatClampNeg ((xb_i h2 x0 9) + 1)))), .ref x0]) rfl rfl (by rw [hb]; exact (xb_d D_Checker_checkControl 99 rfl))) (ok_Row_lines l hfl D A σ b11 h2 _ hw) (hml.trans hl.1.symm) (by rw [hb]; exact (xb_d D_Checker_checkControl 99 rfl)) (Nat.le_of_ble_eq_true rfl) (Nat.le_of_ble_eq_true rfl) (Nat.le_of_ble_eq_true rfl) (show (k + c4) + 0 ≤ MC by omega) (show (n + sc4) + 0 ≤ MS by omega) (xt_w1 hB.1 m_83ba3721) (xt_cdOf hB.1 m_83ba3721) (hts _ m_c1bef504) hB hR hS hA (fun vv h13 H locs hq hEh13 hR hS => ?_) (fun XX ax h13 H locs hq hEh13 hex hR hS => ?_)
    · obtain ⟨r14, rfl, hw⟩ := hq
      have hw := hw hEh13
      have hE := hE.tr hEh13
      refine W.eq (g2 := F0 m 324 ls [.int r14, .long (Int32.toInt64 (xb_i h2 b6 (Int32.toNatClampNeg ((xb_i h2 x0 9) + 1)))), .ref x0]) rfl ?_
      refine xb_call (D := D) (A := A) (σ := σ) (h := h13) (d := 2) (mc := 0) (ms := 0) (maxL := 3) (rest := [.ref x0]) (av := [.long (Int32.toInt64 (xb_i h2 b6 (Int32.toNatClampNeg ((xb_i h2 x0 9) + 1)))), .int r14]) (fun T hT X => xt_invS X hx hown (hts _ m_fe08b245) (hts _ m_9ad1e0af) (hts _ m_44748ce5) (xt_sgS (hts _ m_2237aee6)).1 (xt_sgS (hts _ m_2237aee6)).2 nm_Checker_isThere (g := F0 m 324 ls [.int r14, .long (Int32.toInt64 (xb_i h2 b6 (Int32.toNatClampNeg ((xb_i h2 x0 9) + 1)))), .ref x0]) rfl (argsL := [.long (Int32.toInt64 (xb_i h2 b6 (Int32.toNatClampNeg ((xb_i h2 x0 9) + 1)))), .int r14]) (rest := [.ref x0]) rfl rfl (by rw [hb]; exact (xb_d D_Checker_checkControl 100 rfl))) (ok_Checker_isThere l hfl D A σ (Int32.toInt64 (xb_i h2 b6 (Int32.toNatClampNeg ((xb_i h2 x0 9) + 1)))) r14 h13 _ hw) (hml.trans hl.1.symm) (by rw [hb]; exact (xb_d D_Checker_checkControl 100 rfl)) (Nat.le_of_ble_eq_true rfl) (Nat.le_of_ble_eq_true rfl) (Nat.le_of_ble_eq_true rfl) (show (k + c4) + 0 ≤ MC by omega) (show (n + sc4) + 0 ≤ MS by omega) (xt_w1 hB.1 m_2237aee6) (xt_cdOf hB.1 m_2237aee6) (hts _ m_44748ce5) hB hR hS hA (fun vv h15 H locs hq hEh15 hR hS => ?_) (fun XX ax h15 H locs hq hEh15 hex hR hS => ?_)
      · obtain ⟨r16, rfl, hw⟩ := hq
        have hw := hw hEh15
        have hE := hE.tr hEh15
        refine W.eq (g2 := F0 m 327 ls [.int r16, .ref x0]) rfl ?_
        refine lv_bipush (v := 20) hx hb (xb_d D_Checker_checkControl 101 rfl) (by decide) ?_
        have hk5 : xb_k h13 x0 = 5 := hEh13.k hk5
        have hk5 : xb_k h15 x0 = 5 := hEh15.k hk5
        obtain ⟨c19, sc19, hlc19, hlsc19, hw⟩ := hw
        refine xb_call (D := D) (A := A) (σ := σ) (h := h15) (d := 3) (mc := c19) (ms := sc19) (maxL := 3) (rest := []) (av := [.ref x0, .int r16, .int 20]) (fun T hT X => by obtain ⟨cb, r1, r2, r3⟩ := xb_recv (ci := 4) hR rfl hk5 (by decide); exact xt_invV X hx hown (hts _ m_0a242445) (hts _ m_a99c45f7) (hts _ m_978d7491) (xt_sigOf (hts _ m_01f2fc97)) nm_Checker_require (by rw [hT]; exact r1) r2 r3 (g := F0 m 329 ls [.int 20, .int r16, .ref x0]) rfl (argsL := [.int r16, .int 20]) (rest := []) rfl rfl (by rw [hb]; exact (xb_d D_Checker_checkControl 102 rfl))) (ok_Checker_require l hfl D A σ x0 r16 20 h15 c19 sc19 _ _ hw) (hml.trans hl.1.symm) (by rw [hb]; exact (xb_d D_Checker_checkControl 102 rfl)) (Nat.le_of_ble_eq_true rfl) (Nat.le_of_ble_eq_true rfl) (Nat.le_of_ble_eq_true rfl) (show (k + c4) + c19 ≤ MC by omega) (show (n + sc4) + sc19 ≤ MS by omega) (xt_w1 hB.1 m_01f2fc97) (xt_cdOf hB.1 m_01f2fc97) (hts _ m_44748ce5) hB hR hS hA (fun vv h17 H locs hq hEh17 hR hS => ?_) (fun XX ax h17 H locs hq hEh17 hex hR hS => ?_)
        · obtain ⟨rfl, hw⟩ := hq
          have hw := hw hEh17
          have hE := hE.tr hEh17
          refine W.eq (g2 := F0 m 332 ls []) rfl ?_
          refine lv_aload_n hx hb (xb_d D_Checker_checkControl 103 rfl) rfl (lv_at hl 0 rfl) ?_
          refine lv_bipush (v := 127) hx hb (xb_d D_Checker_checkControl 104 rfl) (by decide) ?_
          have hk5 : xb_k h17 x0 = 5 := hEh17.k hk5
          obtain ⟨c22, sc22, hlc22, hlsc22, hw⟩ := hw
          refine xb_call (D := D) (A := A) (σ := σ) (h := h17) (d := 3) (mc := c22) (ms := sc22) (maxL := 3) (rest := []) (av := [.ref x0, .int 127]) (fun T hT X => by obtain ⟨cb, r1, r2, r3⟩ := xb_recv (ci := 4) hR rfl hk5 (by decide); exact xt_invV X hx hown (hts _ m_0b33e20f) (hts _ m_338dda25) (hts _ m_d7dc08f9) (xt_sigOf (hts _ m_b71cce2b)) nm_Checker_take (by rw [hT]; exact r1) r2 r3 (g := F0 m 335 ls [.int 127, .ref x0]) rfl (argsL := [.int 127]) (rest := []) rfl rfl (by rw [hb]; exact (xb_d D_Checker_checkControl 105 rfl))) (ok_Checker_take l hfl D A σ x0 127 h17 c22 sc22 _ _ hw) (hml.trans hl.1.symm) (by rw [hb]; exact (xb_d D_Checker_checkControl 105 rfl)) (Nat.le_of_ble_eq_true rfl) (Nat.le_of_ble_eq_true rfl) (Nat.le_of_ble_eq_true rfl) (show ((k + c4) + c19) + c22 ≤ MC by omega) (show ((n + sc4) + sc19) + sc22 ≤ MS by omega) (xt_w1 hB.1 m_b71cce2b) (xt_cdOf hB.1 m_b71cce2b) (hts _ m_44748ce5) hB hR hS hA (fun vv h20 H locs hq hEh20 hR hS => ?_) (fun XX ax h20 H locs hq hEh20 hex hR hS => ?_)
          · obtain ⟨r21, rfl, hw⟩ := hq
            have hw := hw hEh20
            have hE := hE.tr hEh20
            refine W.eq (g2 := F0 m 338 ls [.int r21]) rfl ?_
            refine lv_pop hx hb (xb_d D_Checker_checkControl 106 rfl) rfl ?_
            refine lv_aload_n hx hb (xb_d D_Checker_checkControl 107 rfl) rfl (lv_at hl 0 rfl) ?_
            refine lv_aload_n hx hb (xb_d D_Checker_checkControl 108 rfl) rfl (lv_at hl 0 rfl) ?_
            have hk5 : xb_k h20 x0 = 5 := hEh20.k hk5
            refine xb_getP (C := R_Checker) (T := F_Checker) (N := 17) hx hb 4 2 hts fin_Checker hown hR hk5 (by decide) rfl (by decide) rfl (hts _ m_b5ef1148) (fun _ h9 => h9) (xb_d D_Checker_checkControl 109 rfl) ?_
            obtain ⟨b23, eb23, hw⟩ := hw
            refine xb_some eb23 ?_
            refine lv_aload_n hx hb (xb_d D_Checker_checkControl 110 rfl) rfl (lv_at hl 0 rfl) ?_
            refine xb_getI (C := R_Checker) (T := F_Checker) (N := 17) hx hb 4 9 hts fin_Checker hown hR hk5 (by decide) rfl (by decide) rfl (hts _ m_28193d38) (fun _ h9 => h9) (xb_d D_Checker_checkControl 111 rfl) ?_
            refine lv_iconst (v := 1) hx hb (xb_d D_Checker_checkControl 112 rfl) (by decide) ?_
            refine lv_iadd hx hb (xb_d D_Checker_checkControl 113 rfl) ?_
            obtain ⟨hk25, hw⟩ := hw
            obtain ⟨hi24, hw⟩ := hw
            refine xb_iald hx hb hR hk25 hi24 (xb_d D_Checker_checkControl 114 rfl) ?_
            obtain ⟨c28, sc28, hlc28, hlsc28, hw⟩ := hw
            refine xb_call (D := D) (A := A) (σ := σ) (h := h20) (d := 4) (mc := c28) (ms := sc28) (maxL := 3) (rest := []) (av := [.ref x0, .int (xb_i h20 b23 (Int32.toNatClampNeg ((xb_i h20 x0 9) + 1)))]) (fun T hT X => by obtain ⟨cb, r1, r2, r3⟩ := xb_recv (ci := 4) hR rfl hk5 (by decide); exact xt_invV X hx hown (hts _ m_53bf7c26) (hts _ m_a410aa74) (hts _ m_96023d07) (xt_sigOf (hts _ m_9846e217)) nm_Checker_checkCall (by rw [hT]; exact r1) r2 r3 (g := F0 m 351 ls [.int (xb_i h20 b23 (Int32.toNatClampNeg ((xb_i h20 x0 9) + 1))), .ref x0]) rfl (argsL := [.int (xb_i h20 b23 (Int32.toNatClampNeg ((xb_i h20 x0 9) + 1)))]) (rest := []) rfl rfl (by rw [hb]; exact (xb_d D_Checker_checkControl 115 rfl))) (ok_Checker_checkCall l hfl D A σ x0 (xb_i h20 b23 (Int32.toNatClampNeg ((xb_i h20 x0 9) + 1))) h20 c28 sc28 _ _ hw) (hml.trans hl.1.symm) (by rw [hb]; exact (xb_d D_Checker_checkControl 115 rfl)) (Nat.le_of_ble_eq_true rfl) (Nat.le_of_ble_eq_true rfl) (Nat.le_of_ble_eq_true rfl) (show (((k + c4) + c19) + c22) + c28 ≤ MC by omega) (show (((n + sc4) + sc19) + sc22) + sc28 ≤ MS by omega) (xt_w1 hB.1 m_9846e217) (xt_cdOf hB.1 m_9846e217) (hts _ m_44748ce5) hB hR hS hA (fun vv h26 H locs hq hEh26 hR hS => ?_) (fun XX ax h26 H locs hq hEh26 hex hR hS => ?_)
            · obtain ⟨rfl, hw⟩ := hq
              have hw := hw hEh26
              have hE := hE.tr hEh26
              refine W.eq (g2 := F0 m 354 ls []) rfl ?_
              refine lv_goto (tgt := 373) hx hb (xb_d D_Checker_checkControl 116 rfl) rfl ?_
              exact am_Checker_checkControl_L373 l hfl D A σ MC MS h0 Qr Qt h26 ((((bc - c4) - c19) - c22) - c28) ((((bs - sc4) - sc19) - sc22) - sc28) hw p e s m args below meth c hC H locs ls ((((k + c4) + c19) + c22) + c28) ((((n + sc4) + sc19) + sc22) + sc28) hE (lv_sub hl [] rfl) hR hS (by omega) (by omega)
            · exact xb_pass hlocks (fun x hx9 => by rw [htab] at hx9; first | cases hx9 | (simp [tableOf] at hx9; rcases hx9 with rfl | rfl | rfl <;> decide)) (show ((((k + c4) + c19) + c22) + c28) ≤ MC by omega) (show ((((n + sc4) + sc19) + sc22) + sc28) ≤ MS by omega) (hE.tr hEh26) hR hS hex hq
          · exact xb_pass hlocks (fun x hx9 => by rw [htab] at hx9; first | cases hx9 | (simp [tableOf] at hx9; rcases hx9 with rfl | rfl | rfl <;> decide)) (show (((k + c4) + c19) + c22) ≤ MC by omega) (show (((n + sc4) + sc19) + sc22) ≤ MS by omega) (hE.tr hEh20) hR hS hex hq
        · exact xb_pass hlocks (fun x hx9 => by rw [htab] at hx9; first | cases hx9 | (simp [tableOf] at hx9; rcases hx9 with rfl | rfl | rfl <;> decide)) (show ((k + c4) + c19) ≤ MC by omega) (show ((n + sc4) + sc19) ≤ MS by omega) (hE.tr hEh17) hR hS hex hq
      · exact False.elim hq
    · exact False.elim hq
  · exact xb_pass hlocks (fun x hx9 => by rw [htab] at hx9; first | cases hx9 | (simp [tableOf] at hx9; rcases hx9 with rfl | rfl | rfl <;> decide)) (show (k + c4) ≤ MC by omega) (show (n + sc4) ≤ MS by omega) (hE.tr hEh2) hR hS hex hq

set_option maxHeartbeats 4000000 in
set_option maxRecDepth 100000 in
theorem am_Checker_checkControl_L135 (l : Launch) (hfl : l.flags = pinnedFlags ++ [noTraceFlag]) (D : va_G) (A : Nat → Prop) (σ MC MS : Nat) (h0 : xb_H) (Qr : xb_H → Prop) (Qt : String → xb_H → Prop) (x0 : Nat) (x1 : Int32) (h : xb_H) (bc : Nat) (bs : Nat) (hw : w_Checker_checkControl_L135 Qr Qt x0 x1 h bc bs) : xb_am l D A σ 5 MC MS h0 (fun v h => v = none ∧ Qr h) Qt y_Checker_checkControl.cls y_Checker_checkControl.name b_Checker_checkControl 2 ([] : List ExceptionTableEntry) none 135 [(0, .ref x0), (1, .int x1)] [] h bc bs := by
  unfold w_Checker_checkControl_L135 at hw
  intro p e s m args below meth c hC H locs ls k n hE hl hR hS hk hn
  obtain ⟨hx, hb, hown, hlocks, htab, hml, hr, hB, hA, hnm⟩ := id hC
  have hts := hB.1.1.at args
  refine lv_aload_n hx hb (xb_d D_Checker_checkControl 5 rfl) rfl (lv_at hl 0 rfl) ?_
  refine lv_iload_n hx hb (xb_d D_Checker_checkControl 6 rfl) rfl (lv_at hl 1 rfl) ?_
  obtain ⟨hk1, hw⟩ := hw
  obtain ⟨c4, sc4, hlc4, hlsc4, hw⟩ := hw
  refine xb_call (D := D) (A := A) (σ := σ) (h := h) (d := 4) (mc := c4) (ms := sc4) (maxL := 3) (rest := []) (av := [.ref x0, .int x1]) (fun T hT X => by obtain ⟨cb, r1, r2, r3⟩ := xb_recv (ci := 4) hR rfl hk1 (by decide); exact xt_invV X hx hown (hts _ m_ebec0b2b) (hts _ m_db60f69f) (hts _ m_7a0b68c1) (xt_sigOf (hts _ m_13d3f185)) nm_Checker_checkOpening (by rw [hT]; exact r1) r2 r3 (g := F0 m 137 ls [.int x1, .ref x0]) rfl (argsL := [.int x1]) (rest := []) rfl rfl (by rw [hb]; exact (xb_d D_Checker_checkControl 7 rfl))) (ok_Checker_checkOpening l hfl D A σ x0 x1 h c4 sc4 _ _ hw) (hml.trans hl.1.symm) (by rw [hb]; exact (xb_d D_Checker_checkControl 7 rfl)) (Nat.le_of_ble_eq_true rfl) (Nat.le_of_ble_eq_true rfl) (Nat.le_of_ble_eq_true rfl) (show k + c4 ≤ MC by omega) (show n + sc4 ≤ MS by omega) (xt_w1 hB.1 m_13d3f185) (xt_cdOf hB.1 m_13d3f185) (hts _ m_44748ce5) hB hR hS hA (fun vv h2 H locs hq hEh2 hR hS => ?_) (fun XX ax h2 H locs hq hEh2 hex hR hS => ?_)
  · obtain ⟨rfl, hw⟩ := hq
    have hw := hw hEh2
    have hE := hE.tr hEh2
    refine W.eq (g2 := F0 m 140 ls []) rfl ?_
    refine lv_goto (tgt := 373) hx hb (xb_d D_Checker_checkControl 8 rfl) rfl ?_
    exact am_Checker_checkControl_L373 l hfl D A σ MC MS h0 Qr Qt h2 (bc - c4) (bs - sc4) hw p e s m args below meth c hC H locs ls (k + c4) (n + sc4) hE (lv_sub hl [] rfl) hR hS (by omega) (by omega)
  · exact xb_pass hlocks (fun x hx9 => by rw [htab] at hx9; first | cases hx9 | (simp [tableOf] at hx9; rcases hx9 with rfl | rfl | rfl <;> decide)) (show (k + c4) ≤ MC by omega) (show (n + sc4) ≤ MS by omega) (hE.tr hEh2) hR hS hex hq

set_option maxHeartbeats 4000000 in
set_option maxRecDepth 100000 in
theorem ok_Checker_checkControl (l : Launch) (hfl : l.flags = pinnedFlags ++ [noTraceFlag]) (D : va_G) (A : Nat → Prop) (σ : Nat) (x0 : Nat) (x1 : Int32) (h : xb_H) (bc : Nat) (bs : Nat) (Qr : xb_H → Prop) (Qt : String → xb_H → Prop) (hw : w_Checker_checkControl x0 x1 h bc bs Qr Qt) : xt_Met l y_Checker_checkControl [.code y_Checker_checkControl b_Checker_checkControl 2 none] (xb_rm 5 bc bs) (xb_Pc D A σ h [.ref x0, .int x1]) (xb_Qc D A h (fun v h => v = none ∧ Qr h) Qt) bc bs A := by
  refine xb_ofAm (cc := b_Checker_checkControl) (by decide) (Nat.le_of_ble_eq_true rfl) ?_
  unfold w_Checker_checkControl at hw
  show xb_am l D A σ 5 bc bs h (fun v h => v = none ∧ Qr h) Qt y_Checker_checkControl.cls y_Checker_checkControl.name b_Checker_checkControl 2 ([] : List ExceptionTableEntry) none 0 [(0, .ref x0), (1, .int x1)] [] h bc bs
  obtain ⟨MC, hMC⟩ : ∃ x, x = bc := ⟨_, rfl⟩
  obtain ⟨MS, hMS⟩ : ∃ x, x = bs := ⟨_, rfl⟩
  rw [show xb_am l D A σ 5 bc bs = xb_am l D A σ 5 MC MS by rw [hMC, hMS]]
  obtain ⟨h0, hh0⟩ : ∃ x, x = h := ⟨_, rfl⟩
  rw [show xb_am l D A σ 5 MC MS h = xb_am l D A σ 5 MC MS h0 by rw [hh0]]
  intro p e s m args below meth c hC H locs ls k n hE hl hR hS hk hn
  obtain ⟨hx, hb, hown, hlocks, htab, hml, hr, hB, hA, hnm⟩ := id hC
  have hts := hB.1.1.at args
  refine lv_iload_n hx hb (xb_d D_Checker_checkControl 0 rfl) rfl (lv_at hl 1 rfl) ?_
  by_cases hc1 : x1 = 0
  · have hw := hw.1 hc1
    refine xt_numi hc1 ?_
    refine lv_tableIn (off := 127) (tgt := 128) hx hb (xb_d D_Checker_checkControl 1 rfl) (by decide +kernel) (by decide +kernel) (by decide +kernel) (by decide) ?_
    refine lv_aload_n hx hb (xb_d D_Checker_checkControl 2 rfl) rfl (lv_at hl 0 rfl) ?_
    obtain ⟨hk2, hw⟩ := hw
    refine xb_call (D := D) (A := A) (σ := σ) (h := h) (d := 2) (mc := 0) (ms := 0) (maxL := 1) (rest := []) (av := [.ref x0]) (fun T hT X => by obtain ⟨cb, r1, r2, r3⟩ := xb_recv (ci := 4) hR rfl hk2 (by decide); exact xt_invV X hx hown (hts _ m_3c20c1e8) (hts _ m_95b7140b) (hts _ m_ecec8718) (xt_sigOf (hts _ m_2825a1fb)) nm_Checker_die (by rw [hT]; exact r1) r2 r3 (g := F0 m 129 ls [.ref x0]) rfl (argsL := []) (rest := []) rfl rfl (by rw [hb]; exact (xb_d D_Checker_checkControl 3 rfl))) (ok_Checker_die l hfl D A σ x0 h _ hw) (hml.trans hl.1.symm) (by rw [hb]; exact (xb_d D_Checker_checkControl 3 rfl)) (Nat.le_of_ble_eq_true rfl) (Nat.le_of_ble_eq_true rfl) (Nat.le_of_ble_eq_true rfl) (show k + 0 ≤ MC by omega) (show n + 0 ≤ MS by omega) (xt_w1 hB.1 m_2825a1fb) (xt_cdOf hB.1 m_2825a1fb) (hts _ m_44748ce5) hB hR hS hA (fun vv h3 H locs hq hEh3 hR hS => ?_) (fun XX ax h3 H locs hq hEh3 hex hR hS => ?_)
    · obtain ⟨rfl, hw⟩ := hq
      have hw := hw hEh3
      have hE := hE.tr hEh3
      refine W.eq (g2 := F0 m 132 ls []) rfl ?_
      refine lv_goto (tgt := 373) hx hb (xb_d D_Checker_checkControl 4 rfl) rfl ?_
      exact am_Checker_checkControl_L373 l hfl D A σ MC MS h0 Qr Qt h3 bc bs hw p e s m args below meth c hC H locs ls k n hE (lv_sub hl [] rfl) hR hS (by omega) (by omega)
    · exact False.elim hq
  have hw := hw.2
  by_cases hc5 : x1 = 1
  · have hw := hw.1 hc5
    refine xt_numi hc5 ?_
    refine lv_tableIn (off := 372) (tgt := 373) hx hb (xb_d D_Checker_checkControl 1 rfl) (by decide +kernel) (by decide +kernel) (by decide +kernel) (by decide) ?_
    exact am_Checker_checkControl_L373 l hfl D A σ MC MS h0 Qr Qt h bc bs hw p e s m args below meth c hC H locs ls k n hE (lv_sub hl [] rfl) hR hS (by omega) (by omega)
  have hw := hw.2
  by_cases hc6 : x1 = 2
  · have hw := hw.1 hc6
    refine xt_numi hc6 ?_
    refine lv_tableIn (off := 134) (tgt := 135) hx hb (xb_d D_Checker_checkControl 1 rfl) (by decide +kernel) (by decide +kernel) (by decide +kernel) (by decide) ?_
    exact am_Checker_checkControl_L135 l hfl D A σ MC MS h0 Qr Qt x0 x1 h bc bs hw p e s m args below meth c hC H locs ls k n hE (lv_sub hl [0, 1] rfl) hR hS (by omega) (by omega)
  have hw := hw.2
  by_cases hc7 : x1 = 3
  · have hw := hw.1 hc7
    refine xt_numi hc7 ?_
    refine lv_tableIn (off := 134) (tgt := 135) hx hb (xb_d D_Checker_checkControl 1 rfl) (by decide +kernel) (by decide +kernel) (by decide +kernel) (by decide) ?_
    exact am_Checker_checkControl_L135 l hfl D A σ MC MS h0 Qr Qt x0 x1 h bc bs hw p e s m args below meth c hC H locs ls k n hE (lv_sub hl [0, 1] rfl) hR hS (by omega) (by omega)
  have hw := hw.2
  by_cases hc8 : x1 = 4
  · have hw := hw.1 hc8
    refine xt_numi hc8 ?_
    refine lv_tableIn (off := 134) (tgt := 135) hx hb (xb_d D_Checker_checkControl 1 rfl) (by decide +kernel) (by decide +kernel) (by decide +kernel) (by decide) ?_
    exact am_Checker_checkControl_L135 l hfl D A σ MC MS h0 Qr Qt x0 x1 h bc bs hw p e s m args below meth c hC H locs ls k n hE (lv_sub hl [0, 1] rfl) hR hS (by omega) (by omega)
  have hw := hw.2
  by_cases hc9 : x1 = 5
  · have hw := hw.1 hc9
    refine xt_numi hc9 ?_
    refine lv_tableIn (off := 142) (tgt := 143) hx hb (xb_d D_Checker_checkControl 1 rfl) (by decide +kernel) (by decide +kernel) (by decide +kernel) (by decide) ?_
    refine lv_aload_n hx hb (xb_d D_Checker_checkControl 9 rfl) rfl (lv_at hl 0 rfl) ?_
    obtain ⟨hk10, hw⟩ := hw
    obtain ⟨c13, sc13, hlc13, hlsc13, hw⟩ := hw
    refine xb_call (D := D) (A := A) (σ := σ) (h := h) (d := 4) (mc := c13) (ms := sc13) (maxL := 2) (rest := []) (av := [.ref x0]) (fun T hT X => by obtain ⟨cb, r1, r2, r3⟩ := xb_recv (ci := 4) hR rfl hk10 (by decide); exact xt_invV X hx hown (hts _ m_102bfd31) (hts _ m_011d9088) (hts _ m_67c49da1) (xt_sigOf (hts _ m_ccfdfad1)) nm_Checker_checkElse (by rw [hT]; exact r1) r2 r3 (g := F0 m 144 ls [.ref x0]) rfl (argsL := []) (rest := []) rfl rfl (by rw [hb]; exact (xb_d D_Checker_checkControl 10 rfl))) (ok_Checker_checkElse l hfl D A σ x0 h c13 sc13 _ _ hw) (hml.trans hl.1.symm) (by rw [hb]; exact (xb_d D_Checker_checkControl 10 rfl)) (Nat.le_of_ble_eq_true rfl) (Nat.le_of_ble_eq_true rfl) (Nat.le_of_ble_eq_true rfl) (show k + c13 ≤ MC by omega) (show n + sc13 ≤ MS by omega) (xt_w1 hB.1 m_ccfdfad1) (xt_cdOf hB.1 m_ccfdfad1) (hts _ m_44748ce5) hB hR hS hA (fun vv h11 H locs hq hEh11 hR hS => ?_) (fun XX ax h11 H locs hq hEh11 hex hR hS => ?_)
    · obtain ⟨rfl, hw⟩ := hq
      have hw := hw hEh11
      have hE := hE.tr hEh11
      refine W.eq (g2 := F0 m 147 ls []) rfl ?_
      refine lv_goto (tgt := 373) hx hb (xb_d D_Checker_checkControl 11 rfl) rfl ?_
      exact am_Checker_checkControl_L373 l hfl D A σ MC MS h0 Qr Qt h11 (bc - c13) (bs - sc13) hw p e s m args below meth c hC H locs ls (k + c13) (n + sc13) hE (lv_sub hl [] rfl) hR hS (by omega) (by omega)
    · exact xb_pass hlocks (fun x hx9 => by rw [htab] at hx9; first | cases hx9 | (simp [tableOf] at hx9; rcases hx9 with rfl | rfl | rfl <;> decide)) (show (k + c13) ≤ MC by omega) (show (n + sc13) ≤ MS by omega) (hE.tr hEh11) hR hS hex hq
  have hw := hw.2
  by_cases hc14 : x1 = 6
  · have hw := hw.1 hc14
    refine xt_numi hc14 ?_
    refine lv_tableIn (off := 372) (tgt := 373) hx hb (xb_d D_Checker_checkControl 1 rfl) (by decide +kernel) (by decide +kernel) (by decide +kernel) (by decide) ?_
    exact am_Checker_checkControl_L373 l hfl D A σ MC MS h0 Qr Qt h bc bs hw p e s m args below meth c hC H locs ls k n hE (lv_sub hl [] rfl) hR hS (by omega) (by omega)
  have hw := hw.2
  by_cases hc15 : x1 = 7
  · have hw := hw.1 hc15
    refine xt_numi hc15 ?_
    refine lv_tableIn (off := 372) (tgt := 373) hx hb (xb_d D_Checker_checkControl 1 rfl) (by decide +kernel) (by decide +kernel) (by decide +kernel) (by decide) ?_
    exact am_Checker_checkControl_L373 l hfl D A σ MC MS h0 Qr Qt h bc bs hw p e s m args below meth c hC H locs ls k n hE (lv_sub hl [] rfl) hR hS (by omega) (by omega)
  have hw := hw.2
  by_cases hc16 : x1 = 8
  · have hw := hw.1 hc16
    refine xt_numi hc16 ?_
    refine lv_tableIn (off := 372) (tgt := 373) hx hb (xb_d D_Checker_checkControl 1 rfl) (by decide +kernel) (by decide +kernel) (by decide +kernel) (by decide) ?_
    exact am_Checker_checkControl_L373 l hfl D A σ MC MS h0 Qr Qt h bc bs hw p e s m args below meth c hC H locs ls k n hE (lv_sub hl [] rfl) hR hS (by omega) (by omega)
  have hw := hw.2
  by_cases hc17 : x1 = 9
  · have hw := hw.1 hc17
    refine xt_numi hc17 ?_
    refine lv_tableIn (off := 372) (tgt := 373) hx hb (xb_d D_Checker_checkControl 1 rfl) (by decide +kernel) (by decide +kernel) (by decide +kernel) (by decide) ?_
    exact am_Checker_checkControl_L373 l hfl D A σ MC MS h0 Qr Qt h bc bs hw p e s m args below meth c hC H locs ls k n hE (lv_sub hl [] rfl) hR hS (by omega) (by omega)
  have hw := hw.2
  by_cases hc18 : x1 = 10
  · have hw := hw.1 hc18
    refine xt_numi hc18 ?_
    refine lv_tableIn (off := 372) (tgt := 373) hx hb (xb_d D_Checker_checkControl 1 rfl) (by decide +kernel) (by decide +kernel) (by decide +kernel) (by decide) ?_
    exact am_Checker_checkControl_L373 l hfl D A σ MC MS h0 Qr Qt h bc bs hw p e s m args below meth c hC H locs ls k n hE (lv_sub hl [] rfl) hR hS (by omega) (by omega)
  have hw := hw.2
  by_cases hc19 : x1 = 11
  · have hw := hw.1 hc19
    refine xt_numi hc19 ?_
    refine lv_tableIn (off := 149) (tgt := 150) hx hb (xb_d D_Checker_checkControl 1 rfl) (by decide +kernel) (by decide +kernel) (by decide +kernel) (by decide) ?_
    refine lv_aload_n hx hb (xb_d D_Checker_checkControl 12 rfl) rfl (lv_at hl 0 rfl) ?_
    obtain ⟨hk20, hw⟩ := hw
    obtain ⟨c23, sc23, hlc23, hlsc23, hw⟩ := hw
    refine xb_call (D := D) (A := A) (σ := σ) (h := h) (d := 4) (mc := c23) (ms := sc23) (maxL := 2) (rest := []) (av := [.ref x0]) (fun T hT X => by obtain ⟨cb, r1, r2, r3⟩ := xb_recv (ci := 4) hR rfl hk20 (by decide); exact xt_invV X hx hown (hts _ m_6283ab69) (hts _ m_caa07f69) (hts _ m_e60b8634) (xt_sigOf (hts _ m_31680164)) nm_Checker_checkEnd (by rw [hT]; exact r1) r2 r3 (g := F0 m 151 ls [.ref x0]) rfl (argsL := []) (rest := []) rfl rfl (by rw [hb]; exact (xb_d D_Checker_checkControl 13 rfl))) (ok_Checker_checkEnd l hfl D A σ x0 h c23 sc23 _ _ hw) (hml.trans hl.1.symm) (by rw [hb]; exact (xb_d D_Checker_checkControl 13 rfl)) (Nat.le_of_ble_eq_true rfl) (Nat.le_of_ble_eq_true rfl) (Nat.le_of_ble_eq_true rfl) (show k + c23 ≤ MC by omega) (show n + sc23 ≤ MS by omega) (xt_w1 hB.1 m_31680164) (xt_cdOf hB.1 m_31680164) (hts _ m_44748ce5) hB hR hS hA (fun vv h21 H locs hq hEh21 hR hS => ?_) (fun XX ax h21 H locs hq hEh21 hex hR hS => ?_)
    · obtain ⟨rfl, hw⟩ := hq
      have hw := hw hEh21
      have hE := hE.tr hEh21
      refine W.eq (g2 := F0 m 154 ls []) rfl ?_
      refine lv_goto (tgt := 373) hx hb (xb_d D_Checker_checkControl 14 rfl) rfl ?_
      exact am_Checker_checkControl_L373 l hfl D A σ MC MS h0 Qr Qt h21 (bc - c23) (bs - sc23) hw p e s m args below meth c hC H locs ls (k + c23) (n + sc23) hE (lv_sub hl [] rfl) hR hS (by omega) (by omega)
    · exact xb_pass hlocks (fun x hx9 => by rw [htab] at hx9; first | cases hx9 | (simp [tableOf] at hx9; rcases hx9 with rfl | rfl | rfl <;> decide)) (show (k + c23) ≤ MC by omega) (show (n + sc23) ≤ MS by omega) (hE.tr hEh21) hR hS hex hq
  have hw := hw.2
  by_cases hc24 : x1 = 12
  · have hw := hw.1 hc24
    refine xt_numi hc24 ?_
    refine lv_tableIn (off := 156) (tgt := 157) hx hb (xb_d D_Checker_checkControl 1 rfl) (by decide +kernel) (by decide +kernel) (by decide +kernel) (by decide) ?_
    refine lv_aload_n hx hb (xb_d D_Checker_checkControl 15 rfl) rfl (lv_at hl 0 rfl) ?_
    refine lv_aload_n hx hb (xb_d D_Checker_checkControl 16 rfl) rfl (lv_at hl 0 rfl) ?_
    obtain ⟨hk25, hw⟩ := hw
    refine xb_getP (C := R_Checker) (T := F_Checker) (N := 17) hx hb 4 12 hts fin_Checker hown hR hk25 (by decide) rfl (by decide) rfl (hts _ m_8a464e71) (fun _ h9 => h9) (xb_d D_Checker_checkControl 17 rfl) ?_
    obtain ⟨b26, eb26, hw⟩ := hw
    refine xb_some eb26 ?_
    refine lv_aload_n hx hb (xb_d D_Checker_checkControl 18 rfl) rfl (lv_at hl 0 rfl) ?_
    refine lv_aload_n hx hb (xb_d D_Checker_checkControl 19 rfl) rfl (lv_at hl 0 rfl) ?_
    refine xb_getI (C := R_Checker) (T := F_Checker) (N := 17) hx hb 4 9 hts fin_Checker hown hR hk25 (by decide) rfl (by decide) rfl (hts _ m_28193d38) (fun _ h9 => h9) (xb_d D_Checker_checkControl 20 rfl) ?_
    refine lv_iconst (v := 1) hx hb (xb_d D_Checker_checkControl 21 rfl) (by decide) ?_
    refine lv_iadd hx hb (xb_d D_Checker_checkControl 22 rfl) ?_
    obtain ⟨c29, sc29, hlc29, hlsc29, hw⟩ := hw
    refine xb_call (D := D) (A := A) (σ := σ) (h := h) (d := 3) (mc := c29) (ms := sc29) (maxL := 3) (rest := [.ref b26, .ref x0]) (av := [.ref x0, .int ((xb_i h x0 9) + 1)]) (fun T hT X => by obtain ⟨cb, r1, r2, r3⟩ := xb_recv (ci := 4) hR rfl hk25 (by decide); exact xt_invV X hx hown (hts _ m_baf0cde0) (hts _ m_df7367f5) (hts _ m_b8e4b77a) (xt_sigOf (hts _ m_ae5b25e9)) nm_Checker_checkLabel (by rw [hT]; exact r1) r2 r3 (g := F0 m 169 ls [.int ((xb_i h x0 9) + 1), .ref x0, .ref b26, .ref x0]) rfl (argsL := [.int ((xb_i h x0 9) + 1)]) (rest := [.ref b26, .ref x0]) rfl rfl (by rw [hb]; exact (xb_d D_Checker_checkControl 23 rfl))) (ok_Checker_checkLabel l hfl D A σ x0 ((xb_i h x0 9) + 1) h c29 sc29 _ _ hw) (hml.trans hl.1.symm) (by rw [hb]; exact (xb_d D_Checker_checkControl 23 rfl)) (Nat.le_of_ble_eq_true rfl) (Nat.le_of_ble_eq_true rfl) (Nat.le_of_ble_eq_true rfl) (show k + c29 ≤ MC by omega) (show n + sc29 ≤ MS by omega) (xt_w1 hB.1 m_ae5b25e9) (xt_cdOf hB.1 m_ae5b25e9) (hts _ m_44748ce5) hB hR hS hA (fun vv h27 H locs hq hEh27 hR hS => ?_) (fun XX ax h27 H locs hq hEh27 hex hR hS => ?_)
    · obtain ⟨r28, rfl, hw⟩ := hq
      have hw := hw hEh27
      have hE := hE.tr hEh27
      refine W.eq (g2 := F0 m 172 ls [.int r28, .ref b26, .ref x0]) rfl ?_
      obtain ⟨hk31, hw⟩ := hw
      obtain ⟨hi30, hw⟩ := hw
      refine xb_iald hx hb hR hk31 hi30 (xb_d D_Checker_checkControl 24 rfl) ?_
      have hk25 : xb_k h27 x0 = 5 := hEh27.k hk25
      obtain ⟨c34, sc34, hlc34, hlsc34, hw⟩ := hw
      refine xb_call (D := D) (A := A) (σ := σ) (h := h27) (d := 3) (mc := c34) (ms := sc34) (maxL := 3) (rest := []) (av := [.ref x0, .int (xb_i h27 b26 (Int32.toNatClampNeg r28))]) (fun T hT X => by obtain ⟨cb, r1, r2, r3⟩ := xb_recv (ci := 4) hR rfl hk25 (by decide); exact xt_invV X hx hown (hts _ m_0b33e20f) (hts _ m_338dda25) (hts _ m_d7dc08f9) (xt_sigOf (hts _ m_b71cce2b)) nm_Checker_take (by rw [hT]; exact r1) r2 r3 (g := F0 m 173 ls [.int (xb_i h27 b26 (Int32.toNatClampNeg r28)), .ref x0]) rfl (argsL := [.int (xb_i h27 b26 (Int32.toNatClampNeg r28))]) (rest := []) rfl rfl (by rw [hb]; exact (xb_d D_Checker_checkControl 25 rfl))) (ok_Checker_take l hfl D A σ x0 (xb_i h27 b26 (Int32.toNatClampNeg r28)) h27 c34 sc34 _ _ hw) (hml.trans hl.1.symm) (by rw [hb]; exact (xb_d D_Checker_checkControl 25 rfl)) (Nat.le_of_ble_eq_true rfl) (Nat.le_of_ble_eq_true rfl) (Nat.le_of_ble_eq_true rfl) (show (k + c29) + c34 ≤ MC by omega) (show (n + sc29) + sc34 ≤ MS by omega) (xt_w1 hB.1 m_b71cce2b) (xt_cdOf hB.1 m_b71cce2b) (hts _ m_44748ce5) hB hR hS hA (fun vv h32 H locs hq hEh32 hR hS => ?_) (fun XX ax h32 H locs hq hEh32 hex hR hS => ?_)
      · obtain ⟨r33, rfl, hw⟩ := hq
        have hw := hw hEh32
        have hE := hE.tr hEh32
        refine W.eq (g2 := F0 m 176 ls [.int r33]) rfl ?_
        refine lv_pop hx hb (xb_d D_Checker_checkControl 26 rfl) rfl ?_
        refine lv_aload_n hx hb (xb_d D_Checker_checkControl 27 rfl) rfl (lv_at hl 0 rfl) ?_
        have hk25 : xb_k h32 x0 = 5 := hEh32.k hk25
        refine xb_call (D := D) (A := A) (σ := σ) (h := h32) (d := 2) (mc := 0) (ms := 0) (maxL := 1) (rest := []) (av := [.ref x0]) (fun T hT X => by obtain ⟨cb, r1, r2, r3⟩ := xb_recv (ci := 4) hR rfl hk25 (by decide); exact xt_invV X hx hown (hts _ m_3c20c1e8) (hts _ m_95b7140b) (hts _ m_ecec8718) (xt_sigOf (hts _ m_2825a1fb)) nm_Checker_die (by rw [hT]; exact r1) r2 r3 (g := F0 m 178 ls [.ref x0]) rfl (argsL := []) (rest := []) rfl rfl (by rw [hb]; exact (xb_d D_Checker_checkControl 28 rfl))) (ok_Checker_die l hfl D A σ x0 h32 _ hw) (hml.trans hl.1.symm) (by rw [hb]; exact (xb_d D_Checker_checkControl 28 rfl)) (Nat.le_of_ble_eq_true rfl) (Nat.le_of_ble_eq_true rfl) (Nat.le_of_ble_eq_true rfl) (show ((k + c29) + c34) + 0 ≤ MC by omega) (show ((n + sc29) + sc34) + 0 ≤ MS by omega) (xt_w1 hB.1 m_2825a1fb) (xt_cdOf hB.1 m_2825a1fb) (hts _ m_44748ce5) hB hR hS hA (fun vv h35 H locs hq hEh35 hR hS => ?_) (fun XX ax h35 H locs hq hEh35 hex hR hS => ?_)
        · obtain ⟨rfl, hw⟩ := hq
          have hw := hw hEh35
          have hE := hE.tr hEh35
          refine W.eq (g2 := F0 m 181 ls []) rfl ?_
          refine lv_goto (tgt := 373) hx hb (xb_d D_Checker_checkControl 29 rfl) rfl ?_
          exact am_Checker_checkControl_L373 l hfl D A σ MC MS h0 Qr Qt h35 ((bc - c29) - c34) ((bs - sc29) - sc34) hw p e s m args below meth c hC H locs ls ((k + c29) + c34) ((n + sc29) + sc34) hE (lv_sub hl [] rfl) hR hS (by omega) (by omega)
        · exact False.elim hq
      · exact xb_pass hlocks (fun x hx9 => by rw [htab] at hx9; first | cases hx9 | (simp [tableOf] at hx9; rcases hx9 with rfl | rfl | rfl <;> decide)) (show ((k + c29) + c34) ≤ MC by omega) (show ((n + sc29) + sc34) ≤ MS by omega) (hE.tr hEh32) hR hS hex hq
    · exact xb_pass hlocks (fun x hx9 => by rw [htab] at hx9; first | cases hx9 | (simp [tableOf] at hx9; rcases hx9 with rfl | rfl | rfl <;> decide)) (show (k + c29) ≤ MC by omega) (show (n + sc29) ≤ MS by omega) (hE.tr hEh27) hR hS hex hq
  have hw := hw.2
  by_cases hc37 : x1 = 13
  · have hw := hw.1 hc37
    refine xt_numi hc37 ?_
    refine lv_tableIn (off := 183) (tgt := 184) hx hb (xb_d D_Checker_checkControl 1 rfl) (by decide +kernel) (by decide +kernel) (by decide +kernel) (by decide) ?_
    refine lv_aload_n hx hb (xb_d D_Checker_checkControl 30 rfl) rfl (lv_at hl 0 rfl) ?_
    obtain ⟨hk38, hw⟩ := hw
    obtain ⟨c41, sc41, hlc41, hlsc41, hw⟩ := hw
    refine xb_call (D := D) (A := A) (σ := σ) (h := h) (d := 4) (mc := c41) (ms := sc41) (maxL := 2) (rest := []) (av := [.ref x0]) (fun T hT X => by obtain ⟨cb, r1, r2, r3⟩ := xb_recv (ci := 4) hR rfl hk38 (by decide); exact xt_invV X hx hown (hts _ m_87752099) (hts _ m_1f86a52a) (hts _ m_1a0dfcd9) (xt_sigOf (hts _ m_13cb0be3)) nm_Checker_checkBranchIf (by rw [hT]; exact r1) r2 r3 (g := F0 m 185 ls [.ref x0]) rfl (argsL := []) (rest := []) rfl rfl (by rw [hb]; exact (xb_d D_Checker_checkControl 31 rfl))) (ok_Checker_checkBranchIf l hfl D A σ x0 h c41 sc41 _ _ hw) (hml.trans hl.1.symm) (by rw [hb]; exact (xb_d D_Checker_checkControl 31 rfl)) (Nat.le_of_ble_eq_true rfl) (Nat.le_of_ble_eq_true rfl) (Nat.le_of_ble_eq_true rfl) (show k + c41 ≤ MC by omega) (show n + sc41 ≤ MS by omega) (xt_w1 hB.1 m_13cb0be3) (xt_cdOf hB.1 m_13cb0be3) (hts _ m_44748ce5) hB hR hS hA (fun vv h39 H locs hq hEh39 hR hS => ?_) (fun XX ax h39 H locs hq hEh39 hex hR hS => ?_)
    · obtain ⟨rfl, hw⟩ := hq
      have hw := hw hEh39
      have hE := hE.tr hEh39
      refine W.eq (g2 := F0 m 188 ls []) rfl ?_
      refine lv_goto (tgt := 373) hx hb (xb_d D_Checker_checkControl 32 rfl) rfl ?_
      exact am_Checker_checkControl_L373 l hfl D A σ MC MS h0 Qr Qt h39 (bc - c41) (bs - sc41) hw p e s m args below meth c hC H locs ls (k + c41) (n + sc41) hE (lv_sub hl [] rfl) hR hS (by omega) (by omega)
    · exact xb_pass hlocks (fun x hx9 => by rw [htab] at hx9; first | cases hx9 | (simp [tableOf] at hx9; rcases hx9 with rfl | rfl | rfl <;> decide)) (show (k + c41) ≤ MC by omega) (show (n + sc41) ≤ MS by omega) (hE.tr hEh39) hR hS hex hq
  have hw := hw.2
  by_cases hc42 : x1 = 14
  · have hw := hw.1 hc42
    refine xt_numi hc42 ?_
    refine lv_tableIn (off := 190) (tgt := 191) hx hb (xb_d D_Checker_checkControl 1 rfl) (by decide +kernel) (by decide +kernel) (by decide +kernel) (by decide) ?_
    refine lv_aload_n hx hb (xb_d D_Checker_checkControl 33 rfl) rfl (lv_at hl 0 rfl) ?_
    obtain ⟨hk43, hw⟩ := hw
    obtain ⟨c46, sc46, hlc46, hlsc46, hw⟩ := hw
    refine xb_call (D := D) (A := A) (σ := σ) (h := h) (d := 4) (mc := c46) (ms := sc46) (maxL := 4) (rest := []) (av := [.ref x0]) (fun T hT X => by obtain ⟨cb, r1, r2, r3⟩ := xb_recv (ci := 4) hR rfl hk43 (by decide); exact xt_invV X hx hown (hts _ m_abe3f354) (hts _ m_644c3cad) (hts _ m_bd10a36b) (xt_sigOf (hts _ m_1cced3c4)) nm_Checker_checkLabels (by rw [hT]; exact r1) r2 r3 (g := F0 m 192 ls [.ref x0]) rfl (argsL := []) (rest := []) rfl rfl (by rw [hb]; exact (xb_d D_Checker_checkControl 34 rfl))) (ok_Checker_checkLabels l hfl D A σ x0 h c46 sc46 _ _ hw) (hml.trans hl.1.symm) (by rw [hb]; exact (xb_d D_Checker_checkControl 34 rfl)) (Nat.le_of_ble_eq_true rfl) (Nat.le_of_ble_eq_true rfl) (Nat.le_of_ble_eq_true rfl) (show k + c46 ≤ MC by omega) (show n + sc46 ≤ MS by omega) (xt_w1 hB.1 m_1cced3c4) (xt_cdOf hB.1 m_1cced3c4) (hts _ m_44748ce5) hB hR hS hA (fun vv h44 H locs hq hEh44 hR hS => ?_) (fun XX ax h44 H locs hq hEh44 hex hR hS => ?_)
    · obtain ⟨rfl, hw⟩ := hq
      have hw := hw hEh44
      have hE := hE.tr hEh44
      refine W.eq (g2 := F0 m 195 ls []) rfl ?_
      refine lv_goto (tgt := 373) hx hb (xb_d D_Checker_checkControl 35 rfl) rfl ?_
      exact am_Checker_checkControl_L373 l hfl D A σ MC MS h0 Qr Qt h44 (bc - c46) (bs - sc46) hw p e s m args below meth c hC H locs ls (k + c46) (n + sc46) hE (lv_sub hl [] rfl) hR hS (by omega) (by omega)
    · exact xb_pass hlocks (fun x hx9 => by rw [htab] at hx9; first | cases hx9 | (simp [tableOf] at hx9; rcases hx9 with rfl | rfl | rfl <;> decide)) (show (k + c46) ≤ MC by omega) (show (n + sc46) ≤ MS by omega) (hE.tr hEh44) hR hS hex hq
  have hw := hw.2
  by_cases hc47 : x1 = 15
  · have hw := hw.1 hc47
    refine xt_numi hc47 ?_
    refine lv_tableIn (off := 197) (tgt := 198) hx hb (xb_d D_Checker_checkControl 1 rfl) (by decide +kernel) (by decide +kernel) (by decide +kernel) (by decide) ?_
    refine lv_aload_n hx hb (xb_d D_Checker_checkControl 36 rfl) rfl (lv_at hl 0 rfl) ?_
    refine lv_aload_n hx hb (xb_d D_Checker_checkControl 37 rfl) rfl (lv_at hl 0 rfl) ?_
    obtain ⟨hk48, hw⟩ := hw
    refine xb_getP (C := R_Checker) (T := F_Checker) (N := 17) hx hb 4 0 hts fin_Checker hown hR hk48 (by decide) rfl (by decide) rfl (hts _ m_070795bc) (fun _ h9 => h9) (xb_d D_Checker_checkControl 38 rfl) ?_
    obtain ⟨b49, eb49, hw⟩ := hw
    refine xb_some eb49 ?_
    refine lv_aload_n hx hb (xb_d D_Checker_checkControl 39 rfl) rfl (lv_at hl 0 rfl) ?_
    refine xb_getI (C := R_Checker) (T := F_Checker) (N := 17) hx hb 4 8 hts fin_Checker hown hR hk48 (by decide) rfl (by decide) rfl (hts _ m_f84c9de3) (fun _ h9 => h9) (xb_d D_Checker_checkControl 40 rfl) ?_
    obtain ⟨hk50, hw⟩ := hw
    refine xb_call (D := D) (A := A) (σ := σ) (h := h) (d := 3) (mc := 0) (ms := 0) (maxL := 2) (rest := [.ref x0]) (av := [.ref b49, .int (xb_i h x0 8)]) (fun T hT X => by obtain ⟨cb, r1, r2, r3⟩ := xb_recv (ci := 2) hR rfl hk50 (by decide); exact xt_invV X hx hown (hts _ m_ea77f79f) (hts _ m_1d164a26) (hts _ m_57f47ef8) (xt_sigOf (hts _ m_fa540915)) nm_StackModule_resultType (by rw [hT]; exact r1) r2 r3 (g := F0 m 207 ls [.int (xb_i h x0 8), .ref b49, .ref x0]) rfl (argsL := [.int (xb_i h x0 8)]) (rest := [.ref x0]) rfl rfl (by rw [hb]; exact (xb_d D_Checker_checkControl 41 rfl))) (ok_StackModule_resultType l hfl D A σ b49 (xb_i h x0 8) h _ hw) (hml.trans hl.1.symm) (by rw [hb]; exact (xb_d D_Checker_checkControl 41 rfl)) (Nat.le_of_ble_eq_true rfl) (Nat.le_of_ble_eq_true rfl) (Nat.le_of_ble_eq_true rfl) (show k + 0 ≤ MC by omega) (show n + 0 ≤ MS by omega) (xt_w1 hB.1 m_fa540915) (xt_cdOf hB.1 m_fa540915) (hts _ m_9c375545) hB hR hS hA (fun vv h51 H locs hq hEh51 hR hS => ?_) (fun XX ax h51 H locs hq hEh51 hex hR hS => ?_)
    · obtain ⟨r52, rfl, hw⟩ := hq
      have hw := hw hEh51
      have hE := hE.tr hEh51
      refine W.eq (g2 := F0 m 210 ls [.int r52, .ref x0]) rfl ?_
      have hk48 : xb_k h51 x0 = 5 := hEh51.k hk48
      obtain ⟨c55, sc55, hlc55, hlsc55, hw⟩ := hw
      refine xb_call (D := D) (A := A) (σ := σ) (h := h51) (d := 3) (mc := c55) (ms := sc55) (maxL := 3) (rest := []) (av := [.ref x0, .int r52]) (fun T hT X => by obtain ⟨cb, r1, r2, r3⟩ := xb_recv (ci := 4) hR rfl hk48 (by decide); exact xt_invV X hx hown (hts _ m_0b33e20f) (hts _ m_338dda25) (hts _ m_d7dc08f9) (xt_sigOf (hts _ m_b71cce2b)) nm_Checker_take (by rw [hT]; exact r1) r2 r3 (g := F0 m 210 ls [.int r52, .ref x0]) rfl (argsL := [.int r52]) (rest := []) rfl rfl (by rw [hb]; exact (xb_d D_Checker_checkControl 42 rfl))) (ok_Checker_take l hfl D A σ x0 r52 h51 c55 sc55 _ _ hw) (hml.trans hl.1.symm) (by rw [hb]; exact (xb_d D_Checker_checkControl 42 rfl)) (Nat.le_of_ble_eq_true rfl) (Nat.le_of_ble_eq_true rfl) (Nat.le_of_ble_eq_true rfl) (show k + c55 ≤ MC by omega) (show n + sc55 ≤ MS by omega) (xt_w1 hB.1 m_b71cce2b) (xt_cdOf hB.1 m_b71cce2b) (hts _ m_44748ce5) hB hR hS hA (fun vv h53 H locs hq hEh53 hR hS => ?_) (fun XX ax h53 H locs hq hEh53 hex hR hS => ?_)
      · obtain ⟨r54, rfl, hw⟩ := hq
        have hw := hw hEh53
        have hE := hE.tr hEh53
        refine W.eq (g2 := F0 m 213 ls [.int r54]) rfl ?_
        refine lv_pop hx hb (xb_d D_Checker_checkControl 43 rfl) rfl ?_
        refine lv_aload_n hx hb (xb_d D_Checker_checkControl 44 rfl) rfl (lv_at hl 0 rfl) ?_
        have hk48 : xb_k h53 x0 = 5 := hEh53.k hk48
        refine xb_call (D := D) (A := A) (σ := σ) (h := h53) (d := 2) (mc := 0) (ms := 0) (maxL := 1) (rest := []) (av := [.ref x0]) (fun T hT X => by obtain ⟨cb, r1, r2, r3⟩ := xb_recv (ci := 4) hR rfl hk48 (by decide); exact xt_invV X hx hown (hts _ m_3c20c1e8) (hts _ m_95b7140b) (hts _ m_ecec8718) (xt_sigOf (hts _ m_2825a1fb)) nm_Checker_die (by rw [hT]; exact r1) r2 r3 (g := F0 m 215 ls [.ref x0]) rfl (argsL := []) (rest := []) rfl rfl (by rw [hb]; exact (xb_d D_Checker_checkControl 45 rfl))) (ok_Checker_die l hfl D A σ x0 h53 _ hw) (hml.trans hl.1.symm) (by rw [hb]; exact (xb_d D_Checker_checkControl 45 rfl)) (Nat.le_of_ble_eq_true rfl) (Nat.le_of_ble_eq_true rfl) (Nat.le_of_ble_eq_true rfl) (show (k + c55) + 0 ≤ MC by omega) (show (n + sc55) + 0 ≤ MS by omega) (xt_w1 hB.1 m_2825a1fb) (xt_cdOf hB.1 m_2825a1fb) (hts _ m_44748ce5) hB hR hS hA (fun vv h56 H locs hq hEh56 hR hS => ?_) (fun XX ax h56 H locs hq hEh56 hex hR hS => ?_)
        · obtain ⟨rfl, hw⟩ := hq
          have hw := hw hEh56
          have hE := hE.tr hEh56
          refine W.eq (g2 := F0 m 218 ls []) rfl ?_
          refine lv_goto (tgt := 373) hx hb (xb_d D_Checker_checkControl 46 rfl) rfl ?_
          exact am_Checker_checkControl_L373 l hfl D A σ MC MS h0 Qr Qt h56 (bc - c55) (bs - sc55) hw p e s m args below meth c hC H locs ls (k + c55) (n + sc55) hE (lv_sub hl [] rfl) hR hS (by omega) (by omega)
        · exact False.elim hq
      · exact xb_pass hlocks (fun x hx9 => by rw [htab] at hx9; first | cases hx9 | (simp [tableOf] at hx9; rcases hx9 with rfl | rfl | rfl <;> decide)) (show (k + c55) ≤ MC by omega) (show (n + sc55) ≤ MS by omega) (hE.tr hEh53) hR hS hex hq
    · exact False.elim hq
  have hw := hw.2
  by_cases hc58 : x1 = 16
  · have hw := hw.1 hc58
    refine xt_numi hc58 ?_
    refine lv_tableIn (off := 220) (tgt := 221) hx hb (xb_d D_Checker_checkControl 1 rfl) (by decide +kernel) (by decide +kernel) (by decide +kernel) (by decide) ?_
    refine lv_aload_n hx hb (xb_d D_Checker_checkControl 47 rfl) rfl (lv_at hl 0 rfl) ?_
    refine lv_aload_n hx hb (xb_d D_Checker_checkControl 48 rfl) rfl (lv_at hl 0 rfl) ?_
    obtain ⟨hk59, hw⟩ := hw
    refine xb_getP (C := R_Checker) (T := F_Checker) (N := 17) hx hb 4 2 hts fin_Checker hown hR hk59 (by decide) rfl (by decide) rfl (hts _ m_b5ef1148) (fun _ h9 => h9) (xb_d D_Checker_checkControl 49 rfl) ?_
    obtain ⟨b60, eb60, hw⟩ := hw
    refine xb_some eb60 ?_
    refine lv_aload_n hx hb (xb_d D_Checker_checkControl 50 rfl) rfl (lv_at hl 0 rfl) ?_
    refine xb_getI (C := R_Checker) (T := F_Checker) (N := 17) hx hb 4 9 hts fin_Checker hown hR hk59 (by decide) rfl (by decide) rfl (hts _ m_28193d38) (fun _ h9 => h9) (xb_d D_Checker_checkControl 51 rfl) ?_
    refine lv_iconst (v := 1) hx hb (xb_d D_Checker_checkControl 52 rfl) (by decide) ?_
    refine lv_iadd hx hb (xb_d D_Checker_checkControl 53 rfl) ?_
    obtain ⟨hk62, hw⟩ := hw
    obtain ⟨hi61, hw⟩ := hw
    refine xb_iald hx hb hR hk62 hi61 (xb_d D_Checker_checkControl 54 rfl) ?_
    refine lv_i2l hx hb (xb_d D_Checker_checkControl 55 rfl) rfl ?_
    refine lv_aload_n hx hb (xb_d D_Checker_checkControl 56 rfl) rfl (lv_at hl 0 rfl) ?_
    refine xb_getP (C := R_Checker) (T := F_Checker) (N := 17) hx hb 4 0 hts fin_Checker hown hR hk59 (by decide) rfl (by decide) rfl (hts _ m_070795bc) (fun _ h9 => h9) (xb_d D_Checker_checkControl 57 rfl) ?_
    obtain ⟨b63, eb63, hw⟩ := hw
    refine xb_some eb63 ?_
    obtain ⟨hk64, hw⟩ := hw
    refine xb_getP (C := R_StackModule) (T := F_StackModule) (N := 19) hx hb 2 4 hts fin_StackModule hown hR hk64 (by decide) rfl (by decide) rfl (hts _ m_74009c24) (fun _ h9 => h9) (xb_d D_Checker_checkControl 58 rfl) ?_
    obtain ⟨b65, eb65, hw⟩ := hw
    refine xb_some eb65 ?_
    obtain ⟨hk66, hw⟩ := hw
    refine xb_call (D := D) (A := A) (σ := σ) (h := h) (d := 2) (mc := 0) (ms := 0) (maxL := 1) (rest := [.long (Int32.toInt64 (xb_i h b60 (Int32.toNatClampNeg ((xb_i h x0 9) + 1)))), .ref x0]) (av := [.ref b65]) (fun T hT X => by obtain ⟨cb, r1, r2, r3⟩ := xb_recv (ci := 1) hR rfl hk66 (by decide); exact xt_invV X hx hown (hts _ m_c8b950b4) (hts _ m_ded65609) (hts _ m_a4161156) (xt_sigOf (hts _ m_83ba3721)) nm_Row_lines (by rw [hT]; exact r1) r2 r3 (g := F0 m 241 ls [.ref b65, .long (Int32.toInt64 (xb_i h b60 (Int32.toNatClampNeg ((xb_i h x0 9) + 1)))), .ref x0]) rfl (argsL := []) (rest := [.long (Int32.toInt64 (xb_i h b60 (Int32.toNatClampNeg ((xb_i h x0 9) + 1)))), .ref x0]) rfl rfl (by rw [hb]; exact (xb_d D_Checker_checkControl 59 rfl))) (ok_Row_lines l hfl D A σ b65 h _ hw) (hml.trans hl.1.symm) (by rw [hb]; exact (xb_d D_Checker_checkControl 59 rfl)) (Nat.le_of_ble_eq_true rfl) (Nat.le_of_ble_eq_true rfl) (Nat.le_of_ble_eq_true rfl) (show k + 0 ≤ MC by omega) (show n + 0 ≤ MS by omega) (xt_w1 hB.1 m_83ba3721) (xt_cdOf hB.1 m_83ba3721) (hts _ m_c1bef504) hB hR hS hA (fun vv h67 H locs hq hEh67 hR hS => ?_) (fun XX ax h67 H locs hq hEh67 hex hR hS => ?_)
    · obtain ⟨r68, rfl, hw⟩ := hq
      have hw := hw hEh67
      have hE := hE.tr hEh67
      refine W.eq (g2 := F0 m 244 ls [.int r68, .long (Int32.toInt64 (xb_i h b60 (Int32.toNatClampNeg ((xb_i h x0 9) + 1)))), .ref x0]) rfl ?_
      refine xb_call (D := D) (A := A) (σ := σ) (h := h67) (d := 2) (mc := 0) (ms := 0) (maxL := 3) (rest := [.ref x0]) (av := [.long (Int32.toInt64 (xb_i h b60 (Int32.toNatClampNeg ((xb_i h x0 9) + 1)))), .int r68]) (fun T hT X => xt_invS X hx hown (hts _ m_fe08b245) (hts _ m_9ad1e0af) (hts _ m_44748ce5) (xt_sgS (hts _ m_2237aee6)).1 (xt_sgS (hts _ m_2237aee6)).2 nm_Checker_isThere (g := F0 m 244 ls [.int r68, .long (Int32.toInt64 (xb_i h b60 (Int32.toNatClampNeg ((xb_i h x0 9) + 1)))), .ref x0]) rfl (argsL := [.long (Int32.toInt64 (xb_i h b60 (Int32.toNatClampNeg ((xb_i h x0 9) + 1)))), .int r68]) (rest := [.ref x0]) rfl rfl (by rw [hb]; exact (xb_d D_Checker_checkControl 60 rfl))) (ok_Checker_isThere l hfl D A σ (Int32.toInt64 (xb_i h b60 (Int32.toNatClampNeg ((xb_i h x0 9) + 1)))) r68 h67 _ hw) (hml.trans hl.1.symm) (by rw [hb]; exact (xb_d D_Checker_checkControl 60 rfl)) (Nat.le_of_ble_eq_true rfl) (Nat.le_of_ble_eq_true rfl) (Nat.le_of_ble_eq_true rfl) (show k + 0 ≤ MC by omega) (show n + 0 ≤ MS by omega) (xt_w1 hB.1 m_2237aee6) (xt_cdOf hB.1 m_2237aee6) (hts _ m_44748ce5) hB hR hS hA (fun vv h69 H locs hq hEh69 hR hS => ?_) (fun XX ax h69 H locs hq hEh69 hex hR hS => ?_)
      · obtain ⟨r70, rfl, hw⟩ := hq
        have hw := hw hEh69
        have hE := hE.tr hEh69
        refine W.eq (g2 := F0 m 247 ls [.int r70, .ref x0]) rfl ?_
        refine lv_bipush (v := 20) hx hb (xb_d D_Checker_checkControl 61 rfl) (by decide) ?_
        have hk59 : xb_k h67 x0 = 5 := hEh67.k hk59
        have hk59 : xb_k h69 x0 = 5 := hEh69.k hk59
        obtain ⟨c73, sc73, hlc73, hlsc73, hw⟩ := hw
        refine xb_call (D := D) (A := A) (σ := σ) (h := h69) (d := 3) (mc := c73) (ms := sc73) (maxL := 3) (rest := []) (av := [.ref x0, .int r70, .int 20]) (fun T hT X => by obtain ⟨cb, r1, r2, r3⟩ := xb_recv (ci := 4) hR rfl hk59 (by decide); exact xt_invV X hx hown (hts _ m_0a242445) (hts _ m_a99c45f7) (hts _ m_978d7491) (xt_sigOf (hts _ m_01f2fc97)) nm_Checker_require (by rw [hT]; exact r1) r2 r3 (g := F0 m 249 ls [.int 20, .int r70, .ref x0]) rfl (argsL := [.int r70, .int 20]) (rest := []) rfl rfl (by rw [hb]; exact (xb_d D_Checker_checkControl 62 rfl))) (ok_Checker_require l hfl D A σ x0 r70 20 h69 c73 sc73 _ _ hw) (hml.trans hl.1.symm) (by rw [hb]; exact (xb_d D_Checker_checkControl 62 rfl)) (Nat.le_of_ble_eq_true rfl) (Nat.le_of_ble_eq_true rfl) (Nat.le_of_ble_eq_true rfl) (show k + c73 ≤ MC by omega) (show n + sc73 ≤ MS by omega) (xt_w1 hB.1 m_01f2fc97) (xt_cdOf hB.1 m_01f2fc97) (hts _ m_44748ce5) hB hR hS hA (fun vv h71 H locs hq hEh71 hR hS => ?_) (fun XX ax h71 H locs hq hEh71 hex hR hS => ?_)
        · obtain ⟨rfl, hw⟩ := hq
          have hw := hw hEh71
          have hE := hE.tr hEh71
          refine W.eq (g2 := F0 m 252 ls []) rfl ?_
          refine lv_aload_n hx hb (xb_d D_Checker_checkControl 63 rfl) rfl (lv_at hl 0 rfl) ?_
          refine lv_aload_n hx hb (xb_d D_Checker_checkControl 64 rfl) rfl (lv_at hl 0 rfl) ?_
          have hk59 : xb_k h71 x0 = 5 := hEh71.k hk59
          refine xb_getP (C := R_Checker) (T := F_Checker) (N := 17) hx hb 4 0 hts fin_Checker hown hR hk59 (by decide) rfl (by decide) rfl (hts _ m_070795bc) (fun _ h9 => h9) (xb_d D_Checker_checkControl 65 rfl) ?_
          obtain ⟨b74, eb74, hw⟩ := hw
          refine xb_some eb74 ?_
          refine lv_aload_n hx hb (xb_d D_Checker_checkControl 66 rfl) rfl (lv_at hl 0 rfl) ?_
          refine xb_getP (C := R_Checker) (T := F_Checker) (N := 17) hx hb 4 2 hts fin_Checker hown hR hk59 (by decide) rfl (by decide) rfl (hts _ m_b5ef1148) (fun _ h9 => h9) (xb_d D_Checker_checkControl 67 rfl) ?_
          obtain ⟨b75, eb75, hw⟩ := hw
          refine xb_some eb75 ?_
          refine lv_aload_n hx hb (xb_d D_Checker_checkControl 68 rfl) rfl (lv_at hl 0 rfl) ?_
          refine xb_getI (C := R_Checker) (T := F_Checker) (N := 17) hx hb 4 9 hts fin_Checker hown hR hk59 (by decide) rfl (by decide) rfl (hts _ m_28193d38) (fun _ h9 => h9) (xb_d D_Checker_checkControl 69 rfl) ?_
          refine lv_iconst (v := 1) hx hb (xb_d D_Checker_checkControl 70 rfl) (by decide) ?_
          refine lv_iadd hx hb (xb_d D_Checker_checkControl 71 rfl) ?_
          obtain ⟨hk77, hw⟩ := hw
          obtain ⟨hi76, hw⟩ := hw
          refine xb_iald hx hb hR hk77 hi76 (xb_d D_Checker_checkControl 72 rfl) ?_
          obtain ⟨hk78, hw⟩ := hw
          refine xb_call (D := D) (A := A) (σ := σ) (h := h71) (d := 3) (mc := 0) (ms := 0) (maxL := 2) (rest := [.ref x0]) (av := [.ref b74, .int (xb_i h71 b75 (Int32.toNatClampNeg ((xb_i h71 x0 9) + 1)))]) (fun T hT X => by obtain ⟨cb, r1, r2, r3⟩ := xb_recv (ci := 2) hR rfl hk78 (by decide); exact xt_invV X hx hown (hts _ m_ad67eca9) (hts _ m_eb5729e5) (hts _ m_9cf0d8be) (xt_sigOf (hts _ m_42e2443a)) nm_StackModule_typeOf (by rw [hT]; exact r1) r2 r3 (g := F0 m 268 ls [.int (xb_i h71 b75 (Int32.toNatClampNeg ((xb_i h71 x0 9) + 1))), .ref b74, .ref x0]) rfl (argsL := [.int (xb_i h71 b75 (Int32.toNatClampNeg ((xb_i h71 x0 9) + 1)))]) (rest := [.ref x0]) rfl rfl (by rw [hb]; exact (xb_d D_Checker_checkControl 73 rfl))) (ok_StackModule_typeOf l hfl D A σ b74 (xb_i h71 b75 (Int32.toNatClampNeg ((xb_i h71 x0 9) + 1))) h71 _ hw) (hml.trans hl.1.symm) (by rw [hb]; exact (xb_d D_Checker_checkControl 73 rfl)) (Nat.le_of_ble_eq_true rfl) (Nat.le_of_ble_eq_true rfl) (Nat.le_of_ble_eq_true rfl) (show (k + c73) + 0 ≤ MC by omega) (show (n + sc73) + 0 ≤ MS by omega) (xt_w1 hB.1 m_42e2443a) (xt_cdOf hB.1 m_42e2443a) (hts _ m_9c375545) hB hR hS hA (fun vv h79 H locs hq hEh79 hR hS => ?_) (fun XX ax h79 H locs hq hEh79 hex hR hS => ?_)
          · obtain ⟨r80, rfl, hw⟩ := hq
            have hw := hw hEh79
            have hE := hE.tr hEh79
            refine W.eq (g2 := F0 m 271 ls [.int r80, .ref x0]) rfl ?_
            have hk59 : xb_k h79 x0 = 5 := hEh79.k hk59
            obtain ⟨c83, sc83, hlc83, hlsc83, hw⟩ := hw
            refine xb_call (D := D) (A := A) (σ := σ) (h := h79) (d := 4) (mc := c83) (ms := sc83) (maxL := 3) (rest := []) (av := [.ref x0, .int r80]) (fun T hT X => by obtain ⟨cb, r1, r2, r3⟩ := xb_recv (ci := 4) hR rfl hk59 (by decide); exact xt_invV X hx hown (hts _ m_53bf7c26) (hts _ m_a410aa74) (hts _ m_96023d07) (xt_sigOf (hts _ m_9846e217)) nm_Checker_checkCall (by rw [hT]; exact r1) r2 r3 (g := F0 m 271 ls [.int r80, .ref x0]) rfl (argsL := [.int r80]) (rest := []) rfl rfl (by rw [hb]; exact (xb_d D_Checker_checkControl 74 rfl))) (ok_Checker_checkCall l hfl D A σ x0 r80 h79 c83 sc83 _ _ hw) (hml.trans hl.1.symm) (by rw [hb]; exact (xb_d D_Checker_checkControl 74 rfl)) (Nat.le_of_ble_eq_true rfl) (Nat.le_of_ble_eq_true rfl) (Nat.le_of_ble_eq_true rfl) (show (k + c73) + c83 ≤ MC by omega) (show (n + sc73) + sc83 ≤ MS by omega) (xt_w1 hB.1 m_9846e217) (xt_cdOf hB.1 m_9846e217) (hts _ m_44748ce5) hB hR hS hA (fun vv h81 H locs hq hEh81 hR hS => ?_) (fun XX ax h81 H locs hq hEh81 hex hR hS => ?_)
            · obtain ⟨rfl, hw⟩ := hq
              have hw := hw hEh81
              have hE := hE.tr hEh81
              refine W.eq (g2 := F0 m 274 ls []) rfl ?_
              refine lv_goto (tgt := 373) hx hb (xb_d D_Checker_checkControl 75 rfl) rfl ?_
              exact am_Checker_checkControl_L373 l hfl D A σ MC MS h0 Qr Qt h81 ((bc - c73) - c83) ((bs - sc73) - sc83) hw p e s m args below meth c hC H locs ls ((k + c73) + c83) ((n + sc73) + sc83) hE (lv_sub hl [] rfl) hR hS (by omega) (by omega)
            · exact xb_pass hlocks (fun x hx9 => by rw [htab] at hx9; first | cases hx9 | (simp [tableOf] at hx9; rcases hx9 with rfl | rfl | rfl <;> decide)) (show ((k + c73) + c83) ≤ MC by omega) (show ((n + sc73) + sc83) ≤ MS by omega) (hE.tr hEh81) hR hS hex hq
          · exact False.elim hq
        · exact xb_pass hlocks (fun x hx9 => by rw [htab] at hx9; first | cases hx9 | (simp [tableOf] at hx9; rcases hx9 with rfl | rfl | rfl <;> decide)) (show (k + c73) ≤ MC by omega) (show (n + sc73) ≤ MS by omega) (hE.tr hEh71) hR hS hex hq
      · exact False.elim hq
    · exact False.elim hq
  have hw := hw.2
  by_cases hc84 : x1 = 17
  · have hw := hw.1 hc84
    refine xt_numi hc84 ?_
    refine lv_tableIn (off := 276) (tgt := 277) hx hb (xb_d D_Checker_checkControl 1 rfl) (by decide +kernel) (by decide +kernel) (by decide +kernel) (by decide) ?_
    refine lv_aload_n hx hb (xb_d D_Checker_checkControl 76 rfl) rfl (lv_at hl 0 rfl) ?_
    refine lv_aload_n hx hb (xb_d D_Checker_checkControl 77 rfl) rfl (lv_at hl 0 rfl) ?_
    obtain ⟨hk85, hw⟩ := hw
    refine xb_getP (C := R_Checker) (T := F_Checker) (N := 17) hx hb 4 0 hts fin_Checker hown hR hk85 (by decide) rfl (by decide) rfl (hts _ m_070795bc) (fun _ h9 => h9) (xb_d D_Checker_checkControl 78 rfl) ?_
    obtain ⟨b86, eb86, hw⟩ := hw
    refine xb_some eb86 ?_
    obtain ⟨hk87, hw⟩ := hw
    refine xb_getP (C := R_StackModule) (T := F_StackModule) (N := 19) hx hb 2 5 hts fin_StackModule hown hR hk87 (by decide) rfl (by decide) rfl (hts _ m_81589b2f) (fun _ h9 => h9) (xb_d D_Checker_checkControl 79 rfl) ?_
    obtain ⟨b88, eb88, hw⟩ := hw
    refine xb_some eb88 ?_
    obtain ⟨hk89, hw⟩ := hw
    refine xb_call (D := D) (A := A) (σ := σ) (h := h) (d := 2) (mc := 0) (ms := 0) (maxL := 1) (rest := [.ref x0]) (av := [.ref b88]) (fun T hT X => by obtain ⟨cb, r1, r2, r3⟩ := xb_recv (ci := 1) hR rfl hk89 (by decide); exact xt_invV X hx hown (hts _ m_c8b950b4) (hts _ m_ded65609) (hts _ m_a4161156) (xt_sigOf (hts _ m_83ba3721)) nm_Row_lines (by rw [hT]; exact r1) r2 r3 (g := F0 m 285 ls [.ref b88, .ref x0]) rfl (argsL := []) (rest := [.ref x0]) rfl rfl (by rw [hb]; exact (xb_d D_Checker_checkControl 80 rfl))) (ok_Row_lines l hfl D A σ b88 h _ hw) (hml.trans hl.1.symm) (by rw [hb]; exact (xb_d D_Checker_checkControl 80 rfl)) (Nat.le_of_ble_eq_true rfl) (Nat.le_of_ble_eq_true rfl) (Nat.le_of_ble_eq_true rfl) (show k + 0 ≤ MC by omega) (show n + 0 ≤ MS by omega) (xt_w1 hB.1 m_83ba3721) (xt_cdOf hB.1 m_83ba3721) (hts _ m_c1bef504) hB hR hS hA (fun vv h90 H locs hq hEh90 hR hS => ?_) (fun XX ax h90 H locs hq hEh90 hex hR hS => ?_)
    · obtain ⟨r91, rfl, hw⟩ := hq
      have hw := hw hEh90
      have hE := hE.tr hEh90
      refine W.eq (g2 := F0 m 288 ls [.int r91, .ref x0]) rfl ?_
      refine lv_if_le (tgt := 295) hx hb (xb_d D_Checker_checkControl 81 rfl) rfl (fun hc92 => ?_) (fun hc92 => ?_)
      · have hw := hw.1 hc92
        refine lv_iconst (v := 0) hx hb (xb_d D_Checker_checkControl 84 rfl) (by decide) ?_
        exact am_Checker_checkControl_L296 l hfl D A σ MC MS h0 Qr Qt x0 0 x0 h90 bc bs hw p e s m args below meth c hC H locs ls k n hE (lv_sub hl [0] rfl) hR hS (by omega) (by omega)
      · have hw := hw.2 hc92
        refine lv_iconst (v := 1) hx hb (xb_d D_Checker_checkControl 82 rfl) (by decide) ?_
        refine lv_goto (tgt := 296) hx hb (xb_d D_Checker_checkControl 83 rfl) rfl ?_
        exact am_Checker_checkControl_L296 l hfl D A σ MC MS h0 Qr Qt x0 1 x0 h90 bc bs hw p e s m args below meth c hC H locs ls k n hE (lv_sub hl [0] rfl) hR hS (by omega) (by omega)
    · exact False.elim hq
  have hw := hw.2
  by_cases hc93 : x1 = 18
  · have hw := hw.1 hc93
    refine xt_numi hc93 ?_
    refine lv_tableIn (off := 372) (tgt := 373) hx hb (xb_d D_Checker_checkControl 1 rfl) (by decide +kernel) (by decide +kernel) (by decide +kernel) (by decide) ?_
    exact am_Checker_checkControl_L373 l hfl D A σ MC MS h0 Qr Qt h bc bs hw p e s m args below meth c hC H locs ls k n hE (lv_sub hl [] rfl) hR hS (by omega) (by omega)
  have hw := hw.2
  by_cases hc94 : x1 = 19
  · have hw := hw.1 hc94
    refine xt_numi hc94 ?_
    refine lv_tableIn (off := 372) (tgt := 373) hx hb (xb_d D_Checker_checkControl 1 rfl) (by decide +kernel) (by decide +kernel) (by decide +kernel) (by decide) ?_
    exact am_Checker_checkControl_L373 l hfl D A σ MC MS h0 Qr Qt h bc bs hw p e s m args below meth c hC H locs ls k n hE (lv_sub hl [] rfl) hR hS (by omega) (by omega)
  have hw := hw.2
  by_cases hc95 : x1 = 20
  · have hw := hw.1 hc95
    refine xt_numi hc95 ?_
    refine lv_tableIn (off := 372) (tgt := 373) hx hb (xb_d D_Checker_checkControl 1 rfl) (by decide +kernel) (by decide +kernel) (by decide +kernel) (by decide) ?_
    exact am_Checker_checkControl_L373 l hfl D A σ MC MS h0 Qr Qt h bc bs hw p e s m args below meth c hC H locs ls k n hE (lv_sub hl [] rfl) hR hS (by omega) (by omega)
  have hw := hw.2
  by_cases hc96 : x1 = 21
  · have hw := hw.1 hc96
    refine xt_numi hc96 ?_
    refine lv_tableIn (off := 372) (tgt := 373) hx hb (xb_d D_Checker_checkControl 1 rfl) (by decide +kernel) (by decide +kernel) (by decide +kernel) (by decide) ?_
    exact am_Checker_checkControl_L373 l hfl D A σ MC MS h0 Qr Qt h bc bs hw p e s m args below meth c hC H locs ls k n hE (lv_sub hl [] rfl) hR hS (by omega) (by omega)
  have hw := hw.2
  by_cases hc97 : x1 = 22
  · have hw := hw.1 hc97
    refine xt_numi hc97 ?_
    refine lv_tableIn (off := 372) (tgt := 373) hx hb (xb_d D_Checker_checkControl 1 rfl) (by decide +kernel) (by decide +kernel) (by decide +kernel) (by decide) ?_
    exact am_Checker_checkControl_L373 l hfl D A σ MC MS h0 Qr Qt h bc bs hw p e s m args below meth c hC H locs ls k n hE (lv_sub hl [] rfl) hR hS (by omega) (by omega)
  have hw := hw.2
  by_cases hc98 : x1 = 23
  · have hw := hw.1 hc98
    refine xt_numi hc98 ?_
    refine lv_tableIn (off := 372) (tgt := 373) hx hb (xb_d D_Checker_checkControl 1 rfl) (by decide +kernel) (by decide +kernel) (by decide +kernel) (by decide) ?_
    exact am_Checker_checkControl_L373 l hfl D A σ MC MS h0 Qr Qt h bc bs hw p e s m args below meth c hC H locs ls k n hE (lv_sub hl [] rfl) hR hS (by omega) (by omega)
  have hw := hw.2
  by_cases hc99 : x1 = 24
  · have hw := hw.1 hc99
    refine xt_numi hc99 ?_
    refine lv_tableIn (off := 372) (tgt := 373) hx hb (xb_d D_Checker_checkControl 1 rfl) (by decide +kernel) (by decide +kernel) (by decide +kernel) (by decide) ?_
    exact am_Checker_checkControl_L373 l hfl D A σ MC MS h0 Qr Qt h bc bs hw p e s m args below meth c hC H locs ls k n hE (lv_sub hl [] rfl) hR hS (by omega) (by omega)
  have hw := hw.2
  by_cases hc100 : x1 = 25
  · have hw := hw.1 hc100
    refine xt_numi hc100 ?_
    refine lv_tableIn (off := 372) (tgt := 373) hx hb (xb_d D_Checker_checkControl 1 rfl) (by decide +kernel) (by decide +kernel) (by decide +kernel) (by decide) ?_
    exact am_Checker_checkControl_L373 l hfl D A σ MC MS h0 Qr Qt h bc bs hw p e s m args below meth c hC H locs ls k n hE (lv_sub hl [] rfl) hR hS (by omega) (by omega)
  have hw := hw.2
  by_cases hc101 : x1 = 26
  · have hw := hw.1 hc101
    refine xt_numi hc101 ?_
    refine lv_tableIn (off := 356) (tgt := 357) hx hb (xb_d D_Checker_checkControl 1 rfl) (by decide +kernel) (by decide +kernel) (by decide +kernel) (by decide) ?_
    refine lv_aload_n hx hb (xb_d D_Checker_checkControl 117 rfl) rfl (lv_at hl 0 rfl) ?_
    refine lv_iconst (v := 0) hx hb (xb_d D_Checker_checkControl 118 rfl) (by decide) ?_
    obtain ⟨hk102, hw⟩ := hw
    obtain ⟨c105, sc105, hlc105, hlsc105, hw⟩ := hw
    refine xb_call (D := D) (A := A) (σ := σ) (h := h) (d := 3) (mc := c105) (ms := sc105) (maxL := 3) (rest := []) (av := [.ref x0, .int 0]) (fun T hT X => by obtain ⟨cb, r1, r2, r3⟩ := xb_recv (ci := 4) hR rfl hk102 (by decide); exact xt_invV X hx hown (hts _ m_0b33e20f) (hts _ m_338dda25) (hts _ m_d7dc08f9) (xt_sigOf (hts _ m_b71cce2b)) nm_Checker_take (by rw [hT]; exact r1) r2 r3 (g := F0 m 359 ls [.int 0, .ref x0]) rfl (argsL := [.int 0]) (rest := []) rfl rfl (by rw [hb]; exact (xb_d D_Checker_checkControl 119 rfl))) (ok_Checker_take l hfl D A σ x0 0 h c105 sc105 _ _ hw) (hml.trans hl.1.symm) (by rw [hb]; exact (xb_d D_Checker_checkControl 119 rfl)) (Nat.le_of_ble_eq_true rfl) (Nat.le_of_ble_eq_true rfl) (Nat.le_of_ble_eq_true rfl) (show k + c105 ≤ MC by omega) (show n + sc105 ≤ MS by omega) (xt_w1 hB.1 m_b71cce2b) (xt_cdOf hB.1 m_b71cce2b) (hts _ m_44748ce5) hB hR hS hA (fun vv h103 H locs hq hEh103 hR hS => ?_) (fun XX ax h103 H locs hq hEh103 hex hR hS => ?_)
    · obtain ⟨r104, rfl, hw⟩ := hq
      have hw := hw hEh103
      have hE := hE.tr hEh103
      refine W.eq (g2 := F0 m 362 ls [.int r104]) rfl ?_
      refine lv_pop hx hb (xb_d D_Checker_checkControl 120 rfl) rfl ?_
      refine lv_goto (tgt := 373) hx hb (xb_d D_Checker_checkControl 121 rfl) rfl ?_
      exact am_Checker_checkControl_L373 l hfl D A σ MC MS h0 Qr Qt h103 (bc - c105) (bs - sc105) hw p e s m args below meth c hC H locs ls (k + c105) (n + sc105) hE (lv_sub hl [] rfl) hR hS (by omega) (by omega)
    · exact xb_pass hlocks (fun x hx9 => by rw [htab] at hx9; first | cases hx9 | (simp [tableOf] at hx9; rcases hx9 with rfl | rfl | rfl <;> decide)) (show (k + c105) ≤ MC by omega) (show (n + sc105) ≤ MS by omega) (hE.tr hEh103) hR hS hex hq
  have hw := hw.2
  by_cases hc106 : x1 = 27
  · have hw := hw.1 hc106
    refine xt_numi hc106 ?_
    refine lv_tableIn (off := 365) (tgt := 366) hx hb (xb_d D_Checker_checkControl 1 rfl) (by decide +kernel) (by decide +kernel) (by decide +kernel) (by decide) ?_
    refine lv_aload_n hx hb (xb_d D_Checker_checkControl 122 rfl) rfl (lv_at hl 0 rfl) ?_
    obtain ⟨hk107, hw⟩ := hw
    obtain ⟨c110, sc110, hlc110, hlsc110, hw⟩ := hw
    refine xb_call (D := D) (A := A) (σ := σ) (h := h) (d := 4) (mc := c110) (ms := sc110) (maxL := 3) (rest := []) (av := [.ref x0]) (fun T hT X => by obtain ⟨cb, r1, r2, r3⟩ := xb_recv (ci := 4) hR rfl hk107 (by decide); exact xt_invV X hx hown (hts _ m_16ce30ef) (hts _ m_a56d2e34) (hts _ m_3789701f) (xt_sigOf (hts _ m_36ed177c)) nm_Checker_checkSelect (by rw [hT]; exact r1) r2 r3 (g := F0 m 367 ls [.ref x0]) rfl (argsL := []) (rest := []) rfl rfl (by rw [hb]; exact (xb_d D_Checker_checkControl 123 rfl))) (ok_Checker_checkSelect l hfl D A σ x0 h c110 sc110 _ _ hw) (hml.trans hl.1.symm) (by rw [hb]; exact (xb_d D_Checker_checkControl 123 rfl)) (Nat.le_of_ble_eq_true rfl) (Nat.le_of_ble_eq_true rfl) (Nat.le_of_ble_eq_true rfl) (show k + c110 ≤ MC by omega) (show n + sc110 ≤ MS by omega) (xt_w1 hB.1 m_36ed177c) (xt_cdOf hB.1 m_36ed177c) (hts _ m_44748ce5) hB hR hS hA (fun vv h108 H locs hq hEh108 hR hS => ?_) (fun XX ax h108 H locs hq hEh108 hex hR hS => ?_)
    · obtain ⟨rfl, hw⟩ := hq
      have hw := hw hEh108
      have hE := hE.tr hEh108
      refine W.eq (g2 := F0 m 370 ls []) rfl ?_
      refine lv_goto (tgt := 373) hx hb (xb_d D_Checker_checkControl 124 rfl) rfl ?_
      exact am_Checker_checkControl_L373 l hfl D A σ MC MS h0 Qr Qt h108 (bc - c110) (bs - sc110) hw p e s m args below meth c hC H locs ls (k + c110) (n + sc110) hE (lv_sub hl [] rfl) hR hS (by omega) (by omega)
    · exact xb_pass hlocks (fun x hx9 => by rw [htab] at hx9; first | cases hx9 | (simp [tableOf] at hx9; rcases hx9 with rfl | rfl | rfl <;> decide)) (show (k + c110) ≤ MC by omega) (show (n + sc110) ≤ MS by omega) (hE.tr hEh108) hR hS hex hq
  have hw := hw.2
  have hw := hw hc1 hc5 hc6 hc7 hc8 hc9 hc14 hc15 hc16 hc17 hc18 hc19 hc24 hc37 hc42 hc47 hc58 hc84 hc93 hc94 hc95 hc96 hc97 hc98 hc99 hc100 hc101 hc106
  refine lv_tableOut (tgt := 373) hx hb (xb_d D_Checker_checkControl 1 rfl) (by have a0 := xb_nl (0) 0 (by decide) hc1; have a1 := xb_nl (1) 1 (by decide) hc5; have a2 := xb_nl (2) 2 (by decide) hc6; have a3 := xb_nl (3) 3 (by decide) hc7; have a4 := xb_nl (4) 4 (by decide) hc8; have a5 := xb_nl (5) 5 (by decide) hc9; have a6 := xb_nl (6) 6 (by decide) hc14; have a7 := xb_nl (7) 7 (by decide) hc15; have a8 := xb_nl (8) 8 (by decide) hc16; have a9 := xb_nl (9) 9 (by decide) hc17; have a10 := xb_nl (10) 10 (by decide) hc18; have a11 := xb_nl (11) 11 (by decide) hc19; have a12 := xb_nl (12) 12 (by decide) hc24; have a13 := xb_nl (13) 13 (by decide) hc37; have a14 := xb_nl (14) 14 (by decide) hc42; have a15 := xb_nl (15) 15 (by decide) hc47; have a16 := xb_nl (16) 16 (by decide) hc58; have a17 := xb_nl (17) 17 (by decide) hc84; have a18 := xb_nl (18) 18 (by decide) hc93; have a19 := xb_nl (19) 19 (by decide) hc94; have a20 := xb_nl (20) 20 (by decide) hc95; have a21 := xb_nl (21) 21 (by decide) hc96; have a22 := xb_nl (22) 22 (by decide) hc97; have a23 := xb_nl (23) 23 (by decide) hc98; have a24 := xb_nl (24) 24 (by decide) hc99; have a25 := xb_nl (25) 25 (by decide) hc100; have a26 := xb_nl (26) 26 (by decide) hc101; have a27 := xb_nl (27) 27 (by decide) hc106; omega) (by decide) ?_
  exact am_Checker_checkControl_L373 l hfl D A σ MC MS h0 Qr Qt h bc bs hw p e s m args below meth c hC H locs ls k n hE (lv_sub hl [] rfl) hR hS (by omega) (by omega)

theorem m_be643505 : (.fieldLink "StackHost$Checker" 178 "StackHost$StackModule" "data" "LStackHost$Row;" : Cond) ∈ xt_tbl := xt_in (xt_t3 (List.mem_of_getElem? (i := 110) (by decide +kernel))) (by decide +kernel)
theorem m_0ca8f09c : (.methodLink "StackHost$Checker" 171 y_Checker_checkOffset : Cond) ∈ xt_tbl := xt_in (xt_t4 (List.mem_of_getElem? (i := 171) (by decide +kernel))) (by decide +kernel)
theorem m_08a9bc84 : (.instanceMethod y_Checker_checkOffset : Cond) ∈ xt_tbl := xt_in (xt_t4 (List.mem_of_getElem? (i := 173) (by decide +kernel))) (by decide +kernel)
theorem m_d0965882 : (.selects "StackHost$Checker" y_Checker_checkOffset y_Checker_checkOffset : Cond) ∈ xt_tbl := xt_in (xt_v3 (q := (⟨"StackHost$Checker", "checkOffset", "(LStackHost$Row;II)V"⟩, 17)) (List.mem_of_getElem? (i := 10) (by decide +kernel))) (by decide +kernel)
theorem m_707441d7 : (.code y_Checker_checkOffset b_Checker_checkOffset 4 none : Cond) ∈ xt_tbl := xt_in (xt_t4 (List.mem_of_getElem? (i := 174) (by decide +kernel))) (by decide +kernel)
theorem nm_Checker_checkOffset : xt_nm y_Checker_checkOffset 3 := ⟨by decide +kernel, by decide +kernel⟩
set_option maxRecDepth 100000 in
def T_Checker_checkData : List (Nat × Instr × Nat) := [(0, .iconst 0, 1), (1, .istore_n 1, 1), (2, .iload_n 1, 1), (3, .aload_n 0, 1), (4, .getfield 38, 3), (7, .getfield 178, 3), (10, .invokevirtual 77, 3), (13, .if_icmp .ge 31, 3), (16, .aload_n 0, 1), (17, .aload_n 0, 1), (18, .getfield 38, 3), (21, .getfield 178, 3), (24, .iload_n 1, 1), (25, .aload_n 0, 1), (26, .getfield 38, 3), (29, .getfield 113, 3), (32, .invokevirtual 77, 3), (35, .invokevirtual 171, 3), (38, .iinc 1 1, 3), (41, .goto (-39), 3), (44, .return_, 1)]
theorem D_Checker_checkData : ∀ q ∈ T_Checker_checkData, decode b_Checker_checkData q.1 = .ok (q.2.1, q.2.2) := by decide +kernel
def w_Checker_checkData_L2 (Qr : xb_H → Prop) (Qt : String → xb_H → Prop) : Nat → Nat → Int32 → xb_H → Nat → Nat → Prop
  | 0, _, _, _, _, _ => False
  | n9 + 1, x0, x1, h, bc, bs =>
    xb_k h x0 = 5 ∧ ∃ b2 : Nat, (xb_r h x0 0) = some b2 ∧ xb_k h b2 = 3 ∧ ∃ b4 : Nat, (xb_r h b2 13) = some b4 ∧ xb_k h b4 = 2 ∧ w_Row_lines b4 h (fun (r7 : Int32) (h6 : xb_H) => xb_ext h h6 → ((r7 ≤ x1 → Qr h6) ∧ (¬ r7 ≤ x1 → ∃ b9 : Nat, (xb_r h6 x0 0) = some b9 ∧ xb_k h6 b9 = 3 ∧ ∃ b11 : Nat, (xb_r h6 b9 13) = some b11 ∧ ∃ b12 : Nat, (xb_r h6 x0 0) = some b12 ∧ xb_k h6 b12 = 3 ∧ ∃ b14 : Nat, (xb_r h6 b12 6) = some b14 ∧ xb_k h6 b14 = 2 ∧ w_Row_lines b14 h6 (fun (r17 : Int32) (h16 : xb_H) => xb_ext h6 h16 → ∃ c20 sc20 : Nat, c20 ≤ bc ∧ sc20 ≤ bs ∧ w_Checker_checkOffset x0 b11 x1 r17 h16 c20 sc20 (fun (h18 : xb_H) => xb_ext h16 h18 → w_Checker_checkData_L2 Qr Qt n9 x0 (x1 + 1) h18 (bc - c20) (bs - sc20)) Qt))))

def w_Checker_checkData (x0 : Nat) (h : xb_H) (bc : Nat) (bs : Nat) (Qr : xb_H → Prop) (Qt : String → xb_H → Prop) : Prop :=
    (∃ n8 : Nat, w_Checker_checkData_L2 Qr Qt n8 x0 0 h bc bs)

set_option maxHeartbeats 4000000 in
set_option maxRecDepth 100000 in
theorem am_Checker_checkData_L2 (l : Launch) (hfl : l.flags = pinnedFlags ++ [noTraceFlag]) (D : va_G) (A : Nat → Prop) (σ MC MS : Nat) (h0 : xb_H) (Qr : xb_H → Prop) (Qt : String → xb_H → Prop) (n9 : Nat) : ∀ (x0 : Nat) (x1 : Int32) (h : xb_H) (bc : Nat) (bs : Nat), w_Checker_checkData_L2 Qr Qt n9 x0 x1 h bc bs → xb_am l D A σ 5 MC MS h0 (fun v h => v = none ∧ Qr h) Qt y_Checker_checkData.cls y_Checker_checkData.name b_Checker_checkData 2 ([] : List ExceptionTableEntry) none 2 [(0, .ref x0), (1, .int x1)] [] h bc bs := by
  induction n9 with
  | zero => intro x0 x1 h bc bs hw; exact False.elim hw
  | succ n9 ih =>
    intro x0 x1 h bc bs hw
    unfold w_Checker_checkData_L2 at hw
    intro p e s m args below meth c hC H locs ls k n hE hl hR hS hk hn
    obtain ⟨hx, hb, hown, hlocks, htab, hml, hr, hB, hA, hnm⟩ := id hC
    have hts := hB.1.1.at args
    refine lv_iload_n hx hb (xb_d D_Checker_checkData 2 rfl) rfl (lv_at hl 1 rfl) ?_
    refine lv_aload_n hx hb (xb_d D_Checker_checkData 3 rfl) rfl (lv_at hl 0 rfl) ?_
    obtain ⟨hk1, hw⟩ := hw
    refine xb_getP (C := R_Checker) (T := F_Checker) (N := 17) hx hb 4 0 hts fin_Checker hown hR hk1 (by decide) rfl (by decide) rfl (hts _ m_070795bc) (fun _ h9 => h9) (xb_d D_Checker_checkData 4 rfl) ?_
    obtain ⟨b2, eb2, hw⟩ := hw
    refine xb_some eb2 ?_
    obtain ⟨hk3, hw⟩ := hw
    refine xb_getP (C := R_StackModule) (T := F_StackModule) (N := 19) hx hb 2 13 hts fin_StackModule hown hR hk3 (by decide) rfl (by decide) rfl (hts _ m_be643505) (fun _ h9 => h9) (xb_d D_Checker_checkData 5 rfl) ?_
    obtain ⟨b4, eb4, hw⟩ := hw
    refine xb_some eb4 ?_
    obtain ⟨hk5, hw⟩ := hw
    refine xb_call (D := D) (A := A) (σ := σ) (h := h) (d := 2) (mc := 0) (ms := 0) (maxL := 1) (rest := [.int x1]) (av := [.ref b4]) (fun T hT X => by obtain ⟨cb, r1, r2, r3⟩ := xb_recv (ci := 1) hR rfl hk5 (by decide); exact xt_invV X hx hown (hts _ m_c8b950b4) (hts _ m_ded65609) (hts _ m_a4161156) (xt_sigOf (hts _ m_83ba3721)) nm_Row_lines (by rw [hT]; exact r1) r2 r3 (g := F0 m 10 ls [.ref b4, .int x1]) rfl (argsL := []) (rest := [.int x1]) rfl rfl (by rw [hb]; exact (xb_d D_Checker_checkData 6 rfl))) (ok_Row_lines l hfl D A σ b4 h _ hw) (hml.trans hl.1.symm) (by rw [hb]; exact (xb_d D_Checker_checkData 6 rfl)) (Nat.le_of_ble_eq_true rfl) (Nat.le_of_ble_eq_true rfl) (Nat.le_of_ble_eq_true rfl) (show k + 0 ≤ MC by omega) (show n + 0 ≤ MS by omega) (xt_w1 hB.1 m_83ba3721) (xt_cdOf hB.1 m_83ba3721) (hts _ m_c1bef504) hB hR hS hA (fun vv h6 H locs hq hEh6 hR hS => ?_) (fun XX ax h6 H locs hq hEh6 hex hR hS => ?_)
    · obtain ⟨r7, rfl, hw⟩ := hq
      have hw := hw hEh6
      have hE := hE.tr hEh6
      refine W.eq (g2 := F0 m 13 ls [.int r7, .int x1]) rfl ?_
      refine lv_icmp_ge (tgt := 44) hx hb (xb_d D_Checker_checkData 7 rfl) rfl (fun hc8 => ?_) (fun hc8 => ?_)
      · have hw := hw.1 hc8
        exact xb_vret hx hb hr hlocks (show k ≤ MC by omega) (show n ≤ MS by omega) hE hR hS (xb_d D_Checker_checkData 20 rfl) hw
      · have hw := hw.2 hc8
        refine lv_aload_n hx hb (xb_d D_Checker_checkData 8 rfl) rfl (lv_at hl 0 rfl) ?_
        refine lv_aload_n hx hb (xb_d D_Checker_checkData 9 rfl) rfl (lv_at hl 0 rfl) ?_
        have hk1 : xb_k h6 x0 = 5 := hEh6.k hk1
        refine xb_getP (C := R_Checker) (T := F_Checker) (N := 17) hx hb 4 0 hts fin_Checker hown hR hk1 (by decide) rfl (by decide) rfl (hts _ m_070795bc) (fun _ h9 => h9) (xb_d D_Checker_checkData 10 rfl) ?_
        obtain ⟨b9, eb9, hw⟩ := hw
        refine xb_some eb9 ?_
        obtain ⟨hk10, hw⟩ := hw
        refine xb_getP (C := R_StackModule) (T := F_StackModule) (N := 19) hx hb 2 13 hts fin_StackModule hown hR hk10 (by decide) rfl (by decide) rfl (hts _ m_be643505) (fun _ h9 => h9) (xb_d D_Checker_checkData 11 rfl) ?_
        obtain ⟨b11, eb11, hw⟩ := hw
        refine xb_some eb11 ?_
        refine lv_iload_n hx hb (xb_d D_Checker_checkData 12 rfl) rfl (lv_at hl 1 rfl) ?_
        refine lv_aload_n hx hb (xb_d D_Checker_checkData 13 rfl) rfl (lv_at hl 0 rfl) ?_
        refine xb_getP (C := R_Checker) (T := F_Checker) (N := 17) hx hb 4 0 hts fin_Checker hown hR hk1 (by decide) rfl (by decide) rfl (hts _ m_070795bc) (fun _ h9 => h9) (xb_d D_Checker_checkData 14 rfl) ?_
        obtain ⟨b12, eb12, hw⟩ := hw
        refine xb_some eb12 ?_
        obtain ⟨hk13, hw⟩ := hw
        refine xb_getP (C := R_StackModule) (T := F_StackModule) (N := 19) hx hb 2 6 hts fin_StackModule hown hR hk13 (by decide) rfl (by decide) rfl (hts _ m_f104cb1a) (fun _ h9 => h9) (xb_d D_Checker_checkData 15 rfl) ?_
        obtain ⟨b14, eb14, hw⟩ := hw
        refine xb_some eb14 ?_
        obtain ⟨hk15, hw⟩ := hw
        refine xb_call (D := D) (A := A) (σ := σ) (h := h6) (d := 2) (mc := 0) (ms := 0) (maxL := 1) (rest := [.int x1, .ref b11, .ref x0]) (av := [.ref b14]) (fun T hT X => by obtain ⟨cb, r1, r2, r3⟩ := xb_recv (ci := 1) hR rfl hk15 (by decide); exact xt_invV X hx hown (hts _ m_c8b950b4) (hts _ m_ded65609) (hts _ m_a4161156) (xt_sigOf (hts _ m_83ba3721)) nm_Row_lines (by rw [hT]; exact r1) r2 r3 (g := F0 m 32 ls [.ref b14, .int x1, .ref b11, .ref x0]) rfl (argsL := []) (rest := [.int x1, .ref b11, .ref x0]) rfl rfl (by rw [hb]; exact (xb_d D_Checker_checkData 16 rfl))) (ok_Row_lines l hfl D A σ b14 h6 _ hw) (hml.trans hl.1.symm) (by rw [hb]; exact (xb_d D_Checker_checkData 16 rfl)) (Nat.le_of_ble_eq_true rfl) (Nat.le_of_ble_eq_true rfl) (Nat.le_of_ble_eq_true rfl) (show k + 0 ≤ MC by omega) (show n + 0 ≤ MS by omega) (xt_w1 hB.1 m_83ba3721) (xt_cdOf hB.1 m_83ba3721) (hts _ m_c1bef504) hB hR hS hA (fun vv h16 H locs hq hEh16 hR hS => ?_) (fun XX ax h16 H locs hq hEh16 hex hR hS => ?_)
        · obtain ⟨r17, rfl, hw⟩ := hq
          have hw := hw hEh16
          have hE := hE.tr hEh16
          refine W.eq (g2 := F0 m 35 ls [.int r17, .int x1, .ref b11, .ref x0]) rfl ?_
          have hk1 : xb_k h16 x0 = 5 := hEh16.k hk1
          obtain ⟨c20, sc20, hlc20, hlsc20, hw⟩ := hw
          refine xb_call (D := D) (A := A) (σ := σ) (h := h16) (d := 4) (mc := c20) (ms := sc20) (maxL := 4) (rest := []) (av := [.ref x0, .ref b11, .int x1, .int r17]) (fun T hT X => by obtain ⟨cb, r1, r2, r3⟩ := xb_recv (ci := 4) hR rfl hk1 (by decide); exact xt_invV X hx hown (hts _ m_0ca8f09c) (hts _ m_08a9bc84) (hts _ m_d0965882) (xt_sigOf (hts _ m_707441d7)) nm_Checker_checkOffset (by rw [hT]; exact r1) r2 r3 (g := F0 m 35 ls [.int r17, .int x1, .ref b11, .ref x0]) rfl (argsL := [.ref b11, .int x1, .int r17]) (rest := []) rfl rfl (by rw [hb]; exact (xb_d D_Checker_checkData 17 rfl))) (ok_Checker_checkOffset l hfl D A σ x0 b11 x1 r17 h16 c20 sc20 _ _ hw) (hml.trans hl.1.symm) (by rw [hb]; exact (xb_d D_Checker_checkData 17 rfl)) (Nat.le_of_ble_eq_true rfl) (Nat.le_of_ble_eq_true rfl) (Nat.le_of_ble_eq_true rfl) (show k + c20 ≤ MC by omega) (show n + sc20 ≤ MS by omega) (xt_w1 hB.1 m_707441d7) (xt_cdOf hB.1 m_707441d7) (hts _ m_44748ce5) hB hR hS hA (fun vv h18 H locs hq hEh18 hR hS => ?_) (fun XX ax h18 H locs hq hEh18 hex hR hS => ?_)
          · obtain ⟨rfl, hw⟩ := hq
            have hw := hw hEh18
            have hE := hE.tr hEh18
            refine W.eq (g2 := F0 m 38 ls []) rfl ?_
            refine lv_iinc (v := (x1 + 1)) (k := 1) hx hb (xb_d D_Checker_checkData 18 rfl) hl rfl (by first | rfl | decide) (by decide) rfl (fun ls hl => ?_)
            have hl : lv_has ls 2 [(1, .int (x1 + 1)), (0, .ref x0)] := hl
            refine lv_goto (tgt := 2) hx hb (xb_d D_Checker_checkData 19 rfl) rfl ?_
            exact ih x0 (x1 + 1) h18 (bc - c20) (bs - sc20) hw p e s m args below meth c hC H locs ls (k + c20) (n + sc20) hE (lv_sub hl [1, 0] rfl) hR hS (by omega) (by omega)
          · exact xb_pass hlocks (fun x hx9 => by rw [htab] at hx9; first | cases hx9 | (simp [tableOf] at hx9; rcases hx9 with rfl | rfl | rfl <;> decide)) (show (k + c20) ≤ MC by omega) (show (n + sc20) ≤ MS by omega) (hE.tr hEh18) hR hS hex hq
        · exact False.elim hq
    · exact False.elim hq

set_option maxHeartbeats 4000000 in
set_option maxRecDepth 100000 in
theorem ok_Checker_checkData (l : Launch) (hfl : l.flags = pinnedFlags ++ [noTraceFlag]) (D : va_G) (A : Nat → Prop) (σ : Nat) (x0 : Nat) (h : xb_H) (bc : Nat) (bs : Nat) (Qr : xb_H → Prop) (Qt : String → xb_H → Prop) (hw : w_Checker_checkData x0 h bc bs Qr Qt) : xt_Met l y_Checker_checkData [.code y_Checker_checkData b_Checker_checkData 2 none] (xb_rm 5 bc bs) (xb_Pc D A σ h [.ref x0]) (xb_Qc D A h (fun v h => v = none ∧ Qr h) Qt) bc bs A := by
  refine xb_ofAm (cc := b_Checker_checkData) (by decide) (Nat.le_of_ble_eq_true rfl) ?_
  unfold w_Checker_checkData at hw
  show xb_am l D A σ 5 bc bs h (fun v h => v = none ∧ Qr h) Qt y_Checker_checkData.cls y_Checker_checkData.name b_Checker_checkData 2 ([] : List ExceptionTableEntry) none 0 [(0, .ref x0)] [] h bc bs
  obtain ⟨MC, hMC⟩ : ∃ x, x = bc := ⟨_, rfl⟩
  obtain ⟨MS, hMS⟩ : ∃ x, x = bs := ⟨_, rfl⟩
  rw [show xb_am l D A σ 5 bc bs = xb_am l D A σ 5 MC MS by rw [hMC, hMS]]
  obtain ⟨h0, hh0⟩ : ∃ x, x = h := ⟨_, rfl⟩
  rw [show xb_am l D A σ 5 MC MS h = xb_am l D A σ 5 MC MS h0 by rw [hh0]]
  intro p e s m args below meth c hC H locs ls k n hE hl hR hS hk hn
  obtain ⟨hx, hb, hown, hlocks, htab, hml, hr, hB, hA, hnm⟩ := id hC
  have hts := hB.1.1.at args
  refine lv_iconst (v := 0) hx hb (xb_d D_Checker_checkData 0 rfl) (by decide) ?_
  refine lv_istore_n hx hb (xb_d D_Checker_checkData 1 rfl) rfl hl (by decide) rfl (fun ls hl => ?_)
  have hl : lv_has ls 2 [(1, .int 0), (0, .ref x0)] := hl
  obtain ⟨n8, hw⟩ := hw
  exact am_Checker_checkData_L2 l hfl D A σ MC MS h0 Qr Qt n8 x0 0 h bc bs hw p e s m args below meth c hC H locs ls k n hE (lv_sub hl [1, 0] rfl) hR hS (by omega) (by omega)

