theorem m_23600e9a : (.fieldLinkNest "StackHost$Machine" 275 "StackHost" "MEMORY_BYTES" "[I" "StackHost" : Cond) ∈ xt_tbl := xt_in (xt_t8 (List.mem_of_getElem? (i := 222) (by decide +kernel))) (by decide +kernel)
theorem m_e2094cf0 : (.fieldLink "StackHost$Machine" 262 "StackHost$Instance" "memory" "LStackHost$Memory;" : Cond) ∈ xt_tbl := xt_in (xt_t7 (List.mem_of_getElem? (i := 18) (by decide +kernel))) (by decide +kernel)
theorem m_679a2d41 : (.methodLink "StackHost$Machine" 278 y_Memory_bytes : Cond) ∈ xt_tbl := xt_in (xt_t8 (List.mem_of_getElem? (i := 223) (by decide +kernel))) (by decide +kernel)
theorem m_2f012601 : (.methodLink "StackHost$Machine" 284 y_Memory_fetch : Cond) ∈ xt_tbl := xt_in (xt_t8 (List.mem_of_getElem? (i := 229) (by decide +kernel))) (by decide +kernel)
theorem m_addf8063 : (.instanceMethod y_Memory_fetch : Cond) ∈ xt_tbl := xt_in (xt_t8 (List.mem_of_getElem? (i := 230) (by decide +kernel))) (by decide +kernel)
theorem m_379410e3 : (.selects "StackHost$Memory" y_Memory_fetch y_Memory_fetch : Cond) ∈ xt_tbl := xt_in (xt_t8 (List.mem_of_getElem? (i := 231) (by decide +kernel))) (by decide +kernel)
theorem m_a847d206 : (.code y_Memory_fetch b_Memory_fetch 6 (some .long) : Cond) ∈ xt_tbl := xt_in (xt_t8 (List.mem_of_getElem? (i := 232) (by decide +kernel))) (by decide +kernel)
theorem m_1b5a3927 : (.methodLink "StackHost$Machine" 288 y_Machine_widened : Cond) ∈ xt_tbl := xt_in (xt_t8 (List.mem_of_getElem? (i := 237) (by decide +kernel))) (by decide +kernel)
theorem m_a1a6ad05 : (.static y_Machine_widened : Cond) ∈ xt_tbl := xt_in (xt_t8 (List.mem_of_getElem? (i := 238) (by decide +kernel))) (by decide +kernel)
theorem m_0b4e7759 : (.code y_Machine_widened b_Machine_widened 3 (some .long) : Cond) ∈ xt_tbl := xt_in (xt_t8 (List.mem_of_getElem? (i := 239) (by decide +kernel))) (by decide +kernel)
theorem m_a4c48a05 : (.methodLink "StackHost$Machine" 281 y_Memory_store : Cond) ∈ xt_tbl := xt_in (xt_t8 (List.mem_of_getElem? (i := 224) (by decide +kernel))) (by decide +kernel)
theorem m_6f3c5f7c : (.instanceMethod y_Memory_store : Cond) ∈ xt_tbl := xt_in (xt_t8 (List.mem_of_getElem? (i := 225) (by decide +kernel))) (by decide +kernel)
theorem m_3520e35d : (.selects "StackHost$Memory" y_Memory_store y_Memory_store : Cond) ∈ xt_tbl := xt_in (xt_t8 (List.mem_of_getElem? (i := 226) (by decide +kernel))) (by decide +kernel)
theorem m_bd30f80b : (.code y_Memory_store b_Memory_store 6 none : Cond) ∈ xt_tbl := xt_in (xt_t8 (List.mem_of_getElem? (i := 227) (by decide +kernel))) (by decide +kernel)
theorem nm_Memory_fetch : xt_nm y_Memory_fetch 2 := ⟨by decide +kernel, by decide +kernel⟩
theorem nm_Machine_widened : xt_nm y_Machine_widened 2 := ⟨by decide +kernel, by decide +kernel⟩
theorem nm_Memory_store : xt_nm y_Memory_store 3 := ⟨by decide +kernel, by decide +kernel⟩
set_option maxRecDepth 100000 in
def T_Machine_useMemory : List (Nat × Instr × Nat) := [(0, .iload_n 1, 1), (1, .bipush 40, 2), (3, .isub, 1), (4, .istore_n 2, 1), (5, .iload_n 1, 1), (6, .bipush 54, 2), (8, .if_icmp .lt 7, 3), (11, .iconst 1, 1), (12, .goto 4, 3), (15, .iconst 0, 1), (16, .istore_n 3, 1), (17, .iload_n 3, 1), (18, .ifCond .eq 12, 3), (21, .aload_n 0, 1), (22, .getfield 53, 3), (25, .iconst 2, 1), (26, .isub, 1), (27, .goto 9, 3), (30, .aload_n 0, 1), (31, .getfield 53, 3), (34, .iconst 1, 1), (35, .isub, 1), (36, .istore 4, 2), (38, .aload_n 0, 1), (39, .getfield 35, 3), (42, .iload 4, 2), (44, .laload, 1), (45, .aload_n 0, 1), (46, .getfield 111, 3), (49, .aload_n 0, 1), (50, .getfield 108, 3), (53, .iconst 2, 1), (54, .iadd, 1), (55, .iaload, 1), (56, .i2l, 1), (57, .ldc2_w 74, 3), (60, .land, 1), (61, .ladd, 1), (62, .lstore 5, 2), (64, .lload 5, 2), (66, .getstatic 275, 3), (69, .iload_n 2, 1), (70, .iaload, 1), (71, .i2l, 1), (72, .ladd, 1), (73, .aload_n 0, 1), (74, .getfield 117, 3), (77, .getfield 262, 3), (80, .invokevirtual 278, 3), (83, .i2l, 1), (84, .lcmp, 1), (85, .ifCond .le 9, 3), (88, .aload_n 0, 1), (89, .iconst 2, 1), (90, .invokevirtual 156, 3), (93, .return_, 1), (94, .iload_n 3, 1), (95, .ifCond .eq 45, 3), (98, .aload_n 0, 1), (99, .getfield 117, 3), (102, .getfield 262, 3), (105, .lload 5, 2), (107, .l2i, 1), (108, .getstatic 275, 3), (111, .iload_n 2, 1), (112, .iaload, 1), (113, .aload_n 0, 1), (114, .getfield 35, 3), (117, .aload_n 0, 1), (118, .getfield 53, 3), (121, .iconst 1, 1), (122, .isub, 1), (123, .laload, 1), (124, .invokevirtual 281, 3), (127, .aload_n 0, 1), (128, .dup, 1), (129, .getfield 53, 3), (132, .iconst 2, 1), (133, .isub, 1), (134, .putfield 53, 3), (137, .goto 36, 3), (140, .aload_n 0, 1), (141, .getfield 117, 3), (144, .getfield 262, 3), (147, .lload 5, 2), (149, .l2i, 1), (150, .getstatic 275, 3), (153, .iload_n 2, 1), (154, .iaload, 1), (155, .invokevirtual 284, 3), (158, .lstore 7, 2), (160, .aload_n 0, 1), (161, .getfield 35, 3), (164, .iload 4, 2), (166, .iload_n 1, 1), (167, .lload 7, 2), (169, .invokestatic 288, 3), (172, .lastore, 1), (173, .aload_n 0, 1), (174, .aload_n 0, 1), (175, .getfield 111, 3), (178, .aload_n 0, 1), (179, .getfield 108, 3), (182, .iaload, 1), (183, .putfield 108, 3), (186, .return_, 1)]
theorem D_Machine_useMemory : ∀ q ∈ T_Machine_useMemory, decode b_Machine_useMemory q.1 = .ok (q.2.1, q.2.2) := by decide +kernel
def w_Machine_useMemory_L173 (Qr : xb_H → Prop) (x0 : Nat) (h : xb_H) : Prop :=
    xb_k h x0 = 8 ∧ ∃ b2 : Nat, (xb_r h x0 14) = some b2 ∧ xb_k h b2 = 102 ∧ vp_in (xb_i h x0 15) (xb_n h b2) ∧ ∀ h5 : xb_H, h5 = xb_I h x0 15 (xb_i h b2 (Int32.toNatClampNeg (xb_i h x0 15))) → Qr h5

def w_Machine_useMemory_L36 (Qr : xb_H → Prop) (x0 : Nat) (x1 : Int32) (x2 : Int32) (x3 : Int32) (y0 : Int32) (h : xb_H) : Prop :=
    xb_k h x0 = 8 ∧ ∃ b2 : Nat, (xb_r h x0 9) = some b2 ∧ xb_k h b2 = 103 ∧ vp_in y0 (xb_n h b2) ∧ ∃ b5 : Nat, (xb_r h x0 14) = some b5 ∧ xb_k h b5 = 102 ∧ vp_in ((xb_i h x0 15) + 2) (xb_n h b5) ∧ ∀ v8 : Int64, v8 = ((xb_l h b2 (Int32.toNatClampNeg y0)) + ((Int32.toInt64 (xb_i h b5 (Int32.toNatClampNeg ((xb_i h x0 15) + 2)))) &&& 4294967295)) → vp_in x2 23 ∧ ∃ b11 : Nat, (xb_r h x0 12) = some b11 ∧ xb_k h b11 = 11 ∧ ∃ b13 : Nat, (xb_r h b11 7) = some b13 ∧ xb_k h b13 = 13 ∧ w_Memory_bytes b13 h (fun (r16 : Int32) (h15 : xb_H) => xb_ext h h15 → (((v8 + (Int32.toInt64 (xb_cMB.getD (Int32.toNatClampNeg x2) 0))) ≤ (Int32.toInt64 r16) → ((x3 = (0 : Int32) → ∃ b19 : Nat, (xb_r h15 x0 12) = some b19 ∧ xb_k h15 b19 = 11 ∧ ∃ b21 : Nat, (xb_r h15 b19 7) = some b21 ∧ vp_in x2 23 ∧ xb_k h15 b21 = 13 ∧ w_Memory_fetch b21 (Int64.toInt32 v8) (xb_cMB.getD (Int32.toNatClampNeg x2) 0) h15 (fun (r26 : Int64) (h25 : xb_H) => xb_ext h15 h25 → ∃ b27 : Nat, (xb_r h25 x0 9) = some b27 ∧ w_Machine_widened x1 r26 h25 (fun (r29 : Int64) (h28 : xb_H) => xb_ext h25 h28 → xb_k h28 b27 = 103 ∧ vp_in y0 (xb_n h28 b27) ∧ ∀ h32 : xb_H, h32 = xb_L h28 b27 (Int32.toNatClampNeg y0) r29 → w_Machine_useMemory_L173 Qr x0 h32))) ∧ (¬ x3 = (0 : Int32) → ∃ b33 : Nat, (xb_r h15 x0 12) = some b33 ∧ xb_k h15 b33 = 11 ∧ ∃ b35 : Nat, (xb_r h15 b33 7) = some b35 ∧ vp_in x2 23 ∧ ∃ b38 : Nat, (xb_r h15 x0 9) = some b38 ∧ xb_k h15 b38 = 103 ∧ vp_in ((xb_i h15 x0 10) - 1) (xb_n h15 b38) ∧ xb_k h15 b35 = 13 ∧ w_Memory_store b35 (Int64.toInt32 v8) (xb_cMB.getD (Int32.toNatClampNeg x2) 0) (xb_l h15 b38 (Int32.toNatClampNeg ((xb_i h15 x0 10) - 1))) h15 (fun (h42 : xb_H) => xb_ext h15 h42 → ∀ h44 : xb_H, h44 = xb_I h42 x0 10 ((xb_i h42 x0 10) - 2) → w_Machine_useMemory_L173 Qr x0 h44)))) ∧ (¬ (v8 + (Int32.toInt64 (xb_cMB.getD (Int32.toNatClampNeg x2) 0))) ≤ (Int32.toInt64 r16) → w_Machine_fall x0 2 h15 (fun (h45 : xb_H) => xb_ext h15 h45 → Qr h45))))

def w_Machine_useMemory_L16 (Qr : xb_H → Prop) (x0 : Nat) (x1 : Int32) (x2 : Int32) (y0 : Int32) (h : xb_H) : Prop :=
    ((y0 = (0 : Int32) → xb_k h x0 = 8 ∧ w_Machine_useMemory_L36 Qr x0 x1 x2 y0 ((xb_i h x0 10) - 1) h) ∧ (¬ y0 = (0 : Int32) → xb_k h x0 = 8 ∧ w_Machine_useMemory_L36 Qr x0 x1 x2 y0 ((xb_i h x0 10) - 2) h))

def w_Machine_useMemory (x0 : Nat) (x1 : Int32) (h : xb_H) (Qr : xb_H → Prop) : Prop :=
    ∀ v1 : Int32, v1 = (x1 - 40) → ((x1 < (54 : Int32) → w_Machine_useMemory_L16 Qr x0 x1 v1 0 h) ∧ (¬ x1 < (54 : Int32) → w_Machine_useMemory_L16 Qr x0 x1 v1 1 h))

set_option maxHeartbeats 4000000 in
set_option maxRecDepth 100000 in
theorem am_Machine_useMemory_L173 (l : Launch) (hfl : l.flags = pinnedFlags ++ [noTraceFlag]) (D : va_G) (A : Nat → Prop) (σ MC MS : Nat) (h0 : xb_H) (Qr : xb_H → Prop) (x0 : Nat) (h : xb_H) (hw : w_Machine_useMemory_L173 Qr x0 h) : xb_am l D A σ 5 MC MS h0 (fun v h => v = none ∧ Qr h) (fun _ _ => False) y_Machine_useMemory.cls y_Machine_useMemory.name b_Machine_useMemory 9 ([] : List ExceptionTableEntry) none 173 [(0, .ref x0)] [] h 0 0 := by
  unfold w_Machine_useMemory_L173 at hw
  intro p e s m args below meth c hC H locs ls k n hE hl hR hS hk hn
  obtain ⟨hx, hb, hown, hlocks, htab, hml, hr, hB, hA, hnm⟩ := id hC
  have hts := hB.1.1.at args
  refine lv_aload_n hx hb (xb_d D_Machine_useMemory 98 rfl) rfl (lv_at hl 0 rfl) ?_
  refine lv_aload_n hx hb (xb_d D_Machine_useMemory 99 rfl) rfl (lv_at hl 0 rfl) ?_
  obtain ⟨hk1, hw⟩ := hw
  refine xb_getP (C := R_Machine) (T := F_Machine) (N := 18) hx hb 7 14 hts fin_Machine hown hR hk1 (by decide) rfl (by decide) rfl (hts _ m_8f763f86) (fun _ h9 => h9) (xb_d D_Machine_useMemory 100 rfl) ?_
  obtain ⟨b2, eb2, hw⟩ := hw
  refine xb_some eb2 ?_
  refine lv_aload_n hx hb (xb_d D_Machine_useMemory 101 rfl) rfl (lv_at hl 0 rfl) ?_
  refine xb_getI (C := R_Machine) (T := F_Machine) (N := 18) hx hb 7 15 hts fin_Machine hown hR hk1 (by decide) rfl (by decide) rfl (hts _ m_6a595805) (fun _ h9 => h9) (xb_d D_Machine_useMemory 102 rfl) ?_
  obtain ⟨hk4, hw⟩ := hw
  obtain ⟨hi3, hw⟩ := hw
  refine xb_iald hx hb hR hk4 hi3 (xb_d D_Machine_useMemory 103 rfl) ?_
  refine xb_putI (C := R_Machine) (T := F_Machine) (N := 18) (ty := .int) (x := (xb_i h b2 (Int32.toNatClampNeg (xb_i h x0 15)))) hx hb 7 15 hts fin_Machine t_Machine t_Machine_ok n_Machine hown hR hS hk1 (by decide) rfl (by decide) rfl (hts _ m_6a595805) (fun _ h9 => h9) rfl (by decide +kernel) rfl rfl (xb_d D_Machine_useMemory 104 rfl) (fun H locs hR hS => ?_)
  obtain ⟨h5, eh5⟩ : ∃ x : xb_H, x = xb_I h x0 15 (xb_i h b2 (Int32.toNatClampNeg (xb_i h x0 15))) := ⟨_, rfl⟩
  rw [← eh5] at hR
  have hw := hw h5 eh5
  have hE : xb_ext h0 h5 := by rw [eh5]; exact hE
  exact xb_vret hx hb hr hlocks (show k ≤ MC by omega) (show n ≤ MS by omega) hE hR hS (xb_d D_Machine_useMemory 105 rfl) hw

set_option maxHeartbeats 4000000 in
set_option maxRecDepth 100000 in
theorem am_Machine_useMemory_L36 (l : Launch) (hfl : l.flags = pinnedFlags ++ [noTraceFlag]) (D : va_G) (A : Nat → Prop) (σ MC MS : Nat) (h0 : xb_H) (Qr : xb_H → Prop) (x0 : Nat) (x1 : Int32) (x2 : Int32) (x3 : Int32) (y0 : Int32) (h : xb_H) (hw : w_Machine_useMemory_L36 Qr x0 x1 x2 x3 y0 h) : xb_am l D A σ 5 MC MS h0 (fun v h => v = none ∧ Qr h) (fun _ _ => False) y_Machine_useMemory.cls y_Machine_useMemory.name b_Machine_useMemory 9 ([] : List ExceptionTableEntry) none 36 [(0, .ref x0), (1, .int x1), (2, .int x2), (3, .int x3)] [.int y0] h 0 0 := by
  unfold w_Machine_useMemory_L36 at hw
  intro p e s m args below meth c hC H locs ls k n hE hl hR hS hk hn
  obtain ⟨hx, hb, hown, hlocks, htab, hml, hr, hB, hA, hnm⟩ := id hC
  have hts := hB.1.1.at args
  refine lv_istore hx hb (xb_d D_Machine_useMemory 22 rfl) hl (by decide) rfl (fun ls hl => ?_)
  have hl : lv_has ls 9 [(4, .int y0), (0, .ref x0), (1, .int x1), (2, .int x2), (3, .int x3)] := hl
  refine lv_aload_n hx hb (xb_d D_Machine_useMemory 23 rfl) rfl (lv_at hl 1 rfl) ?_
  obtain ⟨hk1, hw⟩ := hw
  refine xb_getP (C := R_Machine) (T := F_Machine) (N := 18) hx hb 7 9 hts fin_Machine hown hR hk1 (by decide) rfl (by decide) rfl (hts _ m_6904195b) (fun _ h9 => h9) (xb_d D_Machine_useMemory 24 rfl) ?_
  obtain ⟨b2, eb2, hw⟩ := hw
  refine xb_some eb2 ?_
  refine lv_iload hx hb (xb_d D_Machine_useMemory 25 rfl) (lv_at hl 0 rfl) ?_
  obtain ⟨hk4, hw⟩ := hw
  obtain ⟨hi3, hw⟩ := hw
  refine xb_lald hx hb hR hk4 hi3 (xb_d D_Machine_useMemory 26 rfl) ?_
  refine lv_aload_n hx hb (xb_d D_Machine_useMemory 27 rfl) rfl (lv_at hl 1 rfl) ?_
  refine xb_getP (C := R_Machine) (T := F_Machine) (N := 18) hx hb 7 14 hts fin_Machine hown hR hk1 (by decide) rfl (by decide) rfl (hts _ m_8f763f86) (fun _ h9 => h9) (xb_d D_Machine_useMemory 28 rfl) ?_
  obtain ⟨b5, eb5, hw⟩ := hw
  refine xb_some eb5 ?_
  refine lv_aload_n hx hb (xb_d D_Machine_useMemory 29 rfl) rfl (lv_at hl 1 rfl) ?_
  refine xb_getI (C := R_Machine) (T := F_Machine) (N := 18) hx hb 7 15 hts fin_Machine hown hR hk1 (by decide) rfl (by decide) rfl (hts _ m_6a595805) (fun _ h9 => h9) (xb_d D_Machine_useMemory 30 rfl) ?_
  refine lv_iconst (v := 2) hx hb (xb_d D_Machine_useMemory 31 rfl) (by decide) ?_
  refine lv_iadd hx hb (xb_d D_Machine_useMemory 32 rfl) ?_
  obtain ⟨hk7, hw⟩ := hw
  obtain ⟨hi6, hw⟩ := hw
  refine xb_iald hx hb hR hk7 hi6 (xb_d D_Machine_useMemory 33 rfl) ?_
  refine lv_i2l hx hb (xb_d D_Machine_useMemory 34 rfl) rfl ?_
  refine lv_ldc2 (v := 4294967295) hx hb hown (hts _ m_2b0551dd) (xb_d D_Machine_useMemory 35 rfl) ?_
  refine lv_land hx hb (xb_d D_Machine_useMemory 36 rfl) ?_
  refine lv_ladd hx hb (xb_d D_Machine_useMemory 37 rfl) ?_
  obtain ⟨v8, ev8⟩ : ∃ x : Int64, x = ((xb_l h b2 (Int32.toNatClampNeg y0)) + ((Int32.toInt64 (xb_i h b5 (Int32.toNatClampNeg ((xb_i h x0 15) + 2)))) &&& 4294967295)) := ⟨_, rfl⟩
  have hw := hw v8 ev8
  refine xt_numl (y := v8) ev8.symm ?_
  refine lv_lstore hx hb (xb_d D_Machine_useMemory 38 rfl) hl (by decide) rfl (fun ls hl => ?_)
  have hl : lv_has ls 9 [(5, .long v8), (4, .int y0), (0, .ref x0), (1, .int x1), (2, .int x2), (3, .int x3)] := hl
  refine lv_lload hx hb (xb_d D_Machine_useMemory 39 rfl) (lv_at hl 0 rfl) ?_
  obtain ⟨tt9, hZtt9, hTtt9⟩ := hB.2.2.2.1
  refine va_getsN hx hb hZtt9 hS hown (hts _ m_23600e9a) (fun _ h9 => h9) (xb_d D_Machine_useMemory 40 rfl) ?_
  refine lv_iload_n hx hb (xb_d D_Machine_useMemory 41 rfl) rfl (lv_at hl 4 rfl) ?_
  obtain ⟨hi10, hw⟩ := hw
  refine va_ti (v := .int (xb_cMB.getD (Int32.toNatClampNeg x2) 0)) hx hb hTtt9 hS hi10 rfl (xb_d D_Machine_useMemory 42 rfl) ?_
  refine lv_i2l hx hb (xb_d D_Machine_useMemory 43 rfl) rfl ?_
  refine lv_ladd hx hb (xb_d D_Machine_useMemory 44 rfl) ?_
  refine lv_aload_n hx hb (xb_d D_Machine_useMemory 45 rfl) rfl (lv_at hl 2 rfl) ?_
  refine xb_getP (C := R_Machine) (T := F_Machine) (N := 18) hx hb 7 12 hts fin_Machine hown hR hk1 (by decide) rfl (by decide) rfl (hts _ m_a347cb26) (fun _ h9 => h9) (xb_d D_Machine_useMemory 46 rfl) ?_
  obtain ⟨b11, eb11, hw⟩ := hw
  refine xb_some eb11 ?_
  obtain ⟨hk12, hw⟩ := hw
  refine xb_getP (C := R_Instance) (T := F_Instance) (N := 8) hx hb 10 7 hts fin_Instance hown hR hk12 (by decide) rfl (by decide) rfl (hts _ m_e2094cf0) (fun _ h9 => h9) (xb_d D_Machine_useMemory 47 rfl) ?_
  obtain ⟨b13, eb13, hw⟩ := hw
  refine xb_some eb13 ?_
  obtain ⟨hk14, hw⟩ := hw
  refine xb_call (D := D) (A := A) (σ := σ) (h := h) (d := 2) (mc := 0) (ms := 0) (maxL := 1) (rest := [.long (v8 + (Int32.toInt64 (xb_cMB.getD (Int32.toNatClampNeg x2) 0)))]) (av := [.ref b13]) (fun T hT X => by obtain ⟨cb, r1, r2, r3⟩ := xb_recv (ci := 12) hR rfl hk14 (by decide); exact xt_invV X hx hown (hts _ m_679a2d41) (hts _ m_68bf618d) (hts _ m_e440a9a2) (xt_sigOf (hts _ m_f2e0b002)) nm_Memory_bytes (by rw [hT]; exact r1) r2 r3 (g := F0 m 80 ls [.ref b13, .long (v8 + (Int32.toInt64 (xb_cMB.getD (Int32.toNatClampNeg x2) 0)))]) rfl (argsL := []) (rest := [.long (v8 + (Int32.toInt64 (xb_cMB.getD (Int32.toNatClampNeg x2) 0)))]) rfl rfl (by rw [hb]; exact (xb_d D_Machine_useMemory 48 rfl))) (ok_Memory_bytes l hfl D A σ b13 h _ hw) (hml.trans hl.1.symm) (by rw [hb]; exact (xb_d D_Machine_useMemory 48 rfl)) (Nat.le_of_ble_eq_true rfl) (Nat.le_of_ble_eq_true rfl) (Nat.le_of_ble_eq_true rfl) (show k + 0 ≤ MC by omega) (show n + 0 ≤ MS by omega) (xt_w1 hB.1 m_f2e0b002) (xt_cdOf hB.1 m_f2e0b002) (hts _ m_e7289b5f) hB hR hS hA (fun vv h15 H locs hq hEh15 hR hS => ?_) (fun XX ax h15 H locs hq hEh15 hex hR hS => ?_)
  · obtain ⟨r16, rfl, hw⟩ := hq
    have hw := hw hEh15
    have hE := hE.tr hEh15
    refine W.eq (g2 := F0 m 83 ls [.int r16, .long (v8 + (Int32.toInt64 (xb_cMB.getD (Int32.toNatClampNeg x2) 0)))]) rfl ?_
    refine lv_i2l hx hb (xb_d D_Machine_useMemory 49 rfl) rfl ?_
    refine xb_lc_le (tgt := 94) hx hb (xb_d D_Machine_useMemory 50 rfl) (xb_d D_Machine_useMemory 51 rfl) rfl (fun hc17 => ?_) (fun hc17 => ?_)
    · have hw := hw.1 hc17
      refine lv_iload_n hx hb (xb_d D_Machine_useMemory 56 rfl) rfl (lv_at hl 5 rfl) ?_
      refine lv_if_eq (tgt := 140) hx hb (xb_d D_Machine_useMemory 57 rfl) rfl (fun hc18 => ?_) (fun hc18 => ?_)
      · have hw := hw.1 hc18
        refine lv_aload_n hx hb (xb_d D_Machine_useMemory 81 rfl) rfl (lv_at hl 2 rfl) ?_
        have hk1 : xb_k h15 x0 = 8 := hEh15.k hk1
        refine xb_getP (C := R_Machine) (T := F_Machine) (N := 18) hx hb 7 12 hts fin_Machine hown hR hk1 (by decide) rfl (by decide) rfl (hts _ m_a347cb26) (fun _ h9 => h9) (xb_d D_Machine_useMemory 82 rfl) ?_
        obtain ⟨b19, eb19, hw⟩ := hw
        refine xb_some eb19 ?_
        obtain ⟨hk20, hw⟩ := hw
        refine xb_getP (C := R_Instance) (T := F_Instance) (N := 8) hx hb 10 7 hts fin_Instance hown hR hk20 (by decide) rfl (by decide) rfl (hts _ m_e2094cf0) (fun _ h9 => h9) (xb_d D_Machine_useMemory 83 rfl) ?_
        obtain ⟨b21, eb21, hw⟩ := hw
        refine xb_some eb21 ?_
        refine lv_lload hx hb (xb_d D_Machine_useMemory 84 rfl) (lv_at hl 0 rfl) ?_
        refine lv_l2i hx hb (xb_d D_Machine_useMemory 85 rfl) rfl ?_
        obtain ⟨tt22, hZtt22, hTtt22⟩ := hB.2.2.2.1
        refine va_getsN hx hb hZtt22 hS hown (hts _ m_23600e9a) (fun _ h9 => h9) (xb_d D_Machine_useMemory 86 rfl) ?_
        refine lv_iload_n hx hb (xb_d D_Machine_useMemory 87 rfl) rfl (lv_at hl 4 rfl) ?_
        obtain ⟨hi23, hw⟩ := hw
        refine va_ti (v := .int (xb_cMB.getD (Int32.toNatClampNeg x2) 0)) hx hb hTtt22 hS hi23 rfl (xb_d D_Machine_useMemory 88 rfl) ?_
        obtain ⟨hk24, hw⟩ := hw
        refine xb_call (D := D) (A := A) (σ := σ) (h := h15) (d := 4) (mc := 0) (ms := 0) (maxL := 6) (rest := []) (av := [.ref b21, .int (Int64.toInt32 v8), .int (xb_cMB.getD (Int32.toNatClampNeg x2) 0)]) (fun T hT X => by obtain ⟨cb, r1, r2, r3⟩ := xb_recv (ci := 12) hR rfl hk24 (by decide); exact xt_invV X hx hown (hts _ m_2f012601) (hts _ m_addf8063) (hts _ m_379410e3) (xt_sigOf (hts _ m_a847d206)) nm_Memory_fetch (by rw [hT]; exact r1) r2 r3 (g := F0 m 155 ls [.int (xb_cMB.getD (Int32.toNatClampNeg x2) 0), .int (Int64.toInt32 v8), .ref b21]) rfl (argsL := [.int (Int64.toInt32 v8), .int (xb_cMB.getD (Int32.toNatClampNeg x2) 0)]) (rest := []) rfl rfl (by rw [hb]; exact (xb_d D_Machine_useMemory 89 rfl))) (ok_Memory_fetch l hfl D A σ b21 (Int64.toInt32 v8) (xb_cMB.getD (Int32.toNatClampNeg x2) 0) h15 _ hw) (hml.trans hl.1.symm) (by rw [hb]; exact (xb_d D_Machine_useMemory 89 rfl)) (Nat.le_of_ble_eq_true rfl) (Nat.le_of_ble_eq_true rfl) (Nat.le_of_ble_eq_true rfl) (show k + 0 ≤ MC by omega) (show n + 0 ≤ MS by omega) (xt_w1 hB.1 m_a847d206) (xt_cdOf hB.1 m_a847d206) (hts _ m_e7289b5f) hB hR hS hA (fun vv h25 H locs hq hEh25 hR hS => ?_) (fun XX ax h25 H locs hq hEh25 hex hR hS => ?_)
        · obtain ⟨r26, rfl, hw⟩ := hq
          have hw := hw hEh25
          have hE := hE.tr hEh25
          refine W.eq (g2 := F0 m 158 ls [.long r26]) rfl ?_
          refine lv_lstore hx hb (xb_d D_Machine_useMemory 90 rfl) hl (by decide) rfl (fun ls hl => ?_)
          have hl : lv_has ls 9 [(7, .long r26), (5, .long v8), (4, .int y0), (0, .ref x0), (1, .int x1), (2, .int x2), (3, .int x3)] := hl
          refine lv_aload_n hx hb (xb_d D_Machine_useMemory 91 rfl) rfl (lv_at hl 3 rfl) ?_
          have hk1 : xb_k h25 x0 = 8 := hEh25.k hk1
          refine xb_getP (C := R_Machine) (T := F_Machine) (N := 18) hx hb 7 9 hts fin_Machine hown hR hk1 (by decide) rfl (by decide) rfl (hts _ m_6904195b) (fun _ h9 => h9) (xb_d D_Machine_useMemory 92 rfl) ?_
          obtain ⟨b27, eb27, hw⟩ := hw
          refine xb_some eb27 ?_
          refine lv_iload hx hb (xb_d D_Machine_useMemory 93 rfl) (lv_at hl 2 rfl) ?_
          refine lv_iload_n hx hb (xb_d D_Machine_useMemory 94 rfl) rfl (lv_at hl 4 rfl) ?_
          refine lv_lload hx hb (xb_d D_Machine_useMemory 95 rfl) (lv_at hl 0 rfl) ?_
          refine xb_call (D := D) (A := A) (σ := σ) (h := h25) (d := 2) (mc := 0) (ms := 0) (maxL := 3) (rest := [.int y0, .ref b27]) (av := [.int x1, .long r26]) (fun T hT X => xt_invS X hx hown (hts _ m_1b5a3927) (hts _ m_a1a6ad05) (hts _ m_73451f9b) (xt_sgS (hts _ m_0b4e7759)).1 (xt_sgS (hts _ m_0b4e7759)).2 nm_Machine_widened (g := F0 m 169 ls [.long r26, .int x1, .int y0, .ref b27]) rfl (argsL := [.int x1, .long r26]) (rest := [.int y0, .ref b27]) rfl rfl (by rw [hb]; exact (xb_d D_Machine_useMemory 96 rfl))) (ok_Machine_widened l hfl D A σ x1 r26 h25 _ hw) (hml.trans hl.1.symm) (by rw [hb]; exact (xb_d D_Machine_useMemory 96 rfl)) (Nat.le_of_ble_eq_true rfl) (Nat.le_of_ble_eq_true rfl) (Nat.le_of_ble_eq_true rfl) (show k + 0 ≤ MC by omega) (show n + 0 ≤ MS by omega) (xt_w1 hB.1 m_0b4e7759) (xt_cdOf hB.1 m_0b4e7759) (hts _ m_73451f9b) hB hR hS hA (fun vv h28 H locs hq hEh28 hR hS => ?_) (fun XX ax h28 H locs hq hEh28 hex hR hS => ?_)
          · obtain ⟨r29, rfl, hw⟩ := hq
            have hw := hw hEh28
            have hE := hE.tr hEh28
            refine W.eq (g2 := F0 m 172 ls [.long r29, .int y0, .ref b27]) rfl ?_
            obtain ⟨hk30, hw⟩ := hw
            obtain ⟨hi31, hw⟩ := hw
            refine xb_last hx hb hR hS hk30 hi31 (xb_d D_Machine_useMemory 97 rfl) (fun H locs hR hS => ?_)
            obtain ⟨h32, eh32⟩ : ∃ x : xb_H, x = xb_L h28 b27 (Int32.toNatClampNeg y0) r29 := ⟨_, rfl⟩
            rw [← eh32] at hR
            have hw := hw h32 eh32
            have hE : xb_ext h0 h32 := by rw [eh32]; exact hE
            exact am_Machine_useMemory_L173 l hfl D A σ MC MS h0 Qr x0 h32 hw p e s m args below meth c hC H locs ls k n hE (lv_sub hl [3] rfl) hR hS (by omega) (by omega)
          · exact False.elim hq
        · exact False.elim hq
      · have hw := hw.2 hc18
        refine lv_aload_n hx hb (xb_d D_Machine_useMemory 58 rfl) rfl (lv_at hl 2 rfl) ?_
        have hk1 : xb_k h15 x0 = 8 := hEh15.k hk1
        refine xb_getP (C := R_Machine) (T := F_Machine) (N := 18) hx hb 7 12 hts fin_Machine hown hR hk1 (by decide) rfl (by decide) rfl (hts _ m_a347cb26) (fun _ h9 => h9) (xb_d D_Machine_useMemory 59 rfl) ?_
        obtain ⟨b33, eb33, hw⟩ := hw
        refine xb_some eb33 ?_
        obtain ⟨hk34, hw⟩ := hw
        refine xb_getP (C := R_Instance) (T := F_Instance) (N := 8) hx hb 10 7 hts fin_Instance hown hR hk34 (by decide) rfl (by decide) rfl (hts _ m_e2094cf0) (fun _ h9 => h9) (xb_d D_Machine_useMemory 60 rfl) ?_
        obtain ⟨b35, eb35, hw⟩ := hw
        refine xb_some eb35 ?_
        refine lv_lload hx hb (xb_d D_Machine_useMemory 61 rfl) (lv_at hl 0 rfl) ?_
        refine lv_l2i hx hb (xb_d D_Machine_useMemory 62 rfl) rfl ?_
        obtain ⟨tt36, hZtt36, hTtt36⟩ := hB.2.2.2.1
        refine va_getsN hx hb hZtt36 hS hown (hts _ m_23600e9a) (fun _ h9 => h9) (xb_d D_Machine_useMemory 63 rfl) ?_
        refine lv_iload_n hx hb (xb_d D_Machine_useMemory 64 rfl) rfl (lv_at hl 4 rfl) ?_
        obtain ⟨hi37, hw⟩ := hw
        refine va_ti (v := .int (xb_cMB.getD (Int32.toNatClampNeg x2) 0)) hx hb hTtt36 hS hi37 rfl (xb_d D_Machine_useMemory 65 rfl) ?_
        refine lv_aload_n hx hb (xb_d D_Machine_useMemory 66 rfl) rfl (lv_at hl 2 rfl) ?_
        refine xb_getP (C := R_Machine) (T := F_Machine) (N := 18) hx hb 7 9 hts fin_Machine hown hR hk1 (by decide) rfl (by decide) rfl (hts _ m_6904195b) (fun _ h9 => h9) (xb_d D_Machine_useMemory 67 rfl) ?_
        obtain ⟨b38, eb38, hw⟩ := hw
        refine xb_some eb38 ?_
        refine lv_aload_n hx hb (xb_d D_Machine_useMemory 68 rfl) rfl (lv_at hl 2 rfl) ?_
        refine xb_getI (C := R_Machine) (T := F_Machine) (N := 18) hx hb 7 10 hts fin_Machine hown hR hk1 (by decide) rfl (by decide) rfl (hts _ m_79cf62f6) (fun _ h9 => h9) (xb_d D_Machine_useMemory 69 rfl) ?_
        refine lv_iconst (v := 1) hx hb (xb_d D_Machine_useMemory 70 rfl) (by decide) ?_
        refine lv_isub hx hb (xb_d D_Machine_useMemory 71 rfl) ?_
        obtain ⟨hk40, hw⟩ := hw
        obtain ⟨hi39, hw⟩ := hw
        refine xb_lald hx hb hR hk40 hi39 (xb_d D_Machine_useMemory 72 rfl) ?_
        obtain ⟨hk41, hw⟩ := hw
        refine xb_call (D := D) (A := A) (σ := σ) (h := h15) (d := 4) (mc := 0) (ms := 0) (maxL := 6) (rest := []) (av := [.ref b35, .int (Int64.toInt32 v8), .int (xb_cMB.getD (Int32.toNatClampNeg x2) 0), .long (xb_l h15 b38 (Int32.toNatClampNeg ((xb_i h15 x0 10) - 1)))]) (fun T hT X => by obtain ⟨cb, r1, r2, r3⟩ := xb_recv (ci := 12) hR rfl hk41 (by decide); exact xt_invV X hx hown (hts _ m_a4c48a05) (hts _ m_6f3c5f7c) (hts _ m_3520e35d) (xt_sigOf (hts _ m_bd30f80b)) nm_Memory_store (by rw [hT]; exact r1) r2 r3 (g := F0 m 124 ls [.long (xb_l h15 b38 (Int32.toNatClampNeg ((xb_i h15 x0 10) - 1))), .int (xb_cMB.getD (Int32.toNatClampNeg x2) 0), .int (Int64.toInt32 v8), .ref b35]) rfl (argsL := [.int (Int64.toInt32 v8), .int (xb_cMB.getD (Int32.toNatClampNeg x2) 0), .long (xb_l h15 b38 (Int32.toNatClampNeg ((xb_i h15 x0 10) - 1)))]) (rest := []) rfl rfl (by rw [hb]; exact (xb_d D_Machine_useMemory 73 rfl))) (ok_Memory_store l hfl D A σ b35 (Int64.toInt32 v8) (xb_cMB.getD (Int32.toNatClampNeg x2) 0) (xb_l h15 b38 (Int32.toNatClampNeg ((xb_i h15 x0 10) - 1))) h15 _ hw) (hml.trans hl.1.symm) (by rw [hb]; exact (xb_d D_Machine_useMemory 73 rfl)) (Nat.le_of_ble_eq_true rfl) (Nat.le_of_ble_eq_true rfl) (Nat.le_of_ble_eq_true rfl) (show k + 0 ≤ MC by omega) (show n + 0 ≤ MS by omega) (xt_w1 hB.1 m_bd30f80b) (xt_cdOf hB.1 m_bd30f80b) (hts _ m_e7289b5f) hB hR hS hA (fun vv h42 H locs hq hEh42 hR hS => ?_) (fun XX ax h42 H locs hq hEh42 hex hR hS => ?_)
        · obtain ⟨rfl, hw⟩ := hq
          have hw := hw hEh42
          have hE := hE.tr hEh42
          refine W.eq (g2 := F0 m 127 ls []) rfl ?_
          refine lv_aload_n hx hb (xb_d D_Machine_useMemory 74 rfl) rfl (lv_at hl 2 rfl) ?_
          refine lv_dup hx hb (xb_d D_Machine_useMemory 75 rfl) rfl ?_
          have hk1 : xb_k h42 x0 = 8 := hEh42.k hk1
          refine xb_getI (C := R_Machine) (T := F_Machine) (N := 18) hx hb 7 10 hts fin_Machine hown hR hk1 (by decide) rfl (by decide) rfl (hts _ m_79cf62f6) (fun _ h9 => h9) (xb_d D_Machine_useMemory 76 rfl) ?_
          refine lv_iconst (v := 2) hx hb (xb_d D_Machine_useMemory 77 rfl) (by decide) ?_
          refine lv_isub hx hb (xb_d D_Machine_useMemory 78 rfl) ?_
          refine xb_putI (C := R_Machine) (T := F_Machine) (N := 18) (ty := .int) (x := ((xb_i h42 x0 10) - 2)) hx hb 7 10 hts fin_Machine t_Machine t_Machine_ok n_Machine hown hR hS hk1 (by decide) rfl (by decide) rfl (hts _ m_79cf62f6) (fun _ h9 => h9) rfl (by decide +kernel) rfl rfl (xb_d D_Machine_useMemory 79 rfl) (fun H locs hR hS => ?_)
          obtain ⟨h44, eh44⟩ : ∃ x : xb_H, x = xb_I h42 x0 10 ((xb_i h42 x0 10) - 2) := ⟨_, rfl⟩
          rw [← eh44] at hR
          have hw := hw h44 eh44
          have hE : xb_ext h0 h44 := by rw [eh44]; exact hE
          refine lv_goto (tgt := 173) hx hb (xb_d D_Machine_useMemory 80 rfl) rfl ?_
          exact am_Machine_useMemory_L173 l hfl D A σ MC MS h0 Qr x0 h44 hw p e s m args below meth c hC H locs ls k n hE (lv_sub hl [2] rfl) hR hS (by omega) (by omega)
        · exact False.elim hq
    · have hw := hw.2 hc17
      refine lv_aload_n hx hb (xb_d D_Machine_useMemory 52 rfl) rfl (lv_at hl 2 rfl) ?_
      refine lv_iconst (v := 2) hx hb (xb_d D_Machine_useMemory 53 rfl) (by decide) ?_
      have hk1 : xb_k h15 x0 = 8 := hEh15.k hk1
      refine xb_call (D := D) (A := A) (σ := σ) (h := h15) (d := 2) (mc := 0) (ms := 0) (maxL := 3) (rest := []) (av := [.ref x0, .int 2]) (fun T hT X => by obtain ⟨cb, r1, r2, r3⟩ := xb_recv (ci := 7) hR rfl hk1 (by decide); exact xt_invV X hx hown (hts _ m_8f5db99d) (hts _ m_0ddc8afe) (hts _ m_f5561462) (xt_sigOf (hts _ m_f0d4fd47)) nm_Machine_fall (by rw [hT]; exact r1) r2 r3 (g := F0 m 90 ls [.int 2, .ref x0]) rfl (argsL := [.int 2]) (rest := []) rfl rfl (by rw [hb]; exact (xb_d D_Machine_useMemory 54 rfl))) (ok_Machine_fall l hfl D A σ x0 2 h15 _ hw) (hml.trans hl.1.symm) (by rw [hb]; exact (xb_d D_Machine_useMemory 54 rfl)) (Nat.le_of_ble_eq_true rfl) (Nat.le_of_ble_eq_true rfl) (Nat.le_of_ble_eq_true rfl) (show k + 0 ≤ MC by omega) (show n + 0 ≤ MS by omega) (xt_w1 hB.1 m_f0d4fd47) (xt_cdOf hB.1 m_f0d4fd47) (hts _ m_73451f9b) hB hR hS hA (fun vv h45 H locs hq hEh45 hR hS => ?_) (fun XX ax h45 H locs hq hEh45 hex hR hS => ?_)
      · obtain ⟨rfl, hw⟩ := hq
        have hw := hw hEh45
        have hE := hE.tr hEh45
        refine W.eq (g2 := F0 m 93 ls []) rfl ?_
        exact xb_vret hx hb hr hlocks (show k ≤ MC by omega) (show n ≤ MS by omega) hE hR hS (xb_d D_Machine_useMemory 55 rfl) hw
      · exact False.elim hq
  · exact False.elim hq

set_option maxHeartbeats 4000000 in
set_option maxRecDepth 100000 in
theorem am_Machine_useMemory_L16 (l : Launch) (hfl : l.flags = pinnedFlags ++ [noTraceFlag]) (D : va_G) (A : Nat → Prop) (σ MC MS : Nat) (h0 : xb_H) (Qr : xb_H → Prop) (x0 : Nat) (x1 : Int32) (x2 : Int32) (y0 : Int32) (h : xb_H) (hw : w_Machine_useMemory_L16 Qr x0 x1 x2 y0 h) : xb_am l D A σ 5 MC MS h0 (fun v h => v = none ∧ Qr h) (fun _ _ => False) y_Machine_useMemory.cls y_Machine_useMemory.name b_Machine_useMemory 9 ([] : List ExceptionTableEntry) none 16 [(0, .ref x0), (1, .int x1), (2, .int x2)] [.int y0] h 0 0 := by
  unfold w_Machine_useMemory_L16 at hw
  intro p e s m args below meth c hC H locs ls k n hE hl hR hS hk hn
  obtain ⟨hx, hb, hown, hlocks, htab, hml, hr, hB, hA, hnm⟩ := id hC
  have hts := hB.1.1.at args
  refine lv_istore_n hx hb (xb_d D_Machine_useMemory 10 rfl) rfl hl (by decide) rfl (fun ls hl => ?_)
  have hl : lv_has ls 9 [(3, .int y0), (0, .ref x0), (1, .int x1), (2, .int x2)] := hl
  refine lv_iload_n hx hb (xb_d D_Machine_useMemory 11 rfl) rfl (lv_at hl 0 rfl) ?_
  refine lv_if_eq (tgt := 30) hx hb (xb_d D_Machine_useMemory 12 rfl) rfl (fun hc1 => ?_) (fun hc1 => ?_)
  · have hw := hw.1 hc1
    refine lv_aload_n hx hb (xb_d D_Machine_useMemory 18 rfl) rfl (lv_at hl 1 rfl) ?_
    obtain ⟨hk2, hw⟩ := hw
    refine xb_getI (C := R_Machine) (T := F_Machine) (N := 18) hx hb 7 10 hts fin_Machine hown hR hk2 (by decide) rfl (by decide) rfl (hts _ m_79cf62f6) (fun _ h9 => h9) (xb_d D_Machine_useMemory 19 rfl) ?_
    refine lv_iconst (v := 1) hx hb (xb_d D_Machine_useMemory 20 rfl) (by decide) ?_
    refine lv_isub hx hb (xb_d D_Machine_useMemory 21 rfl) ?_
    exact am_Machine_useMemory_L36 l hfl D A σ MC MS h0 Qr x0 x1 x2 y0 ((xb_i h x0 10) - 1) h hw p e s m args below meth c hC H locs ls k n hE (lv_sub hl [1, 2, 3, 0] rfl) hR hS (by omega) (by omega)
  · have hw := hw.2 hc1
    refine lv_aload_n hx hb (xb_d D_Machine_useMemory 13 rfl) rfl (lv_at hl 1 rfl) ?_
    obtain ⟨hk3, hw⟩ := hw
    refine xb_getI (C := R_Machine) (T := F_Machine) (N := 18) hx hb 7 10 hts fin_Machine hown hR hk3 (by decide) rfl (by decide) rfl (hts _ m_79cf62f6) (fun _ h9 => h9) (xb_d D_Machine_useMemory 14 rfl) ?_
    refine lv_iconst (v := 2) hx hb (xb_d D_Machine_useMemory 15 rfl) (by decide) ?_
    refine lv_isub hx hb (xb_d D_Machine_useMemory 16 rfl) ?_
    refine lv_goto (tgt := 36) hx hb (xb_d D_Machine_useMemory 17 rfl) rfl ?_
    exact am_Machine_useMemory_L36 l hfl D A σ MC MS h0 Qr x0 x1 x2 y0 ((xb_i h x0 10) - 2) h hw p e s m args below meth c hC H locs ls k n hE (lv_sub hl [1, 2, 3, 0] rfl) hR hS (by omega) (by omega)

set_option maxHeartbeats 4000000 in
set_option maxRecDepth 100000 in
theorem ok_Machine_useMemory (l : Launch) (hfl : l.flags = pinnedFlags ++ [noTraceFlag]) (D : va_G) (A : Nat → Prop) (σ : Nat) (x0 : Nat) (x1 : Int32) (h : xb_H) (Qr : xb_H → Prop) (hw : w_Machine_useMemory x0 x1 h Qr) : xt_Met l y_Machine_useMemory [.code y_Machine_useMemory b_Machine_useMemory 9 none] (xb_rm 5 0 0) (xb_Pc D A σ h [.ref x0, .int x1]) (xb_Qc D A h (fun v h => v = none ∧ Qr h) (fun _ _ => False)) 0 0 A := by
  refine xb_ofAm (cc := b_Machine_useMemory) (by decide) (Nat.le_of_ble_eq_true rfl) ?_
  unfold w_Machine_useMemory at hw
  show xb_am l D A σ 5 0 0 h (fun v h => v = none ∧ Qr h) (fun _ _ => False) y_Machine_useMemory.cls y_Machine_useMemory.name b_Machine_useMemory 9 ([] : List ExceptionTableEntry) none 0 [(0, .ref x0), (1, .int x1)] [] h 0 0
  obtain ⟨MC, hMC⟩ : ∃ x, x = 0 := ⟨_, rfl⟩
  obtain ⟨MS, hMS⟩ : ∃ x, x = 0 := ⟨_, rfl⟩
  rw [show xb_am l D A σ 5 0 0 = xb_am l D A σ 5 MC MS by rw [hMC, hMS]]
  obtain ⟨h0, hh0⟩ : ∃ x, x = h := ⟨_, rfl⟩
  rw [show xb_am l D A σ 5 MC MS h = xb_am l D A σ 5 MC MS h0 by rw [hh0]]
  intro p e s m args below meth c hC H locs ls k n hE hl hR hS hk hn
  obtain ⟨hx, hb, hown, hlocks, htab, hml, hr, hB, hA, hnm⟩ := id hC
  have hts := hB.1.1.at args
  refine lv_iload_n hx hb (xb_d D_Machine_useMemory 0 rfl) rfl (lv_at hl 1 rfl) ?_
  refine lv_bipush (v := 40) hx hb (xb_d D_Machine_useMemory 1 rfl) (by decide) ?_
  refine lv_isub hx hb (xb_d D_Machine_useMemory 2 rfl) ?_
  obtain ⟨v1, ev1⟩ : ∃ x : Int32, x = (x1 - 40) := ⟨_, rfl⟩
  have hw := hw v1 ev1
  refine xt_numi (y := v1) ev1.symm ?_
  refine lv_istore_n hx hb (xb_d D_Machine_useMemory 3 rfl) rfl hl (by decide) rfl (fun ls hl => ?_)
  have hl : lv_has ls 9 [(2, .int v1), (0, .ref x0), (1, .int x1)] := hl
  refine lv_iload_n hx hb (xb_d D_Machine_useMemory 4 rfl) rfl (lv_at hl 2 rfl) ?_
  refine lv_bipush (v := 54) hx hb (xb_d D_Machine_useMemory 5 rfl) (by decide) ?_
  refine lv_icmp_lt (tgt := 15) hx hb (xb_d D_Machine_useMemory 6 rfl) rfl (fun hc2 => ?_) (fun hc2 => ?_)
  · have hw := hw.1 hc2
    refine lv_iconst (v := 0) hx hb (xb_d D_Machine_useMemory 9 rfl) (by decide) ?_
    exact am_Machine_useMemory_L16 l hfl D A σ MC MS h0 Qr x0 x1 v1 0 h hw p e s m args below meth c hC H locs ls k n hE (lv_sub hl [1, 2, 0] rfl) hR hS (by omega) (by omega)
  · have hw := hw.2 hc2
    refine lv_iconst (v := 1) hx hb (xb_d D_Machine_useMemory 7 rfl) (by decide) ?_
    refine lv_goto (tgt := 16) hx hb (xb_d D_Machine_useMemory 8 rfl) rfl ?_
    exact am_Machine_useMemory_L16 l hfl D A σ MC MS h0 Qr x0 x1 v1 1 h hw p e s m args below meth c hC H locs ls k n hE (lv_sub hl [1, 2, 0] rfl) hR hS (by omega) (by omega)

theorem m_fae64a5e : (.methodLink "StackHost$Reader" 78 y_Reader_readName : Cond) ∈ xt_tbl := xt_in (xt_t3 (List.mem_of_getElem? (i := 196) (by decide +kernel))) (by decide +kernel)
theorem m_a35a3722 : (.instanceMethod y_Reader_readName : Cond) ∈ xt_tbl := xt_in (xt_t3 (List.mem_of_getElem? (i := 198) (by decide +kernel))) (by decide +kernel)
theorem m_7a3ebdc0 : (.selects "StackHost$Reader" y_Reader_readName y_Reader_readName : Cond) ∈ xt_tbl := xt_in (xt_v1 (q := (⟨"StackHost$Reader", "readName", "()I"⟩, 6)) (List.mem_of_getElem? (i := 6) (by decide +kernel))) (by decide +kernel)
theorem m_76a677e7 : (.code y_Reader_readName b_Reader_readName 5 (some .int) : Cond) ∈ xt_tbl := xt_in (xt_t3 (List.mem_of_getElem? (i := 199) (by decide +kernel))) (by decide +kernel)
theorem m_210c6cf2 : (.fieldLink "StackHost$Reader" 169 "StackHost$StackModule" "exports" "LStackHost$Row;" : Cond) ∈ xt_tbl := xt_in (xt_t3 (List.mem_of_getElem? (i := 89) (by decide +kernel))) (by decide +kernel)
theorem m_da067afc : (.methodLink "StackHost$Reader" 87 y_Row_add : Cond) ∈ xt_tbl := xt_in (xt_t3 (List.mem_of_getElem? (i := 224) (by decide +kernel))) (by decide +kernel)
theorem m_13cda130 : (.methodLink "StackHost$Reader" 148 y_Reader_byteUpTo : Cond) ∈ xt_tbl := xt_in (xt_t4 (List.mem_of_getElem? (i := 6) (by decide +kernel))) (by decide +kernel)
theorem m_a9ff337d : (.instanceMethod y_Reader_byteUpTo : Cond) ∈ xt_tbl := xt_in (xt_t4 (List.mem_of_getElem? (i := 8) (by decide +kernel))) (by decide +kernel)
theorem m_af3157e6 : (.selects "StackHost$Reader" y_Reader_byteUpTo y_Reader_byteUpTo : Cond) ∈ xt_tbl := xt_in (xt_v1 (q := (⟨"StackHost$Reader", "byteUpTo", "(I)I"⟩, 6)) (List.mem_of_getElem? (i := 14) (by decide +kernel))) (by decide +kernel)
theorem m_8a19f6ff : (.code y_Reader_byteUpTo b_Reader_byteUpTo 3 (some .int) : Cond) ∈ xt_tbl := xt_in (xt_t4 (List.mem_of_getElem? (i := 9) (by decide +kernel))) (by decide +kernel)
theorem nm_Reader_readName : xt_nm y_Reader_readName 0 := ⟨by decide +kernel, by decide +kernel⟩
theorem nm_Reader_byteUpTo : xt_nm y_Reader_byteUpTo 1 := ⟨by decide +kernel, by decide +kernel⟩
set_option maxRecDepth 100000 in
def T_Reader_readExport : List (Nat × Instr × Nat) := [(0, .aload_n 0, 1), (1, .getfield 41, 3), (4, .istore_n 1, 1), (5, .aload_n 0, 1), (6, .invokevirtual 78, 3), (9, .istore_n 2, 1), (10, .aload_n 0, 1), (11, .getfield 41, 3), (14, .iload_n 2, 1), (15, .isub, 1), (16, .istore_n 3, 1), (17, .aload_n 0, 1), (18, .getfield 15, 3), (21, .getfield 169, 3), (24, .iload_n 1, 1), (25, .i2l, 1), (26, .invokevirtual 87, 3), (29, .aload_n 0, 1), (30, .getfield 15, 3), (33, .getfield 169, 3), (36, .aload_n 0, 1), (37, .iconst 3, 1), (38, .invokevirtual 148, 3), (41, .i2l, 1), (42, .invokevirtual 87, 3), (45, .aload_n 0, 1), (46, .getfield 15, 3), (49, .getfield 169, 3), (52, .aload_n 0, 1), (53, .invokevirtual 70, 3), (56, .i2l, 1), (57, .ldc2_w 76, 3), (60, .land, 1), (61, .invokevirtual 87, 3), (64, .aload_n 0, 1), (65, .getfield 15, 3), (68, .getfield 169, 3), (71, .iload_n 3, 1), (72, .i2l, 1), (73, .invokevirtual 87, 3), (76, .aload_n 0, 1), (77, .getfield 15, 3), (80, .getfield 169, 3), (83, .iload_n 2, 1), (84, .i2l, 1), (85, .invokevirtual 87, 3), (88, .return_, 1)]
theorem D_Reader_readExport : ∀ q ∈ T_Reader_readExport, decode b_Reader_readExport q.1 = .ok (q.2.1, q.2.2) := by decide +kernel
def w_Reader_readExport (x0 : Nat) (h : xb_H) (bc : Nat) (bs : Nat) (Qr : xb_H → Prop) (Qt : String → xb_H → Prop) : Prop :=
    xb_k h x0 = 4 ∧ ∀ v2 : Int32, v2 = (xb_i h x0 3) → ∃ c5 sc5 : Nat, c5 ≤ bc ∧ sc5 ≤ bs ∧ w_Reader_readName x0 h c5 sc5 (fun (r4 : Int32) (h3 : xb_H) => xb_ext h h3 → ∀ v6 : Int32, v6 = ((xb_i h3 x0 3) - r4) → ∃ b7 : Nat, (xb_r h3 x0 0) = some b7 ∧ xb_k h3 b7 = 3 ∧ ∃ b9 : Nat, (xb_r h3 b7 8) = some b9 ∧ xb_k h3 b9 = 2 ∧ ∃ c13 sc13 : Nat, c13 ≤ (bc - c5) ∧ sc13 ≤ (bs - sc5) ∧ w_Row_add b9 (Int32.toInt64 v2) h3 c13 sc13 (fun (h11 : xb_H) => xb_ext h3 h11 → ∃ b14 : Nat, (xb_r h11 x0 0) = some b14 ∧ xb_k h11 b14 = 3 ∧ ∃ b16 : Nat, (xb_r h11 b14 8) = some b16 ∧ ∃ c19 sc19 : Nat, c19 ≤ ((bc - c5) - c13) ∧ sc19 ≤ ((bs - sc5) - sc13) ∧ w_Reader_byteUpTo x0 3 h11 c19 sc19 (fun (r18 : Int32) (h17 : xb_H) => xb_ext h11 h17 → xb_k h17 b16 = 2 ∧ ∃ c23 sc23 : Nat, c23 ≤ (((bc - c5) - c13) - c19) ∧ sc23 ≤ (((bs - sc5) - sc13) - sc19) ∧ w_Row_add b16 (Int32.toInt64 r18) h17 c23 sc23 (fun (h21 : xb_H) => xb_ext h17 h21 → ∃ b24 : Nat, (xb_r h21 x0 0) = some b24 ∧ xb_k h21 b24 = 3 ∧ ∃ b26 : Nat, (xb_r h21 b24 8) = some b26 ∧ ∃ c29 sc29 : Nat, c29 ≤ ((((bc - c5) - c13) - c19) - c23) ∧ sc29 ≤ ((((bs - sc5) - sc13) - sc19) - sc23) ∧ w_Reader_count x0 h21 c29 sc29 (fun (r28 : Int32) (h27 : xb_H) => xb_ext h21 h27 → xb_k h27 b26 = 2 ∧ ∃ c33 sc33 : Nat, c33 ≤ (((((bc - c5) - c13) - c19) - c23) - c29) ∧ sc33 ≤ (((((bs - sc5) - sc13) - sc19) - sc23) - sc29) ∧ w_Row_add b26 ((Int32.toInt64 r28) &&& 4294967295) h27 c33 sc33 (fun (h31 : xb_H) => xb_ext h27 h31 → ∃ b34 : Nat, (xb_r h31 x0 0) = some b34 ∧ xb_k h31 b34 = 3 ∧ ∃ b36 : Nat, (xb_r h31 b34 8) = some b36 ∧ xb_k h31 b36 = 2 ∧ ∃ c40 sc40 : Nat, c40 ≤ ((((((bc - c5) - c13) - c19) - c23) - c29) - c33) ∧ sc40 ≤ ((((((bs - sc5) - sc13) - sc19) - sc23) - sc29) - sc33) ∧ w_Row_add b36 (Int32.toInt64 v6) h31 c40 sc40 (fun (h38 : xb_H) => xb_ext h31 h38 → ∃ b41 : Nat, (xb_r h38 x0 0) = some b41 ∧ xb_k h38 b41 = 3 ∧ ∃ b43 : Nat, (xb_r h38 b41 8) = some b43 ∧ xb_k h38 b43 = 2 ∧ ∃ c47 sc47 : Nat, c47 ≤ (((((((bc - c5) - c13) - c19) - c23) - c29) - c33) - c40) ∧ sc47 ≤ (((((((bs - sc5) - sc13) - sc19) - sc23) - sc29) - sc33) - sc40) ∧ w_Row_add b43 (Int32.toInt64 r4) h38 c47 sc47 (fun (h45 : xb_H) => xb_ext h38 h45 → Qr h45)))) Qt)) Qt)) Qt

set_option maxHeartbeats 4000000 in
set_option maxRecDepth 100000 in
theorem ok_Reader_readExport (l : Launch) (hfl : l.flags = pinnedFlags ++ [noTraceFlag]) (D : va_G) (A : Nat → Prop) (σ : Nat) (x0 : Nat) (h : xb_H) (bc : Nat) (bs : Nat) (Qr : xb_H → Prop) (Qt : String → xb_H → Prop) (hw : w_Reader_readExport x0 h bc bs Qr Qt) : xt_Met l y_Reader_readExport [.code y_Reader_readExport b_Reader_readExport 4 none] (xb_rm 5 bc bs) (xb_Pc D A σ h [.ref x0]) (xb_Qc D A h (fun v h => v = none ∧ Qr h) Qt) bc bs A := by
  refine xb_ofAm (cc := b_Reader_readExport) (by decide) (Nat.le_of_ble_eq_true rfl) ?_
  unfold w_Reader_readExport at hw
  show xb_am l D A σ 5 bc bs h (fun v h => v = none ∧ Qr h) Qt y_Reader_readExport.cls y_Reader_readExport.name b_Reader_readExport 4 ([] : List ExceptionTableEntry) none 0 [(0, .ref x0)] [] h bc bs
  obtain ⟨MC, hMC⟩ : ∃ x, x = bc := ⟨_, rfl⟩
  obtain ⟨MS, hMS⟩ : ∃ x, x = bs := ⟨_, rfl⟩
  rw [show xb_am l D A σ 5 bc bs = xb_am l D A σ 5 MC MS by rw [hMC, hMS]]
  obtain ⟨h0, hh0⟩ : ∃ x, x = h := ⟨_, rfl⟩
  rw [show xb_am l D A σ 5 MC MS h = xb_am l D A σ 5 MC MS h0 by rw [hh0]]
  intro p e s m args below meth c hC H locs ls k n hE hl hR hS hk hn
  obtain ⟨hx, hb, hown, hlocks, htab, hml, hr, hB, hA, hnm⟩ := id hC
  have hts := hB.1.1.at args
  refine lv_aload_n hx hb (xb_d D_Reader_readExport 0 rfl) rfl (lv_at hl 0 rfl) ?_
  obtain ⟨hk1, hw⟩ := hw
  refine xb_getI (C := R_Reader) (T := F_Reader) (N := 6) hx hb 3 3 hts fin_Reader hown hR hk1 (by decide) rfl (by decide) rfl (hts _ m_a9b84ac2) (fun _ h9 => h9) (xb_d D_Reader_readExport 1 rfl) ?_
  obtain ⟨v2, ev2⟩ : ∃ x : Int32, x = (xb_i h x0 3) := ⟨_, rfl⟩
  have hw := hw v2 ev2
  refine xt_numi (y := v2) ev2.symm ?_
  refine lv_istore_n hx hb (xb_d D_Reader_readExport 2 rfl) rfl hl (by decide) rfl (fun ls hl => ?_)
  have hl : lv_has ls 4 [(1, .int v2), (0, .ref x0)] := hl
  refine lv_aload_n hx hb (xb_d D_Reader_readExport 3 rfl) rfl (lv_at hl 1 rfl) ?_
  obtain ⟨c5, sc5, hlc5, hlsc5, hw⟩ := hw
  refine xb_call (D := D) (A := A) (σ := σ) (h := h) (d := 4) (mc := c5) (ms := sc5) (maxL := 5) (rest := []) (av := [.ref x0]) (fun T hT X => by obtain ⟨cb, r1, r2, r3⟩ := xb_recv (ci := 3) hR rfl hk1 (by decide); exact xt_invV X hx hown (hts _ m_fae64a5e) (hts _ m_a35a3722) (hts _ m_7a3ebdc0) (xt_sigOf (hts _ m_76a677e7)) nm_Reader_readName (by rw [hT]; exact r1) r2 r3 (g := F0 m 6 ls [.ref x0]) rfl (argsL := []) (rest := []) rfl rfl (by rw [hb]; exact (xb_d D_Reader_readExport 4 rfl))) (ok_Reader_readName l hfl D A σ x0 h c5 sc5 _ _ hw) (hml.trans hl.1.symm) (by rw [hb]; exact (xb_d D_Reader_readExport 4 rfl)) (Nat.le_of_ble_eq_true rfl) (Nat.le_of_ble_eq_true rfl) (Nat.le_of_ble_eq_true rfl) (show k + c5 ≤ MC by omega) (show n + sc5 ≤ MS by omega) (xt_w1 hB.1 m_76a677e7) (xt_cdOf hB.1 m_76a677e7) (hts _ m_938fcec4) hB hR hS hA (fun vv h3 H locs hq hEh3 hR hS => ?_) (fun XX ax h3 H locs hq hEh3 hex hR hS => ?_)
  · obtain ⟨r4, rfl, hw⟩ := hq
    have hw := hw hEh3
    have hE := hE.tr hEh3
    refine W.eq (g2 := F0 m 9 ls [.int r4]) rfl ?_
    refine lv_istore_n hx hb (xb_d D_Reader_readExport 5 rfl) rfl hl (by decide) rfl (fun ls hl => ?_)
    have hl : lv_has ls 4 [(2, .int r4), (1, .int v2), (0, .ref x0)] := hl
    refine lv_aload_n hx hb (xb_d D_Reader_readExport 6 rfl) rfl (lv_at hl 2 rfl) ?_
    have hk1 : xb_k h3 x0 = 4 := hEh3.k hk1
    refine xb_getI (C := R_Reader) (T := F_Reader) (N := 6) hx hb 3 3 hts fin_Reader hown hR hk1 (by decide) rfl (by decide) rfl (hts _ m_a9b84ac2) (fun _ h9 => h9) (xb_d D_Reader_readExport 7 rfl) ?_
    refine lv_iload_n hx hb (xb_d D_Reader_readExport 8 rfl) rfl (lv_at hl 0 rfl) ?_
    refine lv_isub hx hb (xb_d D_Reader_readExport 9 rfl) ?_
    obtain ⟨v6, ev6⟩ : ∃ x : Int32, x = ((xb_i h3 x0 3) - r4) := ⟨_, rfl⟩
    have hw := hw v6 ev6
    refine xt_numi (y := v6) ev6.symm ?_
    refine lv_istore_n hx hb (xb_d D_Reader_readExport 10 rfl) rfl hl (by decide) rfl (fun ls hl => ?_)
    have hl : lv_has ls 4 [(3, .int v6), (2, .int r4), (1, .int v2), (0, .ref x0)] := hl
    refine lv_aload_n hx hb (xb_d D_Reader_readExport 11 rfl) rfl (lv_at hl 3 rfl) ?_
    refine xb_getP (C := R_Reader) (T := F_Reader) (N := 6) hx hb 3 0 hts fin_Reader hown hR hk1 (by decide) rfl (by decide) rfl (hts _ m_76d8349c) (fun _ h9 => h9) (xb_d D_Reader_readExport 12 rfl) ?_
    obtain ⟨b7, eb7, hw⟩ := hw
    refine xb_some eb7 ?_
    obtain ⟨hk8, hw⟩ := hw
    refine xb_getP (C := R_StackModule) (T := F_StackModule) (N := 19) hx hb 2 8 hts fin_StackModule hown hR hk8 (by decide) rfl (by decide) rfl (hts _ m_210c6cf2) (fun _ h9 => h9) (xb_d D_Reader_readExport 13 rfl) ?_
    obtain ⟨b9, eb9, hw⟩ := hw
    refine xb_some eb9 ?_
    refine lv_iload_n hx hb (xb_d D_Reader_readExport 14 rfl) rfl (lv_at hl 2 rfl) ?_
    refine lv_i2l hx hb (xb_d D_Reader_readExport 15 rfl) rfl ?_
    obtain ⟨hk10, hw⟩ := hw
    obtain ⟨c13, sc13, hlc13, hlsc13, hw⟩ := hw
    refine xb_call (D := D) (A := A) (σ := σ) (h := h3) (d := 4) (mc := c13) (ms := sc13) (maxL := 3) (rest := []) (av := [.ref b9, .long (Int32.toInt64 v2)]) (fun T hT X => by obtain ⟨cb, r1, r2, r3⟩ := xb_recv (ci := 1) hR rfl hk10 (by decide); exact xt_invV X hx hown (hts _ m_da067afc) (hts _ m_7e8d081f) (hts _ m_4e47f51a) (xt_sigOf (hts _ m_4f1bdc54)) nm_Row_add (by rw [hT]; exact r1) r2 r3 (g := F0 m 26 ls [.long (Int32.toInt64 v2), .ref b9]) rfl (argsL := [.long (Int32.toInt64 v2)]) (rest := []) rfl rfl (by rw [hb]; exact (xb_d D_Reader_readExport 16 rfl))) (ok_Row_add l hfl D A σ b9 (Int32.toInt64 v2) h3 c13 sc13 _ hw) (hml.trans hl.1.symm) (by rw [hb]; exact (xb_d D_Reader_readExport 16 rfl)) (Nat.le_of_ble_eq_true rfl) (Nat.le_of_ble_eq_true rfl) (Nat.le_of_ble_eq_true rfl) (show (k + c5) + c13 ≤ MC by omega) (show (n + sc5) + sc13 ≤ MS by omega) (xt_w1 hB.1 m_4f1bdc54) (xt_cdOf hB.1 m_4f1bdc54) (hts _ m_c1bef504) hB hR hS hA (fun vv h11 H locs hq hEh11 hR hS => ?_) (fun XX ax h11 H locs hq hEh11 hex hR hS => ?_)
    · obtain ⟨rfl, hw⟩ := hq
      have hw := hw hEh11
      have hE := hE.tr hEh11
      refine W.eq (g2 := F0 m 29 ls []) rfl ?_
      refine lv_aload_n hx hb (xb_d D_Reader_readExport 17 rfl) rfl (lv_at hl 3 rfl) ?_
      have hk1 : xb_k h11 x0 = 4 := hEh11.k hk1
      refine xb_getP (C := R_Reader) (T := F_Reader) (N := 6) hx hb 3 0 hts fin_Reader hown hR hk1 (by decide) rfl (by decide) rfl (hts _ m_76d8349c) (fun _ h9 => h9) (xb_d D_Reader_readExport 18 rfl) ?_
      obtain ⟨b14, eb14, hw⟩ := hw
      refine xb_some eb14 ?_
      obtain ⟨hk15, hw⟩ := hw
      refine xb_getP (C := R_StackModule) (T := F_StackModule) (N := 19) hx hb 2 8 hts fin_StackModule hown hR hk15 (by decide) rfl (by decide) rfl (hts _ m_210c6cf2) (fun _ h9 => h9) (xb_d D_Reader_readExport 19 rfl) ?_
      obtain ⟨b16, eb16, hw⟩ := hw
      refine xb_some eb16 ?_
      refine lv_aload_n hx hb (xb_d D_Reader_readExport 20 rfl) rfl (lv_at hl 3 rfl) ?_
      refine lv_iconst (v := 3) hx hb (xb_d D_Reader_readExport 21 rfl) (by decide) ?_
      obtain ⟨c19, sc19, hlc19, hlsc19, hw⟩ := hw
      refine xb_call (D := D) (A := A) (σ := σ) (h := h11) (d := 4) (mc := c19) (ms := sc19) (maxL := 3) (rest := [.ref b16]) (av := [.ref x0, .int 3]) (fun T hT X => by obtain ⟨cb, r1, r2, r3⟩ := xb_recv (ci := 3) hR rfl hk1 (by decide); exact xt_invV X hx hown (hts _ m_13cda130) (hts _ m_a9ff337d) (hts _ m_af3157e6) (xt_sigOf (hts _ m_8a19f6ff)) nm_Reader_byteUpTo (by rw [hT]; exact r1) r2 r3 (g := F0 m 38 ls [.int 3, .ref x0, .ref b16]) rfl (argsL := [.int 3]) (rest := [.ref b16]) rfl rfl (by rw [hb]; exact (xb_d D_Reader_readExport 22 rfl))) (ok_Reader_byteUpTo l hfl D A σ x0 3 h11 c19 sc19 _ _ hw) (hml.trans hl.1.symm) (by rw [hb]; exact (xb_d D_Reader_readExport 22 rfl)) (Nat.le_of_ble_eq_true rfl) (Nat.le_of_ble_eq_true rfl) (Nat.le_of_ble_eq_true rfl) (show ((k + c5) + c13) + c19 ≤ MC by omega) (show ((n + sc5) + sc13) + sc19 ≤ MS by omega) (xt_w1 hB.1 m_8a19f6ff) (xt_cdOf hB.1 m_8a19f6ff) (hts _ m_938fcec4) hB hR hS hA (fun vv h17 H locs hq hEh17 hR hS => ?_) (fun XX ax h17 H locs hq hEh17 hex hR hS => ?_)
      · obtain ⟨r18, rfl, hw⟩ := hq
        have hw := hw hEh17
        have hE := hE.tr hEh17
        refine W.eq (g2 := F0 m 41 ls [.int r18, .ref b16]) rfl ?_
        refine lv_i2l hx hb (xb_d D_Reader_readExport 23 rfl) rfl ?_
        obtain ⟨hk20, hw⟩ := hw
        obtain ⟨c23, sc23, hlc23, hlsc23, hw⟩ := hw
        refine xb_call (D := D) (A := A) (σ := σ) (h := h17) (d := 4) (mc := c23) (ms := sc23) (maxL := 3) (rest := []) (av := [.ref b16, .long (Int32.toInt64 r18)]) (fun T hT X => by obtain ⟨cb, r1, r2, r3⟩ := xb_recv (ci := 1) hR rfl hk20 (by decide); exact xt_invV X hx hown (hts _ m_da067afc) (hts _ m_7e8d081f) (hts _ m_4e47f51a) (xt_sigOf (hts _ m_4f1bdc54)) nm_Row_add (by rw [hT]; exact r1) r2 r3 (g := F0 m 42 ls [.long (Int32.toInt64 r18), .ref b16]) rfl (argsL := [.long (Int32.toInt64 r18)]) (rest := []) rfl rfl (by rw [hb]; exact (xb_d D_Reader_readExport 24 rfl))) (ok_Row_add l hfl D A σ b16 (Int32.toInt64 r18) h17 c23 sc23 _ hw) (hml.trans hl.1.symm) (by rw [hb]; exact (xb_d D_Reader_readExport 24 rfl)) (Nat.le_of_ble_eq_true rfl) (Nat.le_of_ble_eq_true rfl) (Nat.le_of_ble_eq_true rfl) (show (((k + c5) + c13) + c19) + c23 ≤ MC by omega) (show (((n + sc5) + sc13) + sc19) + sc23 ≤ MS by omega) (xt_w1 hB.1 m_4f1bdc54) (xt_cdOf hB.1 m_4f1bdc54) (hts _ m_c1bef504) hB hR hS hA (fun vv h21 H locs hq hEh21 hR hS => ?_) (fun XX ax h21 H locs hq hEh21 hex hR hS => ?_)
        · obtain ⟨rfl, hw⟩ := hq
          have hw := hw hEh21
          have hE := hE.tr hEh21
          refine W.eq (g2 := F0 m 45 ls []) rfl ?_
          refine lv_aload_n hx hb (xb_d D_Reader_readExport 25 rfl) rfl (lv_at hl 3 rfl) ?_
          have hk1 : xb_k h17 x0 = 4 := hEh17.k hk1
          have hk1 : xb_k h21 x0 = 4 := hEh21.k hk1
          refine xb_getP (C := R_Reader) (T := F_Reader) (N := 6) hx hb 3 0 hts fin_Reader hown hR hk1 (by decide) rfl (by decide) rfl (hts _ m_76d8349c) (fun _ h9 => h9) (xb_d D_Reader_readExport 26 rfl) ?_
          obtain ⟨b24, eb24, hw⟩ := hw
          refine xb_some eb24 ?_
          obtain ⟨hk25, hw⟩ := hw
          refine xb_getP (C := R_StackModule) (T := F_StackModule) (N := 19) hx hb 2 8 hts fin_StackModule hown hR hk25 (by decide) rfl (by decide) rfl (hts _ m_210c6cf2) (fun _ h9 => h9) (xb_d D_Reader_readExport 27 rfl) ?_
          obtain ⟨b26, eb26, hw⟩ := hw
          refine xb_some eb26 ?_
          refine lv_aload_n hx hb (xb_d D_Reader_readExport 28 rfl) rfl (lv_at hl 3 rfl) ?_
          obtain ⟨c29, sc29, hlc29, hlsc29, hw⟩ := hw
          refine xb_call (D := D) (A := A) (σ := σ) (h := h21) (d := 3) (mc := c29) (ms := sc29) (maxL := 4) (rest := [.ref b26]) (av := [.ref x0]) (fun T hT X => by obtain ⟨cb, r1, r2, r3⟩ := xb_recv (ci := 3) hR rfl hk1 (by decide); exact xt_invV X hx hown (hts _ m_2c379b4d) (hts _ m_a120e786) (hts _ m_e903c73e) (xt_sigOf (hts _ m_99690a98)) nm_Reader_count (by rw [hT]; exact r1) r2 r3 (g := F0 m 53 ls [.ref x0, .ref b26]) rfl (argsL := []) (rest := [.ref b26]) rfl rfl (by rw [hb]; exact (xb_d D_Reader_readExport 29 rfl))) (ok_Reader_count l hfl D A σ x0 h21 c29 sc29 _ _ hw) (hml.trans hl.1.symm) (by rw [hb]; exact (xb_d D_Reader_readExport 29 rfl)) (Nat.le_of_ble_eq_true rfl) (Nat.le_of_ble_eq_true rfl) (Nat.le_of_ble_eq_true rfl) (show ((((k + c5) + c13) + c19) + c23) + c29 ≤ MC by omega) (show ((((n + sc5) + sc13) + sc19) + sc23) + sc29 ≤ MS by omega) (xt_w1 hB.1 m_99690a98) (xt_cdOf hB.1 m_99690a98) (hts _ m_938fcec4) hB hR hS hA (fun vv h27 H locs hq hEh27 hR hS => ?_) (fun XX ax h27 H locs hq hEh27 hex hR hS => ?_)
          · obtain ⟨r28, rfl, hw⟩ := hq
            have hw := hw hEh27
            have hE := hE.tr hEh27
            refine W.eq (g2 := F0 m 56 ls [.int r28, .ref b26]) rfl ?_
            refine lv_i2l hx hb (xb_d D_Reader_readExport 30 rfl) rfl ?_
            refine lv_ldc2 (v := 4294967295) hx hb hown (hts _ m_687f726b) (xb_d D_Reader_readExport 31 rfl) ?_
            refine lv_land hx hb (xb_d D_Reader_readExport 32 rfl) ?_
            obtain ⟨hk30, hw⟩ := hw
            obtain ⟨c33, sc33, hlc33, hlsc33, hw⟩ := hw
            refine xb_call (D := D) (A := A) (σ := σ) (h := h27) (d := 4) (mc := c33) (ms := sc33) (maxL := 3) (rest := []) (av := [.ref b26, .long ((Int32.toInt64 r28) &&& 4294967295)]) (fun T hT X => by obtain ⟨cb, r1, r2, r3⟩ := xb_recv (ci := 1) hR rfl hk30 (by decide); exact xt_invV X hx hown (hts _ m_da067afc) (hts _ m_7e8d081f) (hts _ m_4e47f51a) (xt_sigOf (hts _ m_4f1bdc54)) nm_Row_add (by rw [hT]; exact r1) r2 r3 (g := F0 m 61 ls [.long ((Int32.toInt64 r28) &&& 4294967295), .ref b26]) rfl (argsL := [.long ((Int32.toInt64 r28) &&& 4294967295)]) (rest := []) rfl rfl (by rw [hb]; exact (xb_d D_Reader_readExport 33 rfl))) (ok_Row_add l hfl D A σ b26 ((Int32.toInt64 r28) &&& 4294967295) h27 c33 sc33 _ hw) (hml.trans hl.1.symm) (by rw [hb]; exact (xb_d D_Reader_readExport 33 rfl)) (Nat.le_of_ble_eq_true rfl) (Nat.le_of_ble_eq_true rfl) (Nat.le_of_ble_eq_true rfl) (show (((((k + c5) + c13) + c19) + c23) + c29) + c33 ≤ MC by omega) (show (((((n + sc5) + sc13) + sc19) + sc23) + sc29) + sc33 ≤ MS by omega) (xt_w1 hB.1 m_4f1bdc54) (xt_cdOf hB.1 m_4f1bdc54) (hts _ m_c1bef504) hB hR hS hA (fun vv h31 H locs hq hEh31 hR hS => ?_) (fun XX ax h31 H locs hq hEh31 hex hR hS => ?_)
            · obtain ⟨rfl, hw⟩ := hq
              have hw := hw hEh31
              have hE := hE.tr hEh31
              refine W.eq (g2 := F0 m 64 ls []) rfl ?_
              refine lv_aload_n hx hb (xb_d D_Reader_readExport 34 rfl) rfl (lv_at hl 3 rfl) ?_
              have hk1 : xb_k h27 x0 = 4 := hEh27.k hk1
              have hk1 : xb_k h31 x0 = 4 := hEh31.k hk1
              refine xb_getP (C := R_Reader) (T := F_Reader) (N := 6) hx hb 3 0 hts fin_Reader hown hR hk1 (by decide) rfl (by decide) rfl (hts _ m_76d8349c) (fun _ h9 => h9) (xb_d D_Reader_readExport 35 rfl) ?_
              obtain ⟨b34, eb34, hw⟩ := hw
              refine xb_some eb34 ?_
              obtain ⟨hk35, hw⟩ := hw
              refine xb_getP (C := R_StackModule) (T := F_StackModule) (N := 19) hx hb 2 8 hts fin_StackModule hown hR hk35 (by decide) rfl (by decide) rfl (hts _ m_210c6cf2) (fun _ h9 => h9) (xb_d D_Reader_readExport 36 rfl) ?_
              obtain ⟨b36, eb36, hw⟩ := hw
              refine xb_some eb36 ?_
              refine lv_iload_n hx hb (xb_d D_Reader_readExport 37 rfl) rfl (lv_at hl 0 rfl) ?_
              refine lv_i2l hx hb (xb_d D_Reader_readExport 38 rfl) rfl ?_
              obtain ⟨hk37, hw⟩ := hw
              obtain ⟨c40, sc40, hlc40, hlsc40, hw⟩ := hw
              refine xb_call (D := D) (A := A) (σ := σ) (h := h31) (d := 4) (mc := c40) (ms := sc40) (maxL := 3) (rest := []) (av := [.ref b36, .long (Int32.toInt64 v6)]) (fun T hT X => by obtain ⟨cb, r1, r2, r3⟩ := xb_recv (ci := 1) hR rfl hk37 (by decide); exact xt_invV X hx hown (hts _ m_da067afc) (hts _ m_7e8d081f) (hts _ m_4e47f51a) (xt_sigOf (hts _ m_4f1bdc54)) nm_Row_add (by rw [hT]; exact r1) r2 r3 (g := F0 m 73 ls [.long (Int32.toInt64 v6), .ref b36]) rfl (argsL := [.long (Int32.toInt64 v6)]) (rest := []) rfl rfl (by rw [hb]; exact (xb_d D_Reader_readExport 39 rfl))) (ok_Row_add l hfl D A σ b36 (Int32.toInt64 v6) h31 c40 sc40 _ hw) (hml.trans hl.1.symm) (by rw [hb]; exact (xb_d D_Reader_readExport 39 rfl)) (Nat.le_of_ble_eq_true rfl) (Nat.le_of_ble_eq_true rfl) (Nat.le_of_ble_eq_true rfl) (show ((((((k + c5) + c13) + c19) + c23) + c29) + c33) + c40 ≤ MC by omega) (show ((((((n + sc5) + sc13) + sc19) + sc23) + sc29) + sc33) + sc40 ≤ MS by omega) (xt_w1 hB.1 m_4f1bdc54) (xt_cdOf hB.1 m_4f1bdc54) (hts _ m_c1bef504) hB hR hS hA (fun vv h38 H locs hq hEh38 hR hS => ?_) (fun XX ax h38 H locs hq hEh38 hex hR hS => ?_)
              · obtain ⟨rfl, hw⟩ := hq
                have hw := hw hEh38
                have hE := hE.tr hEh38
                refine W.eq (g2 := F0 m 76 ls []) rfl ?_
                refine lv_aload_n hx hb (xb_d D_Reader_readExport 40 rfl) rfl (lv_at hl 3 rfl) ?_
                have hk1 : xb_k h38 x0 = 4 := hEh38.k hk1
                refine xb_getP (C := R_Reader) (T := F_Reader) (N := 6) hx hb 3 0 hts fin_Reader hown hR hk1 (by decide) rfl (by decide) rfl (hts _ m_76d8349c) (fun _ h9 => h9) (xb_d D_Reader_readExport 41 rfl) ?_
                obtain ⟨b41, eb41, hw⟩ := hw
                refine xb_some eb41 ?_
                obtain ⟨hk42, hw⟩ := hw
                refine xb_getP (C := R_StackModule) (T := F_StackModule) (N := 19) hx hb 2 8 hts fin_StackModule hown hR hk42 (by decide) rfl (by decide) rfl (hts _ m_210c6cf2) (fun _ h9 => h9) (xb_d D_Reader_readExport 42 rfl) ?_
                obtain ⟨b43, eb43, hw⟩ := hw
                refine xb_some eb43 ?_
                refine lv_iload_n hx hb (xb_d D_Reader_readExport 43 rfl) rfl (lv_at hl 1 rfl) ?_
                refine lv_i2l hx hb (xb_d D_Reader_readExport 44 rfl) rfl ?_
                obtain ⟨hk44, hw⟩ := hw
                obtain ⟨c47, sc47, hlc47, hlsc47, hw⟩ := hw
                refine xb_call (D := D) (A := A) (σ := σ) (h := h38) (d := 4) (mc := c47) (ms := sc47) (maxL := 3) (rest := []) (av := [.ref b43, .long (Int32.toInt64 r4)]) (fun T hT X => by obtain ⟨cb, r1, r2, r3⟩ := xb_recv (ci := 1) hR rfl hk44 (by decide); exact xt_invV X hx hown (hts _ m_da067afc) (hts _ m_7e8d081f) (hts _ m_4e47f51a) (xt_sigOf (hts _ m_4f1bdc54)) nm_Row_add (by rw [hT]; exact r1) r2 r3 (g := F0 m 85 ls [.long (Int32.toInt64 r4), .ref b43]) rfl (argsL := [.long (Int32.toInt64 r4)]) (rest := []) rfl rfl (by rw [hb]; exact (xb_d D_Reader_readExport 45 rfl))) (ok_Row_add l hfl D A σ b43 (Int32.toInt64 r4) h38 c47 sc47 _ hw) (hml.trans hl.1.symm) (by rw [hb]; exact (xb_d D_Reader_readExport 45 rfl)) (Nat.le_of_ble_eq_true rfl) (Nat.le_of_ble_eq_true rfl) (Nat.le_of_ble_eq_true rfl) (show (((((((k + c5) + c13) + c19) + c23) + c29) + c33) + c40) + c47 ≤ MC by omega) (show (((((((n + sc5) + sc13) + sc19) + sc23) + sc29) + sc33) + sc40) + sc47 ≤ MS by omega) (xt_w1 hB.1 m_4f1bdc54) (xt_cdOf hB.1 m_4f1bdc54) (hts _ m_c1bef504) hB hR hS hA (fun vv h45 H locs hq hEh45 hR hS => ?_) (fun XX ax h45 H locs hq hEh45 hex hR hS => ?_)
                · obtain ⟨rfl, hw⟩ := hq
                  have hw := hw hEh45
                  have hE := hE.tr hEh45
                  refine W.eq (g2 := F0 m 88 ls []) rfl ?_
                  exact xb_vret hx hb hr hlocks (show ((((((((k + c5) + c13) + c19) + c23) + c29) + c33) + c40) + c47) ≤ MC by omega) (show ((((((((n + sc5) + sc13) + sc19) + sc23) + sc29) + sc33) + sc40) + sc47) ≤ MS by omega) hE hR hS (xb_d D_Reader_readExport 46 rfl) hw
                · exact False.elim hq
              · exact False.elim hq
            · exact False.elim hq
          · exact xb_pass hlocks (fun x hx9 => by rw [htab] at hx9; first | cases hx9 | (simp [tableOf] at hx9; rcases hx9 with rfl | rfl | rfl <;> decide)) (show (((((k + c5) + c13) + c19) + c23) + c29) ≤ MC by omega) (show (((((n + sc5) + sc13) + sc19) + sc23) + sc29) ≤ MS by omega) (hE.tr hEh27) hR hS hex hq
        · exact False.elim hq
      · exact xb_pass hlocks (fun x hx9 => by rw [htab] at hx9; first | cases hx9 | (simp [tableOf] at hx9; rcases hx9 with rfl | rfl | rfl <;> decide)) (show (((k + c5) + c13) + c19) ≤ MC by omega) (show (((n + sc5) + sc13) + sc19) ≤ MS by omega) (hE.tr hEh17) hR hS hex hq
    · exact False.elim hq
  · exact xb_pass hlocks (fun x hx9 => by rw [htab] at hx9; first | cases hx9 | (simp [tableOf] at hx9; rcases hx9 with rfl | rfl | rfl <;> decide)) (show (k + c5) ≤ MC by omega) (show (n + sc5) ≤ MS by omega) (hE.tr hEh3) hR hS hex hq

theorem m_e06d2664 : (.methodLink "StackHost$Reader" 202 y_Reader_readOperands : Cond) ∈ xt_tbl := xt_in (xt_t4 (List.mem_of_getElem? (i := 46) (by decide +kernel))) (by decide +kernel)
theorem m_cfbd3d48 : (.instanceMethod y_Reader_readOperands : Cond) ∈ xt_tbl := xt_in (xt_t4 (List.mem_of_getElem? (i := 48) (by decide +kernel))) (by decide +kernel)
theorem m_19da9dc0 : (.selects "StackHost$Reader" y_Reader_readOperands y_Reader_readOperands : Cond) ∈ xt_tbl := xt_in (xt_v2 (q := (⟨"StackHost$Reader", "readOperands", "(II)V"⟩, 6)) (List.mem_of_getElem? (i := 7) (by decide +kernel))) (by decide +kernel)
theorem m_1e444f2f : (.code y_Reader_readOperands b_Reader_readOperands 3 none : Cond) ∈ xt_tbl := xt_in (xt_t4 (List.mem_of_getElem? (i := 49) (by decide +kernel))) (by decide +kernel)
theorem m_eafa26a3 : (.methodLink "StackHost$Reader" 195 y_Reader_noteEnd : Cond) ∈ xt_tbl := xt_in (xt_t4 (List.mem_of_getElem? (i := 38) (by decide +kernel))) (by decide +kernel)
theorem m_7e950427 : (.instanceMethod y_Reader_noteEnd : Cond) ∈ xt_tbl := xt_in (xt_t4 (List.mem_of_getElem? (i := 40) (by decide +kernel))) (by decide +kernel)
theorem m_26d65e0c : (.selects "StackHost$Reader" y_Reader_noteEnd y_Reader_noteEnd : Cond) ∈ xt_tbl := xt_in (xt_v2 (q := (⟨"StackHost$Reader", "noteEnd", "(ZII)V"⟩, 6)) (List.mem_of_getElem? (i := 5) (by decide +kernel))) (by decide +kernel)
theorem m_4a7636ea : (.code y_Reader_noteEnd b_Reader_noteEnd 4 none : Cond) ∈ xt_tbl := xt_in (xt_t4 (List.mem_of_getElem? (i := 41) (by decide +kernel))) (by decide +kernel)
theorem m_c3fc1204 : (.methodLink "StackHost$Reader" 192 y_Reader_readBlockType : Cond) ∈ xt_tbl := xt_in (xt_t4 (List.mem_of_getElem? (i := 34) (by decide +kernel))) (by decide +kernel)
theorem m_3c8075b3 : (.instanceMethod y_Reader_readBlockType : Cond) ∈ xt_tbl := xt_in (xt_t4 (List.mem_of_getElem? (i := 36) (by decide +kernel))) (by decide +kernel)
theorem m_5188d847 : (.selects "StackHost$Reader" y_Reader_readBlockType y_Reader_readBlockType : Cond) ∈ xt_tbl := xt_in (xt_v2 (q := (⟨"StackHost$Reader", "readBlockType", "()V"⟩, 6)) (List.mem_of_getElem? (i := 4) (by decide +kernel))) (by decide +kernel)
theorem m_228ea694 : (.code y_Reader_readBlockType b_Reader_readBlockType 2 none : Cond) ∈ xt_tbl := xt_in (xt_t4 (List.mem_of_getElem? (i := 37) (by decide +kernel))) (by decide +kernel)
theorem m_c4c6444a : (.methodLink "StackHost$Reader" 189 y_Reader_shapeOf : Cond) ∈ xt_tbl := xt_in (xt_t4 (List.mem_of_getElem? (i := 31) (by decide +kernel))) (by decide +kernel)
theorem m_95810fc2 : (.methodLink "StackHost$Reader" 199 y_Reader_readLabels : Cond) ∈ xt_tbl := xt_in (xt_t4 (List.mem_of_getElem? (i := 42) (by decide +kernel))) (by decide +kernel)
theorem m_49502e7a : (.instanceMethod y_Reader_readLabels : Cond) ∈ xt_tbl := xt_in (xt_t4 (List.mem_of_getElem? (i := 44) (by decide +kernel))) (by decide +kernel)
theorem m_121695c3 : (.selects "StackHost$Reader" y_Reader_readLabels y_Reader_readLabels : Cond) ∈ xt_tbl := xt_in (xt_v2 (q := (⟨"StackHost$Reader", "readLabels", "(I)V"⟩, 6)) (List.mem_of_getElem? (i := 6) (by decide +kernel))) (by decide +kernel)
theorem m_75b212be : (.code y_Reader_readLabels b_Reader_readLabels 6 none : Cond) ∈ xt_tbl := xt_in (xt_t4 (List.mem_of_getElem? (i := 45) (by decide +kernel))) (by decide +kernel)
theorem nm_Reader_readOperands : xt_nm y_Reader_readOperands 2 := ⟨by decide +kernel, by decide +kernel⟩
theorem nm_Reader_noteEnd : xt_nm y_Reader_noteEnd 3 := ⟨by decide +kernel, by decide +kernel⟩
theorem nm_Reader_readBlockType : xt_nm y_Reader_readBlockType 0 := ⟨by decide +kernel, by decide +kernel⟩
theorem nm_Reader_readLabels : xt_nm y_Reader_readLabels 1 := ⟨by decide +kernel, by decide +kernel⟩
set_option maxRecDepth 100000 in
def T_Reader_readExpression : List (Nat × Instr × Nat) := [(0, .iconst 0, 1), (1, .istore_n 1, 1), (2, .iconst 0, 1), (3, .istore_n 2, 1), (4, .iconst 0, 1), (5, .istore_n 3, 1), (6, .iload_n 3, 1), (7, .aload_n 0, 1), (8, .getfield 25, 3), (11, .arraylength, 1), (12, .if_icmp .ge 221, 3), (15, .iload_n 2, 1), (16, .ifCond .ne 217, 3), (19, .aload_n 0, 1), (20, .getfield 41, 3), (23, .istore 4, 2), (25, .aload_n 0, 1), (26, .invokevirtual 122, 3), (29, .invokestatic 189, 3), (32, .istore 5, 2), (34, .iload 5, 2), (36, .tableswitch 183 0 5 #[180, 40, 76, 137, 183, 171], 40), (76, .iload_n 1, 1), (77, .sipush 200, 3), (80, .if_icmp .ne 14, 3), (83, .aload_n 0, 1), (84, .getfield 15, 3), (87, .bipush 10, 2), (89, .iload 4, 2), (91, .invokevirtual 37, 3), (94, .aload_n 0, 1), (95, .invokevirtual 192, 3), (98, .aload_n 0, 1), (99, .getfield 9, 3), (102, .iload_n 1, 1), (103, .iload 4, 2), (105, .iastore, 1), (106, .iinc 1 1, 3), (109, .goto 118, 3), (112, .iload_n 1, 1), (113, .ifCond .eq 20, 3), (116, .aload_n 0, 1), (117, .getfield 25, 3), (120, .aload_n 0, 1), (121, .getfield 9, 3), (124, .iload_n 1, 1), (125, .iconst 1, 1), (126, .isub, 1), (127, .iaload, 1), (128, .baload, 1), (129, .iconst 4, 1), (130, .if_icmp .eq 13, 3), (133, .aload_n 0, 1), (134, .getfield 15, 3), (137, .iconst 5, 1), (138, .iload 4, 2), (140, .invokevirtual 37, 3), (143, .aload_n 0, 1), (144, .getfield 29, 3), (147, .aload_n 0, 1), (148, .getfield 9, 3), (151, .iload_n 1, 1), (152, .iconst 1, 1), (153, .isub, 1), (154, .iaload, 1), (155, .iconst 1, 1), (156, .iadd, 1), (157, .iload 4, 2), (159, .iastore, 1), (160, .aload_n 0, 1), (161, .getfield 9, 3), (164, .iload_n 1, 1), (165, .iconst 1, 1), (166, .isub, 1), (167, .iload 4, 2), (169, .iastore, 1), (170, .goto 57, 3), (173, .iload_n 1, 1), (174, .ifCond .ne 7, 3), (177, .iconst 1, 1), (178, .goto 4, 3), (181, .iconst 0, 1), (182, .istore_n 2, 1), (183, .iconst 0, 1), (184, .iload_n 1, 1), (185, .iconst 1, 1), (186, .isub, 1), (187, .invokestatic 44, 3), (190, .istore_n 1, 1), (191, .aload_n 0, 1), (192, .iload_n 2, 1), (193, .iload 4, 2), (195, .aload_n 0, 1), (196, .getfield 9, 3), (199, .iload_n 1, 1), (200, .iaload, 1), (201, .invokevirtual 195, 3), (204, .goto 23, 3), (207, .aload_n 0, 1), (208, .iload 4, 2), (210, .invokevirtual 199, 3), (213, .goto 14, 3), (216, .goto 11, 3), (219, .aload_n 0, 1), (220, .iload 5, 2), (222, .iload 4, 2), (224, .invokevirtual 202, 3), (227, .iinc 3 1, 3), (230, .goto (-224), 3), (233, .return_, 1)]
theorem D_Reader_readExpression : ∀ q ∈ T_Reader_readExpression, decode b_Reader_readExpression q.1 = .ok (q.2.1, q.2.2) := by decide +kernel
def w_Reader_readExpression_L233 (Qr : xb_H → Prop) (Qt : String → xb_H → Prop) (h : xb_H) (bc : Nat) (bs : Nat) : Prop :=
    Qr h

def w_Reader_readExpression_L227 (K6 : Nat → Int32 → Int32 → Int32 → xb_H → Nat → Nat → Prop) (Qr : xb_H → Prop) (Qt : String → xb_H → Prop) (x0 : Nat) (x1 : Int32) (x2 : Int32) (x3 : Int32) (h : xb_H) (bc : Nat) (bs : Nat) : Prop :=
    K6 x0 x1 x2 (x3 + 1) h bc bs

def w_Reader_readExpression_L219 (K6 : Nat → Int32 → Int32 → Int32 → xb_H → Nat → Nat → Prop) (Qr : xb_H → Prop) (Qt : String → xb_H → Prop) (x0 : Nat) (x1 : Int32) (x2 : Int32) (x3 : Int32) (x4 : Int32) (x5 : Int32) (h : xb_H) (bc : Nat) (bs : Nat) : Prop :=
    xb_k h x0 = 4 ∧ ∃ c4 sc4 : Nat, c4 ≤ bc ∧ sc4 ≤ bs ∧ w_Reader_readOperands x0 x5 x4 h c4 sc4 (fun (h2 : xb_H) => xb_ext h h2 → w_Reader_readExpression_L227 K6 Qr Qt x0 x1 x2 x3 h2 (bc - c4) (bs - sc4)) Qt

def w_Reader_readExpression_L182 (K6 : Nat → Int32 → Int32 → Int32 → xb_H → Nat → Nat → Prop) (Qr : xb_H → Prop) (Qt : String → xb_H → Prop) (x0 : Nat) (x1 : Int32) (x3 : Int32) (x4 : Int32) (y0 : Int32) (h : xb_H) (bc : Nat) (bs : Nat) : Prop :=
    ∀ v1 : Int32, v1 = (if 0 < (x1 - 1) then (x1 - 1) else 0) → xb_k h x0 = 4 ∧ ∃ b3 : Nat, (xb_r h x0 5) = some b3 ∧ xb_k h b3 = 102 ∧ vp_in v1 (xb_n h b3) ∧ w_Reader_noteEnd x0 y0 x4 (xb_i h b3 (Int32.toNatClampNeg v1)) h (fun (h6 : xb_H) => xb_ext h h6 → w_Reader_readExpression_L227 K6 Qr Qt x0 v1 y0 x3 h6 bc bs)

def w_Reader_readExpression_L143 (K6 : Nat → Int32 → Int32 → Int32 → xb_H → Nat → Nat → Prop) (Qr : xb_H → Prop) (Qt : String → xb_H → Prop) (x0 : Nat) (x1 : Int32) (x2 : Int32) (x3 : Int32) (x4 : Int32) (h : xb_H) (bc : Nat) (bs : Nat) : Prop :=
    xb_k h x0 = 4 ∧ ∃ b2 : Nat, (xb_r h x0 2) = some b2 ∧ ∃ b3 : Nat, (xb_r h x0 5) = some b3 ∧ xb_k h b3 = 102 ∧ vp_in (x1 - 1) (xb_n h b3) ∧ xb_k h b2 = 102 ∧ vp_in ((xb_i h b3 (Int32.toNatClampNeg (x1 - 1))) + 1) (xb_n h b2) ∧ ∀ h8 : xb_H, h8 = xb_I h b2 (Int32.toNatClampNeg ((xb_i h b3 (Int32.toNatClampNeg (x1 - 1))) + 1)) x4 → ∃ b9 : Nat, (xb_r h8 x0 5) = some b9 ∧ xb_k h8 b9 = 102 ∧ vp_in (x1 - 1) (xb_n h8 b9) ∧ ∀ h12 : xb_H, h12 = xb_I h8 b9 (Int32.toNatClampNeg (x1 - 1)) x4 → w_Reader_readExpression_L227 K6 Qr Qt x0 x1 x2 x3 h12 bc bs

def w_Reader_readExpression_L133 (K6 : Nat → Int32 → Int32 → Int32 → xb_H → Nat → Nat → Prop) (Qr : xb_H → Prop) (Qt : String → xb_H → Prop) (x0 : Nat) (x1 : Int32) (x2 : Int32) (x3 : Int32) (x4 : Int32) (h : xb_H) (bc : Nat) (bs : Nat) : Prop :=
    xb_k h x0 = 4 ∧ ∃ b2 : Nat, (xb_r h x0 0) = some b2 ∧ xb_k h b2 = 3 ∧ ∃ c6 sc6 : Nat, c6 ≤ bc ∧ sc6 ≤ bs ∧ w_StackModule_fail b2 5 x4 h c6 sc6 (fun (h4 : xb_H) => xb_ext h h4 → w_Reader_readExpression_L143 K6 Qr Qt x0 x1 x2 x3 x4 h4 (bc - c6) (bs - sc6)) Qt

def w_Reader_readExpression_L94 (K6 : Nat → Int32 → Int32 → Int32 → xb_H → Nat → Nat → Prop) (Qr : xb_H → Prop) (Qt : String → xb_H → Prop) (x0 : Nat) (x1 : Int32) (x2 : Int32) (x3 : Int32) (x4 : Int32) (h : xb_H) (bc : Nat) (bs : Nat) : Prop :=
    xb_k h x0 = 4 ∧ ∃ c4 sc4 : Nat, c4 ≤ bc ∧ sc4 ≤ bs ∧ w_Reader_readBlockType x0 h c4 sc4 (fun (h2 : xb_H) => xb_ext h h2 → ∃ b5 : Nat, (xb_r h2 x0 5) = some b5 ∧ xb_k h2 b5 = 102 ∧ vp_in x1 (xb_n h2 b5) ∧ ∀ h8 : xb_H, h8 = xb_I h2 b5 (Int32.toNatClampNeg x1) x4 → w_Reader_readExpression_L227 K6 Qr Qt x0 (x1 + 1) x2 x3 h8 (bc - c4) (bs - sc4)) Qt

def w_Reader_readExpression_L6 (Qr : xb_H → Prop) (Qt : String → xb_H → Prop) : Nat → Nat → Int32 → Int32 → Int32 → xb_H → Nat → Nat → Prop
  | 0, _, _, _, _, _, _, _ => False
  | n9 + 1, x0, x1, x2, x3, h, bc, bs =>
    xb_k h x0 = 4 ∧ ∃ b2 : Nat, (xb_r h x0 1) = some b2 ∧ xb_k h b2 = 100 ∧ (((nI (xb_n h b2)) ≤ x3 → w_Reader_readExpression_L233 Qr Qt h bc bs) ∧ (¬ (nI (xb_n h b2)) ≤ x3 → ((¬ x2 = (0 : Int32) → w_Reader_readExpression_L233 Qr Qt h bc bs) ∧ (x2 = (0 : Int32) → ∀ v6 : Int32, v6 = (xb_i h x0 3) → ∃ c9 sc9 : Nat, c9 ≤ bc ∧ sc9 ≤ bs ∧ w_Reader_nextByte x0 h c9 sc9 (fun (r8 : Int32) (h7 : xb_H) => xb_ext h h7 → w_Reader_shapeOf r8 h7 (fun (r11 : Int32) (h10 : xb_H) => xb_ext h7 h10 → ((r11 = 0 → w_Reader_readExpression_L227 (w_Reader_readExpression_L6 Qr Qt n9) Qr Qt x0 x1 x2 x3 h10 (bc - c9) (bs - sc9)) ∧ (r11 = 1 → ((¬ x1 = (200 : Int32) → w_Reader_readExpression_L94 (w_Reader_readExpression_L6 Qr Qt n9) Qr Qt x0 x1 x2 x3 v6 h10 (bc - c9) (bs - sc9)) ∧ (x1 = (200 : Int32) → ∃ b15 : Nat, (xb_r h10 x0 0) = some b15 ∧ xb_k h10 b15 = 3 ∧ ∃ c19 sc19 : Nat, c19 ≤ (bc - c9) ∧ sc19 ≤ (bs - sc9) ∧ w_StackModule_fail b15 10 v6 h10 c19 sc19 (fun (h17 : xb_H) => xb_ext h10 h17 → w_Reader_readExpression_L94 (w_Reader_readExpression_L6 Qr Qt n9) Qr Qt x0 x1 x2 x3 v6 h17 ((bc - c9) - c19) ((bs - sc9) - sc19)) Qt))) ∧ (r11 = 2 → ((x1 = (0 : Int32) → w_Reader_readExpression_L133 (w_Reader_readExpression_L6 Qr Qt n9) Qr Qt x0 x1 x2 x3 v6 h10 (bc - c9) (bs - sc9)) ∧ (¬ x1 = (0 : Int32) → ∃ b22 : Nat, (xb_r h10 x0 1) = some b22 ∧ ∃ b23 : Nat, (xb_r h10 x0 5) = some b23 ∧ xb_k h10 b23 = 102 ∧ vp_in (x1 - 1) (xb_n h10 b23) ∧ xb_k h10 b22 = 100 ∧ vp_in (xb_i h10 b23 (Int32.toNatClampNeg (x1 - 1))) (xb_n h10 b22) ∧ (((xb_i h10 b22 (Int32.toNatClampNeg (xb_i h10 b23 (Int32.toNatClampNeg (x1 - 1))))) = (4 : Int32) → w_Reader_readExpression_L143 (w_Reader_readExpression_L6 Qr Qt n9) Qr Qt x0 x1 x2 x3 v6 h10 (bc - c9) (bs - sc9)) ∧ (¬ (xb_i h10 b22 (Int32.toNatClampNeg (xb_i h10 b23 (Int32.toNatClampNeg (x1 - 1))))) = (4 : Int32) → w_Reader_readExpression_L133 (w_Reader_readExpression_L6 Qr Qt n9) Qr Qt x0 x1 x2 x3 v6 h10 (bc - c9) (bs - sc9)))))) ∧ (r11 = 3 → ((¬ x1 = (0 : Int32) → w_Reader_readExpression_L182 (w_Reader_readExpression_L6 Qr Qt n9) Qr Qt x0 x1 x3 v6 0 h10 (bc - c9) (bs - sc9)) ∧ (x1 = (0 : Int32) → w_Reader_readExpression_L182 (w_Reader_readExpression_L6 Qr Qt n9) Qr Qt x0 x1 x3 v6 1 h10 (bc - c9) (bs - sc9)))) ∧ (r11 = 4 → w_Reader_readExpression_L219 (w_Reader_readExpression_L6 Qr Qt n9) Qr Qt x0 x1 x2 x3 v6 r11 h10 (bc - c9) (bs - sc9)) ∧ (r11 = 5 → ∃ c35 sc35 : Nat, c35 ≤ (bc - c9) ∧ sc35 ≤ (bs - sc9) ∧ w_Reader_readLabels x0 v6 h10 c35 sc35 (fun (h33 : xb_H) => xb_ext h10 h33 → w_Reader_readExpression_L227 (w_Reader_readExpression_L6 Qr Qt n9) Qr Qt x0 x1 x2 x3 h33 ((bc - c9) - c35) ((bs - sc9) - sc35)) Qt) ∧ (¬ r11 = 0 → ¬ r11 = 1 → ¬ r11 = 2 → ¬ r11 = 3 → ¬ r11 = 4 → ¬ r11 = 5 → w_Reader_readExpression_L219 (w_Reader_readExpression_L6 Qr Qt n9) Qr Qt x0 x1 x2 x3 v6 r11 h10 (bc - c9) (bs - sc9))))) Qt))))

def w_Reader_readExpression (x0 : Nat) (h : xb_H) (bc : Nat) (bs : Nat) (Qr : xb_H → Prop) (Qt : String → xb_H → Prop) : Prop :=
    (∃ n8 : Nat, w_Reader_readExpression_L6 Qr Qt n8 x0 0 0 0 h bc bs)

set_option maxHeartbeats 4000000 in
set_option maxRecDepth 100000 in
theorem am_Reader_readExpression_L233 (l : Launch) (hfl : l.flags = pinnedFlags ++ [noTraceFlag]) (D : va_G) (A : Nat → Prop) (σ MC MS : Nat) (h0 : xb_H) (Qr : xb_H → Prop) (Qt : String → xb_H → Prop) (h : xb_H) (bc : Nat) (bs : Nat) (hw : w_Reader_readExpression_L233 Qr Qt h bc bs) : xb_am l D A σ 5 MC MS h0 (fun v h => v = none ∧ Qr h) Qt y_Reader_readExpression.cls y_Reader_readExpression.name b_Reader_readExpression 6 ([] : List ExceptionTableEntry) none 233 [] [] h bc bs := by
  unfold w_Reader_readExpression_L233 at hw
  intro p e s m args below meth c hC H locs ls k n hE hl hR hS hk hn
  obtain ⟨hx, hb, hown, hlocks, htab, hml, hr, hB, hA, hnm⟩ := id hC
  have hts := hB.1.1.at args
  exact xb_vret hx hb hr hlocks (show k ≤ MC by omega) (show n ≤ MS by omega) hE hR hS (xb_d D_Reader_readExpression 109 rfl) hw

set_option maxHeartbeats 4000000 in
set_option maxRecDepth 100000 in
theorem am_Reader_readExpression_L227 (l : Launch) (hfl : l.flags = pinnedFlags ++ [noTraceFlag]) (D : va_G) (A : Nat → Prop) (σ MC MS : Nat) (h0 : xb_H) (Qr : xb_H → Prop) (Qt : String → xb_H → Prop) (K6 : Nat → Int32 → Int32 → Int32 → xb_H → Nat → Nat → Prop) (hK6 : ∀ (x0 : Nat) (x1 : Int32) (x2 : Int32) (x3 : Int32) (h : xb_H) (bc : Nat) (bs : Nat), K6 x0 x1 x2 x3 h bc bs → xb_am l D A σ 5 MC MS h0 (fun v h => v = none ∧ Qr h) Qt y_Reader_readExpression.cls y_Reader_readExpression.name b_Reader_readExpression 6 ([] : List ExceptionTableEntry) none 6 [(0, .ref x0), (1, .int x1), (2, .int x2), (3, .int x3)] [] h bc bs) (x0 : Nat) (x1 : Int32) (x2 : Int32) (x3 : Int32) (h : xb_H) (bc : Nat) (bs : Nat) (hw : w_Reader_readExpression_L227 K6 Qr Qt x0 x1 x2 x3 h bc bs) : xb_am l D A σ 5 MC MS h0 (fun v h => v = none ∧ Qr h) Qt y_Reader_readExpression.cls y_Reader_readExpression.name b_Reader_readExpression 6 ([] : List ExceptionTableEntry) none 227 [(0, .ref x0), (1, .int x1), (2, .int x2), (3, .int x3)] [] h bc bs := by
  unfold w_Reader_readExpression_L227 at hw
  intro p e s m args below meth c hC H locs ls k n hE hl hR hS hk hn
  obtain ⟨hx, hb, hown, hlocks, htab, hml, hr, hB, hA, hnm⟩ := id hC
  have hts := hB.1.1.at args
  refine lv_iinc (v := (x3 + 1)) (k := 3) hx hb (xb_d D_Reader_readExpression 107 rfl) hl rfl (by first | rfl | decide) (by decide) rfl (fun ls hl => ?_)
  have hl : lv_has ls 6 [(3, .int (x3 + 1)), (0, .ref x0), (1, .int x1), (2, .int x2)] := hl
  refine lv_goto (tgt := 6) hx hb (xb_d D_Reader_readExpression 108 rfl) rfl ?_
  exact hK6 x0 x1 x2 (x3 + 1) h bc bs hw p e s m args below meth c hC H locs ls k n hE (lv_sub hl [1, 2, 3, 0] rfl) hR hS (by omega) (by omega)

set_option maxHeartbeats 4000000 in
set_option maxRecDepth 100000 in
theorem am_Reader_readExpression_L219 (l : Launch) (hfl : l.flags = pinnedFlags ++ [noTraceFlag]) (D : va_G) (A : Nat → Prop) (σ MC MS : Nat) (h0 : xb_H) (Qr : xb_H → Prop) (Qt : String → xb_H → Prop) (K6 : Nat → Int32 → Int32 → Int32 → xb_H → Nat → Nat → Prop) (hK6 : ∀ (x0 : Nat) (x1 : Int32) (x2 : Int32) (x3 : Int32) (h : xb_H) (bc : Nat) (bs : Nat), K6 x0 x1 x2 x3 h bc bs → xb_am l D A σ 5 MC MS h0 (fun v h => v = none ∧ Qr h) Qt y_Reader_readExpression.cls y_Reader_readExpression.name b_Reader_readExpression 6 ([] : List ExceptionTableEntry) none 6 [(0, .ref x0), (1, .int x1), (2, .int x2), (3, .int x3)] [] h bc bs) (x0 : Nat) (x1 : Int32) (x2 : Int32) (x3 : Int32) (x4 : Int32) (x5 : Int32) (h : xb_H) (bc : Nat) (bs : Nat) (hw : w_Reader_readExpression_L219 K6 Qr Qt x0 x1 x2 x3 x4 x5 h bc bs) : xb_am l D A σ 5 MC MS h0 (fun v h => v = none ∧ Qr h) Qt y_Reader_readExpression.cls y_Reader_readExpression.name b_Reader_readExpression 6 ([] : List ExceptionTableEntry) none 219 [(0, .ref x0), (1, .int x1), (2, .int x2), (3, .int x3), (4, .int x4), (5, .int x5)] [] h bc bs := by
  unfold w_Reader_readExpression_L219 at hw
  intro p e s m args below meth c hC H locs ls k n hE hl hR hS hk hn
  obtain ⟨hx, hb, hown, hlocks, htab, hml, hr, hB, hA, hnm⟩ := id hC
  have hts := hB.1.1.at args
  refine lv_aload_n hx hb (xb_d D_Reader_readExpression 103 rfl) rfl (lv_at hl 0 rfl) ?_
  refine lv_iload hx hb (xb_d D_Reader_readExpression 104 rfl) (lv_at hl 5 rfl) ?_
  refine lv_iload hx hb (xb_d D_Reader_readExpression 105 rfl) (lv_at hl 4 rfl) ?_
  obtain ⟨hk1, hw⟩ := hw
  obtain ⟨c4, sc4, hlc4, hlsc4, hw⟩ := hw
  refine xb_call (D := D) (A := A) (σ := σ) (h := h) (d := 4) (mc := c4) (ms := sc4) (maxL := 3) (rest := []) (av := [.ref x0, .int x5, .int x4]) (fun T hT X => by obtain ⟨cb, r1, r2, r3⟩ := xb_recv (ci := 3) hR rfl hk1 (by decide); exact xt_invV X hx hown (hts _ m_e06d2664) (hts _ m_cfbd3d48) (hts _ m_19da9dc0) (xt_sigOf (hts _ m_1e444f2f)) nm_Reader_readOperands (by rw [hT]; exact r1) r2 r3 (g := F0 m 224 ls [.int x4, .int x5, .ref x0]) rfl (argsL := [.int x5, .int x4]) (rest := []) rfl rfl (by rw [hb]; exact (xb_d D_Reader_readExpression 106 rfl))) (ok_Reader_readOperands l hfl D A σ x0 x5 x4 h c4 sc4 _ _ hw) (hml.trans hl.1.symm) (by rw [hb]; exact (xb_d D_Reader_readExpression 106 rfl)) (Nat.le_of_ble_eq_true rfl) (Nat.le_of_ble_eq_true rfl) (Nat.le_of_ble_eq_true rfl) (show k + c4 ≤ MC by omega) (show n + sc4 ≤ MS by omega) (xt_w1 hB.1 m_1e444f2f) (xt_cdOf hB.1 m_1e444f2f) (hts _ m_938fcec4) hB hR hS hA (fun vv h2 H locs hq hEh2 hR hS => ?_) (fun XX ax h2 H locs hq hEh2 hex hR hS => ?_)
  · obtain ⟨rfl, hw⟩ := hq
    have hw := hw hEh2
    have hE := hE.tr hEh2
    refine W.eq (g2 := F0 m 227 ls []) rfl ?_
    exact am_Reader_readExpression_L227 l hfl D A σ MC MS h0 Qr Qt K6 hK6 x0 x1 x2 x3 h2 (bc - c4) (bs - sc4) hw p e s m args below meth c hC H locs ls (k + c4) (n + sc4) hE (lv_sub hl [0, 1, 2, 3] rfl) hR hS (by omega) (by omega)
  · exact xb_pass hlocks (fun x hx9 => by rw [htab] at hx9; first | cases hx9 | (simp [tableOf] at hx9; rcases hx9 with rfl | rfl | rfl <;> decide)) (show (k + c4) ≤ MC by omega) (show (n + sc4) ≤ MS by omega) (hE.tr hEh2) hR hS hex hq

set_option maxHeartbeats 4000000 in
set_option maxRecDepth 100000 in
theorem am_Reader_readExpression_L182 (l : Launch) (hfl : l.flags = pinnedFlags ++ [noTraceFlag]) (D : va_G) (A : Nat → Prop) (σ MC MS : Nat) (h0 : xb_H) (Qr : xb_H → Prop) (Qt : String → xb_H → Prop) (K6 : Nat → Int32 → Int32 → Int32 → xb_H → Nat → Nat → Prop) (hK6 : ∀ (x0 : Nat) (x1 : Int32) (x2 : Int32) (x3 : Int32) (h : xb_H) (bc : Nat) (bs : Nat), K6 x0 x1 x2 x3 h bc bs → xb_am l D A σ 5 MC MS h0 (fun v h => v = none ∧ Qr h) Qt y_Reader_readExpression.cls y_Reader_readExpression.name b_Reader_readExpression 6 ([] : List ExceptionTableEntry) none 6 [(0, .ref x0), (1, .int x1), (2, .int x2), (3, .int x3)] [] h bc bs) (x0 : Nat) (x1 : Int32) (x3 : Int32) (x4 : Int32) (y0 : Int32) (h : xb_H) (bc : Nat) (bs : Nat) (hw : w_Reader_readExpression_L182 K6 Qr Qt x0 x1 x3 x4 y0 h bc bs) : xb_am l D A σ 5 MC MS h0 (fun v h => v = none ∧ Qr h) Qt y_Reader_readExpression.cls y_Reader_readExpression.name b_Reader_readExpression 6 ([] : List ExceptionTableEntry) none 182 [(0, .ref x0), (1, .int x1), (3, .int x3), (4, .int x4)] [.int y0] h bc bs := by
  unfold w_Reader_readExpression_L182 at hw
  intro p e s m args below meth c hC H locs ls k n hE hl hR hS hk hn
  obtain ⟨hx, hb, hown, hlocks, htab, hml, hr, hB, hA, hnm⟩ := id hC
  have hts := hB.1.1.at args
  refine lv_istore_n hx hb (xb_d D_Reader_readExpression 82 rfl) rfl hl (by decide) rfl (fun ls hl => ?_)
  have hl : lv_has ls 6 [(2, .int y0), (0, .ref x0), (1, .int x1), (3, .int x3), (4, .int x4)] := hl
  refine lv_iconst (v := 0) hx hb (xb_d D_Reader_readExpression 83 rfl) (by decide) ?_
  refine lv_iload_n hx hb (xb_d D_Reader_readExpression 84 rfl) rfl (lv_at hl 2 rfl) ?_
  refine lv_iconst (v := 1) hx hb (xb_d D_Reader_readExpression 85 rfl) (by decide) ?_
  refine lv_isub hx hb (xb_d D_Reader_readExpression 86 rfl) ?_
  refine va_mmax hx hb (hml.trans hl.1.symm) hown (hts _ m_1b4cc923) (hts _ m_80a2ec50) (hts _ m_868a9286) (hts _ m_b6349a14) (by show 1 ≤ 8 + _; omega) (Nat.le_trans (Nat.le_of_ble_eq_true rfl : _ ≤ 60) (by show 60 ≤ 120 + _; omega)) (show k ≤ MC by omega) (show n ≤ MS by omega) (xb_d D_Reader_readExpression 87 rfl) ?_
  obtain ⟨v1, ev1⟩ : ∃ x : Int32, x = (if 0 < (x1 - 1) then (x1 - 1) else 0) := ⟨_, rfl⟩
  have hw := hw v1 ev1
  refine xt_numi (y := v1) ev1.symm ?_
  refine lv_istore_n hx hb (xb_d D_Reader_readExpression 88 rfl) rfl hl (by decide) rfl (fun ls hl => ?_)
  have hl : lv_has ls 6 [(1, .int v1), (2, .int y0), (0, .ref x0), (3, .int x3), (4, .int x4)] := hl
  refine lv_aload_n hx hb (xb_d D_Reader_readExpression 89 rfl) rfl (lv_at hl 2 rfl) ?_
  refine lv_iload_n hx hb (xb_d D_Reader_readExpression 90 rfl) rfl (lv_at hl 1 rfl) ?_
  refine lv_iload hx hb (xb_d D_Reader_readExpression 91 rfl) (lv_at hl 4 rfl) ?_
  refine lv_aload_n hx hb (xb_d D_Reader_readExpression 92 rfl) rfl (lv_at hl 2 rfl) ?_
  obtain ⟨hk2, hw⟩ := hw
  refine xb_getP (C := R_Reader) (T := F_Reader) (N := 6) hx hb 3 5 hts fin_Reader hown hR hk2 (by decide) rfl (by decide) rfl (hts _ m_59e07c6d) (fun _ h9 => h9) (xb_d D_Reader_readExpression 93 rfl) ?_
  obtain ⟨b3, eb3, hw⟩ := hw
  refine xb_some eb3 ?_
  refine lv_iload_n hx hb (xb_d D_Reader_readExpression 94 rfl) rfl (lv_at hl 0 rfl) ?_
  obtain ⟨hk5, hw⟩ := hw
  obtain ⟨hi4, hw⟩ := hw
  refine xb_iald hx hb hR hk5 hi4 (xb_d D_Reader_readExpression 95 rfl) ?_
  refine xb_call (D := D) (A := A) (σ := σ) (h := h) (d := 2) (mc := 0) (ms := 0) (maxL := 4) (rest := []) (av := [.ref x0, .int y0, .int x4, .int (xb_i h b3 (Int32.toNatClampNeg v1))]) (fun T hT X => by obtain ⟨cb, r1, r2, r3⟩ := xb_recv (ci := 3) hR rfl hk2 (by decide); exact xt_invV X hx hown (hts _ m_eafa26a3) (hts _ m_7e950427) (hts _ m_26d65e0c) (xt_sigOf (hts _ m_4a7636ea)) nm_Reader_noteEnd (by rw [hT]; exact r1) r2 r3 (g := F0 m 201 ls [.int (xb_i h b3 (Int32.toNatClampNeg v1)), .int x4, .int y0, .ref x0]) rfl (argsL := [.int y0, .int x4, .int (xb_i h b3 (Int32.toNatClampNeg v1))]) (rest := []) rfl rfl (by rw [hb]; exact (xb_d D_Reader_readExpression 96 rfl))) (ok_Reader_noteEnd l hfl D A σ x0 y0 x4 (xb_i h b3 (Int32.toNatClampNeg v1)) h _ hw) (hml.trans hl.1.symm) (by rw [hb]; exact (xb_d D_Reader_readExpression 96 rfl)) (Nat.le_of_ble_eq_true rfl) (Nat.le_of_ble_eq_true rfl) (Nat.le_of_ble_eq_true rfl) (show k + 0 ≤ MC by omega) (show n + 0 ≤ MS by omega) (xt_w1 hB.1 m_4a7636ea) (xt_cdOf hB.1 m_4a7636ea) (hts _ m_938fcec4) hB hR hS hA (fun vv h6 H locs hq hEh6 hR hS => ?_) (fun XX ax h6 H locs hq hEh6 hex hR hS => ?_)
  · obtain ⟨rfl, hw⟩ := hq
    have hw := hw hEh6
    have hE := hE.tr hEh6
    refine W.eq (g2 := F0 m 204 ls []) rfl ?_
    refine lv_goto (tgt := 227) hx hb (xb_d D_Reader_readExpression 97 rfl) rfl ?_
    exact am_Reader_readExpression_L227 l hfl D A σ MC MS h0 Qr Qt K6 hK6 x0 v1 y0 x3 h6 bc bs hw p e s m args below meth c hC H locs ls k n hE (lv_sub hl [2, 0, 1, 3] rfl) hR hS (by omega) (by omega)
  · exact False.elim hq

set_option maxHeartbeats 4000000 in
set_option maxRecDepth 100000 in
theorem am_Reader_readExpression_L143 (l : Launch) (hfl : l.flags = pinnedFlags ++ [noTraceFlag]) (D : va_G) (A : Nat → Prop) (σ MC MS : Nat) (h0 : xb_H) (Qr : xb_H → Prop) (Qt : String → xb_H → Prop) (K6 : Nat → Int32 → Int32 → Int32 → xb_H → Nat → Nat → Prop) (hK6 : ∀ (x0 : Nat) (x1 : Int32) (x2 : Int32) (x3 : Int32) (h : xb_H) (bc : Nat) (bs : Nat), K6 x0 x1 x2 x3 h bc bs → xb_am l D A σ 5 MC MS h0 (fun v h => v = none ∧ Qr h) Qt y_Reader_readExpression.cls y_Reader_readExpression.name b_Reader_readExpression 6 ([] : List ExceptionTableEntry) none 6 [(0, .ref x0), (1, .int x1), (2, .int x2), (3, .int x3)] [] h bc bs) (x0 : Nat) (x1 : Int32) (x2 : Int32) (x3 : Int32) (x4 : Int32) (h : xb_H) (bc : Nat) (bs : Nat) (hw : w_Reader_readExpression_L143 K6 Qr Qt x0 x1 x2 x3 x4 h bc bs) : xb_am l D A σ 5 MC MS h0 (fun v h => v = none ∧ Qr h) Qt y_Reader_readExpression.cls y_Reader_readExpression.name b_Reader_readExpression 6 ([] : List ExceptionTableEntry) none 143 [(0, .ref x0), (1, .int x1), (2, .int x2), (3, .int x3), (4, .int x4)] [] h bc bs := by
  unfold w_Reader_readExpression_L143 at hw
  intro p e s m args below meth c hC H locs ls k n hE hl hR hS hk hn
  obtain ⟨hx, hb, hown, hlocks, htab, hml, hr, hB, hA, hnm⟩ := id hC
  have hts := hB.1.1.at args
  refine lv_aload_n hx hb (xb_d D_Reader_readExpression 57 rfl) rfl (lv_at hl 0 rfl) ?_
  obtain ⟨hk1, hw⟩ := hw
  refine xb_getP (C := R_Reader) (T := F_Reader) (N := 6) hx hb 3 2 hts fin_Reader hown hR hk1 (by decide) rfl (by decide) rfl (hts _ m_5660bdee) (fun _ h9 => h9) (xb_d D_Reader_readExpression 58 rfl) ?_
  obtain ⟨b2, eb2, hw⟩ := hw
  refine xb_some eb2 ?_
  refine lv_aload_n hx hb (xb_d D_Reader_readExpression 59 rfl) rfl (lv_at hl 0 rfl) ?_
  refine xb_getP (C := R_Reader) (T := F_Reader) (N := 6) hx hb 3 5 hts fin_Reader hown hR hk1 (by decide) rfl (by decide) rfl (hts _ m_59e07c6d) (fun _ h9 => h9) (xb_d D_Reader_readExpression 60 rfl) ?_
  obtain ⟨b3, eb3, hw⟩ := hw
  refine xb_some eb3 ?_
  refine lv_iload_n hx hb (xb_d D_Reader_readExpression 61 rfl) rfl (lv_at hl 1 rfl) ?_
  refine lv_iconst (v := 1) hx hb (xb_d D_Reader_readExpression 62 rfl) (by decide) ?_
  refine lv_isub hx hb (xb_d D_Reader_readExpression 63 rfl) ?_
  obtain ⟨hk5, hw⟩ := hw
  obtain ⟨hi4, hw⟩ := hw
  refine xb_iald hx hb hR hk5 hi4 (xb_d D_Reader_readExpression 64 rfl) ?_
  refine lv_iconst (v := 1) hx hb (xb_d D_Reader_readExpression 65 rfl) (by decide) ?_
  refine lv_iadd hx hb (xb_d D_Reader_readExpression 66 rfl) ?_
  refine lv_iload hx hb (xb_d D_Reader_readExpression 67 rfl) (lv_at hl 4 rfl) ?_
  obtain ⟨hk6, hw⟩ := hw
  obtain ⟨hi7, hw⟩ := hw
  refine xb_iast hx hb hR hS hk6 hi7 (xb_d D_Reader_readExpression 68 rfl) (fun H locs hR hS => ?_)
  obtain ⟨h8, eh8⟩ : ∃ x : xb_H, x = xb_I h b2 (Int32.toNatClampNeg ((xb_i h b3 (Int32.toNatClampNeg (x1 - 1))) + 1)) x4 := ⟨_, rfl⟩
  rw [← eh8] at hR
  have hw := hw h8 eh8
  have hE : xb_ext h0 h8 := by rw [eh8]; exact hE
  refine lv_aload_n hx hb (xb_d D_Reader_readExpression 69 rfl) rfl (lv_at hl 0 rfl) ?_
  have hk1 : xb_k h8 x0 = 4 := by rw [eh8]; exact hk1
  refine xb_getP (C := R_Reader) (T := F_Reader) (N := 6) hx hb 3 5 hts fin_Reader hown hR hk1 (by decide) rfl (by decide) rfl (hts _ m_59e07c6d) (fun _ h9 => h9) (xb_d D_Reader_readExpression 70 rfl) ?_
  obtain ⟨b9, eb9, hw⟩ := hw
  refine xb_some eb9 ?_
  refine lv_iload_n hx hb (xb_d D_Reader_readExpression 71 rfl) rfl (lv_at hl 1 rfl) ?_
  refine lv_iconst (v := 1) hx hb (xb_d D_Reader_readExpression 72 rfl) (by decide) ?_
  refine lv_isub hx hb (xb_d D_Reader_readExpression 73 rfl) ?_
  refine lv_iload hx hb (xb_d D_Reader_readExpression 74 rfl) (lv_at hl 4 rfl) ?_
  obtain ⟨hk10, hw⟩ := hw
  obtain ⟨hi11, hw⟩ := hw
  refine xb_iast hx hb hR hS hk10 hi11 (xb_d D_Reader_readExpression 75 rfl) (fun H locs hR hS => ?_)
  obtain ⟨h12, eh12⟩ : ∃ x : xb_H, x = xb_I h8 b9 (Int32.toNatClampNeg (x1 - 1)) x4 := ⟨_, rfl⟩
  rw [← eh12] at hR
  have hw := hw h12 eh12
  have hE : xb_ext h0 h12 := by rw [eh12]; exact hE
  refine lv_goto (tgt := 227) hx hb (xb_d D_Reader_readExpression 76 rfl) rfl ?_
  exact am_Reader_readExpression_L227 l hfl D A σ MC MS h0 Qr Qt K6 hK6 x0 x1 x2 x3 h12 bc bs hw p e s m args below meth c hC H locs ls k n hE (lv_sub hl [0, 1, 2, 3] rfl) hR hS (by omega) (by omega)

set_option maxHeartbeats 4000000 in
set_option maxRecDepth 100000 in
theorem am_Reader_readExpression_L133 (l : Launch) (hfl : l.flags = pinnedFlags ++ [noTraceFlag]) (D : va_G) (A : Nat → Prop) (σ MC MS : Nat) (h0 : xb_H) (Qr : xb_H → Prop) (Qt : String → xb_H → Prop) (K6 : Nat → Int32 → Int32 → Int32 → xb_H → Nat → Nat → Prop) (hK6 : ∀ (x0 : Nat) (x1 : Int32) (x2 : Int32) (x3 : Int32) (h : xb_H) (bc : Nat) (bs : Nat), K6 x0 x1 x2 x3 h bc bs → xb_am l D A σ 5 MC MS h0 (fun v h => v = none ∧ Qr h) Qt y_Reader_readExpression.cls y_Reader_readExpression.name b_Reader_readExpression 6 ([] : List ExceptionTableEntry) none 6 [(0, .ref x0), (1, .int x1), (2, .int x2), (3, .int x3)] [] h bc bs) (x0 : Nat) (x1 : Int32) (x2 : Int32) (x3 : Int32) (x4 : Int32) (h : xb_H) (bc : Nat) (bs : Nat) (hw : w_Reader_readExpression_L133 K6 Qr Qt x0 x1 x2 x3 x4 h bc bs) : xb_am l D A σ 5 MC MS h0 (fun v h => v = none ∧ Qr h) Qt y_Reader_readExpression.cls y_Reader_readExpression.name b_Reader_readExpression 6 ([] : List ExceptionTableEntry) none 133 [(0, .ref x0), (1, .int x1), (2, .int x2), (3, .int x3), (4, .int x4)] [] h bc bs := by
  unfold w_Reader_readExpression_L133 at hw
  intro p e s m args below meth c hC H locs ls k n hE hl hR hS hk hn
  obtain ⟨hx, hb, hown, hlocks, htab, hml, hr, hB, hA, hnm⟩ := id hC
  have hts := hB.1.1.at args
  refine lv_aload_n hx hb (xb_d D_Reader_readExpression 52 rfl) rfl (lv_at hl 0 rfl) ?_
  obtain ⟨hk1, hw⟩ := hw
  refine xb_getP (C := R_Reader) (T := F_Reader) (N := 6) hx hb 3 0 hts fin_Reader hown hR hk1 (by decide) rfl (by decide) rfl (hts _ m_76d8349c) (fun _ h9 => h9) (xb_d D_Reader_readExpression 53 rfl) ?_
  obtain ⟨b2, eb2, hw⟩ := hw
  refine xb_some eb2 ?_
  refine lv_iconst (v := 5) hx hb (xb_d D_Reader_readExpression 54 rfl) (by decide) ?_
  refine lv_iload hx hb (xb_d D_Reader_readExpression 55 rfl) (lv_at hl 4 rfl) ?_
  obtain ⟨hk3, hw⟩ := hw
  obtain ⟨c6, sc6, hlc6, hlsc6, hw⟩ := hw
  refine xb_call (D := D) (A := A) (σ := σ) (h := h) (d := 2) (mc := c6) (ms := sc6) (maxL := 3) (rest := []) (av := [.ref b2, .int 5, .int x4]) (fun T hT X => by obtain ⟨cb, r1, r2, r3⟩ := xb_recv (ci := 2) hR rfl hk3 (by decide); exact xt_invV X hx hown (hts _ m_6fcde429) (hts _ m_865d5b07) (hts _ m_113f8f75) (xt_sigOf (hts _ m_73e65e5f)) nm_StackModule_fail (by rw [hT]; exact r1) r2 r3 (g := F0 m 140 ls [.int x4, .int 5, .ref b2]) rfl (argsL := [.int 5, .int x4]) (rest := []) rfl rfl (by rw [hb]; exact (xb_d D_Reader_readExpression 56 rfl))) (ok_StackModule_fail l hfl D A σ b2 5 x4 h c6 sc6 _ _ hw) (hml.trans hl.1.symm) (by rw [hb]; exact (xb_d D_Reader_readExpression 56 rfl)) (Nat.le_of_ble_eq_true rfl) (Nat.le_of_ble_eq_true rfl) (Nat.le_of_ble_eq_true rfl) (show k + c6 ≤ MC by omega) (show n + sc6 ≤ MS by omega) (xt_w1 hB.1 m_73e65e5f) (xt_cdOf hB.1 m_73e65e5f) (hts _ m_9c375545) hB hR hS hA (fun vv h4 H locs hq hEh4 hR hS => ?_) (fun XX ax h4 H locs hq hEh4 hex hR hS => ?_)
  · obtain ⟨rfl, hw⟩ := hq
    have hw := hw hEh4
    have hE := hE.tr hEh4
    refine W.eq (g2 := F0 m 143 ls []) rfl ?_
    exact am_Reader_readExpression_L143 l hfl D A σ MC MS h0 Qr Qt K6 hK6 x0 x1 x2 x3 x4 h4 (bc - c6) (bs - sc6) hw p e s m args below meth c hC H locs ls (k + c6) (n + sc6) hE (lv_sub hl [0, 1, 2, 3, 4] rfl) hR hS (by omega) (by omega)
  · exact xb_pass hlocks (fun x hx9 => by rw [htab] at hx9; first | cases hx9 | (simp [tableOf] at hx9; rcases hx9 with rfl | rfl | rfl <;> decide)) (show (k + c6) ≤ MC by omega) (show (n + sc6) ≤ MS by omega) (hE.tr hEh4) hR hS hex hq

set_option maxHeartbeats 4000000 in
set_option maxRecDepth 100000 in
theorem am_Reader_readExpression_L94 (l : Launch) (hfl : l.flags = pinnedFlags ++ [noTraceFlag]) (D : va_G) (A : Nat → Prop) (σ MC MS : Nat) (h0 : xb_H) (Qr : xb_H → Prop) (Qt : String → xb_H → Prop) (K6 : Nat → Int32 → Int32 → Int32 → xb_H → Nat → Nat → Prop) (hK6 : ∀ (x0 : Nat) (x1 : Int32) (x2 : Int32) (x3 : Int32) (h : xb_H) (bc : Nat) (bs : Nat), K6 x0 x1 x2 x3 h bc bs → xb_am l D A σ 5 MC MS h0 (fun v h => v = none ∧ Qr h) Qt y_Reader_readExpression.cls y_Reader_readExpression.name b_Reader_readExpression 6 ([] : List ExceptionTableEntry) none 6 [(0, .ref x0), (1, .int x1), (2, .int x2), (3, .int x3)] [] h bc bs) (x0 : Nat) (x1 : Int32) (x2 : Int32) (x3 : Int32) (x4 : Int32) (h : xb_H) (bc : Nat) (bs : Nat) (hw : w_Reader_readExpression_L94 K6 Qr Qt x0 x1 x2 x3 x4 h bc bs) : xb_am l D A σ 5 MC MS h0 (fun v h => v = none ∧ Qr h) Qt y_Reader_readExpression.cls y_Reader_readExpression.name b_Reader_readExpression 6 ([] : List ExceptionTableEntry) none 94 [(0, .ref x0), (1, .int x1), (2, .int x2), (3, .int x3), (4, .int x4)] [] h bc bs := by
  unfold w_Reader_readExpression_L94 at hw
  intro p e s m args below meth c hC H locs ls k n hE hl hR hS hk hn
  obtain ⟨hx, hb, hown, hlocks, htab, hml, hr, hB, hA, hnm⟩ := id hC
  have hts := hB.1.1.at args
  refine lv_aload_n hx hb (xb_d D_Reader_readExpression 30 rfl) rfl (lv_at hl 0 rfl) ?_
  obtain ⟨hk1, hw⟩ := hw
  obtain ⟨c4, sc4, hlc4, hlsc4, hw⟩ := hw
  refine xb_call (D := D) (A := A) (σ := σ) (h := h) (d := 4) (mc := c4) (ms := sc4) (maxL := 2) (rest := []) (av := [.ref x0]) (fun T hT X => by obtain ⟨cb, r1, r2, r3⟩ := xb_recv (ci := 3) hR rfl hk1 (by decide); exact xt_invV X hx hown (hts _ m_c3fc1204) (hts _ m_3c8075b3) (hts _ m_5188d847) (xt_sigOf (hts _ m_228ea694)) nm_Reader_readBlockType (by rw [hT]; exact r1) r2 r3 (g := F0 m 95 ls [.ref x0]) rfl (argsL := []) (rest := []) rfl rfl (by rw [hb]; exact (xb_d D_Reader_readExpression 31 rfl))) (ok_Reader_readBlockType l hfl D A σ x0 h c4 sc4 _ _ hw) (hml.trans hl.1.symm) (by rw [hb]; exact (xb_d D_Reader_readExpression 31 rfl)) (Nat.le_of_ble_eq_true rfl) (Nat.le_of_ble_eq_true rfl) (Nat.le_of_ble_eq_true rfl) (show k + c4 ≤ MC by omega) (show n + sc4 ≤ MS by omega) (xt_w1 hB.1 m_228ea694) (xt_cdOf hB.1 m_228ea694) (hts _ m_938fcec4) hB hR hS hA (fun vv h2 H locs hq hEh2 hR hS => ?_) (fun XX ax h2 H locs hq hEh2 hex hR hS => ?_)
  · obtain ⟨rfl, hw⟩ := hq
    have hw := hw hEh2
    have hE := hE.tr hEh2
    refine W.eq (g2 := F0 m 98 ls []) rfl ?_
    refine lv_aload_n hx hb (xb_d D_Reader_readExpression 32 rfl) rfl (lv_at hl 0 rfl) ?_
    have hk1 : xb_k h2 x0 = 4 := hEh2.k hk1
    refine xb_getP (C := R_Reader) (T := F_Reader) (N := 6) hx hb 3 5 hts fin_Reader hown hR hk1 (by decide) rfl (by decide) rfl (hts _ m_59e07c6d) (fun _ h9 => h9) (xb_d D_Reader_readExpression 33 rfl) ?_
    obtain ⟨b5, eb5, hw⟩ := hw
    refine xb_some eb5 ?_
    refine lv_iload_n hx hb (xb_d D_Reader_readExpression 34 rfl) rfl (lv_at hl 1 rfl) ?_
    refine lv_iload hx hb (xb_d D_Reader_readExpression 35 rfl) (lv_at hl 4 rfl) ?_
    obtain ⟨hk6, hw⟩ := hw
    obtain ⟨hi7, hw⟩ := hw
    refine xb_iast hx hb hR hS hk6 hi7 (xb_d D_Reader_readExpression 36 rfl) (fun H locs hR hS => ?_)
    obtain ⟨h8, eh8⟩ : ∃ x : xb_H, x = xb_I h2 b5 (Int32.toNatClampNeg x1) x4 := ⟨_, rfl⟩
    rw [← eh8] at hR
    have hw := hw h8 eh8
    have hE : xb_ext h0 h8 := by rw [eh8]; exact hE
    refine lv_iinc (v := (x1 + 1)) (k := 1) hx hb (xb_d D_Reader_readExpression 37 rfl) hl rfl (by first | rfl | decide) (by decide) rfl (fun ls hl => ?_)
    have hl : lv_has ls 6 [(1, .int (x1 + 1)), (0, .ref x0), (2, .int x2), (3, .int x3), (4, .int x4)] := hl
    refine lv_goto (tgt := 227) hx hb (xb_d D_Reader_readExpression 38 rfl) rfl ?_
    exact am_Reader_readExpression_L227 l hfl D A σ MC MS h0 Qr Qt K6 hK6 x0 (x1 + 1) x2 x3 h8 (bc - c4) (bs - sc4) hw p e s m args below meth c hC H locs ls (k + c4) (n + sc4) hE (lv_sub hl [1, 0, 2, 3] rfl) hR hS (by omega) (by omega)
  · exact xb_pass hlocks (fun x hx9 => by rw [htab] at hx9; first | cases hx9 | (simp [tableOf] at hx9; rcases hx9 with rfl | rfl | rfl <;> decide)) (show (k + c4) ≤ MC by omega) (show (n + sc4) ≤ MS by omega) (hE.tr hEh2) hR hS hex hq

set_option maxHeartbeats 4000000 in
set_option maxRecDepth 100000 in
theorem am_Reader_readExpression_L6 (l : Launch) (hfl : l.flags = pinnedFlags ++ [noTraceFlag]) (D : va_G) (A : Nat → Prop) (σ MC MS : Nat) (h0 : xb_H) (Qr : xb_H → Prop) (Qt : String → xb_H → Prop) (n9 : Nat) : ∀ (x0 : Nat) (x1 : Int32) (x2 : Int32) (x3 : Int32) (h : xb_H) (bc : Nat) (bs : Nat), w_Reader_readExpression_L6 Qr Qt n9 x0 x1 x2 x3 h bc bs → xb_am l D A σ 5 MC MS h0 (fun v h => v = none ∧ Qr h) Qt y_Reader_readExpression.cls y_Reader_readExpression.name b_Reader_readExpression 6 ([] : List ExceptionTableEntry) none 6 [(0, .ref x0), (1, .int x1), (2, .int x2), (3, .int x3)] [] h bc bs := by
  induction n9 with
  | zero => intro x0 x1 x2 x3 h bc bs hw; exact False.elim hw
  | succ n9 ih =>
    intro x0 x1 x2 x3 h bc bs hw
    unfold w_Reader_readExpression_L6 at hw
    intro p e s m args below meth c hC H locs ls k n hE hl hR hS hk hn
    obtain ⟨hx, hb, hown, hlocks, htab, hml, hr, hB, hA, hnm⟩ := id hC
    have hts := hB.1.1.at args
    refine lv_iload_n hx hb (xb_d D_Reader_readExpression 6 rfl) rfl (lv_at hl 3 rfl) ?_
    refine lv_aload_n hx hb (xb_d D_Reader_readExpression 7 rfl) rfl (lv_at hl 0 rfl) ?_
    obtain ⟨hk1, hw⟩ := hw
    refine xb_getP (C := R_Reader) (T := F_Reader) (N := 6) hx hb 3 1 hts fin_Reader hown hR hk1 (by decide) rfl (by decide) rfl (hts _ m_d1ba4be8) (fun _ h9 => h9) (xb_d D_Reader_readExpression 8 rfl) ?_
    obtain ⟨b2, eb2, hw⟩ := hw
    refine xb_some eb2 ?_
    obtain ⟨hk3, hw⟩ := hw
    refine xb_alen hx hb hR hk3 (by decide) (xb_d D_Reader_readExpression 9 rfl) ?_
    refine lv_icmp_ge (tgt := 233) hx hb (xb_d D_Reader_readExpression 10 rfl) rfl (fun hc4 => ?_) (fun hc4 => ?_)
    · have hw := hw.1 hc4
      exact am_Reader_readExpression_L233 l hfl D A σ MC MS h0 Qr Qt h bc bs hw p e s m args below meth c hC H locs ls k n hE (lv_sub hl [] rfl) hR hS (by omega) (by omega)
    · have hw := hw.2 hc4
      refine lv_iload_n hx hb (xb_d D_Reader_readExpression 11 rfl) rfl (lv_at hl 2 rfl) ?_
      refine lv_if_ne (tgt := 233) hx hb (xb_d D_Reader_readExpression 12 rfl) rfl (fun hc5 => ?_) (fun hc5 => ?_)
      · have hw := hw.1 hc5
        exact am_Reader_readExpression_L233 l hfl D A σ MC MS h0 Qr Qt h bc bs hw p e s m args below meth c hC H locs ls k n hE (lv_sub hl [] rfl) hR hS (by omega) (by omega)
      · have hw := hw.2 hc5
        refine lv_aload_n hx hb (xb_d D_Reader_readExpression 13 rfl) rfl (lv_at hl 0 rfl) ?_
        refine xb_getI (C := R_Reader) (T := F_Reader) (N := 6) hx hb 3 3 hts fin_Reader hown hR hk1 (by decide) rfl (by decide) rfl (hts _ m_a9b84ac2) (fun _ h9 => h9) (xb_d D_Reader_readExpression 14 rfl) ?_
        obtain ⟨v6, ev6⟩ : ∃ x : Int32, x = (xb_i h x0 3) := ⟨_, rfl⟩
        have hw := hw v6 ev6
        refine xt_numi (y := v6) ev6.symm ?_
        refine lv_istore hx hb (xb_d D_Reader_readExpression 15 rfl) hl (by decide) rfl (fun ls hl => ?_)
        have hl : lv_has ls 6 [(4, .int v6), (0, .ref x0), (1, .int x1), (2, .int x2), (3, .int x3)] := hl
        refine lv_aload_n hx hb (xb_d D_Reader_readExpression 16 rfl) rfl (lv_at hl 1 rfl) ?_
        obtain ⟨c9, sc9, hlc9, hlsc9, hw⟩ := hw
        refine xb_call (D := D) (A := A) (σ := σ) (h := h) (d := 3) (mc := c9) (ms := sc9) (maxL := 1) (rest := []) (av := [.ref x0]) (fun T hT X => by obtain ⟨cb, r1, r2, r3⟩ := xb_recv (ci := 3) hR rfl hk1 (by decide); exact xt_invV X hx hown (hts _ m_16104bdc) (hts _ m_5816e59e) (hts _ m_447444c2) (xt_sigOf (hts _ m_a7435405)) nm_Reader_nextByte (by rw [hT]; exact r1) r2 r3 (g := F0 m 26 ls [.ref x0]) rfl (argsL := []) (rest := []) rfl rfl (by rw [hb]; exact (xb_d D_Reader_readExpression 17 rfl))) (ok_Reader_nextByte l hfl D A σ x0 h c9 sc9 _ _ hw) (hml.trans hl.1.symm) (by rw [hb]; exact (xb_d D_Reader_readExpression 17 rfl)) (Nat.le_of_ble_eq_true rfl) (Nat.le_of_ble_eq_true rfl) (Nat.le_of_ble_eq_true rfl) (show k + c9 ≤ MC by omega) (show n + sc9 ≤ MS by omega) (xt_w1 hB.1 m_a7435405) (xt_cdOf hB.1 m_a7435405) (hts _ m_938fcec4) hB hR hS hA (fun vv h7 H locs hq hEh7 hR hS => ?_) (fun XX ax h7 H locs hq hEh7 hex hR hS => ?_)
        · obtain ⟨r8, rfl, hw⟩ := hq
          have hw := hw hEh7
          have hE := hE.tr hEh7
          refine W.eq (g2 := F0 m 29 ls [.int r8]) rfl ?_
          refine xb_call (D := D) (A := A) (σ := σ) (h := h7) (d := 2) (mc := 0) (ms := 0) (maxL := 1) (rest := []) (av := [.int r8]) (fun T hT X => xt_invS X hx hown (hts _ m_c4c6444a) (hts _ m_9eb17383) (hts _ m_938fcec4) (xt_sgS (hts _ m_1e1b68a2)).1 (xt_sgS (hts _ m_1e1b68a2)).2 nm_Reader_shapeOf (g := F0 m 29 ls [.int r8]) rfl (argsL := [.int r8]) (rest := []) rfl rfl (by rw [hb]; exact (xb_d D_Reader_readExpression 18 rfl))) (ok_Reader_shapeOf l hfl D A σ r8 h7 _ hw) (hml.trans hl.1.symm) (by rw [hb]; exact (xb_d D_Reader_readExpression 18 rfl)) (Nat.le_of_ble_eq_true rfl) (Nat.le_of_ble_eq_true rfl) (Nat.le_of_ble_eq_true rfl) (show (k + c9) + 0 ≤ MC by omega) (show (n + sc9) + 0 ≤ MS by omega) (xt_w1 hB.1 m_1e1b68a2) (xt_cdOf hB.1 m_1e1b68a2) (hts _ m_938fcec4) hB hR hS hA (fun vv h10 H locs hq hEh10 hR hS => ?_) (fun XX ax h10 H locs hq hEh10 hex hR hS => ?_)
          · obtain ⟨r11, rfl, hw⟩ := hq
            have hw := hw hEh10
            have hE := hE.tr hEh10
            refine W.eq (g2 := F0 m 32 ls [.int r11]) rfl ?_
            refine lv_istore hx hb (xb_d D_Reader_readExpression 19 rfl) hl (by decide) rfl (fun ls hl => ?_)
            have hl : lv_has ls 6 [(5, .int r11), (4, .int v6), (0, .ref x0), (1, .int x1), (2, .int x2), (3, .int x3)] := hl
            refine lv_iload hx hb (xb_d D_Reader_readExpression 20 rfl) (lv_at hl 0 rfl) ?_
            by_cases hc12 : r11 = 0
            · have hw := hw.1 hc12
              refine xt_numi hc12 ?_
              refine lv_tableIn (off := 180) (tgt := 216) hx hb (xb_d D_Reader_readExpression 21 rfl) (by decide +kernel) (by decide +kernel) (by decide +kernel) (by decide) ?_
              refine lv_goto (tgt := 227) hx hb (xb_d D_Reader_readExpression 102 rfl) rfl ?_
              exact am_Reader_readExpression_L227 l hfl D A σ MC MS h0 Qr Qt (w_Reader_readExpression_L6 Qr Qt n9) ih x0 x1 x2 x3 h10 (bc - c9) (bs - sc9) hw p e s m args below meth c hC H locs ls (k + c9) (n + sc9) hE (lv_sub hl [2, 3, 4, 5] rfl) hR hS (by omega) (by omega)
            have hw := hw.2
            by_cases hc13 : r11 = 1
            · have hw := hw.1 hc13
              refine xt_numi hc13 ?_
              refine lv_tableIn (off := 40) (tgt := 76) hx hb (xb_d D_Reader_readExpression 21 rfl) (by decide +kernel) (by decide +kernel) (by decide +kernel) (by decide) ?_
              refine lv_iload_n hx hb (xb_d D_Reader_readExpression 22 rfl) rfl (lv_at hl 3 rfl) ?_
              refine lv_sipush (v := 200) hx hb (xb_d D_Reader_readExpression 23 rfl) (by decide) ?_
              refine lv_icmp_ne (tgt := 94) hx hb (xb_d D_Reader_readExpression 24 rfl) rfl (fun hc14 => ?_) (fun hc14 => ?_)
              · have hw := hw.1 hc14
                exact am_Reader_readExpression_L94 l hfl D A σ MC MS h0 Qr Qt (w_Reader_readExpression_L6 Qr Qt n9) ih x0 x1 x2 x3 v6 h10 (bc - c9) (bs - sc9) hw p e s m args below meth c hC H locs ls (k + c9) (n + sc9) hE (lv_sub hl [2, 3, 4, 5, 1] rfl) hR hS (by omega) (by omega)
              · have hw := hw.2 hc14
                refine lv_aload_n hx hb (xb_d D_Reader_readExpression 25 rfl) rfl (lv_at hl 2 rfl) ?_
                have hk1 : xb_k h7 x0 = 4 := hEh7.k hk1
                have hk1 : xb_k h10 x0 = 4 := hEh10.k hk1
                refine xb_getP (C := R_Reader) (T := F_Reader) (N := 6) hx hb 3 0 hts fin_Reader hown hR hk1 (by decide) rfl (by decide) rfl (hts _ m_76d8349c) (fun _ h9 => h9) (xb_d D_Reader_readExpression 26 rfl) ?_
                obtain ⟨b15, eb15, hw⟩ := hw
                refine xb_some eb15 ?_
                refine lv_bipush (v := 10) hx hb (xb_d D_Reader_readExpression 27 rfl) (by decide) ?_
                refine lv_iload hx hb (xb_d D_Reader_readExpression 28 rfl) (lv_at hl 1 rfl) ?_
                obtain ⟨hk16, hw⟩ := hw
                obtain ⟨c19, sc19, hlc19, hlsc19, hw⟩ := hw
                refine xb_call (D := D) (A := A) (σ := σ) (h := h10) (d := 2) (mc := c19) (ms := sc19) (maxL := 3) (rest := []) (av := [.ref b15, .int 10, .int v6]) (fun T hT X => by obtain ⟨cb, r1, r2, r3⟩ := xb_recv (ci := 2) hR rfl hk16 (by decide); exact xt_invV X hx hown (hts _ m_6fcde429) (hts _ m_865d5b07) (hts _ m_113f8f75) (xt_sigOf (hts _ m_73e65e5f)) nm_StackModule_fail (by rw [hT]; exact r1) r2 r3 (g := F0 m 91 ls [.int v6, .int 10, .ref b15]) rfl (argsL := [.int 10, .int v6]) (rest := []) rfl rfl (by rw [hb]; exact (xb_d D_Reader_readExpression 29 rfl))) (ok_StackModule_fail l hfl D A σ b15 10 v6 h10 c19 sc19 _ _ hw) (hml.trans hl.1.symm) (by rw [hb]; exact (xb_d D_Reader_readExpression 29 rfl)) (Nat.le_of_ble_eq_true rfl) (Nat.le_of_ble_eq_true rfl) (Nat.le_of_ble_eq_true rfl) (show (k + c9) + c19 ≤ MC by omega) (show (n + sc9) + sc19 ≤ MS by omega) (xt_w1 hB.1 m_73e65e5f) (xt_cdOf hB.1 m_73e65e5f) (hts _ m_9c375545) hB hR hS hA (fun vv h17 H locs hq hEh17 hR hS => ?_) (fun XX ax h17 H locs hq hEh17 hex hR hS => ?_)
                · obtain ⟨rfl, hw⟩ := hq
                  have hw := hw hEh17
                  have hE := hE.tr hEh17
                  refine W.eq (g2 := F0 m 94 ls []) rfl ?_
                  exact am_Reader_readExpression_L94 l hfl D A σ MC MS h0 Qr Qt (w_Reader_readExpression_L6 Qr Qt n9) ih x0 x1 x2 x3 v6 h17 ((bc - c9) - c19) ((bs - sc9) - sc19) hw p e s m args below meth c hC H locs ls ((k + c9) + c19) ((n + sc9) + sc19) hE (lv_sub hl [2, 3, 4, 5, 1] rfl) hR hS (by omega) (by omega)
                · exact xb_pass hlocks (fun x hx9 => by rw [htab] at hx9; first | cases hx9 | (simp [tableOf] at hx9; rcases hx9 with rfl | rfl | rfl <;> decide)) (show ((k + c9) + c19) ≤ MC by omega) (show ((n + sc9) + sc19) ≤ MS by omega) (hE.tr hEh17) hR hS hex hq
            have hw := hw.2
            by_cases hc20 : r11 = 2
            · have hw := hw.1 hc20
              refine xt_numi hc20 ?_
              refine lv_tableIn (off := 76) (tgt := 112) hx hb (xb_d D_Reader_readExpression 21 rfl) (by decide +kernel) (by decide +kernel) (by decide +kernel) (by decide) ?_
              refine lv_iload_n hx hb (xb_d D_Reader_readExpression 39 rfl) rfl (lv_at hl 3 rfl) ?_
              refine lv_if_eq (tgt := 133) hx hb (xb_d D_Reader_readExpression 40 rfl) rfl (fun hc21 => ?_) (fun hc21 => ?_)
              · have hw := hw.1 hc21
                exact am_Reader_readExpression_L133 l hfl D A σ MC MS h0 Qr Qt (w_Reader_readExpression_L6 Qr Qt n9) ih x0 x1 x2 x3 v6 h10 (bc - c9) (bs - sc9) hw p e s m args below meth c hC H locs ls (k + c9) (n + sc9) hE (lv_sub hl [2, 3, 4, 5, 1] rfl) hR hS (by omega) (by omega)
              · have hw := hw.2 hc21
                refine lv_aload_n hx hb (xb_d D_Reader_readExpression 41 rfl) rfl (lv_at hl 2 rfl) ?_
                have hk1 : xb_k h7 x0 = 4 := hEh7.k hk1
                have hk1 : xb_k h10 x0 = 4 := hEh10.k hk1
                refine xb_getP (C := R_Reader) (T := F_Reader) (N := 6) hx hb 3 1 hts fin_Reader hown hR hk1 (by decide) rfl (by decide) rfl (hts _ m_d1ba4be8) (fun _ h9 => h9) (xb_d D_Reader_readExpression 42 rfl) ?_
                obtain ⟨b22, eb22, hw⟩ := hw
                refine xb_some eb22 ?_
                refine lv_aload_n hx hb (xb_d D_Reader_readExpression 43 rfl) rfl (lv_at hl 2 rfl) ?_
                refine xb_getP (C := R_Reader) (T := F_Reader) (N := 6) hx hb 3 5 hts fin_Reader hown hR hk1 (by decide) rfl (by decide) rfl (hts _ m_59e07c6d) (fun _ h9 => h9) (xb_d D_Reader_readExpression 44 rfl) ?_
                obtain ⟨b23, eb23, hw⟩ := hw
                refine xb_some eb23 ?_
                refine lv_iload_n hx hb (xb_d D_Reader_readExpression 45 rfl) rfl (lv_at hl 3 rfl) ?_
                refine lv_iconst (v := 1) hx hb (xb_d D_Reader_readExpression 46 rfl) (by decide) ?_
                refine lv_isub hx hb (xb_d D_Reader_readExpression 47 rfl) ?_
                obtain ⟨hk25, hw⟩ := hw
                obtain ⟨hi24, hw⟩ := hw
                refine xb_iald hx hb hR hk25 hi24 (xb_d D_Reader_readExpression 48 rfl) ?_
                obtain ⟨hk27, hw⟩ := hw
                obtain ⟨hi26, hw⟩ := hw
                refine xb_bald hx hb hR hk27 hi26 (xb_d D_Reader_readExpression 49 rfl) ?_
                refine lv_iconst (v := 4) hx hb (xb_d D_Reader_readExpression 50 rfl) (by decide) ?_
                refine lv_icmp_eq (tgt := 143) hx hb (xb_d D_Reader_readExpression 51 rfl) rfl (fun hc28 => ?_) (fun hc28 => ?_)
                · have hw := hw.1 hc28
                  exact am_Reader_readExpression_L143 l hfl D A σ MC MS h0 Qr Qt (w_Reader_readExpression_L6 Qr Qt n9) ih x0 x1 x2 x3 v6 h10 (bc - c9) (bs - sc9) hw p e s m args below meth c hC H locs ls (k + c9) (n + sc9) hE (lv_sub hl [2, 3, 4, 5, 1] rfl) hR hS (by omega) (by omega)
                · have hw := hw.2 hc28
                  exact am_Reader_readExpression_L133 l hfl D A σ MC MS h0 Qr Qt (w_Reader_readExpression_L6 Qr Qt n9) ih x0 x1 x2 x3 v6 h10 (bc - c9) (bs - sc9) hw p e s m args below meth c hC H locs ls (k + c9) (n + sc9) hE (lv_sub hl [2, 3, 4, 5, 1] rfl) hR hS (by omega) (by omega)
            have hw := hw.2
            by_cases hc29 : r11 = 3
            · have hw := hw.1 hc29
              refine xt_numi hc29 ?_
              refine lv_tableIn (off := 137) (tgt := 173) hx hb (xb_d D_Reader_readExpression 21 rfl) (by decide +kernel) (by decide +kernel) (by decide +kernel) (by decide) ?_
              refine lv_iload_n hx hb (xb_d D_Reader_readExpression 77 rfl) rfl (lv_at hl 3 rfl) ?_
              refine lv_if_ne (tgt := 181) hx hb (xb_d D_Reader_readExpression 78 rfl) rfl (fun hc30 => ?_) (fun hc30 => ?_)
              · have hw := hw.1 hc30
                refine lv_iconst (v := 0) hx hb (xb_d D_Reader_readExpression 81 rfl) (by decide) ?_
                exact am_Reader_readExpression_L182 l hfl D A σ MC MS h0 Qr Qt (w_Reader_readExpression_L6 Qr Qt n9) ih x0 x1 x3 v6 0 h10 (bc - c9) (bs - sc9) hw p e s m args below meth c hC H locs ls (k + c9) (n + sc9) hE (lv_sub hl [2, 3, 5, 1] rfl) hR hS (by omega) (by omega)
              · have hw := hw.2 hc30
                refine lv_iconst (v := 1) hx hb (xb_d D_Reader_readExpression 79 rfl) (by decide) ?_
                refine lv_goto (tgt := 182) hx hb (xb_d D_Reader_readExpression 80 rfl) rfl ?_
                exact am_Reader_readExpression_L182 l hfl D A σ MC MS h0 Qr Qt (w_Reader_readExpression_L6 Qr Qt n9) ih x0 x1 x3 v6 1 h10 (bc - c9) (bs - sc9) hw p e s m args below meth c hC H locs ls (k + c9) (n + sc9) hE (lv_sub hl [2, 3, 5, 1] rfl) hR hS (by omega) (by omega)
            have hw := hw.2
            by_cases hc31 : r11 = 4
            · have hw := hw.1 hc31
              refine xt_numi hc31 ?_
              refine lv_tableIn (off := 183) (tgt := 219) hx hb (xb_d D_Reader_readExpression 21 rfl) (by decide +kernel) (by decide +kernel) (by decide +kernel) (by decide) ?_
              exact am_Reader_readExpression_L219 l hfl D A σ MC MS h0 Qr Qt (w_Reader_readExpression_L6 Qr Qt n9) ih x0 x1 x2 x3 v6 r11 h10 (bc - c9) (bs - sc9) hw p e s m args below meth c hC H locs ls (k + c9) (n + sc9) hE (lv_sub hl [2, 3, 4, 5, 1, 0] rfl) hR hS (by omega) (by omega)
            have hw := hw.2
            by_cases hc32 : r11 = 5
            · have hw := hw.1 hc32
              refine xt_numi hc32 ?_
              refine lv_tableIn (off := 171) (tgt := 207) hx hb (xb_d D_Reader_readExpression 21 rfl) (by decide +kernel) (by decide +kernel) (by decide +kernel) (by decide) ?_
              refine lv_aload_n hx hb (xb_d D_Reader_readExpression 98 rfl) rfl (lv_at hl 2 rfl) ?_
              refine lv_iload hx hb (xb_d D_Reader_readExpression 99 rfl) (lv_at hl 1 rfl) ?_
              have hk1 : xb_k h7 x0 = 4 := hEh7.k hk1
              have hk1 : xb_k h10 x0 = 4 := hEh10.k hk1
              obtain ⟨c35, sc35, hlc35, hlsc35, hw⟩ := hw
              refine xb_call (D := D) (A := A) (σ := σ) (h := h10) (d := 4) (mc := c35) (ms := sc35) (maxL := 6) (rest := []) (av := [.ref x0, .int v6]) (fun T hT X => by obtain ⟨cb, r1, r2, r3⟩ := xb_recv (ci := 3) hR rfl hk1 (by decide); exact xt_invV X hx hown (hts _ m_95810fc2) (hts _ m_49502e7a) (hts _ m_121695c3) (xt_sigOf (hts _ m_75b212be)) nm_Reader_readLabels (by rw [hT]; exact r1) r2 r3 (g := F0 m 210 ls [.int v6, .ref x0]) rfl (argsL := [.int v6]) (rest := []) rfl rfl (by rw [hb]; exact (xb_d D_Reader_readExpression 100 rfl))) (ok_Reader_readLabels l hfl D A σ x0 v6 h10 c35 sc35 _ _ hw) (hml.trans hl.1.symm) (by rw [hb]; exact (xb_d D_Reader_readExpression 100 rfl)) (Nat.le_of_ble_eq_true rfl) (Nat.le_of_ble_eq_true rfl) (Nat.le_of_ble_eq_true rfl) (show (k + c9) + c35 ≤ MC by omega) (show (n + sc9) + sc35 ≤ MS by omega) (xt_w1 hB.1 m_75b212be) (xt_cdOf hB.1 m_75b212be) (hts _ m_938fcec4) hB hR hS hA (fun vv h33 H locs hq hEh33 hR hS => ?_) (fun XX ax h33 H locs hq hEh33 hex hR hS => ?_)
              · obtain ⟨rfl, hw⟩ := hq
                have hw := hw hEh33
                have hE := hE.tr hEh33
                refine W.eq (g2 := F0 m 213 ls []) rfl ?_
                refine lv_goto (tgt := 227) hx hb (xb_d D_Reader_readExpression 101 rfl) rfl ?_
                exact am_Reader_readExpression_L227 l hfl D A σ MC MS h0 Qr Qt (w_Reader_readExpression_L6 Qr Qt n9) ih x0 x1 x2 x3 h33 ((bc - c9) - c35) ((bs - sc9) - sc35) hw p e s m args below meth c hC H locs ls ((k + c9) + c35) ((n + sc9) + sc35) hE (lv_sub hl [2, 3, 4, 5] rfl) hR hS (by omega) (by omega)
              · exact xb_pass hlocks (fun x hx9 => by rw [htab] at hx9; first | cases hx9 | (simp [tableOf] at hx9; rcases hx9 with rfl | rfl | rfl <;> decide)) (show ((k + c9) + c35) ≤ MC by omega) (show ((n + sc9) + sc35) ≤ MS by omega) (hE.tr hEh33) hR hS hex hq
            have hw := hw.2
            have hw := hw hc12 hc13 hc20 hc29 hc31 hc32
            refine lv_tableOut (tgt := 219) hx hb (xb_d D_Reader_readExpression 21 rfl) (by have a0 := xb_nl (0) 0 (by decide) hc12; have a1 := xb_nl (1) 1 (by decide) hc13; have a2 := xb_nl (2) 2 (by decide) hc20; have a3 := xb_nl (3) 3 (by decide) hc29; have a4 := xb_nl (4) 4 (by decide) hc31; have a5 := xb_nl (5) 5 (by decide) hc32; omega) (by decide) ?_
            exact am_Reader_readExpression_L219 l hfl D A σ MC MS h0 Qr Qt (w_Reader_readExpression_L6 Qr Qt n9) ih x0 x1 x2 x3 v6 r11 h10 (bc - c9) (bs - sc9) hw p e s m args below meth c hC H locs ls (k + c9) (n + sc9) hE (lv_sub hl [2, 3, 4, 5, 1, 0] rfl) hR hS (by omega) (by omega)
          · exact False.elim hq
        · exact xb_pass hlocks (fun x hx9 => by rw [htab] at hx9; first | cases hx9 | (simp [tableOf] at hx9; rcases hx9 with rfl | rfl | rfl <;> decide)) (show (k + c9) ≤ MC by omega) (show (n + sc9) ≤ MS by omega) (hE.tr hEh7) hR hS hex hq

set_option maxHeartbeats 4000000 in
set_option maxRecDepth 100000 in
theorem ok_Reader_readExpression (l : Launch) (hfl : l.flags = pinnedFlags ++ [noTraceFlag]) (D : va_G) (A : Nat → Prop) (σ : Nat) (x0 : Nat) (h : xb_H) (bc : Nat) (bs : Nat) (Qr : xb_H → Prop) (Qt : String → xb_H → Prop) (hw : w_Reader_readExpression x0 h bc bs Qr Qt) : xt_Met l y_Reader_readExpression [.code y_Reader_readExpression b_Reader_readExpression 6 none] (xb_rm 5 bc bs) (xb_Pc D A σ h [.ref x0]) (xb_Qc D A h (fun v h => v = none ∧ Qr h) Qt) bc bs A := by
  refine xb_ofAm (cc := b_Reader_readExpression) (by decide) (Nat.le_of_ble_eq_true rfl) ?_
  unfold w_Reader_readExpression at hw
  show xb_am l D A σ 5 bc bs h (fun v h => v = none ∧ Qr h) Qt y_Reader_readExpression.cls y_Reader_readExpression.name b_Reader_readExpression 6 ([] : List ExceptionTableEntry) none 0 [(0, .ref x0)] [] h bc bs
  obtain ⟨MC, hMC⟩ : ∃ x, x = bc := ⟨_, rfl⟩
  obtain ⟨MS, hMS⟩ : ∃ x, x = bs := ⟨_, rfl⟩
  rw [show xb_am l D A σ 5 bc bs = xb_am l D A σ 5 MC MS by rw [hMC, hMS]]
  obtain ⟨h0, hh0⟩ : ∃ x, x = h := ⟨_, rfl⟩
  rw [show xb_am l D A σ 5 MC MS h = xb_am l D A σ 5 MC MS h0 by rw [hh0]]
  intro p e s m args below meth c hC H locs ls k n hE hl hR hS hk hn
  obtain ⟨hx, hb, hown, hlocks, htab, hml, hr, hB, hA, hnm⟩ := id hC
  have hts := hB.1.1.at args
  refine lv_iconst (v := 0) hx hb (xb_d D_Reader_readExpression 0 rfl) (by decide) ?_
  refine lv_istore_n hx hb (xb_d D_Reader_readExpression 1 rfl) rfl hl (by decide) rfl (fun ls hl => ?_)
  have hl : lv_has ls 6 [(1, .int 0), (0, .ref x0)] := hl
  refine lv_iconst (v := 0) hx hb (xb_d D_Reader_readExpression 2 rfl) (by decide) ?_
  refine lv_istore_n hx hb (xb_d D_Reader_readExpression 3 rfl) rfl hl (by decide) rfl (fun ls hl => ?_)
  have hl : lv_has ls 6 [(2, .int 0), (1, .int 0), (0, .ref x0)] := hl
  refine lv_iconst (v := 0) hx hb (xb_d D_Reader_readExpression 4 rfl) (by decide) ?_
  refine lv_istore_n hx hb (xb_d D_Reader_readExpression 5 rfl) rfl hl (by decide) rfl (fun ls hl => ?_)
  have hl : lv_has ls 6 [(3, .int 0), (2, .int 0), (1, .int 0), (0, .ref x0)] := hl
  obtain ⟨n8, hw⟩ := hw
  exact am_Reader_readExpression_L6 l hfl D A σ MC MS h0 Qr Qt n8 x0 0 0 0 h bc bs hw p e s m args below meth c hC H locs ls k n hE (lv_sub hl [3, 2, 1, 0] rfl) hR hS (by omega) (by omega)

theorem m_85744c42 : (.constantLong "StackHost$Reader" 164 (-1) : Cond) ∈ xt_tbl := xt_in (xt_t4 (List.mem_of_getElem? (i := 14) (by decide +kernel))) (by decide +kernel)
set_option maxRecDepth 100000 in
def T_Reader_readLimits : List (Nat × Instr × Nat) := [(0, .aload_n 0, 1), (1, .iconst 1, 1), (2, .invokevirtual 148, 3), (5, .istore_n 3, 1), (6, .aload_n 1, 1), (7, .iload_n 2, 1), (8, .i2l, 1), (9, .invokevirtual 87, 3), (12, .aload_n 1, 1), (13, .aload_n 0, 1), (14, .invokevirtual 70, 3), (17, .i2l, 1), (18, .ldc2_w 76, 3), (21, .land, 1), (22, .invokevirtual 87, 3), (25, .aload_n 1, 1), (26, .iload_n 3, 1), (27, .iconst 1, 1), (28, .if_icmp .ne 15, 3), (31, .aload_n 0, 1), (32, .invokevirtual 70, 3), (35, .i2l, 1), (36, .ldc2_w 76, 3), (39, .land, 1), (40, .goto 6, 3), (43, .ldc2_w 164, 3), (46, .invokevirtual 87, 3), (49, .return_, 1)]
theorem D_Reader_readLimits : ∀ q ∈ T_Reader_readLimits, decode b_Reader_readLimits q.1 = .ok (q.2.1, q.2.2) := by decide +kernel
def w_Reader_readLimits_L46 (Qr : xb_H → Prop) (Qt : String → xb_H → Prop) (y0 : Int64) (y1 : Nat) (h : xb_H) (bc : Nat) (bs : Nat) : Prop :=
    xb_k h y1 = 2 ∧ ∃ c4 sc4 : Nat, c4 ≤ bc ∧ sc4 ≤ bs ∧ w_Row_add y1 y0 h c4 sc4 (fun (h2 : xb_H) => xb_ext h h2 → Qr h2)

def w_Reader_readLimits (x0 : Nat) (x1 : Nat) (x2 : Int32) (h : xb_H) (bc : Nat) (bs : Nat) (Qr : xb_H → Prop) (Qt : String → xb_H → Prop) : Prop :=
    xb_k h x0 = 4 ∧ ∃ c4 sc4 : Nat, c4 ≤ bc ∧ sc4 ≤ bs ∧ w_Reader_byteUpTo x0 1 h c4 sc4 (fun (r3 : Int32) (h2 : xb_H) => xb_ext h h2 → xb_k h2 x1 = 2 ∧ ∃ c8 sc8 : Nat, c8 ≤ (bc - c4) ∧ sc8 ≤ (bs - sc4) ∧ w_Row_add x1 (Int32.toInt64 x2) h2 c8 sc8 (fun (h6 : xb_H) => xb_ext h2 h6 → ∃ c11 sc11 : Nat, c11 ≤ ((bc - c4) - c8) ∧ sc11 ≤ ((bs - sc4) - sc8) ∧ w_Reader_count x0 h6 c11 sc11 (fun (r10 : Int32) (h9 : xb_H) => xb_ext h6 h9 → ∃ c14 sc14 : Nat, c14 ≤ (((bc - c4) - c8) - c11) ∧ sc14 ≤ (((bs - sc4) - sc8) - sc11) ∧ w_Row_add x1 ((Int32.toInt64 r10) &&& 4294967295) h9 c14 sc14 (fun (h12 : xb_H) => xb_ext h9 h12 → ((¬ r3 = (1 : Int32) → w_Reader_readLimits_L46 Qr Qt (-1) x1 h12 ((((bc - c4) - c8) - c11) - c14) ((((bs - sc4) - sc8) - sc11) - sc14)) ∧ (r3 = (1 : Int32) → ∃ c18 sc18 : Nat, c18 ≤ ((((bc - c4) - c8) - c11) - c14) ∧ sc18 ≤ ((((bs - sc4) - sc8) - sc11) - sc14) ∧ w_Reader_count x0 h12 c18 sc18 (fun (r17 : Int32) (h16 : xb_H) => xb_ext h12 h16 → w_Reader_readLimits_L46 Qr Qt ((Int32.toInt64 r17) &&& 4294967295) x1 h16 (((((bc - c4) - c8) - c11) - c14) - c18) (((((bs - sc4) - sc8) - sc11) - sc14) - sc18)) Qt)))) Qt)) Qt

set_option maxHeartbeats 4000000 in
set_option maxRecDepth 100000 in
theorem am_Reader_readLimits_L46 (l : Launch) (hfl : l.flags = pinnedFlags ++ [noTraceFlag]) (D : va_G) (A : Nat → Prop) (σ MC MS : Nat) (h0 : xb_H) (Qr : xb_H → Prop) (Qt : String → xb_H → Prop) (y0 : Int64) (y1 : Nat) (h : xb_H) (bc : Nat) (bs : Nat) (hw : w_Reader_readLimits_L46 Qr Qt y0 y1 h bc bs) : xb_am l D A σ 5 MC MS h0 (fun v h => v = none ∧ Qr h) Qt y_Reader_readLimits.cls y_Reader_readLimits.name b_Reader_readLimits 4 ([] : List ExceptionTableEntry) none 46 [] [.long y0, .ref y1] h bc bs := by
  unfold w_Reader_readLimits_L46 at hw
  intro p e s m args below meth c hC H locs ls k n hE hl hR hS hk hn
  obtain ⟨hx, hb, hown, hlocks, htab, hml, hr, hB, hA, hnm⟩ := id hC
  have hts := hB.1.1.at args
  obtain ⟨hk1, hw⟩ := hw
  obtain ⟨c4, sc4, hlc4, hlsc4, hw⟩ := hw
  refine xb_call (D := D) (A := A) (σ := σ) (h := h) (d := 4) (mc := c4) (ms := sc4) (maxL := 3) (rest := []) (av := [.ref y1, .long y0]) (fun T hT X => by obtain ⟨cb, r1, r2, r3⟩ := xb_recv (ci := 1) hR rfl hk1 (by decide); exact xt_invV X hx hown (hts _ m_da067afc) (hts _ m_7e8d081f) (hts _ m_4e47f51a) (xt_sigOf (hts _ m_4f1bdc54)) nm_Row_add (by rw [hT]; exact r1) r2 r3 (g := F0 m 46 ls [.long y0, .ref y1]) rfl (argsL := [.long y0]) (rest := []) rfl rfl (by rw [hb]; exact (xb_d D_Reader_readLimits 26 rfl))) (ok_Row_add l hfl D A σ y1 y0 h c4 sc4 _ hw) (hml.trans hl.1.symm) (by rw [hb]; exact (xb_d D_Reader_readLimits 26 rfl)) (Nat.le_of_ble_eq_true rfl) (Nat.le_of_ble_eq_true rfl) (Nat.le_of_ble_eq_true rfl) (show k + c4 ≤ MC by omega) (show n + sc4 ≤ MS by omega) (xt_w1 hB.1 m_4f1bdc54) (xt_cdOf hB.1 m_4f1bdc54) (hts _ m_c1bef504) hB hR hS hA (fun vv h2 H locs hq hEh2 hR hS => ?_) (fun XX ax h2 H locs hq hEh2 hex hR hS => ?_)
  · obtain ⟨rfl, hw⟩ := hq
    have hw := hw hEh2
    have hE := hE.tr hEh2
    refine W.eq (g2 := F0 m 49 ls []) rfl ?_
    exact xb_vret hx hb hr hlocks (show (k + c4) ≤ MC by omega) (show (n + sc4) ≤ MS by omega) hE hR hS (xb_d D_Reader_readLimits 27 rfl) hw
  · exact False.elim hq

set_option maxHeartbeats 4000000 in
set_option maxRecDepth 100000 in
theorem ok_Reader_readLimits (l : Launch) (hfl : l.flags = pinnedFlags ++ [noTraceFlag]) (D : va_G) (A : Nat → Prop) (σ : Nat) (x0 : Nat) (x1 : Nat) (x2 : Int32) (h : xb_H) (bc : Nat) (bs : Nat) (Qr : xb_H → Prop) (Qt : String → xb_H → Prop) (hw : w_Reader_readLimits x0 x1 x2 h bc bs Qr Qt) : xt_Met l y_Reader_readLimits [.code y_Reader_readLimits b_Reader_readLimits 4 none] (xb_rm 5 bc bs) (xb_Pc D A σ h [.ref x0, .ref x1, .int x2]) (xb_Qc D A h (fun v h => v = none ∧ Qr h) Qt) bc bs A := by
  refine xb_ofAm (cc := b_Reader_readLimits) (by decide) (Nat.le_of_ble_eq_true rfl) ?_
  unfold w_Reader_readLimits at hw
  show xb_am l D A σ 5 bc bs h (fun v h => v = none ∧ Qr h) Qt y_Reader_readLimits.cls y_Reader_readLimits.name b_Reader_readLimits 4 ([] : List ExceptionTableEntry) none 0 [(0, .ref x0), (1, .ref x1), (2, .int x2)] [] h bc bs
  obtain ⟨MC, hMC⟩ : ∃ x, x = bc := ⟨_, rfl⟩
  obtain ⟨MS, hMS⟩ : ∃ x, x = bs := ⟨_, rfl⟩
  rw [show xb_am l D A σ 5 bc bs = xb_am l D A σ 5 MC MS by rw [hMC, hMS]]
  obtain ⟨h0, hh0⟩ : ∃ x, x = h := ⟨_, rfl⟩
  rw [show xb_am l D A σ 5 MC MS h = xb_am l D A σ 5 MC MS h0 by rw [hh0]]
  intro p e s m args below meth c hC H locs ls k n hE hl hR hS hk hn
  obtain ⟨hx, hb, hown, hlocks, htab, hml, hr, hB, hA, hnm⟩ := id hC
  have hts := hB.1.1.at args
  refine lv_aload_n hx hb (xb_d D_Reader_readLimits 0 rfl) rfl (lv_at hl 0 rfl) ?_
  refine lv_iconst (v := 1) hx hb (xb_d D_Reader_readLimits 1 rfl) (by decide) ?_
  obtain ⟨hk1, hw⟩ := hw
  obtain ⟨c4, sc4, hlc4, hlsc4, hw⟩ := hw
  refine xb_call (D := D) (A := A) (σ := σ) (h := h) (d := 4) (mc := c4) (ms := sc4) (maxL := 3) (rest := []) (av := [.ref x0, .int 1]) (fun T hT X => by obtain ⟨cb, r1, r2, r3⟩ := xb_recv (ci := 3) hR rfl hk1 (by decide); exact xt_invV X hx hown (hts _ m_13cda130) (hts _ m_a9ff337d) (hts _ m_af3157e6) (xt_sigOf (hts _ m_8a19f6ff)) nm_Reader_byteUpTo (by rw [hT]; exact r1) r2 r3 (g := F0 m 2 ls [.int 1, .ref x0]) rfl (argsL := [.int 1]) (rest := []) rfl rfl (by rw [hb]; exact (xb_d D_Reader_readLimits 2 rfl))) (ok_Reader_byteUpTo l hfl D A σ x0 1 h c4 sc4 _ _ hw) (hml.trans hl.1.symm) (by rw [hb]; exact (xb_d D_Reader_readLimits 2 rfl)) (Nat.le_of_ble_eq_true rfl) (Nat.le_of_ble_eq_true rfl) (Nat.le_of_ble_eq_true rfl) (show k + c4 ≤ MC by omega) (show n + sc4 ≤ MS by omega) (xt_w1 hB.1 m_8a19f6ff) (xt_cdOf hB.1 m_8a19f6ff) (hts _ m_938fcec4) hB hR hS hA (fun vv h2 H locs hq hEh2 hR hS => ?_) (fun XX ax h2 H locs hq hEh2 hex hR hS => ?_)
  · obtain ⟨r3, rfl, hw⟩ := hq
    have hw := hw hEh2
    have hE := hE.tr hEh2
    refine W.eq (g2 := F0 m 5 ls [.int r3]) rfl ?_
    refine lv_istore_n hx hb (xb_d D_Reader_readLimits 3 rfl) rfl hl (by decide) rfl (fun ls hl => ?_)
    have hl : lv_has ls 4 [(3, .int r3), (0, .ref x0), (1, .ref x1), (2, .int x2)] := hl
    refine lv_aload_n hx hb (xb_d D_Reader_readLimits 4 rfl) rfl (lv_at hl 2 rfl) ?_
    refine lv_iload_n hx hb (xb_d D_Reader_readLimits 5 rfl) rfl (lv_at hl 3 rfl) ?_
    refine lv_i2l hx hb (xb_d D_Reader_readLimits 6 rfl) rfl ?_
    obtain ⟨hk5, hw⟩ := hw
    obtain ⟨c8, sc8, hlc8, hlsc8, hw⟩ := hw
    refine xb_call (D := D) (A := A) (σ := σ) (h := h2) (d := 4) (mc := c8) (ms := sc8) (maxL := 3) (rest := []) (av := [.ref x1, .long (Int32.toInt64 x2)]) (fun T hT X => by obtain ⟨cb, r1, r2, r3⟩ := xb_recv (ci := 1) hR rfl hk5 (by decide); exact xt_invV X hx hown (hts _ m_da067afc) (hts _ m_7e8d081f) (hts _ m_4e47f51a) (xt_sigOf (hts _ m_4f1bdc54)) nm_Row_add (by rw [hT]; exact r1) r2 r3 (g := F0 m 9 ls [.long (Int32.toInt64 x2), .ref x1]) rfl (argsL := [.long (Int32.toInt64 x2)]) (rest := []) rfl rfl (by rw [hb]; exact (xb_d D_Reader_readLimits 7 rfl))) (ok_Row_add l hfl D A σ x1 (Int32.toInt64 x2) h2 c8 sc8 _ hw) (hml.trans hl.1.symm) (by rw [hb]; exact (xb_d D_Reader_readLimits 7 rfl)) (Nat.le_of_ble_eq_true rfl) (Nat.le_of_ble_eq_true rfl) (Nat.le_of_ble_eq_true rfl) (show (k + c4) + c8 ≤ MC by omega) (show (n + sc4) + sc8 ≤ MS by omega) (xt_w1 hB.1 m_4f1bdc54) (xt_cdOf hB.1 m_4f1bdc54) (hts _ m_c1bef504) hB hR hS hA (fun vv h6 H locs hq hEh6 hR hS => ?_) (fun XX ax h6 H locs hq hEh6 hex hR hS => ?_)
    · obtain ⟨rfl, hw⟩ := hq
      have hw := hw hEh6
      have hE := hE.tr hEh6
      refine W.eq (g2 := F0 m 12 ls []) rfl ?_
      refine lv_aload_n hx hb (xb_d D_Reader_readLimits 8 rfl) rfl (lv_at hl 2 rfl) ?_
      refine lv_aload_n hx hb (xb_d D_Reader_readLimits 9 rfl) rfl (lv_at hl 1 rfl) ?_
      have hk1 : xb_k h2 x0 = 4 := hEh2.k hk1
      have hk1 : xb_k h6 x0 = 4 := hEh6.k hk1
      obtain ⟨c11, sc11, hlc11, hlsc11, hw⟩ := hw
      refine xb_call (D := D) (A := A) (σ := σ) (h := h6) (d := 3) (mc := c11) (ms := sc11) (maxL := 4) (rest := [.ref x1]) (av := [.ref x0]) (fun T hT X => by obtain ⟨cb, r1, r2, r3⟩ := xb_recv (ci := 3) hR rfl hk1 (by decide); exact xt_invV X hx hown (hts _ m_2c379b4d) (hts _ m_a120e786) (hts _ m_e903c73e) (xt_sigOf (hts _ m_99690a98)) nm_Reader_count (by rw [hT]; exact r1) r2 r3 (g := F0 m 14 ls [.ref x0, .ref x1]) rfl (argsL := []) (rest := [.ref x1]) rfl rfl (by rw [hb]; exact (xb_d D_Reader_readLimits 10 rfl))) (ok_Reader_count l hfl D A σ x0 h6 c11 sc11 _ _ hw) (hml.trans hl.1.symm) (by rw [hb]; exact (xb_d D_Reader_readLimits 10 rfl)) (Nat.le_of_ble_eq_true rfl) (Nat.le_of_ble_eq_true rfl) (Nat.le_of_ble_eq_true rfl) (show ((k + c4) + c8) + c11 ≤ MC by omega) (show ((n + sc4) + sc8) + sc11 ≤ MS by omega) (xt_w1 hB.1 m_99690a98) (xt_cdOf hB.1 m_99690a98) (hts _ m_938fcec4) hB hR hS hA (fun vv h9 H locs hq hEh9 hR hS => ?_) (fun XX ax h9 H locs hq hEh9 hex hR hS => ?_)
      · obtain ⟨r10, rfl, hw⟩ := hq
        have hw := hw hEh9
        have hE := hE.tr hEh9
        refine W.eq (g2 := F0 m 17 ls [.int r10, .ref x1]) rfl ?_
        refine lv_i2l hx hb (xb_d D_Reader_readLimits 11 rfl) rfl ?_
        refine lv_ldc2 (v := 4294967295) hx hb hown (hts _ m_687f726b) (xb_d D_Reader_readLimits 12 rfl) ?_
        refine lv_land hx hb (xb_d D_Reader_readLimits 13 rfl) ?_
        have hk5 : xb_k h6 x1 = 2 := hEh6.k hk5
        have hk5 : xb_k h9 x1 = 2 := hEh9.k hk5
        obtain ⟨c14, sc14, hlc14, hlsc14, hw⟩ := hw
        refine xb_call (D := D) (A := A) (σ := σ) (h := h9) (d := 4) (mc := c14) (ms := sc14) (maxL := 3) (rest := []) (av := [.ref x1, .long ((Int32.toInt64 r10) &&& 4294967295)]) (fun T hT X => by obtain ⟨cb, r1, r2, r3⟩ := xb_recv (ci := 1) hR rfl hk5 (by decide); exact xt_invV X hx hown (hts _ m_da067afc) (hts _ m_7e8d081f) (hts _ m_4e47f51a) (xt_sigOf (hts _ m_4f1bdc54)) nm_Row_add (by rw [hT]; exact r1) r2 r3 (g := F0 m 22 ls [.long ((Int32.toInt64 r10) &&& 4294967295), .ref x1]) rfl (argsL := [.long ((Int32.toInt64 r10) &&& 4294967295)]) (rest := []) rfl rfl (by rw [hb]; exact (xb_d D_Reader_readLimits 14 rfl))) (ok_Row_add l hfl D A σ x1 ((Int32.toInt64 r10) &&& 4294967295) h9 c14 sc14 _ hw) (hml.trans hl.1.symm) (by rw [hb]; exact (xb_d D_Reader_readLimits 14 rfl)) (Nat.le_of_ble_eq_true rfl) (Nat.le_of_ble_eq_true rfl) (Nat.le_of_ble_eq_true rfl) (show (((k + c4) + c8) + c11) + c14 ≤ MC by omega) (show (((n + sc4) + sc8) + sc11) + sc14 ≤ MS by omega) (xt_w1 hB.1 m_4f1bdc54) (xt_cdOf hB.1 m_4f1bdc54) (hts _ m_c1bef504) hB hR hS hA (fun vv h12 H locs hq hEh12 hR hS => ?_) (fun XX ax h12 H locs hq hEh12 hex hR hS => ?_)
        · obtain ⟨rfl, hw⟩ := hq
          have hw := hw hEh12
          have hE := hE.tr hEh12
          refine W.eq (g2 := F0 m 25 ls []) rfl ?_
          refine lv_aload_n hx hb (xb_d D_Reader_readLimits 15 rfl) rfl (lv_at hl 2 rfl) ?_
          refine lv_iload_n hx hb (xb_d D_Reader_readLimits 16 rfl) rfl (lv_at hl 0 rfl) ?_
          refine lv_iconst (v := 1) hx hb (xb_d D_Reader_readLimits 17 rfl) (by decide) ?_
          refine lv_icmp_ne (tgt := 43) hx hb (xb_d D_Reader_readLimits 18 rfl) rfl (fun hc15 => ?_) (fun hc15 => ?_)
          · have hw := hw.1 hc15
            refine lv_ldc2 (v := (-1)) hx hb hown (hts _ m_85744c42) (xb_d D_Reader_readLimits 25 rfl) ?_
            exact am_Reader_readLimits_L46 l hfl D A σ MC MS h0 Qr Qt (-1) x1 h12 ((((bc - c4) - c8) - c11) - c14) ((((bs - sc4) - sc8) - sc11) - sc14) hw p e s m args below meth c hC H locs ls ((((k + c4) + c8) + c11) + c14) ((((n + sc4) + sc8) + sc11) + sc14) hE (lv_sub hl [] rfl) hR hS (by omega) (by omega)
          · have hw := hw.2 hc15
            refine lv_aload_n hx hb (xb_d D_Reader_readLimits 19 rfl) rfl (lv_at hl 1 rfl) ?_
            have hk1 : xb_k h9 x0 = 4 := hEh9.k hk1
            have hk1 : xb_k h12 x0 = 4 := hEh12.k hk1
            obtain ⟨c18, sc18, hlc18, hlsc18, hw⟩ := hw
            refine xb_call (D := D) (A := A) (σ := σ) (h := h12) (d := 3) (mc := c18) (ms := sc18) (maxL := 4) (rest := [.ref x1]) (av := [.ref x0]) (fun T hT X => by obtain ⟨cb, r1, r2, r3⟩ := xb_recv (ci := 3) hR rfl hk1 (by decide); exact xt_invV X hx hown (hts _ m_2c379b4d) (hts _ m_a120e786) (hts _ m_e903c73e) (xt_sigOf (hts _ m_99690a98)) nm_Reader_count (by rw [hT]; exact r1) r2 r3 (g := F0 m 32 ls [.ref x0, .ref x1]) rfl (argsL := []) (rest := [.ref x1]) rfl rfl (by rw [hb]; exact (xb_d D_Reader_readLimits 20 rfl))) (ok_Reader_count l hfl D A σ x0 h12 c18 sc18 _ _ hw) (hml.trans hl.1.symm) (by rw [hb]; exact (xb_d D_Reader_readLimits 20 rfl)) (Nat.le_of_ble_eq_true rfl) (Nat.le_of_ble_eq_true rfl) (Nat.le_of_ble_eq_true rfl) (show ((((k + c4) + c8) + c11) + c14) + c18 ≤ MC by omega) (show ((((n + sc4) + sc8) + sc11) + sc14) + sc18 ≤ MS by omega) (xt_w1 hB.1 m_99690a98) (xt_cdOf hB.1 m_99690a98) (hts _ m_938fcec4) hB hR hS hA (fun vv h16 H locs hq hEh16 hR hS => ?_) (fun XX ax h16 H locs hq hEh16 hex hR hS => ?_)
            · obtain ⟨r17, rfl, hw⟩ := hq
              have hw := hw hEh16
              have hE := hE.tr hEh16
              refine W.eq (g2 := F0 m 35 ls [.int r17, .ref x1]) rfl ?_
              refine lv_i2l hx hb (xb_d D_Reader_readLimits 21 rfl) rfl ?_
              refine lv_ldc2 (v := 4294967295) hx hb hown (hts _ m_687f726b) (xb_d D_Reader_readLimits 22 rfl) ?_
              refine lv_land hx hb (xb_d D_Reader_readLimits 23 rfl) ?_
              refine lv_goto (tgt := 46) hx hb (xb_d D_Reader_readLimits 24 rfl) rfl ?_
              exact am_Reader_readLimits_L46 l hfl D A σ MC MS h0 Qr Qt ((Int32.toInt64 r17) &&& 4294967295) x1 h16 (((((bc - c4) - c8) - c11) - c14) - c18) (((((bs - sc4) - sc8) - sc11) - sc14) - sc18) hw p e s m args below meth c hC H locs ls (((((k + c4) + c8) + c11) + c14) + c18) (((((n + sc4) + sc8) + sc11) + sc14) + sc18) hE (lv_sub hl [] rfl) hR hS (by omega) (by omega)
            · exact xb_pass hlocks (fun x hx9 => by rw [htab] at hx9; first | cases hx9 | (simp [tableOf] at hx9; rcases hx9 with rfl | rfl | rfl <;> decide)) (show (((((k + c4) + c8) + c11) + c14) + c18) ≤ MC by omega) (show (((((n + sc4) + sc8) + sc11) + sc14) + sc18) ≤ MS by omega) (hE.tr hEh16) hR hS hex hq
        · exact False.elim hq
      · exact xb_pass hlocks (fun x hx9 => by rw [htab] at hx9; first | cases hx9 | (simp [tableOf] at hx9; rcases hx9 with rfl | rfl | rfl <;> decide)) (show (((k + c4) + c8) + c11) ≤ MC by omega) (show (((n + sc4) + sc8) + sc11) ≤ MS by omega) (hE.tr hEh9) hR hS hex hq
    · exact False.elim hq
  · exact xb_pass hlocks (fun x hx9 => by rw [htab] at hx9; first | cases hx9 | (simp [tableOf] at hx9; rcases hx9 with rfl | rfl | rfl <;> decide)) (show (k + c4) ≤ MC by omega) (show (n + sc4) ≤ MS by omega) (hE.tr hEh2) hR hS hex hq

theorem m_b25766a4 : (.fieldLink "StackHost$Reader" 181 "StackHost$StackModule" "groups" "LStackHost$Row;" : Cond) ∈ xt_tbl := xt_in (xt_t3 (List.mem_of_getElem? (i := 106) (by decide +kernel))) (by decide +kernel)
theorem m_860b3013 : (.methodLink "StackHost$Reader" 145 y_Reader_valueType : Cond) ∈ xt_tbl := xt_in (xt_t3 (List.mem_of_getElem? (i := 216) (by decide +kernel))) (by decide +kernel)
theorem m_24779024 : (.instanceMethod y_Reader_valueType : Cond) ∈ xt_tbl := xt_in (xt_t3 (List.mem_of_getElem? (i := 218) (by decide +kernel))) (by decide +kernel)
theorem m_7ecd5fa4 : (.selects "StackHost$Reader" y_Reader_valueType y_Reader_valueType : Cond) ∈ xt_tbl := xt_in (xt_v1 (q := (⟨"StackHost$Reader", "valueType", "()I"⟩, 6)) (List.mem_of_getElem? (i := 11) (by decide +kernel))) (by decide +kernel)
theorem m_0827f54b : (.code y_Reader_valueType b_Reader_valueType 2 (some .int) : Cond) ∈ xt_tbl := xt_in (xt_t3 (List.mem_of_getElem? (i := 219) (by decide +kernel))) (by decide +kernel)
theorem m_7a55d359 : (.constantLong "StackHost$Reader" 187 1000 : Cond) ∈ xt_tbl := xt_in (xt_t4 (List.mem_of_getElem? (i := 86) (by decide +kernel))) (by decide +kernel)
theorem nm_Reader_valueType : xt_nm y_Reader_valueType 0 := ⟨by decide +kernel, by decide +kernel⟩
set_option maxRecDepth 100000 in
def T_Reader_readLocals : List (Nat × Instr × Nat) := [(0, .aload_n 0, 1), (1, .invokevirtual 70, 3), (4, .i2l, 1), (5, .ldc2_w 76, 3), (8, .land, 1), (9, .lstore_n 1, 1), (10, .lconst 0, 1), (11, .lstore_n 3, 1), (12, .lconst 0, 1), (13, .lstore 5, 2), (15, .lload 5, 2), (17, .lload_n 1, 1), (18, .lcmp, 1), (19, .ifCond .ge 80, 3), (22, .aload_n 0, 1), (23, .getfield 41, 3), (26, .istore 7, 2), (28, .aload_n 0, 1), (29, .invokevirtual 70, 3), (32, .i2l, 1), (33, .ldc2_w 76, 3), (36, .land, 1), (37, .lstore 8, 2), (39, .lload_n 3, 1), (40, .lload 8, 2), (42, .ladd, 1), (43, .lstore_n 3, 1), (44, .lload_n 3, 1), (45, .ldc2_w 187, 3), (48, .lcmp, 1), (49, .ifCond .le 14, 3), (52, .aload_n 0, 1), (53, .getfield 15, 3), (56, .bipush 9, 2), (58, .iload 7, 2), (60, .invokevirtual 37, 3), (63, .aload_n 0, 1), (64, .getfield 15, 3), (67, .getfield 181, 3), (70, .lload 8, 2), (72, .invokevirtual 87, 3), (75, .aload_n 0, 1), (76, .getfield 15, 3), (79, .getfield 181, 3), (82, .aload_n 0, 1), (83, .invokevirtual 145, 3), (86, .i2l, 1), (87, .invokevirtual 87, 3), (90, .lload 5, 2), (92, .lconst 1, 1), (93, .ladd, 1), (94, .lstore 5, 2), (96, .goto (-81), 3), (99, .lload_n 3, 1), (100, .l2i, 1), (101, .ireturn, 1)]
theorem D_Reader_readLocals : ∀ q ∈ T_Reader_readLocals, decode b_Reader_readLocals q.1 = .ok (q.2.1, q.2.2) := by decide +kernel
def w_Reader_readLocals_L63 (K15 : Nat → Int64 → Int64 → Int64 → xb_H → Nat → Nat → Prop) (Qr : Int32 → xb_H → Prop) (Qt : String → xb_H → Prop) (x0 : Nat) (x1 : Int64) (x3 : Int64) (x5 : Int64) (x8 : Int64) (h : xb_H) (bc : Nat) (bs : Nat) : Prop :=
    xb_k h x0 = 4 ∧ ∃ b2 : Nat, (xb_r h x0 0) = some b2 ∧ xb_k h b2 = 3 ∧ ∃ b4 : Nat, (xb_r h b2 12) = some b4 ∧ xb_k h b4 = 2 ∧ ∃ c8 sc8 : Nat, c8 ≤ bc ∧ sc8 ≤ bs ∧ w_Row_add b4 x8 h c8 sc8 (fun (h6 : xb_H) => xb_ext h h6 → ∃ b9 : Nat, (xb_r h6 x0 0) = some b9 ∧ xb_k h6 b9 = 3 ∧ ∃ b11 : Nat, (xb_r h6 b9 12) = some b11 ∧ ∃ c14 sc14 : Nat, c14 ≤ (bc - c8) ∧ sc14 ≤ (bs - sc8) ∧ w_Reader_valueType x0 h6 c14 sc14 (fun (r13 : Int32) (h12 : xb_H) => xb_ext h6 h12 → xb_k h12 b11 = 2 ∧ ∃ c18 sc18 : Nat, c18 ≤ ((bc - c8) - c14) ∧ sc18 ≤ ((bs - sc8) - sc14) ∧ w_Row_add b11 (Int32.toInt64 r13) h12 c18 sc18 (fun (h16 : xb_H) => xb_ext h12 h16 → ∀ v19 : Int64, v19 = (x5 + 1) → K15 x0 x1 x3 v19 h16 (((bc - c8) - c14) - c18) (((bs - sc8) - sc14) - sc18))) Qt)

def w_Reader_readLocals_L15 (Qr : Int32 → xb_H → Prop) (Qt : String → xb_H → Prop) : Nat → Nat → Int64 → Int64 → Int64 → xb_H → Nat → Nat → Prop
  | 0, _, _, _, _, _, _, _ => False
  | n9 + 1, x0, x1, x3, x5, h, bc, bs =>
    ((x1 ≤ x5 → Qr (Int64.toInt32 x3) h) ∧ (¬ x1 ≤ x5 → xb_k h x0 = 4 ∧ ∀ v3 : Int32, v3 = (xb_i h x0 3) → ∃ c6 sc6 : Nat, c6 ≤ bc ∧ sc6 ≤ bs ∧ w_Reader_count x0 h c6 sc6 (fun (r5 : Int32) (h4 : xb_H) => xb_ext h h4 → ∀ v7 : Int64, v7 = ((Int32.toInt64 r5) &&& 4294967295) → ∀ v8 : Int64, v8 = (x3 + v7) → ((v8 ≤ (1000 : Int64) → w_Reader_readLocals_L63 (w_Reader_readLocals_L15 Qr Qt n9) Qr Qt x0 x1 v8 x5 v7 h4 (bc - c6) (bs - sc6)) ∧ (¬ v8 ≤ (1000 : Int64) → ∃ b10 : Nat, (xb_r h4 x0 0) = some b10 ∧ xb_k h4 b10 = 3 ∧ ∃ c14 sc14 : Nat, c14 ≤ (bc - c6) ∧ sc14 ≤ (bs - sc6) ∧ w_StackModule_fail b10 9 v3 h4 c14 sc14 (fun (h12 : xb_H) => xb_ext h4 h12 → w_Reader_readLocals_L63 (w_Reader_readLocals_L15 Qr Qt n9) Qr Qt x0 x1 v8 x5 v7 h12 ((bc - c6) - c14) ((bs - sc6) - sc14)) Qt))) Qt))

def w_Reader_readLocals (x0 : Nat) (h : xb_H) (bc : Nat) (bs : Nat) (Qr : Int32 → xb_H → Prop) (Qt : String → xb_H → Prop) : Prop :=
    xb_k h x0 = 4 ∧ ∃ c4 sc4 : Nat, c4 ≤ bc ∧ sc4 ≤ bs ∧ w_Reader_count x0 h c4 sc4 (fun (r3 : Int32) (h2 : xb_H) => xb_ext h h2 → ∀ v5 : Int64, v5 = ((Int32.toInt64 r3) &&& 4294967295) → (∃ n8 : Nat, w_Reader_readLocals_L15 Qr Qt n8 x0 v5 0 0 h2 (bc - c4) (bs - sc4))) Qt

set_option maxHeartbeats 4000000 in
set_option maxRecDepth 100000 in
theorem am_Reader_readLocals_L63 (l : Launch) (hfl : l.flags = pinnedFlags ++ [noTraceFlag]) (D : va_G) (A : Nat → Prop) (σ MC MS : Nat) (h0 : xb_H) (Qr : Int32 → xb_H → Prop) (Qt : String → xb_H → Prop) (K15 : Nat → Int64 → Int64 → Int64 → xb_H → Nat → Nat → Prop) (hK15 : ∀ (x0 : Nat) (x1 : Int64) (x3 : Int64) (x5 : Int64) (h : xb_H) (bc : Nat) (bs : Nat), K15 x0 x1 x3 x5 h bc bs → xb_am l D A σ 5 MC MS h0 (fun v h => ∃ r, v = some (.int r) ∧ Qr r h) Qt y_Reader_readLocals.cls y_Reader_readLocals.name b_Reader_readLocals 10 ([] : List ExceptionTableEntry) (some .int) 15 [(0, .ref x0), (1, .long x1), (3, .long x3), (5, .long x5)] [] h bc bs) (x0 : Nat) (x1 : Int64) (x3 : Int64) (x5 : Int64) (x8 : Int64) (h : xb_H) (bc : Nat) (bs : Nat) (hw : w_Reader_readLocals_L63 K15 Qr Qt x0 x1 x3 x5 x8 h bc bs) : xb_am l D A σ 5 MC MS h0 (fun v h => ∃ r, v = some (.int r) ∧ Qr r h) Qt y_Reader_readLocals.cls y_Reader_readLocals.name b_Reader_readLocals 10 ([] : List ExceptionTableEntry) (some .int) 63 [(0, .ref x0), (1, .long x1), (3, .long x3), (5, .long x5), (8, .long x8)] [] h bc bs := by
  unfold w_Reader_readLocals_L63 at hw
  intro p e s m args below meth c hC H locs ls k n hE hl hR hS hk hn
  obtain ⟨hx, hb, hown, hlocks, htab, hml, hr, hB, hA, hnm⟩ := id hC
  have hts := hB.1.1.at args
  refine lv_aload_n hx hb (xb_d D_Reader_readLocals 36 rfl) rfl (lv_at hl 0 rfl) ?_
  obtain ⟨hk1, hw⟩ := hw
  refine xb_getP (C := R_Reader) (T := F_Reader) (N := 6) hx hb 3 0 hts fin_Reader hown hR hk1 (by decide) rfl (by decide) rfl (hts _ m_76d8349c) (fun _ h9 => h9) (xb_d D_Reader_readLocals 37 rfl) ?_
  obtain ⟨b2, eb2, hw⟩ := hw
  refine xb_some eb2 ?_
  obtain ⟨hk3, hw⟩ := hw
  refine xb_getP (C := R_StackModule) (T := F_StackModule) (N := 19) hx hb 2 12 hts fin_StackModule hown hR hk3 (by decide) rfl (by decide) rfl (hts _ m_b25766a4) (fun _ h9 => h9) (xb_d D_Reader_readLocals 38 rfl) ?_
  obtain ⟨b4, eb4, hw⟩ := hw
  refine xb_some eb4 ?_
  refine lv_lload hx hb (xb_d D_Reader_readLocals 39 rfl) (lv_at hl 4 rfl) ?_
  obtain ⟨hk5, hw⟩ := hw
  obtain ⟨c8, sc8, hlc8, hlsc8, hw⟩ := hw
  refine xb_call (D := D) (A := A) (σ := σ) (h := h) (d := 4) (mc := c8) (ms := sc8) (maxL := 3) (rest := []) (av := [.ref b4, .long x8]) (fun T hT X => by obtain ⟨cb, r1, r2, r3⟩ := xb_recv (ci := 1) hR rfl hk5 (by decide); exact xt_invV X hx hown (hts _ m_da067afc) (hts _ m_7e8d081f) (hts _ m_4e47f51a) (xt_sigOf (hts _ m_4f1bdc54)) nm_Row_add (by rw [hT]; exact r1) r2 r3 (g := F0 m 72 ls [.long x8, .ref b4]) rfl (argsL := [.long x8]) (rest := []) rfl rfl (by rw [hb]; exact (xb_d D_Reader_readLocals 40 rfl))) (ok_Row_add l hfl D A σ b4 x8 h c8 sc8 _ hw) (hml.trans hl.1.symm) (by rw [hb]; exact (xb_d D_Reader_readLocals 40 rfl)) (Nat.le_of_ble_eq_true rfl) (Nat.le_of_ble_eq_true rfl) (Nat.le_of_ble_eq_true rfl) (show k + c8 ≤ MC by omega) (show n + sc8 ≤ MS by omega) (xt_w1 hB.1 m_4f1bdc54) (xt_cdOf hB.1 m_4f1bdc54) (hts _ m_c1bef504) hB hR hS hA (fun vv h6 H locs hq hEh6 hR hS => ?_) (fun XX ax h6 H locs hq hEh6 hex hR hS => ?_)
  · obtain ⟨rfl, hw⟩ := hq
    have hw := hw hEh6
    have hE := hE.tr hEh6
    refine W.eq (g2 := F0 m 75 ls []) rfl ?_
    refine lv_aload_n hx hb (xb_d D_Reader_readLocals 41 rfl) rfl (lv_at hl 0 rfl) ?_
    have hk1 : xb_k h6 x0 = 4 := hEh6.k hk1
    refine xb_getP (C := R_Reader) (T := F_Reader) (N := 6) hx hb 3 0 hts fin_Reader hown hR hk1 (by decide) rfl (by decide) rfl (hts _ m_76d8349c) (fun _ h9 => h9) (xb_d D_Reader_readLocals 42 rfl) ?_
    obtain ⟨b9, eb9, hw⟩ := hw
    refine xb_some eb9 ?_
    obtain ⟨hk10, hw⟩ := hw
    refine xb_getP (C := R_StackModule) (T := F_StackModule) (N := 19) hx hb 2 12 hts fin_StackModule hown hR hk10 (by decide) rfl (by decide) rfl (hts _ m_b25766a4) (fun _ h9 => h9) (xb_d D_Reader_readLocals 43 rfl) ?_
    obtain ⟨b11, eb11, hw⟩ := hw
    refine xb_some eb11 ?_
    refine lv_aload_n hx hb (xb_d D_Reader_readLocals 44 rfl) rfl (lv_at hl 0 rfl) ?_
    obtain ⟨c14, sc14, hlc14, hlsc14, hw⟩ := hw
    refine xb_call (D := D) (A := A) (σ := σ) (h := h6) (d := 4) (mc := c14) (ms := sc14) (maxL := 2) (rest := [.ref b11]) (av := [.ref x0]) (fun T hT X => by obtain ⟨cb, r1, r2, r3⟩ := xb_recv (ci := 3) hR rfl hk1 (by decide); exact xt_invV X hx hown (hts _ m_860b3013) (hts _ m_24779024) (hts _ m_7ecd5fa4) (xt_sigOf (hts _ m_0827f54b)) nm_Reader_valueType (by rw [hT]; exact r1) r2 r3 (g := F0 m 83 ls [.ref x0, .ref b11]) rfl (argsL := []) (rest := [.ref b11]) rfl rfl (by rw [hb]; exact (xb_d D_Reader_readLocals 45 rfl))) (ok_Reader_valueType l hfl D A σ x0 h6 c14 sc14 _ _ hw) (hml.trans hl.1.symm) (by rw [hb]; exact (xb_d D_Reader_readLocals 45 rfl)) (Nat.le_of_ble_eq_true rfl) (Nat.le_of_ble_eq_true rfl) (Nat.le_of_ble_eq_true rfl) (show (k + c8) + c14 ≤ MC by omega) (show (n + sc8) + sc14 ≤ MS by omega) (xt_w1 hB.1 m_0827f54b) (xt_cdOf hB.1 m_0827f54b) (hts _ m_938fcec4) hB hR hS hA (fun vv h12 H locs hq hEh12 hR hS => ?_) (fun XX ax h12 H locs hq hEh12 hex hR hS => ?_)
    · obtain ⟨r13, rfl, hw⟩ := hq
      have hw := hw hEh12
      have hE := hE.tr hEh12
      refine W.eq (g2 := F0 m 86 ls [.int r13, .ref b11]) rfl ?_
      refine lv_i2l hx hb (xb_d D_Reader_readLocals 46 rfl) rfl ?_
      obtain ⟨hk15, hw⟩ := hw
      obtain ⟨c18, sc18, hlc18, hlsc18, hw⟩ := hw
      refine xb_call (D := D) (A := A) (σ := σ) (h := h12) (d := 4) (mc := c18) (ms := sc18) (maxL := 3) (rest := []) (av := [.ref b11, .long (Int32.toInt64 r13)]) (fun T hT X => by obtain ⟨cb, r1, r2, r3⟩ := xb_recv (ci := 1) hR rfl hk15 (by decide); exact xt_invV X hx hown (hts _ m_da067afc) (hts _ m_7e8d081f) (hts _ m_4e47f51a) (xt_sigOf (hts _ m_4f1bdc54)) nm_Row_add (by rw [hT]; exact r1) r2 r3 (g := F0 m 87 ls [.long (Int32.toInt64 r13), .ref b11]) rfl (argsL := [.long (Int32.toInt64 r13)]) (rest := []) rfl rfl (by rw [hb]; exact (xb_d D_Reader_readLocals 47 rfl))) (ok_Row_add l hfl D A σ b11 (Int32.toInt64 r13) h12 c18 sc18 _ hw) (hml.trans hl.1.symm) (by rw [hb]; exact (xb_d D_Reader_readLocals 47 rfl)) (Nat.le_of_ble_eq_true rfl) (Nat.le_of_ble_eq_true rfl) (Nat.le_of_ble_eq_true rfl) (show ((k + c8) + c14) + c18 ≤ MC by omega) (show ((n + sc8) + sc14) + sc18 ≤ MS by omega) (xt_w1 hB.1 m_4f1bdc54) (xt_cdOf hB.1 m_4f1bdc54) (hts _ m_c1bef504) hB hR hS hA (fun vv h16 H locs hq hEh16 hR hS => ?_) (fun XX ax h16 H locs hq hEh16 hex hR hS => ?_)
      · obtain ⟨rfl, hw⟩ := hq
        have hw := hw hEh16
        have hE := hE.tr hEh16
        refine W.eq (g2 := F0 m 90 ls []) rfl ?_
        refine lv_lload hx hb (xb_d D_Reader_readLocals 48 rfl) (lv_at hl 3 rfl) ?_
        refine lv_lconst (v := 1) hx hb (xb_d D_Reader_readLocals 49 rfl) (by decide) ?_
        refine lv_ladd hx hb (xb_d D_Reader_readLocals 50 rfl) ?_
        obtain ⟨v19, ev19⟩ : ∃ x : Int64, x = (x5 + 1) := ⟨_, rfl⟩
        have hw := hw v19 ev19
        refine xt_numl (y := v19) ev19.symm ?_
        refine lv_lstore hx hb (xb_d D_Reader_readLocals 51 rfl) hl (by decide) rfl (fun ls hl => ?_)
        have hl : lv_has ls 10 [(5, .long v19), (0, .ref x0), (1, .long x1), (3, .long x3), (8, .long x8)] := hl
        refine lv_goto (tgt := 15) hx hb (xb_d D_Reader_readLocals 52 rfl) rfl ?_
        exact hK15 x0 x1 x3 v19 h16 (((bc - c8) - c14) - c18) (((bs - sc8) - sc14) - sc18) hw p e s m args below meth c hC H locs ls (((k + c8) + c14) + c18) (((n + sc8) + sc14) + sc18) hE (lv_sub hl [1, 2, 3, 0] rfl) hR hS (by omega) (by omega)
      · exact False.elim hq
    · exact xb_pass hlocks (fun x hx9 => by rw [htab] at hx9; first | cases hx9 | (simp [tableOf] at hx9; rcases hx9 with rfl | rfl | rfl <;> decide)) (show ((k + c8) + c14) ≤ MC by omega) (show ((n + sc8) + sc14) ≤ MS by omega) (hE.tr hEh12) hR hS hex hq
  · exact False.elim hq

set_option maxHeartbeats 4000000 in
set_option maxRecDepth 100000 in
theorem am_Reader_readLocals_L15 (l : Launch) (hfl : l.flags = pinnedFlags ++ [noTraceFlag]) (D : va_G) (A : Nat → Prop) (σ MC MS : Nat) (h0 : xb_H) (Qr : Int32 → xb_H → Prop) (Qt : String → xb_H → Prop) (n9 : Nat) : ∀ (x0 : Nat) (x1 : Int64) (x3 : Int64) (x5 : Int64) (h : xb_H) (bc : Nat) (bs : Nat), w_Reader_readLocals_L15 Qr Qt n9 x0 x1 x3 x5 h bc bs → xb_am l D A σ 5 MC MS h0 (fun v h => ∃ r, v = some (.int r) ∧ Qr r h) Qt y_Reader_readLocals.cls y_Reader_readLocals.name b_Reader_readLocals 10 ([] : List ExceptionTableEntry) (some .int) 15 [(0, .ref x0), (1, .long x1), (3, .long x3), (5, .long x5)] [] h bc bs := by
  induction n9 with
  | zero => intro x0 x1 x3 x5 h bc bs hw; exact False.elim hw
  | succ n9 ih =>
    intro x0 x1 x3 x5 h bc bs hw
    unfold w_Reader_readLocals_L15 at hw
    intro p e s m args below meth c hC H locs ls k n hE hl hR hS hk hn
    obtain ⟨hx, hb, hown, hlocks, htab, hml, hr, hB, hA, hnm⟩ := id hC
    have hts := hB.1.1.at args
    refine lv_lload hx hb (xb_d D_Reader_readLocals 10 rfl) (lv_at hl 3 rfl) ?_
    refine lv_lload_n hx hb (xb_d D_Reader_readLocals 11 rfl) rfl (lv_at hl 1 rfl) ?_
    refine xb_lc_ge (tgt := 99) hx hb (xb_d D_Reader_readLocals 12 rfl) (xb_d D_Reader_readLocals 13 rfl) rfl (fun hc1 => ?_) (fun hc1 => ?_)
    · have hw := hw.1 hc1
      refine lv_lload_n hx hb (xb_d D_Reader_readLocals 53 rfl) rfl (lv_at hl 2 rfl) ?_
      refine lv_l2i hx hb (xb_d D_Reader_readLocals 54 rfl) rfl ?_
      exact xb_iret hx hb hr hlocks (show k ≤ MC by omega) (show n ≤ MS by omega) hE hR hS (xb_d D_Reader_readLocals 55 rfl) hw
    · have hw := hw.2 hc1
      refine lv_aload_n hx hb (xb_d D_Reader_readLocals 14 rfl) rfl (lv_at hl 0 rfl) ?_
      obtain ⟨hk2, hw⟩ := hw
      refine xb_getI (C := R_Reader) (T := F_Reader) (N := 6) hx hb 3 3 hts fin_Reader hown hR hk2 (by decide) rfl (by decide) rfl (hts _ m_a9b84ac2) (fun _ h9 => h9) (xb_d D_Reader_readLocals 15 rfl) ?_
      obtain ⟨v3, ev3⟩ : ∃ x : Int32, x = (xb_i h x0 3) := ⟨_, rfl⟩
      have hw := hw v3 ev3
      refine xt_numi (y := v3) ev3.symm ?_
      refine lv_istore hx hb (xb_d D_Reader_readLocals 16 rfl) hl (by decide) rfl (fun ls hl => ?_)
      have hl : lv_has ls 10 [(7, .int v3), (0, .ref x0), (1, .long x1), (3, .long x3), (5, .long x5)] := hl
      refine lv_aload_n hx hb (xb_d D_Reader_readLocals 17 rfl) rfl (lv_at hl 1 rfl) ?_
      obtain ⟨c6, sc6, hlc6, hlsc6, hw⟩ := hw
      refine xb_call (D := D) (A := A) (σ := σ) (h := h) (d := 3) (mc := c6) (ms := sc6) (maxL := 4) (rest := []) (av := [.ref x0]) (fun T hT X => by obtain ⟨cb, r1, r2, r3⟩ := xb_recv (ci := 3) hR rfl hk2 (by decide); exact xt_invV X hx hown (hts _ m_2c379b4d) (hts _ m_a120e786) (hts _ m_e903c73e) (xt_sigOf (hts _ m_99690a98)) nm_Reader_count (by rw [hT]; exact r1) r2 r3 (g := F0 m 29 ls [.ref x0]) rfl (argsL := []) (rest := []) rfl rfl (by rw [hb]; exact (xb_d D_Reader_readLocals 18 rfl))) (ok_Reader_count l hfl D A σ x0 h c6 sc6 _ _ hw) (hml.trans hl.1.symm) (by rw [hb]; exact (xb_d D_Reader_readLocals 18 rfl)) (Nat.le_of_ble_eq_true rfl) (Nat.le_of_ble_eq_true rfl) (Nat.le_of_ble_eq_true rfl) (show k + c6 ≤ MC by omega) (show n + sc6 ≤ MS by omega) (xt_w1 hB.1 m_99690a98) (xt_cdOf hB.1 m_99690a98) (hts _ m_938fcec4) hB hR hS hA (fun vv h4 H locs hq hEh4 hR hS => ?_) (fun XX ax h4 H locs hq hEh4 hex hR hS => ?_)
      · obtain ⟨r5, rfl, hw⟩ := hq
        have hw := hw hEh4
        have hE := hE.tr hEh4
        refine W.eq (g2 := F0 m 32 ls [.int r5]) rfl ?_
        refine lv_i2l hx hb (xb_d D_Reader_readLocals 19 rfl) rfl ?_
        refine lv_ldc2 (v := 4294967295) hx hb hown (hts _ m_687f726b) (xb_d D_Reader_readLocals 20 rfl) ?_
        refine lv_land hx hb (xb_d D_Reader_readLocals 21 rfl) ?_
        obtain ⟨v7, ev7⟩ : ∃ x : Int64, x = ((Int32.toInt64 r5) &&& 4294967295) := ⟨_, rfl⟩
        have hw := hw v7 ev7
        refine xt_numl (y := v7) ev7.symm ?_
        refine lv_lstore hx hb (xb_d D_Reader_readLocals 22 rfl) hl (by decide) rfl (fun ls hl => ?_)
        have hl : lv_has ls 10 [(8, .long v7), (7, .int v3), (0, .ref x0), (1, .long x1), (3, .long x3), (5, .long x5)] := hl
        refine lv_lload_n hx hb (xb_d D_Reader_readLocals 23 rfl) rfl (lv_at hl 4 rfl) ?_
        refine lv_lload hx hb (xb_d D_Reader_readLocals 24 rfl) (lv_at hl 0 rfl) ?_
        refine lv_ladd hx hb (xb_d D_Reader_readLocals 25 rfl) ?_
        obtain ⟨v8, ev8⟩ : ∃ x : Int64, x = (x3 + v7) := ⟨_, rfl⟩
        have hw := hw v8 ev8
        refine xt_numl (y := v8) ev8.symm ?_
        refine lv_lstore_n hx hb (xb_d D_Reader_readLocals 26 rfl) rfl hl (by decide) rfl (fun ls hl => ?_)
        have hl : lv_has ls 10 [(3, .long v8), (8, .long v7), (7, .int v3), (0, .ref x0), (1, .long x1), (5, .long x5)] := hl
        refine lv_lload_n hx hb (xb_d D_Reader_readLocals 27 rfl) rfl (lv_at hl 0 rfl) ?_
        refine lv_ldc2 (v := 1000) hx hb hown (hts _ m_7a55d359) (xb_d D_Reader_readLocals 28 rfl) ?_
        refine xb_lc_le (tgt := 63) hx hb (xb_d D_Reader_readLocals 29 rfl) (xb_d D_Reader_readLocals 30 rfl) rfl (fun hc9 => ?_) (fun hc9 => ?_)
        · have hw := hw.1 hc9
          exact am_Reader_readLocals_L63 l hfl D A σ MC MS h0 Qr Qt (w_Reader_readLocals_L15 Qr Qt n9) ih x0 x1 v8 x5 v7 h4 (bc - c6) (bs - sc6) hw p e s m args below meth c hC H locs ls (k + c6) (n + sc6) hE (lv_sub hl [3, 4, 0, 5, 1] rfl) hR hS (by omega) (by omega)
        · have hw := hw.2 hc9
          refine lv_aload_n hx hb (xb_d D_Reader_readLocals 31 rfl) rfl (lv_at hl 3 rfl) ?_
          have hk2 : xb_k h4 x0 = 4 := hEh4.k hk2
          refine xb_getP (C := R_Reader) (T := F_Reader) (N := 6) hx hb 3 0 hts fin_Reader hown hR hk2 (by decide) rfl (by decide) rfl (hts _ m_76d8349c) (fun _ h9 => h9) (xb_d D_Reader_readLocals 32 rfl) ?_
          obtain ⟨b10, eb10, hw⟩ := hw
          refine xb_some eb10 ?_
          refine lv_bipush (v := 9) hx hb (xb_d D_Reader_readLocals 33 rfl) (by decide) ?_
          refine lv_iload hx hb (xb_d D_Reader_readLocals 34 rfl) (lv_at hl 2 rfl) ?_
          obtain ⟨hk11, hw⟩ := hw
          obtain ⟨c14, sc14, hlc14, hlsc14, hw⟩ := hw
          refine xb_call (D := D) (A := A) (σ := σ) (h := h4) (d := 2) (mc := c14) (ms := sc14) (maxL := 3) (rest := []) (av := [.ref b10, .int 9, .int v3]) (fun T hT X => by obtain ⟨cb, r1, r2, r3⟩ := xb_recv (ci := 2) hR rfl hk11 (by decide); exact xt_invV X hx hown (hts _ m_6fcde429) (hts _ m_865d5b07) (hts _ m_113f8f75) (xt_sigOf (hts _ m_73e65e5f)) nm_StackModule_fail (by rw [hT]; exact r1) r2 r3 (g := F0 m 60 ls [.int v3, .int 9, .ref b10]) rfl (argsL := [.int 9, .int v3]) (rest := []) rfl rfl (by rw [hb]; exact (xb_d D_Reader_readLocals 35 rfl))) (ok_StackModule_fail l hfl D A σ b10 9 v3 h4 c14 sc14 _ _ hw) (hml.trans hl.1.symm) (by rw [hb]; exact (xb_d D_Reader_readLocals 35 rfl)) (Nat.le_of_ble_eq_true rfl) (Nat.le_of_ble_eq_true rfl) (Nat.le_of_ble_eq_true rfl) (show (k + c6) + c14 ≤ MC by omega) (show (n + sc6) + sc14 ≤ MS by omega) (xt_w1 hB.1 m_73e65e5f) (xt_cdOf hB.1 m_73e65e5f) (hts _ m_9c375545) hB hR hS hA (fun vv h12 H locs hq hEh12 hR hS => ?_) (fun XX ax h12 H locs hq hEh12 hex hR hS => ?_)
          · obtain ⟨rfl, hw⟩ := hq
            have hw := hw hEh12
            have hE := hE.tr hEh12
            refine W.eq (g2 := F0 m 63 ls []) rfl ?_
            exact am_Reader_readLocals_L63 l hfl D A σ MC MS h0 Qr Qt (w_Reader_readLocals_L15 Qr Qt n9) ih x0 x1 v8 x5 v7 h12 ((bc - c6) - c14) ((bs - sc6) - sc14) hw p e s m args below meth c hC H locs ls ((k + c6) + c14) ((n + sc6) + sc14) hE (lv_sub hl [3, 4, 0, 5, 1] rfl) hR hS (by omega) (by omega)
          · exact xb_pass hlocks (fun x hx9 => by rw [htab] at hx9; first | cases hx9 | (simp [tableOf] at hx9; rcases hx9 with rfl | rfl | rfl <;> decide)) (show ((k + c6) + c14) ≤ MC by omega) (show ((n + sc6) + sc14) ≤ MS by omega) (hE.tr hEh12) hR hS hex hq
      · exact xb_pass hlocks (fun x hx9 => by rw [htab] at hx9; first | cases hx9 | (simp [tableOf] at hx9; rcases hx9 with rfl | rfl | rfl <;> decide)) (show (k + c6) ≤ MC by omega) (show (n + sc6) ≤ MS by omega) (hE.tr hEh4) hR hS hex hq

set_option maxHeartbeats 4000000 in
set_option maxRecDepth 100000 in
theorem ok_Reader_readLocals (l : Launch) (hfl : l.flags = pinnedFlags ++ [noTraceFlag]) (D : va_G) (A : Nat → Prop) (σ : Nat) (x0 : Nat) (h : xb_H) (bc : Nat) (bs : Nat) (Qr : Int32 → xb_H → Prop) (Qt : String → xb_H → Prop) (hw : w_Reader_readLocals x0 h bc bs Qr Qt) : xt_Met l y_Reader_readLocals [.code y_Reader_readLocals b_Reader_readLocals 10 (some .int)] (xb_rm 5 bc bs) (xb_Pc D A σ h [.ref x0]) (xb_Qc D A h (fun v h => ∃ r, v = some (.int r) ∧ Qr r h) Qt) bc bs A := by
  refine xb_ofAm (cc := b_Reader_readLocals) (by decide) (Nat.le_of_ble_eq_true rfl) ?_
  unfold w_Reader_readLocals at hw
  show xb_am l D A σ 5 bc bs h (fun v h => ∃ r, v = some (.int r) ∧ Qr r h) Qt y_Reader_readLocals.cls y_Reader_readLocals.name b_Reader_readLocals 10 ([] : List ExceptionTableEntry) (some .int) 0 [(0, .ref x0)] [] h bc bs
  obtain ⟨MC, hMC⟩ : ∃ x, x = bc := ⟨_, rfl⟩
  obtain ⟨MS, hMS⟩ : ∃ x, x = bs := ⟨_, rfl⟩
  rw [show xb_am l D A σ 5 bc bs = xb_am l D A σ 5 MC MS by rw [hMC, hMS]]
  obtain ⟨h0, hh0⟩ : ∃ x, x = h := ⟨_, rfl⟩
  rw [show xb_am l D A σ 5 MC MS h = xb_am l D A σ 5 MC MS h0 by rw [hh0]]
  intro p e s m args below meth c hC H locs ls k n hE hl hR hS hk hn
  obtain ⟨hx, hb, hown, hlocks, htab, hml, hr, hB, hA, hnm⟩ := id hC
  have hts := hB.1.1.at args
  refine lv_aload_n hx hb (xb_d D_Reader_readLocals 0 rfl) rfl (lv_at hl 0 rfl) ?_
  obtain ⟨hk1, hw⟩ := hw
  obtain ⟨c4, sc4, hlc4, hlsc4, hw⟩ := hw
  refine xb_call (D := D) (A := A) (σ := σ) (h := h) (d := 3) (mc := c4) (ms := sc4) (maxL := 4) (rest := []) (av := [.ref x0]) (fun T hT X => by obtain ⟨cb, r1, r2, r3⟩ := xb_recv (ci := 3) hR rfl hk1 (by decide); exact xt_invV X hx hown (hts _ m_2c379b4d) (hts _ m_a120e786) (hts _ m_e903c73e) (xt_sigOf (hts _ m_99690a98)) nm_Reader_count (by rw [hT]; exact r1) r2 r3 (g := F0 m 1 ls [.ref x0]) rfl (argsL := []) (rest := []) rfl rfl (by rw [hb]; exact (xb_d D_Reader_readLocals 1 rfl))) (ok_Reader_count l hfl D A σ x0 h c4 sc4 _ _ hw) (hml.trans hl.1.symm) (by rw [hb]; exact (xb_d D_Reader_readLocals 1 rfl)) (Nat.le_of_ble_eq_true rfl) (Nat.le_of_ble_eq_true rfl) (Nat.le_of_ble_eq_true rfl) (show k + c4 ≤ MC by omega) (show n + sc4 ≤ MS by omega) (xt_w1 hB.1 m_99690a98) (xt_cdOf hB.1 m_99690a98) (hts _ m_938fcec4) hB hR hS hA (fun vv h2 H locs hq hEh2 hR hS => ?_) (fun XX ax h2 H locs hq hEh2 hex hR hS => ?_)
  · obtain ⟨r3, rfl, hw⟩ := hq
    have hw := hw hEh2
    have hE := hE.tr hEh2
    refine W.eq (g2 := F0 m 4 ls [.int r3]) rfl ?_
    refine lv_i2l hx hb (xb_d D_Reader_readLocals 2 rfl) rfl ?_
    refine lv_ldc2 (v := 4294967295) hx hb hown (hts _ m_687f726b) (xb_d D_Reader_readLocals 3 rfl) ?_
    refine lv_land hx hb (xb_d D_Reader_readLocals 4 rfl) ?_
    obtain ⟨v5, ev5⟩ : ∃ x : Int64, x = ((Int32.toInt64 r3) &&& 4294967295) := ⟨_, rfl⟩
    have hw := hw v5 ev5
    refine xt_numl (y := v5) ev5.symm ?_
    refine lv_lstore_n hx hb (xb_d D_Reader_readLocals 5 rfl) rfl hl (by decide) rfl (fun ls hl => ?_)
    have hl : lv_has ls 10 [(1, .long v5), (0, .ref x0)] := hl
    refine lv_lconst (v := 0) hx hb (xb_d D_Reader_readLocals 6 rfl) (by decide) ?_
    refine lv_lstore_n hx hb (xb_d D_Reader_readLocals 7 rfl) rfl hl (by decide) rfl (fun ls hl => ?_)
    have hl : lv_has ls 10 [(3, .long 0), (1, .long v5), (0, .ref x0)] := hl
    refine lv_lconst (v := 0) hx hb (xb_d D_Reader_readLocals 8 rfl) (by decide) ?_
    refine lv_lstore hx hb (xb_d D_Reader_readLocals 9 rfl) hl (by decide) rfl (fun ls hl => ?_)
    have hl : lv_has ls 10 [(5, .long 0), (3, .long 0), (1, .long v5), (0, .ref x0)] := hl
    obtain ⟨n8, hw⟩ := hw
    exact am_Reader_readLocals_L15 l hfl D A σ MC MS h0 Qr Qt n8 x0 v5 0 0 h2 (bc - c4) (bs - sc4) hw p e s m args below meth c hC H locs ls (k + c4) (n + sc4) hE (lv_sub hl [3, 2, 1, 0] rfl) hR hS (by omega) (by omega)
  · exact xb_pass hlocks (fun x hx9 => by rw [htab] at hx9; first | cases hx9 | (simp [tableOf] at hx9; rcases hx9 with rfl | rfl | rfl <;> decide)) (show (k + c4) ≤ MC by omega) (show (n + sc4) ≤ MS by omega) (hE.tr hEh2) hR hS hex hq

