set_option maxRecDepth 100000 in
def T_Checker_checkOwn : List (Nat × Instr × Nat) := [(0, .aload_n 0, 1), (1, .getfield 38, 3), (4, .getfield 131, 3), (7, .iconst 0, 1), (8, .iaload, 1), (9, .istore_n 1, 1), (10, .iload_n 1, 1), (11, .aload_n 0, 1), (12, .getfield 38, 3), (15, .getfield 118, 3), (18, .invokevirtual 77, 3), (21, .if_icmp .ge 14, 3), (24, .aload_n 0, 1), (25, .iload_n 1, 1), (26, .invokevirtual 101, 3), (29, .iinc 1 1, 3), (32, .goto (-22), 3), (35, .aload_n 0, 1), (36, .getfield 38, 3), (39, .getfield 131, 3), (42, .iconst 1, 1), (43, .iaload, 1), (44, .istore_n 1, 1), (45, .iload_n 1, 1), (46, .aload_n 0, 1), (47, .getfield 38, 3), (50, .getfield 104, 3), (53, .invokevirtual 77, 3), (56, .if_icmp .ge 24, 3), (59, .aload_n 0, 1), (60, .aload_n 0, 1), (61, .getfield 38, 3), (64, .getfield 104, 3), (67, .iload_n 1, 1), (68, .ldc2_w 107, 3), (71, .invokevirtual 109, 3), (74, .iinc 1 1, 3), (77, .goto (-32), 3), (80, .aload_n 0, 1), (81, .getfield 38, 3), (84, .getfield 131, 3), (87, .iconst 2, 1), (88, .iaload, 1), (89, .istore_n 1, 1), (90, .iload_n 1, 1), (91, .aload_n 0, 1), (92, .getfield 38, 3), (95, .getfield 113, 3), (98, .invokevirtual 77, 3), (101, .if_icmp .ge 24, 3), (104, .aload_n 0, 1), (105, .aload_n 0, 1), (106, .getfield 38, 3), (109, .getfield 113, 3), (112, .iload_n 1, 1), (113, .ldc2_w 116, 3), (116, .invokevirtual 109, 3), (119, .iinc 1 1, 3), (122, .goto (-32), 3), (125, .aload_n 0, 1), (126, .getfield 38, 3), (129, .getfield 131, 3), (132, .iconst 3, 1), (133, .iaload, 1), (134, .istore_n 1, 1), (135, .iload_n 1, 1), (136, .aload_n 0, 1), (137, .getfield 38, 3), (140, .getfield 134, 3), (143, .invokevirtual 77, 3), (146, .if_icmp .ge 39, 3), (149, .aload_n 0, 1), (150, .getfield 38, 3), (153, .getfield 134, 3), (156, .iload_n 1, 1), (157, .iconst 1, 1), (158, .invokevirtual 90, 3), (161, .istore_n 2, 1), (162, .aload_n 0, 1), (163, .aload_n 0, 1), (164, .getfield 38, 3), (167, .getfield 134, 3), (170, .iload_n 1, 1), (171, .iconst 3, 1), (172, .invokevirtual 90, 3), (175, .iload_n 2, 1), (176, .invokevirtual 137, 3), (179, .iinc 1 1, 3), (182, .goto (-47), 3), (185, .return_, 1)]
theorem D_Checker_checkOwn : ∀ q ∈ T_Checker_checkOwn, decode b_Checker_checkOwn q.1 = .ok (q.2.1, q.2.2) := by decide +kernel
def w_Checker_checkOwn_L135 (Qr : xb_H → Prop) (Qt : String → xb_H → Prop) : Nat → Nat → Int32 → xb_H → Nat → Nat → Prop
  | 0, _, _, _, _, _ => False
  | n9 + 1, x0, x1, h, bc, bs =>
    xb_k h x0 = 5 ∧ ∃ b2 : Nat, (xb_r h x0 0) = some b2 ∧ xb_k h b2 = 3 ∧ ∃ b4 : Nat, (xb_r h b2 7) = some b4 ∧ xb_k h b4 = 2 ∧ w_Row_lines b4 h (fun (r7 : Int32) (h6 : xb_H) => xb_ext h h6 → ((r7 ≤ x1 → Qr h6) ∧ (¬ r7 ≤ x1 → ∃ b9 : Nat, (xb_r h6 x0 0) = some b9 ∧ xb_k h6 b9 = 3 ∧ ∃ b11 : Nat, (xb_r h6 b9 7) = some b11 ∧ xb_k h6 b11 = 2 ∧ w_Row_at b11 x1 1 h6 (fun (r14 : Int32) (h13 : xb_H) => xb_ext h6 h13 → ∃ b15 : Nat, (xb_r h13 x0 0) = some b15 ∧ xb_k h13 b15 = 3 ∧ ∃ b17 : Nat, (xb_r h13 b15 7) = some b17 ∧ xb_k h13 b17 = 2 ∧ w_Row_at b17 x1 3 h13 (fun (r20 : Int32) (h19 : xb_H) => xb_ext h13 h19 → ∃ c23 sc23 : Nat, c23 ≤ bc ∧ sc23 ≤ bs ∧ w_Checker_checkExpression x0 r20 r14 h19 c23 sc23 (fun (h21 : xb_H) => xb_ext h19 h21 → w_Checker_checkOwn_L135 Qr Qt n9 x0 (x1 + 1) h21 (bc - c23) (bs - sc23)) Qt)))))

def w_Checker_checkOwn_L90 (Qr : xb_H → Prop) (Qt : String → xb_H → Prop) : Nat → Nat → Int32 → xb_H → Nat → Nat → Prop
  | 0, _, _, _, _, _ => False
  | n9 + 1, x0, x1, h, bc, bs =>
    xb_k h x0 = 5 ∧ ∃ b2 : Nat, (xb_r h x0 0) = some b2 ∧ xb_k h b2 = 3 ∧ ∃ b4 : Nat, (xb_r h b2 6) = some b4 ∧ xb_k h b4 = 2 ∧ w_Row_lines b4 h (fun (r7 : Int32) (h6 : xb_H) => xb_ext h h6 → ((r7 ≤ x1 → ∃ b9 : Nat, (xb_r h6 x0 0) = some b9 ∧ xb_k h6 b9 = 3 ∧ ∃ b11 : Nat, (xb_r h6 b9 14) = some b11 ∧ xb_k h6 b11 = 102 ∧ vp_in 3 (xb_n h6 b11) ∧ ∀ v14 : Int32, v14 = (xb_i h6 b11 3) → (∃ n8 : Nat, w_Checker_checkOwn_L135 Qr Qt n8 x0 v14 h6 bc bs)) ∧ (¬ r7 ≤ x1 → ∃ b15 : Nat, (xb_r h6 x0 0) = some b15 ∧ xb_k h6 b15 = 3 ∧ ∃ b17 : Nat, (xb_r h6 b15 6) = some b17 ∧ ∃ c20 sc20 : Nat, c20 ≤ bc ∧ sc20 ≤ bs ∧ w_Checker_checkLimits x0 b17 x1 65536 h6 c20 sc20 (fun (h18 : xb_H) => xb_ext h6 h18 → w_Checker_checkOwn_L90 Qr Qt n9 x0 (x1 + 1) h18 (bc - c20) (bs - sc20)) Qt)))

def w_Checker_checkOwn_L45 (Qr : xb_H → Prop) (Qt : String → xb_H → Prop) : Nat → Nat → Int32 → xb_H → Nat → Nat → Prop
  | 0, _, _, _, _, _ => False
  | n9 + 1, x0, x1, h, bc, bs =>
    xb_k h x0 = 5 ∧ ∃ b2 : Nat, (xb_r h x0 0) = some b2 ∧ xb_k h b2 = 3 ∧ ∃ b4 : Nat, (xb_r h b2 5) = some b4 ∧ xb_k h b4 = 2 ∧ w_Row_lines b4 h (fun (r7 : Int32) (h6 : xb_H) => xb_ext h h6 → ((r7 ≤ x1 → ∃ b9 : Nat, (xb_r h6 x0 0) = some b9 ∧ xb_k h6 b9 = 3 ∧ ∃ b11 : Nat, (xb_r h6 b9 14) = some b11 ∧ xb_k h6 b11 = 102 ∧ vp_in 2 (xb_n h6 b11) ∧ ∀ v14 : Int32, v14 = (xb_i h6 b11 2) → (∃ n8 : Nat, w_Checker_checkOwn_L90 Qr Qt n8 x0 v14 h6 bc bs)) ∧ (¬ r7 ≤ x1 → ∃ b15 : Nat, (xb_r h6 x0 0) = some b15 ∧ xb_k h6 b15 = 3 ∧ ∃ b17 : Nat, (xb_r h6 b15 5) = some b17 ∧ ∃ c20 sc20 : Nat, c20 ≤ bc ∧ sc20 ≤ bs ∧ w_Checker_checkLimits x0 b17 x1 4294967295 h6 c20 sc20 (fun (h18 : xb_H) => xb_ext h6 h18 → w_Checker_checkOwn_L45 Qr Qt n9 x0 (x1 + 1) h18 (bc - c20) (bs - sc20)) Qt)))

def w_Checker_checkOwn_L10 (Qr : xb_H → Prop) (Qt : String → xb_H → Prop) : Nat → Nat → Int32 → xb_H → Nat → Nat → Prop
  | 0, _, _, _, _, _ => False
  | n9 + 1, x0, x1, h, bc, bs =>
    xb_k h x0 = 5 ∧ ∃ b2 : Nat, (xb_r h x0 0) = some b2 ∧ xb_k h b2 = 3 ∧ ∃ b4 : Nat, (xb_r h b2 4) = some b4 ∧ xb_k h b4 = 2 ∧ w_Row_lines b4 h (fun (r7 : Int32) (h6 : xb_H) => xb_ext h h6 → ((r7 ≤ x1 → ∃ b9 : Nat, (xb_r h6 x0 0) = some b9 ∧ xb_k h6 b9 = 3 ∧ ∃ b11 : Nat, (xb_r h6 b9 14) = some b11 ∧ xb_k h6 b11 = 102 ∧ vp_in 1 (xb_n h6 b11) ∧ ∀ v14 : Int32, v14 = (xb_i h6 b11 1) → (∃ n8 : Nat, w_Checker_checkOwn_L45 Qr Qt n8 x0 v14 h6 bc bs)) ∧ (¬ r7 ≤ x1 → ∃ c17 sc17 : Nat, c17 ≤ bc ∧ sc17 ≤ bs ∧ w_Checker_checkFunction x0 x1 h6 c17 sc17 (fun (h15 : xb_H) => xb_ext h6 h15 → w_Checker_checkOwn_L10 Qr Qt n9 x0 (x1 + 1) h15 (bc - c17) (bs - sc17)) Qt)))

def w_Checker_checkOwn (x0 : Nat) (h : xb_H) (bc : Nat) (bs : Nat) (Qr : xb_H → Prop) (Qt : String → xb_H → Prop) : Prop :=
    xb_k h x0 = 5 ∧ ∃ b2 : Nat, (xb_r h x0 0) = some b2 ∧ xb_k h b2 = 3 ∧ ∃ b4 : Nat, (xb_r h b2 14) = some b4 ∧ xb_k h b4 = 102 ∧ vp_in 0 (xb_n h b4) ∧ ∀ v7 : Int32, v7 = (xb_i h b4 0) → (∃ n8 : Nat, w_Checker_checkOwn_L10 Qr Qt n8 x0 v7 h bc bs)

set_option maxHeartbeats 4000000 in
set_option maxRecDepth 100000 in
theorem am_Checker_checkOwn_L135 (l : Launch) (hfl : l.flags = pinnedFlags ++ [noTraceFlag]) (D : va_G) (A : Nat → Prop) (σ MC MS : Nat) (h0 : xb_H) (Qr : xb_H → Prop) (Qt : String → xb_H → Prop) (n9 : Nat) : ∀ (x0 : Nat) (x1 : Int32) (h : xb_H) (bc : Nat) (bs : Nat), w_Checker_checkOwn_L135 Qr Qt n9 x0 x1 h bc bs → xb_am l D A σ 4 MC MS h0 (fun v h => v = none ∧ Qr h) Qt y_Checker_checkOwn.cls y_Checker_checkOwn.name b_Checker_checkOwn 3 ([] : List ExceptionTableEntry) none 135 [(0, .ref x0), (1, .int x1)] [] h bc bs := by
  induction n9 with
  | zero => intro x0 x1 h bc bs hw; exact False.elim hw
  | succ n9 ih =>
    intro x0 x1 h bc bs hw
    unfold w_Checker_checkOwn_L135 at hw
    intro p e s m args below meth c hC H locs ls k n hE hl hR hS hk hn
    obtain ⟨hx, hb, hown, hlocks, htab, hml, hr, hB, hA, hnm⟩ := id hC
    have hts := hB.1.1.at args
    refine lv_iload_n hx hb (xb_d D_Checker_checkOwn 65 rfl) rfl (lv_at hl 1 rfl) ?_
    refine lv_aload_n hx hb (xb_d D_Checker_checkOwn 66 rfl) rfl (lv_at hl 0 rfl) ?_
    obtain ⟨hk1, hw⟩ := hw
    refine xb_getP (C := R_Checker) (T := F_Checker) (N := 17) hx hb 4 0 hts fin_Checker hown hR hk1 (by decide) rfl (by decide) rfl (hts _ m_070795bc) (fun _ h9 => h9) (xb_d D_Checker_checkOwn 67 rfl) ?_
    obtain ⟨b2, eb2, hw⟩ := hw
    refine xb_some eb2 ?_
    obtain ⟨hk3, hw⟩ := hw
    refine xb_getP (C := R_StackModule) (T := F_StackModule) (N := 19) hx hb 2 7 hts fin_StackModule hown hR hk3 (by decide) rfl (by decide) rfl (hts _ m_d3e8f814) (fun _ h9 => h9) (xb_d D_Checker_checkOwn 68 rfl) ?_
    obtain ⟨b4, eb4, hw⟩ := hw
    refine xb_some eb4 ?_
    obtain ⟨hk5, hw⟩ := hw
    refine xb_call (D := D) (A := A) (σ := σ) (h := h) (d := 2) (mc := 0) (ms := 0) (maxL := 1) (rest := [.int x1]) (av := [.ref b4]) (fun T hT X => by obtain ⟨cb, r1, r2, r3⟩ := xb_recv (ci := 1) hR rfl hk5 (by decide); exact xt_invV X hx hown (hts _ m_c8b950b4) (hts _ m_ded65609) (hts _ m_a4161156) (xt_sigOf (hts _ m_83ba3721)) nm_Row_lines (by rw [hT]; exact r1) r2 r3 (g := F0 m 143 ls [.ref b4, .int x1]) rfl (argsL := []) (rest := [.int x1]) rfl rfl (by rw [hb]; exact (xb_d D_Checker_checkOwn 69 rfl))) (ok_Row_lines l hfl D A σ b4 h _ hw) (hml.trans hl.1.symm) (by rw [hb]; exact (xb_d D_Checker_checkOwn 69 rfl)) (Nat.le_of_ble_eq_true rfl) (Nat.le_of_ble_eq_true rfl) (Nat.le_of_ble_eq_true rfl) (show k + 0 ≤ MC by omega) (show n + 0 ≤ MS by omega) (xt_w1 hB.1 m_83ba3721) (xt_cdOf hB.1 m_83ba3721) (hts _ m_c1bef504) hB hR hS hA (fun vv h6 H locs hq hEh6 hR hS => ?_) (fun XX ax h6 H locs hq hEh6 hex hR hS => ?_)
    · obtain ⟨r7, rfl, hw⟩ := hq
      have hw := hw hEh6
      have hE := hE.tr hEh6
      refine W.eq (g2 := F0 m 146 ls [.int r7, .int x1]) rfl ?_
      refine lv_icmp_ge (tgt := 185) hx hb (xb_d D_Checker_checkOwn 70 rfl) rfl (fun hc8 => ?_) (fun hc8 => ?_)
      · have hw := hw.1 hc8
        exact xb_vret hx hb hr hlocks (show k ≤ MC by omega) (show n ≤ MS by omega) hE hR hS (xb_d D_Checker_checkOwn 89 rfl) hw
      · have hw := hw.2 hc8
        refine lv_aload_n hx hb (xb_d D_Checker_checkOwn 71 rfl) rfl (lv_at hl 0 rfl) ?_
        have hk1 : xb_k h6 x0 = 5 := hEh6.k hk1
        refine xb_getP (C := R_Checker) (T := F_Checker) (N := 17) hx hb 4 0 hts fin_Checker hown hR hk1 (by decide) rfl (by decide) rfl (hts _ m_070795bc) (fun _ h9 => h9) (xb_d D_Checker_checkOwn 72 rfl) ?_
        obtain ⟨b9, eb9, hw⟩ := hw
        refine xb_some eb9 ?_
        obtain ⟨hk10, hw⟩ := hw
        refine xb_getP (C := R_StackModule) (T := F_StackModule) (N := 19) hx hb 2 7 hts fin_StackModule hown hR hk10 (by decide) rfl (by decide) rfl (hts _ m_d3e8f814) (fun _ h9 => h9) (xb_d D_Checker_checkOwn 73 rfl) ?_
        obtain ⟨b11, eb11, hw⟩ := hw
        refine xb_some eb11 ?_
        refine lv_iload_n hx hb (xb_d D_Checker_checkOwn 74 rfl) rfl (lv_at hl 1 rfl) ?_
        refine lv_iconst (v := 1) hx hb (xb_d D_Checker_checkOwn 75 rfl) (by decide) ?_
        obtain ⟨hk12, hw⟩ := hw
        refine xb_call (D := D) (A := A) (σ := σ) (h := h6) (d := 2) (mc := 0) (ms := 0) (maxL := 3) (rest := []) (av := [.ref b11, .int x1, .int 1]) (fun T hT X => by obtain ⟨cb, r1, r2, r3⟩ := xb_recv (ci := 1) hR rfl hk12 (by decide); exact xt_invV X hx hown (hts _ m_068feb96) (hts _ m_8e233096) (hts _ m_27eed10c) (xt_sigOf (hts _ m_ff1c70ae)) nm_Row_at (by rw [hT]; exact r1) r2 r3 (g := F0 m 158 ls [.int 1, .int x1, .ref b11]) rfl (argsL := [.int x1, .int 1]) (rest := []) rfl rfl (by rw [hb]; exact (xb_d D_Checker_checkOwn 76 rfl))) (ok_Row_at l hfl D A σ b11 x1 1 h6 _ hw) (hml.trans hl.1.symm) (by rw [hb]; exact (xb_d D_Checker_checkOwn 76 rfl)) (Nat.le_of_ble_eq_true rfl) (Nat.le_of_ble_eq_true rfl) (Nat.le_of_ble_eq_true rfl) (show k + 0 ≤ MC by omega) (show n + 0 ≤ MS by omega) (xt_w1 hB.1 m_ff1c70ae) (xt_cdOf hB.1 m_ff1c70ae) (hts _ m_c1bef504) hB hR hS hA (fun vv h13 H locs hq hEh13 hR hS => ?_) (fun XX ax h13 H locs hq hEh13 hex hR hS => ?_)
        · obtain ⟨r14, rfl, hw⟩ := hq
          have hw := hw hEh13
          have hE := hE.tr hEh13
          refine W.eq (g2 := F0 m 161 ls [.int r14]) rfl ?_
          refine lv_istore_n hx hb (xb_d D_Checker_checkOwn 77 rfl) rfl hl (by decide) rfl (fun ls hl => ?_)
          have hl : lv_has ls 3 [(2, .int r14), (0, .ref x0), (1, .int x1)] := hl
          refine lv_aload_n hx hb (xb_d D_Checker_checkOwn 78 rfl) rfl (lv_at hl 1 rfl) ?_
          refine lv_aload_n hx hb (xb_d D_Checker_checkOwn 79 rfl) rfl (lv_at hl 1 rfl) ?_
          have hk1 : xb_k h13 x0 = 5 := hEh13.k hk1
          refine xb_getP (C := R_Checker) (T := F_Checker) (N := 17) hx hb 4 0 hts fin_Checker hown hR hk1 (by decide) rfl (by decide) rfl (hts _ m_070795bc) (fun _ h9 => h9) (xb_d D_Checker_checkOwn 80 rfl) ?_
          obtain ⟨b15, eb15, hw⟩ := hw
          refine xb_some eb15 ?_
          obtain ⟨hk16, hw⟩ := hw
          refine xb_getP (C := R_StackModule) (T := F_StackModule) (N := 19) hx hb 2 7 hts fin_StackModule hown hR hk16 (by decide) rfl (by decide) rfl (hts _ m_d3e8f814) (fun _ h9 => h9) (xb_d D_Checker_checkOwn 81 rfl) ?_
          obtain ⟨b17, eb17, hw⟩ := hw
          refine xb_some eb17 ?_
          refine lv_iload_n hx hb (xb_d D_Checker_checkOwn 82 rfl) rfl (lv_at hl 2 rfl) ?_
          refine lv_iconst (v := 3) hx hb (xb_d D_Checker_checkOwn 83 rfl) (by decide) ?_
          obtain ⟨hk18, hw⟩ := hw
          refine xb_call (D := D) (A := A) (σ := σ) (h := h13) (d := 2) (mc := 0) (ms := 0) (maxL := 3) (rest := [.ref x0]) (av := [.ref b17, .int x1, .int 3]) (fun T hT X => by obtain ⟨cb, r1, r2, r3⟩ := xb_recv (ci := 1) hR rfl hk18 (by decide); exact xt_invV X hx hown (hts _ m_068feb96) (hts _ m_8e233096) (hts _ m_27eed10c) (xt_sigOf (hts _ m_ff1c70ae)) nm_Row_at (by rw [hT]; exact r1) r2 r3 (g := F0 m 172 ls [.int 3, .int x1, .ref b17, .ref x0]) rfl (argsL := [.int x1, .int 3]) (rest := [.ref x0]) rfl rfl (by rw [hb]; exact (xb_d D_Checker_checkOwn 84 rfl))) (ok_Row_at l hfl D A σ b17 x1 3 h13 _ hw) (hml.trans hl.1.symm) (by rw [hb]; exact (xb_d D_Checker_checkOwn 84 rfl)) (Nat.le_of_ble_eq_true rfl) (Nat.le_of_ble_eq_true rfl) (Nat.le_of_ble_eq_true rfl) (show k + 0 ≤ MC by omega) (show n + 0 ≤ MS by omega) (xt_w1 hB.1 m_ff1c70ae) (xt_cdOf hB.1 m_ff1c70ae) (hts _ m_c1bef504) hB hR hS hA (fun vv h19 H locs hq hEh19 hR hS => ?_) (fun XX ax h19 H locs hq hEh19 hex hR hS => ?_)
          · obtain ⟨r20, rfl, hw⟩ := hq
            have hw := hw hEh19
            have hE := hE.tr hEh19
            refine W.eq (g2 := F0 m 175 ls [.int r20, .ref x0]) rfl ?_
            refine lv_iload_n hx hb (xb_d D_Checker_checkOwn 85 rfl) rfl (lv_at hl 0 rfl) ?_
            have hk1 : xb_k h19 x0 = 5 := hEh19.k hk1
            obtain ⟨c23, sc23, hlc23, hlsc23, hw⟩ := hw
            refine xb_call (D := D) (A := A) (σ := σ) (h := h19) (d := 3) (mc := c23) (ms := sc23) (maxL := 5) (rest := []) (av := [.ref x0, .int r20, .int r14]) (fun T hT X => by obtain ⟨cb, r1, r2, r3⟩ := xb_recv (ci := 4) hR rfl hk1 (by decide); exact xt_invV X hx hown (hts _ m_8c087939) (hts _ m_6cd68843) (hts _ m_835be859) (xt_sigOf (hts _ m_8e908334)) nm_Checker_checkExpression (by rw [hT]; exact r1) r2 r3 (g := F0 m 176 ls [.int r14, .int r20, .ref x0]) rfl (argsL := [.int r20, .int r14]) (rest := []) rfl rfl (by rw [hb]; exact (xb_d D_Checker_checkOwn 86 rfl))) (ok_Checker_checkExpression l hfl D A σ x0 r20 r14 h19 c23 sc23 _ _ hw) (hml.trans hl.1.symm) (by rw [hb]; exact (xb_d D_Checker_checkOwn 86 rfl)) (Nat.le_of_ble_eq_true rfl) (Nat.le_of_ble_eq_true rfl) (Nat.le_of_ble_eq_true rfl) (show k + c23 ≤ MC by omega) (show n + sc23 ≤ MS by omega) (xt_w1 hB.1 m_8e908334) (xt_cdOf hB.1 m_8e908334) (hts _ m_44748ce5) hB hR hS hA (fun vv h21 H locs hq hEh21 hR hS => ?_) (fun XX ax h21 H locs hq hEh21 hex hR hS => ?_)
            · obtain ⟨rfl, hw⟩ := hq
              have hw := hw hEh21
              have hE := hE.tr hEh21
              refine W.eq (g2 := F0 m 179 ls []) rfl ?_
              refine lv_iinc (v := (x1 + 1)) (k := 2) hx hb (xb_d D_Checker_checkOwn 87 rfl) hl rfl (by first | rfl | decide) (by decide) rfl (fun ls hl => ?_)
              have hl : lv_has ls 3 [(1, .int (x1 + 1)), (2, .int r14), (0, .ref x0)] := hl
              refine lv_goto (tgt := 135) hx hb (xb_d D_Checker_checkOwn 88 rfl) rfl ?_
              exact ih x0 (x1 + 1) h21 (bc - c23) (bs - sc23) hw p e s m args below meth c hC H locs ls (k + c23) (n + sc23) hE (lv_sub hl [2, 0] rfl) hR hS (by omega) (by omega)
            · exact xb_pass hlocks (fun x hx9 => by rw [htab] at hx9; first | cases hx9 | (simp [tableOf] at hx9; rcases hx9 with rfl | rfl | rfl <;> decide)) (show (k + c23) ≤ MC by omega) (show (n + sc23) ≤ MS by omega) (hE.tr hEh21) hR hS hex hq
          · exact False.elim hq
        · exact False.elim hq
    · exact False.elim hq

set_option maxHeartbeats 4000000 in
set_option maxRecDepth 100000 in
theorem am_Checker_checkOwn_L90 (l : Launch) (hfl : l.flags = pinnedFlags ++ [noTraceFlag]) (D : va_G) (A : Nat → Prop) (σ MC MS : Nat) (h0 : xb_H) (Qr : xb_H → Prop) (Qt : String → xb_H → Prop) (n9 : Nat) : ∀ (x0 : Nat) (x1 : Int32) (h : xb_H) (bc : Nat) (bs : Nat), w_Checker_checkOwn_L90 Qr Qt n9 x0 x1 h bc bs → xb_am l D A σ 4 MC MS h0 (fun v h => v = none ∧ Qr h) Qt y_Checker_checkOwn.cls y_Checker_checkOwn.name b_Checker_checkOwn 3 ([] : List ExceptionTableEntry) none 90 [(0, .ref x0), (1, .int x1)] [] h bc bs := by
  induction n9 with
  | zero => intro x0 x1 h bc bs hw; exact False.elim hw
  | succ n9 ih =>
    intro x0 x1 h bc bs hw
    unfold w_Checker_checkOwn_L90 at hw
    intro p e s m args below meth c hC H locs ls k n hE hl hR hS hk hn
    obtain ⟨hx, hb, hown, hlocks, htab, hml, hr, hB, hA, hnm⟩ := id hC
    have hts := hB.1.1.at args
    refine lv_iload_n hx hb (xb_d D_Checker_checkOwn 44 rfl) rfl (lv_at hl 1 rfl) ?_
    refine lv_aload_n hx hb (xb_d D_Checker_checkOwn 45 rfl) rfl (lv_at hl 0 rfl) ?_
    obtain ⟨hk1, hw⟩ := hw
    refine xb_getP (C := R_Checker) (T := F_Checker) (N := 17) hx hb 4 0 hts fin_Checker hown hR hk1 (by decide) rfl (by decide) rfl (hts _ m_070795bc) (fun _ h9 => h9) (xb_d D_Checker_checkOwn 46 rfl) ?_
    obtain ⟨b2, eb2, hw⟩ := hw
    refine xb_some eb2 ?_
    obtain ⟨hk3, hw⟩ := hw
    refine xb_getP (C := R_StackModule) (T := F_StackModule) (N := 19) hx hb 2 6 hts fin_StackModule hown hR hk3 (by decide) rfl (by decide) rfl (hts _ m_f104cb1a) (fun _ h9 => h9) (xb_d D_Checker_checkOwn 47 rfl) ?_
    obtain ⟨b4, eb4, hw⟩ := hw
    refine xb_some eb4 ?_
    obtain ⟨hk5, hw⟩ := hw
    refine xb_call (D := D) (A := A) (σ := σ) (h := h) (d := 2) (mc := 0) (ms := 0) (maxL := 1) (rest := [.int x1]) (av := [.ref b4]) (fun T hT X => by obtain ⟨cb, r1, r2, r3⟩ := xb_recv (ci := 1) hR rfl hk5 (by decide); exact xt_invV X hx hown (hts _ m_c8b950b4) (hts _ m_ded65609) (hts _ m_a4161156) (xt_sigOf (hts _ m_83ba3721)) nm_Row_lines (by rw [hT]; exact r1) r2 r3 (g := F0 m 98 ls [.ref b4, .int x1]) rfl (argsL := []) (rest := [.int x1]) rfl rfl (by rw [hb]; exact (xb_d D_Checker_checkOwn 48 rfl))) (ok_Row_lines l hfl D A σ b4 h _ hw) (hml.trans hl.1.symm) (by rw [hb]; exact (xb_d D_Checker_checkOwn 48 rfl)) (Nat.le_of_ble_eq_true rfl) (Nat.le_of_ble_eq_true rfl) (Nat.le_of_ble_eq_true rfl) (show k + 0 ≤ MC by omega) (show n + 0 ≤ MS by omega) (xt_w1 hB.1 m_83ba3721) (xt_cdOf hB.1 m_83ba3721) (hts _ m_c1bef504) hB hR hS hA (fun vv h6 H locs hq hEh6 hR hS => ?_) (fun XX ax h6 H locs hq hEh6 hex hR hS => ?_)
    · obtain ⟨r7, rfl, hw⟩ := hq
      have hw := hw hEh6
      have hE := hE.tr hEh6
      refine W.eq (g2 := F0 m 101 ls [.int r7, .int x1]) rfl ?_
      refine lv_icmp_ge (tgt := 125) hx hb (xb_d D_Checker_checkOwn 49 rfl) rfl (fun hc8 => ?_) (fun hc8 => ?_)
      · have hw := hw.1 hc8
        refine lv_aload_n hx hb (xb_d D_Checker_checkOwn 59 rfl) rfl (lv_at hl 0 rfl) ?_
        have hk1 : xb_k h6 x0 = 5 := hEh6.k hk1
        refine xb_getP (C := R_Checker) (T := F_Checker) (N := 17) hx hb 4 0 hts fin_Checker hown hR hk1 (by decide) rfl (by decide) rfl (hts _ m_070795bc) (fun _ h9 => h9) (xb_d D_Checker_checkOwn 60 rfl) ?_
        obtain ⟨b9, eb9, hw⟩ := hw
        refine xb_some eb9 ?_
        obtain ⟨hk10, hw⟩ := hw
        refine xb_getP (C := R_StackModule) (T := F_StackModule) (N := 19) hx hb 2 14 hts fin_StackModule hown hR hk10 (by decide) rfl (by decide) rfl (hts _ m_c2d0ffa0) (fun _ h9 => h9) (xb_d D_Checker_checkOwn 61 rfl) ?_
        obtain ⟨b11, eb11, hw⟩ := hw
        refine xb_some eb11 ?_
        refine lv_iconst (v := 3) hx hb (xb_d D_Checker_checkOwn 62 rfl) (by decide) ?_
        obtain ⟨hk13, hw⟩ := hw
        obtain ⟨hi12, hw⟩ := hw
        refine xb_iald hx hb hR hk13 hi12 (xb_d D_Checker_checkOwn 63 rfl) ?_
        refine xt_numi (y := (xb_i h6 b11 3)) (congrArg (xb_i h6 b11) (by decide : (3 : Int32).toNatClampNeg = 3)) ?_
        obtain ⟨v14, ev14⟩ : ∃ x : Int32, x = (xb_i h6 b11 3) := ⟨_, rfl⟩
        have hw := hw v14 ev14
        refine xt_numi (y := v14) ev14.symm ?_
        refine lv_istore_n hx hb (xb_d D_Checker_checkOwn 64 rfl) rfl hl (by decide) rfl (fun ls hl => ?_)
        have hl : lv_has ls 3 [(1, .int v14), (0, .ref x0)] := hl
        obtain ⟨n8, hw⟩ := hw
        exact am_Checker_checkOwn_L135 l hfl D A σ MC MS h0 Qr Qt n8 x0 v14 h6 bc bs hw p e s m args below meth c hC H locs ls k n hE (lv_sub hl [1, 0] rfl) hR hS (by omega) (by omega)
      · have hw := hw.2 hc8
        refine lv_aload_n hx hb (xb_d D_Checker_checkOwn 50 rfl) rfl (lv_at hl 0 rfl) ?_
        refine lv_aload_n hx hb (xb_d D_Checker_checkOwn 51 rfl) rfl (lv_at hl 0 rfl) ?_
        have hk1 : xb_k h6 x0 = 5 := hEh6.k hk1
        refine xb_getP (C := R_Checker) (T := F_Checker) (N := 17) hx hb 4 0 hts fin_Checker hown hR hk1 (by decide) rfl (by decide) rfl (hts _ m_070795bc) (fun _ h9 => h9) (xb_d D_Checker_checkOwn 52 rfl) ?_
        obtain ⟨b15, eb15, hw⟩ := hw
        refine xb_some eb15 ?_
        obtain ⟨hk16, hw⟩ := hw
        refine xb_getP (C := R_StackModule) (T := F_StackModule) (N := 19) hx hb 2 6 hts fin_StackModule hown hR hk16 (by decide) rfl (by decide) rfl (hts _ m_f104cb1a) (fun _ h9 => h9) (xb_d D_Checker_checkOwn 53 rfl) ?_
        obtain ⟨b17, eb17, hw⟩ := hw
        refine xb_some eb17 ?_
        refine lv_iload_n hx hb (xb_d D_Checker_checkOwn 54 rfl) rfl (lv_at hl 1 rfl) ?_
        refine lv_ldc2 (v := 65536) hx hb hown (hts _ m_6ee0f551) (xb_d D_Checker_checkOwn 55 rfl) ?_
        obtain ⟨c20, sc20, hlc20, hlsc20, hw⟩ := hw
        refine xb_call (D := D) (A := A) (σ := σ) (h := h6) (d := 3) (mc := c20) (ms := sc20) (maxL := 10) (rest := []) (av := [.ref x0, .ref b17, .int x1, .long 65536]) (fun T hT X => by obtain ⟨cb, r1, r2, r3⟩ := xb_recv (ci := 4) hR rfl hk1 (by decide); exact xt_invV X hx hown (hts _ m_160564f4) (hts _ m_e4938329) (hts _ m_811dfb37) (xt_sigOf (hts _ m_9c84dd5e)) nm_Checker_checkLimits (by rw [hT]; exact r1) r2 r3 (g := F0 m 116 ls [.long 65536, .int x1, .ref b17, .ref x0]) rfl (argsL := [.ref b17, .int x1, .long 65536]) (rest := []) rfl rfl (by rw [hb]; exact (xb_d D_Checker_checkOwn 56 rfl))) (ok_Checker_checkLimits l hfl D A σ x0 b17 x1 65536 h6 c20 sc20 _ _ hw) (hml.trans hl.1.symm) (by rw [hb]; exact (xb_d D_Checker_checkOwn 56 rfl)) (Nat.le_of_ble_eq_true rfl) (Nat.le_of_ble_eq_true rfl) (Nat.le_of_ble_eq_true rfl) (show k + c20 ≤ MC by omega) (show n + sc20 ≤ MS by omega) (xt_w1 hB.1 m_9c84dd5e) (xt_cdOf hB.1 m_9c84dd5e) (hts _ m_44748ce5) hB hR hS hA (fun vv h18 H locs hq hEh18 hR hS => ?_) (fun XX ax h18 H locs hq hEh18 hex hR hS => ?_)
        · obtain ⟨rfl, hw⟩ := hq
          have hw := hw hEh18
          have hE := hE.tr hEh18
          refine W.eq (g2 := F0 m 119 ls []) rfl ?_
          refine lv_iinc (v := (x1 + 1)) (k := 1) hx hb (xb_d D_Checker_checkOwn 57 rfl) hl rfl (by first | rfl | decide) (by decide) rfl (fun ls hl => ?_)
          have hl : lv_has ls 3 [(1, .int (x1 + 1)), (0, .ref x0)] := hl
          refine lv_goto (tgt := 90) hx hb (xb_d D_Checker_checkOwn 58 rfl) rfl ?_
          exact ih x0 (x1 + 1) h18 (bc - c20) (bs - sc20) hw p e s m args below meth c hC H locs ls (k + c20) (n + sc20) hE (lv_sub hl [1, 0] rfl) hR hS (by omega) (by omega)
        · exact xb_pass hlocks (fun x hx9 => by rw [htab] at hx9; first | cases hx9 | (simp [tableOf] at hx9; rcases hx9 with rfl | rfl | rfl <;> decide)) (show (k + c20) ≤ MC by omega) (show (n + sc20) ≤ MS by omega) (hE.tr hEh18) hR hS hex hq
    · exact False.elim hq

set_option maxHeartbeats 4000000 in
set_option maxRecDepth 100000 in
theorem am_Checker_checkOwn_L45 (l : Launch) (hfl : l.flags = pinnedFlags ++ [noTraceFlag]) (D : va_G) (A : Nat → Prop) (σ MC MS : Nat) (h0 : xb_H) (Qr : xb_H → Prop) (Qt : String → xb_H → Prop) (n9 : Nat) : ∀ (x0 : Nat) (x1 : Int32) (h : xb_H) (bc : Nat) (bs : Nat), w_Checker_checkOwn_L45 Qr Qt n9 x0 x1 h bc bs → xb_am l D A σ 4 MC MS h0 (fun v h => v = none ∧ Qr h) Qt y_Checker_checkOwn.cls y_Checker_checkOwn.name b_Checker_checkOwn 3 ([] : List ExceptionTableEntry) none 45 [(0, .ref x0), (1, .int x1)] [] h bc bs := by
  induction n9 with
  | zero => intro x0 x1 h bc bs hw; exact False.elim hw
  | succ n9 ih =>
    intro x0 x1 h bc bs hw
    unfold w_Checker_checkOwn_L45 at hw
    intro p e s m args below meth c hC H locs ls k n hE hl hR hS hk hn
    obtain ⟨hx, hb, hown, hlocks, htab, hml, hr, hB, hA, hnm⟩ := id hC
    have hts := hB.1.1.at args
    refine lv_iload_n hx hb (xb_d D_Checker_checkOwn 23 rfl) rfl (lv_at hl 1 rfl) ?_
    refine lv_aload_n hx hb (xb_d D_Checker_checkOwn 24 rfl) rfl (lv_at hl 0 rfl) ?_
    obtain ⟨hk1, hw⟩ := hw
    refine xb_getP (C := R_Checker) (T := F_Checker) (N := 17) hx hb 4 0 hts fin_Checker hown hR hk1 (by decide) rfl (by decide) rfl (hts _ m_070795bc) (fun _ h9 => h9) (xb_d D_Checker_checkOwn 25 rfl) ?_
    obtain ⟨b2, eb2, hw⟩ := hw
    refine xb_some eb2 ?_
    obtain ⟨hk3, hw⟩ := hw
    refine xb_getP (C := R_StackModule) (T := F_StackModule) (N := 19) hx hb 2 5 hts fin_StackModule hown hR hk3 (by decide) rfl (by decide) rfl (hts _ m_81589b2f) (fun _ h9 => h9) (xb_d D_Checker_checkOwn 26 rfl) ?_
    obtain ⟨b4, eb4, hw⟩ := hw
    refine xb_some eb4 ?_
    obtain ⟨hk5, hw⟩ := hw
    refine xb_call (D := D) (A := A) (σ := σ) (h := h) (d := 2) (mc := 0) (ms := 0) (maxL := 1) (rest := [.int x1]) (av := [.ref b4]) (fun T hT X => by obtain ⟨cb, r1, r2, r3⟩ := xb_recv (ci := 1) hR rfl hk5 (by decide); exact xt_invV X hx hown (hts _ m_c8b950b4) (hts _ m_ded65609) (hts _ m_a4161156) (xt_sigOf (hts _ m_83ba3721)) nm_Row_lines (by rw [hT]; exact r1) r2 r3 (g := F0 m 53 ls [.ref b4, .int x1]) rfl (argsL := []) (rest := [.int x1]) rfl rfl (by rw [hb]; exact (xb_d D_Checker_checkOwn 27 rfl))) (ok_Row_lines l hfl D A σ b4 h _ hw) (hml.trans hl.1.symm) (by rw [hb]; exact (xb_d D_Checker_checkOwn 27 rfl)) (Nat.le_of_ble_eq_true rfl) (Nat.le_of_ble_eq_true rfl) (Nat.le_of_ble_eq_true rfl) (show k + 0 ≤ MC by omega) (show n + 0 ≤ MS by omega) (xt_w1 hB.1 m_83ba3721) (xt_cdOf hB.1 m_83ba3721) (hts _ m_c1bef504) hB hR hS hA (fun vv h6 H locs hq hEh6 hR hS => ?_) (fun XX ax h6 H locs hq hEh6 hex hR hS => ?_)
    · obtain ⟨r7, rfl, hw⟩ := hq
      have hw := hw hEh6
      have hE := hE.tr hEh6
      refine W.eq (g2 := F0 m 56 ls [.int r7, .int x1]) rfl ?_
      refine lv_icmp_ge (tgt := 80) hx hb (xb_d D_Checker_checkOwn 28 rfl) rfl (fun hc8 => ?_) (fun hc8 => ?_)
      · have hw := hw.1 hc8
        refine lv_aload_n hx hb (xb_d D_Checker_checkOwn 38 rfl) rfl (lv_at hl 0 rfl) ?_
        have hk1 : xb_k h6 x0 = 5 := hEh6.k hk1
        refine xb_getP (C := R_Checker) (T := F_Checker) (N := 17) hx hb 4 0 hts fin_Checker hown hR hk1 (by decide) rfl (by decide) rfl (hts _ m_070795bc) (fun _ h9 => h9) (xb_d D_Checker_checkOwn 39 rfl) ?_
        obtain ⟨b9, eb9, hw⟩ := hw
        refine xb_some eb9 ?_
        obtain ⟨hk10, hw⟩ := hw
        refine xb_getP (C := R_StackModule) (T := F_StackModule) (N := 19) hx hb 2 14 hts fin_StackModule hown hR hk10 (by decide) rfl (by decide) rfl (hts _ m_c2d0ffa0) (fun _ h9 => h9) (xb_d D_Checker_checkOwn 40 rfl) ?_
        obtain ⟨b11, eb11, hw⟩ := hw
        refine xb_some eb11 ?_
        refine lv_iconst (v := 2) hx hb (xb_d D_Checker_checkOwn 41 rfl) (by decide) ?_
        obtain ⟨hk13, hw⟩ := hw
        obtain ⟨hi12, hw⟩ := hw
        refine xb_iald hx hb hR hk13 hi12 (xb_d D_Checker_checkOwn 42 rfl) ?_
        refine xt_numi (y := (xb_i h6 b11 2)) (congrArg (xb_i h6 b11) (by decide : (2 : Int32).toNatClampNeg = 2)) ?_
        obtain ⟨v14, ev14⟩ : ∃ x : Int32, x = (xb_i h6 b11 2) := ⟨_, rfl⟩
        have hw := hw v14 ev14
        refine xt_numi (y := v14) ev14.symm ?_
        refine lv_istore_n hx hb (xb_d D_Checker_checkOwn 43 rfl) rfl hl (by decide) rfl (fun ls hl => ?_)
        have hl : lv_has ls 3 [(1, .int v14), (0, .ref x0)] := hl
        obtain ⟨n8, hw⟩ := hw
        exact am_Checker_checkOwn_L90 l hfl D A σ MC MS h0 Qr Qt n8 x0 v14 h6 bc bs hw p e s m args below meth c hC H locs ls k n hE (lv_sub hl [1, 0] rfl) hR hS (by omega) (by omega)
      · have hw := hw.2 hc8
        refine lv_aload_n hx hb (xb_d D_Checker_checkOwn 29 rfl) rfl (lv_at hl 0 rfl) ?_
        refine lv_aload_n hx hb (xb_d D_Checker_checkOwn 30 rfl) rfl (lv_at hl 0 rfl) ?_
        have hk1 : xb_k h6 x0 = 5 := hEh6.k hk1
        refine xb_getP (C := R_Checker) (T := F_Checker) (N := 17) hx hb 4 0 hts fin_Checker hown hR hk1 (by decide) rfl (by decide) rfl (hts _ m_070795bc) (fun _ h9 => h9) (xb_d D_Checker_checkOwn 31 rfl) ?_
        obtain ⟨b15, eb15, hw⟩ := hw
        refine xb_some eb15 ?_
        obtain ⟨hk16, hw⟩ := hw
        refine xb_getP (C := R_StackModule) (T := F_StackModule) (N := 19) hx hb 2 5 hts fin_StackModule hown hR hk16 (by decide) rfl (by decide) rfl (hts _ m_81589b2f) (fun _ h9 => h9) (xb_d D_Checker_checkOwn 32 rfl) ?_
        obtain ⟨b17, eb17, hw⟩ := hw
        refine xb_some eb17 ?_
        refine lv_iload_n hx hb (xb_d D_Checker_checkOwn 33 rfl) rfl (lv_at hl 1 rfl) ?_
        refine lv_ldc2 (v := 4294967295) hx hb hown (hts _ m_8009c90c) (xb_d D_Checker_checkOwn 34 rfl) ?_
        obtain ⟨c20, sc20, hlc20, hlsc20, hw⟩ := hw
        refine xb_call (D := D) (A := A) (σ := σ) (h := h6) (d := 3) (mc := c20) (ms := sc20) (maxL := 10) (rest := []) (av := [.ref x0, .ref b17, .int x1, .long 4294967295]) (fun T hT X => by obtain ⟨cb, r1, r2, r3⟩ := xb_recv (ci := 4) hR rfl hk1 (by decide); exact xt_invV X hx hown (hts _ m_160564f4) (hts _ m_e4938329) (hts _ m_811dfb37) (xt_sigOf (hts _ m_9c84dd5e)) nm_Checker_checkLimits (by rw [hT]; exact r1) r2 r3 (g := F0 m 71 ls [.long 4294967295, .int x1, .ref b17, .ref x0]) rfl (argsL := [.ref b17, .int x1, .long 4294967295]) (rest := []) rfl rfl (by rw [hb]; exact (xb_d D_Checker_checkOwn 35 rfl))) (ok_Checker_checkLimits l hfl D A σ x0 b17 x1 4294967295 h6 c20 sc20 _ _ hw) (hml.trans hl.1.symm) (by rw [hb]; exact (xb_d D_Checker_checkOwn 35 rfl)) (Nat.le_of_ble_eq_true rfl) (Nat.le_of_ble_eq_true rfl) (Nat.le_of_ble_eq_true rfl) (show k + c20 ≤ MC by omega) (show n + sc20 ≤ MS by omega) (xt_w1 hB.1 m_9c84dd5e) (xt_cdOf hB.1 m_9c84dd5e) (hts _ m_44748ce5) hB hR hS hA (fun vv h18 H locs hq hEh18 hR hS => ?_) (fun XX ax h18 H locs hq hEh18 hex hR hS => ?_)
        · obtain ⟨rfl, hw⟩ := hq
          have hw := hw hEh18
          have hE := hE.tr hEh18
          refine W.eq (g2 := F0 m 74 ls []) rfl ?_
          refine lv_iinc (v := (x1 + 1)) (k := 1) hx hb (xb_d D_Checker_checkOwn 36 rfl) hl rfl (by first | rfl | decide) (by decide) rfl (fun ls hl => ?_)
          have hl : lv_has ls 3 [(1, .int (x1 + 1)), (0, .ref x0)] := hl
          refine lv_goto (tgt := 45) hx hb (xb_d D_Checker_checkOwn 37 rfl) rfl ?_
          exact ih x0 (x1 + 1) h18 (bc - c20) (bs - sc20) hw p e s m args below meth c hC H locs ls (k + c20) (n + sc20) hE (lv_sub hl [1, 0] rfl) hR hS (by omega) (by omega)
        · exact xb_pass hlocks (fun x hx9 => by rw [htab] at hx9; first | cases hx9 | (simp [tableOf] at hx9; rcases hx9 with rfl | rfl | rfl <;> decide)) (show (k + c20) ≤ MC by omega) (show (n + sc20) ≤ MS by omega) (hE.tr hEh18) hR hS hex hq
    · exact False.elim hq

set_option maxHeartbeats 4000000 in
set_option maxRecDepth 100000 in
theorem am_Checker_checkOwn_L10 (l : Launch) (hfl : l.flags = pinnedFlags ++ [noTraceFlag]) (D : va_G) (A : Nat → Prop) (σ MC MS : Nat) (h0 : xb_H) (Qr : xb_H → Prop) (Qt : String → xb_H → Prop) (n9 : Nat) : ∀ (x0 : Nat) (x1 : Int32) (h : xb_H) (bc : Nat) (bs : Nat), w_Checker_checkOwn_L10 Qr Qt n9 x0 x1 h bc bs → xb_am l D A σ 4 MC MS h0 (fun v h => v = none ∧ Qr h) Qt y_Checker_checkOwn.cls y_Checker_checkOwn.name b_Checker_checkOwn 3 ([] : List ExceptionTableEntry) none 10 [(0, .ref x0), (1, .int x1)] [] h bc bs := by
  induction n9 with
  | zero => intro x0 x1 h bc bs hw; exact False.elim hw
  | succ n9 ih =>
    intro x0 x1 h bc bs hw
    unfold w_Checker_checkOwn_L10 at hw
    intro p e s m args below meth c hC H locs ls k n hE hl hR hS hk hn
    obtain ⟨hx, hb, hown, hlocks, htab, hml, hr, hB, hA, hnm⟩ := id hC
    have hts := hB.1.1.at args
    refine lv_iload_n hx hb (xb_d D_Checker_checkOwn 6 rfl) rfl (lv_at hl 1 rfl) ?_
    refine lv_aload_n hx hb (xb_d D_Checker_checkOwn 7 rfl) rfl (lv_at hl 0 rfl) ?_
    obtain ⟨hk1, hw⟩ := hw
    refine xb_getP (C := R_Checker) (T := F_Checker) (N := 17) hx hb 4 0 hts fin_Checker hown hR hk1 (by decide) rfl (by decide) rfl (hts _ m_070795bc) (fun _ h9 => h9) (xb_d D_Checker_checkOwn 8 rfl) ?_
    obtain ⟨b2, eb2, hw⟩ := hw
    refine xb_some eb2 ?_
    obtain ⟨hk3, hw⟩ := hw
    refine xb_getP (C := R_StackModule) (T := F_StackModule) (N := 19) hx hb 2 4 hts fin_StackModule hown hR hk3 (by decide) rfl (by decide) rfl (hts _ m_74009c24) (fun _ h9 => h9) (xb_d D_Checker_checkOwn 9 rfl) ?_
    obtain ⟨b4, eb4, hw⟩ := hw
    refine xb_some eb4 ?_
    obtain ⟨hk5, hw⟩ := hw
    refine xb_call (D := D) (A := A) (σ := σ) (h := h) (d := 2) (mc := 0) (ms := 0) (maxL := 1) (rest := [.int x1]) (av := [.ref b4]) (fun T hT X => by obtain ⟨cb, r1, r2, r3⟩ := xb_recv (ci := 1) hR rfl hk5 (by decide); exact xt_invV X hx hown (hts _ m_c8b950b4) (hts _ m_ded65609) (hts _ m_a4161156) (xt_sigOf (hts _ m_83ba3721)) nm_Row_lines (by rw [hT]; exact r1) r2 r3 (g := F0 m 18 ls [.ref b4, .int x1]) rfl (argsL := []) (rest := [.int x1]) rfl rfl (by rw [hb]; exact (xb_d D_Checker_checkOwn 10 rfl))) (ok_Row_lines l hfl D A σ b4 h _ hw) (hml.trans hl.1.symm) (by rw [hb]; exact (xb_d D_Checker_checkOwn 10 rfl)) (Nat.le_of_ble_eq_true rfl) (Nat.le_of_ble_eq_true rfl) (Nat.le_of_ble_eq_true rfl) (show k + 0 ≤ MC by omega) (show n + 0 ≤ MS by omega) (xt_w1 hB.1 m_83ba3721) (xt_cdOf hB.1 m_83ba3721) (hts _ m_c1bef504) hB hR hS hA (fun vv h6 H locs hq hEh6 hR hS => ?_) (fun XX ax h6 H locs hq hEh6 hex hR hS => ?_)
    · obtain ⟨r7, rfl, hw⟩ := hq
      have hw := hw hEh6
      have hE := hE.tr hEh6
      refine W.eq (g2 := F0 m 21 ls [.int r7, .int x1]) rfl ?_
      refine lv_icmp_ge (tgt := 35) hx hb (xb_d D_Checker_checkOwn 11 rfl) rfl (fun hc8 => ?_) (fun hc8 => ?_)
      · have hw := hw.1 hc8
        refine lv_aload_n hx hb (xb_d D_Checker_checkOwn 17 rfl) rfl (lv_at hl 0 rfl) ?_
        have hk1 : xb_k h6 x0 = 5 := hEh6.k hk1
        refine xb_getP (C := R_Checker) (T := F_Checker) (N := 17) hx hb 4 0 hts fin_Checker hown hR hk1 (by decide) rfl (by decide) rfl (hts _ m_070795bc) (fun _ h9 => h9) (xb_d D_Checker_checkOwn 18 rfl) ?_
        obtain ⟨b9, eb9, hw⟩ := hw
        refine xb_some eb9 ?_
        obtain ⟨hk10, hw⟩ := hw
        refine xb_getP (C := R_StackModule) (T := F_StackModule) (N := 19) hx hb 2 14 hts fin_StackModule hown hR hk10 (by decide) rfl (by decide) rfl (hts _ m_c2d0ffa0) (fun _ h9 => h9) (xb_d D_Checker_checkOwn 19 rfl) ?_
        obtain ⟨b11, eb11, hw⟩ := hw
        refine xb_some eb11 ?_
        refine lv_iconst (v := 1) hx hb (xb_d D_Checker_checkOwn 20 rfl) (by decide) ?_
        obtain ⟨hk13, hw⟩ := hw
        obtain ⟨hi12, hw⟩ := hw
        refine xb_iald hx hb hR hk13 hi12 (xb_d D_Checker_checkOwn 21 rfl) ?_
        refine xt_numi (y := (xb_i h6 b11 1)) (congrArg (xb_i h6 b11) (by decide : (1 : Int32).toNatClampNeg = 1)) ?_
        obtain ⟨v14, ev14⟩ : ∃ x : Int32, x = (xb_i h6 b11 1) := ⟨_, rfl⟩
        have hw := hw v14 ev14
        refine xt_numi (y := v14) ev14.symm ?_
        refine lv_istore_n hx hb (xb_d D_Checker_checkOwn 22 rfl) rfl hl (by decide) rfl (fun ls hl => ?_)
        have hl : lv_has ls 3 [(1, .int v14), (0, .ref x0)] := hl
        obtain ⟨n8, hw⟩ := hw
        exact am_Checker_checkOwn_L45 l hfl D A σ MC MS h0 Qr Qt n8 x0 v14 h6 bc bs hw p e s m args below meth c hC H locs ls k n hE (lv_sub hl [1, 0] rfl) hR hS (by omega) (by omega)
      · have hw := hw.2 hc8
        refine lv_aload_n hx hb (xb_d D_Checker_checkOwn 12 rfl) rfl (lv_at hl 0 rfl) ?_
        refine lv_iload_n hx hb (xb_d D_Checker_checkOwn 13 rfl) rfl (lv_at hl 1 rfl) ?_
        have hk1 : xb_k h6 x0 = 5 := hEh6.k hk1
        obtain ⟨c17, sc17, hlc17, hlsc17, hw⟩ := hw
        refine xb_call (D := D) (A := A) (σ := σ) (h := h6) (d := 3) (mc := c17) (ms := sc17) (maxL := 2) (rest := []) (av := [.ref x0, .int x1]) (fun T hT X => by obtain ⟨cb, r1, r2, r3⟩ := xb_recv (ci := 4) hR rfl hk1 (by decide); exact xt_invV X hx hown (hts _ m_635e771e) (hts _ m_b0a695c0) (hts _ m_1190460b) (xt_sigOf (hts _ m_dd5eb9b4)) nm_Checker_checkFunction (by rw [hT]; exact r1) r2 r3 (g := F0 m 26 ls [.int x1, .ref x0]) rfl (argsL := [.int x1]) (rest := []) rfl rfl (by rw [hb]; exact (xb_d D_Checker_checkOwn 14 rfl))) (ok_Checker_checkFunction l hfl D A σ x0 x1 h6 c17 sc17 _ _ hw) (hml.trans hl.1.symm) (by rw [hb]; exact (xb_d D_Checker_checkOwn 14 rfl)) (Nat.le_of_ble_eq_true rfl) (Nat.le_of_ble_eq_true rfl) (Nat.le_of_ble_eq_true rfl) (show k + c17 ≤ MC by omega) (show n + sc17 ≤ MS by omega) (xt_w1 hB.1 m_dd5eb9b4) (xt_cdOf hB.1 m_dd5eb9b4) (hts _ m_44748ce5) hB hR hS hA (fun vv h15 H locs hq hEh15 hR hS => ?_) (fun XX ax h15 H locs hq hEh15 hex hR hS => ?_)
        · obtain ⟨rfl, hw⟩ := hq
          have hw := hw hEh15
          have hE := hE.tr hEh15
          refine W.eq (g2 := F0 m 29 ls []) rfl ?_
          refine lv_iinc (v := (x1 + 1)) (k := 1) hx hb (xb_d D_Checker_checkOwn 15 rfl) hl rfl (by first | rfl | decide) (by decide) rfl (fun ls hl => ?_)
          have hl : lv_has ls 3 [(1, .int (x1 + 1)), (0, .ref x0)] := hl
          refine lv_goto (tgt := 10) hx hb (xb_d D_Checker_checkOwn 16 rfl) rfl ?_
          exact ih x0 (x1 + 1) h15 (bc - c17) (bs - sc17) hw p e s m args below meth c hC H locs ls (k + c17) (n + sc17) hE (lv_sub hl [1, 0] rfl) hR hS (by omega) (by omega)
        · exact xb_pass hlocks (fun x hx9 => by rw [htab] at hx9; first | cases hx9 | (simp [tableOf] at hx9; rcases hx9 with rfl | rfl | rfl <;> decide)) (show (k + c17) ≤ MC by omega) (show (n + sc17) ≤ MS by omega) (hE.tr hEh15) hR hS hex hq
    · exact False.elim hq

set_option maxHeartbeats 4000000 in
set_option maxRecDepth 100000 in
theorem ok_Checker_checkOwn (l : Launch) (hfl : l.flags = pinnedFlags ++ [noTraceFlag]) (D : va_G) (A : Nat → Prop) (σ : Nat) (x0 : Nat) (h : xb_H) (bc : Nat) (bs : Nat) (Qr : xb_H → Prop) (Qt : String → xb_H → Prop) (hw : w_Checker_checkOwn x0 h bc bs Qr Qt) : xt_Met l y_Checker_checkOwn [.code y_Checker_checkOwn b_Checker_checkOwn 3 none] (xb_rm 4 bc bs) (xb_Pc D A σ h [.ref x0]) (xb_Qc D A h (fun v h => v = none ∧ Qr h) Qt) bc bs A := by
  refine xb_ofAm (cc := b_Checker_checkOwn) (by decide) (Nat.le_of_ble_eq_true rfl) ?_
  unfold w_Checker_checkOwn at hw
  show xb_am l D A σ 4 bc bs h (fun v h => v = none ∧ Qr h) Qt y_Checker_checkOwn.cls y_Checker_checkOwn.name b_Checker_checkOwn 3 ([] : List ExceptionTableEntry) none 0 [(0, .ref x0)] [] h bc bs
  obtain ⟨MC, hMC⟩ : ∃ x, x = bc := ⟨_, rfl⟩
  obtain ⟨MS, hMS⟩ : ∃ x, x = bs := ⟨_, rfl⟩
  rw [show xb_am l D A σ 4 bc bs = xb_am l D A σ 4 MC MS by rw [hMC, hMS]]
  obtain ⟨h0, hh0⟩ : ∃ x, x = h := ⟨_, rfl⟩
  rw [show xb_am l D A σ 4 MC MS h = xb_am l D A σ 4 MC MS h0 by rw [hh0]]
  intro p e s m args below meth c hC H locs ls k n hE hl hR hS hk hn
  obtain ⟨hx, hb, hown, hlocks, htab, hml, hr, hB, hA, hnm⟩ := id hC
  have hts := hB.1.1.at args
  refine lv_aload_n hx hb (xb_d D_Checker_checkOwn 0 rfl) rfl (lv_at hl 0 rfl) ?_
  obtain ⟨hk1, hw⟩ := hw
  refine xb_getP (C := R_Checker) (T := F_Checker) (N := 17) hx hb 4 0 hts fin_Checker hown hR hk1 (by decide) rfl (by decide) rfl (hts _ m_070795bc) (fun _ h9 => h9) (xb_d D_Checker_checkOwn 1 rfl) ?_
  obtain ⟨b2, eb2, hw⟩ := hw
  refine xb_some eb2 ?_
  obtain ⟨hk3, hw⟩ := hw
  refine xb_getP (C := R_StackModule) (T := F_StackModule) (N := 19) hx hb 2 14 hts fin_StackModule hown hR hk3 (by decide) rfl (by decide) rfl (hts _ m_c2d0ffa0) (fun _ h9 => h9) (xb_d D_Checker_checkOwn 2 rfl) ?_
  obtain ⟨b4, eb4, hw⟩ := hw
  refine xb_some eb4 ?_
  refine lv_iconst (v := 0) hx hb (xb_d D_Checker_checkOwn 3 rfl) (by decide) ?_
  obtain ⟨hk6, hw⟩ := hw
  obtain ⟨hi5, hw⟩ := hw
  refine xb_iald hx hb hR hk6 hi5 (xb_d D_Checker_checkOwn 4 rfl) ?_
  refine xt_numi (y := (xb_i h b4 0)) (congrArg (xb_i h b4) (by decide : (0 : Int32).toNatClampNeg = 0)) ?_
  obtain ⟨v7, ev7⟩ : ∃ x : Int32, x = (xb_i h b4 0) := ⟨_, rfl⟩
  have hw := hw v7 ev7
  refine xt_numi (y := v7) ev7.symm ?_
  refine lv_istore_n hx hb (xb_d D_Checker_checkOwn 5 rfl) rfl hl (by decide) rfl (fun ls hl => ?_)
  have hl : lv_has ls 3 [(1, .int v7), (0, .ref x0)] := hl
  obtain ⟨n8, hw⟩ := hw
  exact am_Checker_checkOwn_L10 l hfl D A σ MC MS h0 Qr Qt n8 x0 v7 h bc bs hw p e s m args below meth c hC H locs ls k n hE (lv_sub hl [1, 0] rfl) hR hS (by omega) (by omega)

set_option maxRecDepth 100000 in
def T_Checker_checkSelect : List (Nat × Instr × Nat) := [(0, .aload_n 0, 1), (1, .bipush 127, 2), (3, .invokevirtual 251, 3), (6, .pop, 1), (7, .aload_n 0, 1), (8, .iconst 0, 1), (9, .invokevirtual 251, 3), (12, .istore_n 1, 1), (13, .aload_n 0, 1), (14, .iload_n 1, 1), (15, .invokevirtual 251, 3), (18, .istore_n 2, 1), (19, .aload_n 0, 1), (20, .iload_n 1, 1), (21, .ifCond .ne 7, 3), (24, .iload_n 2, 1), (25, .goto 4, 3), (28, .iload_n 1, 1), (29, .invokevirtual 236, 3), (32, .return_, 1)]
theorem D_Checker_checkSelect : ∀ q ∈ T_Checker_checkSelect, decode b_Checker_checkSelect q.1 = .ok (q.2.1, q.2.2) := by decide +kernel
def w_Checker_checkSelect_L29 (Qr : xb_H → Prop) (Qt : String → xb_H → Prop) (y0 : Int32) (y1 : Nat) (h : xb_H) (bc : Nat) (bs : Nat) : Prop :=
    xb_k h y1 = 5 ∧ w_Checker_put y1 y0 h (fun (h2 : xb_H) => xb_ext h h2 → Qr h2)

def w_Checker_checkSelect (x0 : Nat) (h : xb_H) (bc : Nat) (bs : Nat) (Qr : xb_H → Prop) (Qt : String → xb_H → Prop) : Prop :=
    xb_k h x0 = 5 ∧ ∃ c4 sc4 : Nat, c4 ≤ bc ∧ sc4 ≤ bs ∧ w_Checker_take x0 127 h c4 sc4 (fun (r3 : Int32) (h2 : xb_H) => xb_ext h h2 → ∃ c7 sc7 : Nat, c7 ≤ (bc - c4) ∧ sc7 ≤ (bs - sc4) ∧ w_Checker_take x0 0 h2 c7 sc7 (fun (r6 : Int32) (h5 : xb_H) => xb_ext h2 h5 → ∃ c10 sc10 : Nat, c10 ≤ ((bc - c4) - c7) ∧ sc10 ≤ ((bs - sc4) - sc7) ∧ w_Checker_take x0 r6 h5 c10 sc10 (fun (r9 : Int32) (h8 : xb_H) => xb_ext h5 h8 → ((¬ r6 = (0 : Int32) → w_Checker_checkSelect_L29 Qr Qt r6 x0 h8 (((bc - c4) - c7) - c10) (((bs - sc4) - sc7) - sc10)) ∧ (r6 = (0 : Int32) → w_Checker_checkSelect_L29 Qr Qt r9 x0 h8 (((bc - c4) - c7) - c10) (((bs - sc4) - sc7) - sc10)))) Qt) Qt) Qt

set_option maxHeartbeats 4000000 in
set_option maxRecDepth 100000 in
theorem am_Checker_checkSelect_L29 (l : Launch) (hfl : l.flags = pinnedFlags ++ [noTraceFlag]) (D : va_G) (A : Nat → Prop) (σ MC MS : Nat) (h0 : xb_H) (Qr : xb_H → Prop) (Qt : String → xb_H → Prop) (y0 : Int32) (y1 : Nat) (h : xb_H) (bc : Nat) (bs : Nat) (hw : w_Checker_checkSelect_L29 Qr Qt y0 y1 h bc bs) : xb_am l D A σ 4 MC MS h0 (fun v h => v = none ∧ Qr h) Qt y_Checker_checkSelect.cls y_Checker_checkSelect.name b_Checker_checkSelect 3 ([] : List ExceptionTableEntry) none 29 [] [.int y0, .ref y1] h bc bs := by
  unfold w_Checker_checkSelect_L29 at hw
  intro p e s m args below meth c hC H locs ls k n hE hl hR hS hk hn
  obtain ⟨hx, hb, hown, hlocks, htab, hml, hr, hB, hA, hnm⟩ := id hC
  have hts := hB.1.1.at args
  obtain ⟨hk1, hw⟩ := hw
  refine xb_call (D := D) (A := A) (σ := σ) (h := h) (d := 2) (mc := 0) (ms := 0) (maxL := 2) (rest := []) (av := [.ref y1, .int y0]) (fun T hT X => by obtain ⟨cb, r1, r2, r3⟩ := xb_recv (ci := 4) hR rfl hk1 (by decide); exact xt_invV X hx hown (hts _ m_761ff7fc) (hts _ m_e867be1e) (hts _ m_098fc344) (xt_sigOf (hts _ m_43ff17c7)) nm_Checker_put (by rw [hT]; exact r1) r2 r3 (g := F0 m 29 ls [.int y0, .ref y1]) rfl (argsL := [.int y0]) (rest := []) rfl rfl (by rw [hb]; exact (xb_d D_Checker_checkSelect 18 rfl))) (ok_Checker_put l hfl D A σ y1 y0 h _ hw) (hml.trans hl.1.symm) (by rw [hb]; exact (xb_d D_Checker_checkSelect 18 rfl)) (Nat.le_of_ble_eq_true rfl) (Nat.le_of_ble_eq_true rfl) (Nat.le_of_ble_eq_true rfl) (show k + 0 ≤ MC by omega) (show n + 0 ≤ MS by omega) (xt_w1 hB.1 m_43ff17c7) (xt_cdOf hB.1 m_43ff17c7) (hts _ m_44748ce5) hB hR hS hA (fun vv h2 H locs hq hEh2 hR hS => ?_) (fun XX ax h2 H locs hq hEh2 hex hR hS => ?_)
  · obtain ⟨rfl, hw⟩ := hq
    have hw := hw hEh2
    have hE := hE.tr hEh2
    refine W.eq (g2 := F0 m 32 ls []) rfl ?_
    exact xb_vret hx hb hr hlocks (show k ≤ MC by omega) (show n ≤ MS by omega) hE hR hS (xb_d D_Checker_checkSelect 19 rfl) hw
  · exact False.elim hq

set_option maxHeartbeats 4000000 in
set_option maxRecDepth 100000 in
theorem ok_Checker_checkSelect (l : Launch) (hfl : l.flags = pinnedFlags ++ [noTraceFlag]) (D : va_G) (A : Nat → Prop) (σ : Nat) (x0 : Nat) (h : xb_H) (bc : Nat) (bs : Nat) (Qr : xb_H → Prop) (Qt : String → xb_H → Prop) (hw : w_Checker_checkSelect x0 h bc bs Qr Qt) : xt_Met l y_Checker_checkSelect [.code y_Checker_checkSelect b_Checker_checkSelect 3 none] (xb_rm 4 bc bs) (xb_Pc D A σ h [.ref x0]) (xb_Qc D A h (fun v h => v = none ∧ Qr h) Qt) bc bs A := by
  refine xb_ofAm (cc := b_Checker_checkSelect) (by decide) (Nat.le_of_ble_eq_true rfl) ?_
  unfold w_Checker_checkSelect at hw
  show xb_am l D A σ 4 bc bs h (fun v h => v = none ∧ Qr h) Qt y_Checker_checkSelect.cls y_Checker_checkSelect.name b_Checker_checkSelect 3 ([] : List ExceptionTableEntry) none 0 [(0, .ref x0)] [] h bc bs
  obtain ⟨MC, hMC⟩ : ∃ x, x = bc := ⟨_, rfl⟩
  obtain ⟨MS, hMS⟩ : ∃ x, x = bs := ⟨_, rfl⟩
  rw [show xb_am l D A σ 4 bc bs = xb_am l D A σ 4 MC MS by rw [hMC, hMS]]
  obtain ⟨h0, hh0⟩ : ∃ x, x = h := ⟨_, rfl⟩
  rw [show xb_am l D A σ 4 MC MS h = xb_am l D A σ 4 MC MS h0 by rw [hh0]]
  intro p e s m args below meth c hC H locs ls k n hE hl hR hS hk hn
  obtain ⟨hx, hb, hown, hlocks, htab, hml, hr, hB, hA, hnm⟩ := id hC
  have hts := hB.1.1.at args
  refine lv_aload_n hx hb (xb_d D_Checker_checkSelect 0 rfl) rfl (lv_at hl 0 rfl) ?_
  refine lv_bipush (v := 127) hx hb (xb_d D_Checker_checkSelect 1 rfl) (by decide) ?_
  obtain ⟨hk1, hw⟩ := hw
  obtain ⟨c4, sc4, hlc4, hlsc4, hw⟩ := hw
  refine xb_call (D := D) (A := A) (σ := σ) (h := h) (d := 3) (mc := c4) (ms := sc4) (maxL := 3) (rest := []) (av := [.ref x0, .int 127]) (fun T hT X => by obtain ⟨cb, r1, r2, r3⟩ := xb_recv (ci := 4) hR rfl hk1 (by decide); exact xt_invV X hx hown (hts _ m_0b33e20f) (hts _ m_338dda25) (hts _ m_d7dc08f9) (xt_sigOf (hts _ m_b71cce2b)) nm_Checker_take (by rw [hT]; exact r1) r2 r3 (g := F0 m 3 ls [.int 127, .ref x0]) rfl (argsL := [.int 127]) (rest := []) rfl rfl (by rw [hb]; exact (xb_d D_Checker_checkSelect 2 rfl))) (ok_Checker_take l hfl D A σ x0 127 h c4 sc4 _ _ hw) (hml.trans hl.1.symm) (by rw [hb]; exact (xb_d D_Checker_checkSelect 2 rfl)) (Nat.le_of_ble_eq_true rfl) (Nat.le_of_ble_eq_true rfl) (Nat.le_of_ble_eq_true rfl) (show k + c4 ≤ MC by omega) (show n + sc4 ≤ MS by omega) (xt_w1 hB.1 m_b71cce2b) (xt_cdOf hB.1 m_b71cce2b) (hts _ m_44748ce5) hB hR hS hA (fun vv h2 H locs hq hEh2 hR hS => ?_) (fun XX ax h2 H locs hq hEh2 hex hR hS => ?_)
  · obtain ⟨r3, rfl, hw⟩ := hq
    have hw := hw hEh2
    have hE := hE.tr hEh2
    refine W.eq (g2 := F0 m 6 ls [.int r3]) rfl ?_
    refine lv_pop hx hb (xb_d D_Checker_checkSelect 3 rfl) rfl ?_
    refine lv_aload_n hx hb (xb_d D_Checker_checkSelect 4 rfl) rfl (lv_at hl 0 rfl) ?_
    refine lv_iconst (v := 0) hx hb (xb_d D_Checker_checkSelect 5 rfl) (by decide) ?_
    have hk1 : xb_k h2 x0 = 5 := hEh2.k hk1
    obtain ⟨c7, sc7, hlc7, hlsc7, hw⟩ := hw
    refine xb_call (D := D) (A := A) (σ := σ) (h := h2) (d := 3) (mc := c7) (ms := sc7) (maxL := 3) (rest := []) (av := [.ref x0, .int 0]) (fun T hT X => by obtain ⟨cb, r1, r2, r3⟩ := xb_recv (ci := 4) hR rfl hk1 (by decide); exact xt_invV X hx hown (hts _ m_0b33e20f) (hts _ m_338dda25) (hts _ m_d7dc08f9) (xt_sigOf (hts _ m_b71cce2b)) nm_Checker_take (by rw [hT]; exact r1) r2 r3 (g := F0 m 9 ls [.int 0, .ref x0]) rfl (argsL := [.int 0]) (rest := []) rfl rfl (by rw [hb]; exact (xb_d D_Checker_checkSelect 6 rfl))) (ok_Checker_take l hfl D A σ x0 0 h2 c7 sc7 _ _ hw) (hml.trans hl.1.symm) (by rw [hb]; exact (xb_d D_Checker_checkSelect 6 rfl)) (Nat.le_of_ble_eq_true rfl) (Nat.le_of_ble_eq_true rfl) (Nat.le_of_ble_eq_true rfl) (show (k + c4) + c7 ≤ MC by omega) (show (n + sc4) + sc7 ≤ MS by omega) (xt_w1 hB.1 m_b71cce2b) (xt_cdOf hB.1 m_b71cce2b) (hts _ m_44748ce5) hB hR hS hA (fun vv h5 H locs hq hEh5 hR hS => ?_) (fun XX ax h5 H locs hq hEh5 hex hR hS => ?_)
    · obtain ⟨r6, rfl, hw⟩ := hq
      have hw := hw hEh5
      have hE := hE.tr hEh5
      refine W.eq (g2 := F0 m 12 ls [.int r6]) rfl ?_
      refine lv_istore_n hx hb (xb_d D_Checker_checkSelect 7 rfl) rfl hl (by decide) rfl (fun ls hl => ?_)
      have hl : lv_has ls 3 [(1, .int r6), (0, .ref x0)] := hl
      refine lv_aload_n hx hb (xb_d D_Checker_checkSelect 8 rfl) rfl (lv_at hl 1 rfl) ?_
      refine lv_iload_n hx hb (xb_d D_Checker_checkSelect 9 rfl) rfl (lv_at hl 0 rfl) ?_
      have hk1 : xb_k h5 x0 = 5 := hEh5.k hk1
      obtain ⟨c10, sc10, hlc10, hlsc10, hw⟩ := hw
      refine xb_call (D := D) (A := A) (σ := σ) (h := h5) (d := 3) (mc := c10) (ms := sc10) (maxL := 3) (rest := []) (av := [.ref x0, .int r6]) (fun T hT X => by obtain ⟨cb, r1, r2, r3⟩ := xb_recv (ci := 4) hR rfl hk1 (by decide); exact xt_invV X hx hown (hts _ m_0b33e20f) (hts _ m_338dda25) (hts _ m_d7dc08f9) (xt_sigOf (hts _ m_b71cce2b)) nm_Checker_take (by rw [hT]; exact r1) r2 r3 (g := F0 m 15 ls [.int r6, .ref x0]) rfl (argsL := [.int r6]) (rest := []) rfl rfl (by rw [hb]; exact (xb_d D_Checker_checkSelect 10 rfl))) (ok_Checker_take l hfl D A σ x0 r6 h5 c10 sc10 _ _ hw) (hml.trans hl.1.symm) (by rw [hb]; exact (xb_d D_Checker_checkSelect 10 rfl)) (Nat.le_of_ble_eq_true rfl) (Nat.le_of_ble_eq_true rfl) (Nat.le_of_ble_eq_true rfl) (show ((k + c4) + c7) + c10 ≤ MC by omega) (show ((n + sc4) + sc7) + sc10 ≤ MS by omega) (xt_w1 hB.1 m_b71cce2b) (xt_cdOf hB.1 m_b71cce2b) (hts _ m_44748ce5) hB hR hS hA (fun vv h8 H locs hq hEh8 hR hS => ?_) (fun XX ax h8 H locs hq hEh8 hex hR hS => ?_)
      · obtain ⟨r9, rfl, hw⟩ := hq
        have hw := hw hEh8
        have hE := hE.tr hEh8
        refine W.eq (g2 := F0 m 18 ls [.int r9]) rfl ?_
        refine lv_istore_n hx hb (xb_d D_Checker_checkSelect 11 rfl) rfl hl (by decide) rfl (fun ls hl => ?_)
        have hl : lv_has ls 3 [(2, .int r9), (1, .int r6), (0, .ref x0)] := hl
        refine lv_aload_n hx hb (xb_d D_Checker_checkSelect 12 rfl) rfl (lv_at hl 2 rfl) ?_
        refine lv_iload_n hx hb (xb_d D_Checker_checkSelect 13 rfl) rfl (lv_at hl 1 rfl) ?_
        refine lv_if_ne (tgt := 28) hx hb (xb_d D_Checker_checkSelect 14 rfl) rfl (fun hc11 => ?_) (fun hc11 => ?_)
        · have hw := hw.1 hc11
          refine lv_iload_n hx hb (xb_d D_Checker_checkSelect 17 rfl) rfl (lv_at hl 1 rfl) ?_
          exact am_Checker_checkSelect_L29 l hfl D A σ MC MS h0 Qr Qt r6 x0 h8 (((bc - c4) - c7) - c10) (((bs - sc4) - sc7) - sc10) hw p e s m args below meth c hC H locs ls (((k + c4) + c7) + c10) (((n + sc4) + sc7) + sc10) hE (lv_sub hl [] rfl) hR hS (by omega) (by omega)
        · have hw := hw.2 hc11
          refine lv_iload_n hx hb (xb_d D_Checker_checkSelect 15 rfl) rfl (lv_at hl 0 rfl) ?_
          refine lv_goto (tgt := 29) hx hb (xb_d D_Checker_checkSelect 16 rfl) rfl ?_
          exact am_Checker_checkSelect_L29 l hfl D A σ MC MS h0 Qr Qt r9 x0 h8 (((bc - c4) - c7) - c10) (((bs - sc4) - sc7) - sc10) hw p e s m args below meth c hC H locs ls (((k + c4) + c7) + c10) (((n + sc4) + sc7) + sc10) hE (lv_sub hl [] rfl) hR hS (by omega) (by omega)
      · exact xb_pass hlocks (fun x hx9 => by rw [htab] at hx9; first | cases hx9 | (simp [tableOf] at hx9; rcases hx9 with rfl | rfl | rfl <;> decide)) (show (((k + c4) + c7) + c10) ≤ MC by omega) (show (((n + sc4) + sc7) + sc10) ≤ MS by omega) (hE.tr hEh8) hR hS hex hq
    · exact xb_pass hlocks (fun x hx9 => by rw [htab] at hx9; first | cases hx9 | (simp [tableOf] at hx9; rcases hx9 with rfl | rfl | rfl <;> decide)) (show ((k + c4) + c7) ≤ MC by omega) (show ((n + sc4) + sc7) ≤ MS by omega) (hE.tr hEh5) hR hS hex hq
  · exact xb_pass hlocks (fun x hx9 => by rw [htab] at hx9; first | cases hx9 | (simp [tableOf] at hx9; rcases hx9 with rfl | rfl | rfl <;> decide)) (show (k + c4) ≤ MC by omega) (show (n + sc4) ≤ MS by omega) (hE.tr hEh2) hR hS hex hq

theorem m_9ef1af18 : (.fieldLink "StackHost$Checker" 151 "StackHost$StackModule" "startAt" "I" : Cond) ∈ xt_tbl := xt_in (xt_t3 (List.mem_of_getElem? (i := 123) (by decide +kernel))) (by decide +kernel)
theorem m_2687ad12 : (.fieldLink "StackHost$Checker" 155 "StackHost$StackModule" "start" "I" : Cond) ∈ xt_tbl := xt_in (xt_t3 (List.mem_of_getElem? (i := 120) (by decide +kernel))) (by decide +kernel)
theorem m_ad67eca9 : (.methodLink "StackHost$Checker" 158 y_StackModule_typeOf : Cond) ∈ xt_tbl := xt_in (xt_t4 (List.mem_of_getElem? (i := 155) (by decide +kernel))) (by decide +kernel)
theorem m_2e09e00d : (.methodLink "StackHost$Checker" 164 y_StackModule_hasResult : Cond) ∈ xt_tbl := xt_in (xt_t4 (List.mem_of_getElem? (i := 163) (by decide +kernel))) (by decide +kernel)
set_option maxRecDepth 100000 in
def T_Checker_checkStart : List (Nat × Instr × Nat) := [(0, .aload_n 0, 1), (1, .getfield 38, 3), (4, .getfield 151, 3), (7, .iconst (-1), 1), (8, .if_icmp .ne 4, 3), (11, .return_, 1), (12, .aload_n 0, 1), (13, .getfield 38, 3), (16, .getfield 155, 3), (19, .i2l, 1), (20, .aload_n 0, 1), (21, .getfield 38, 3), (24, .getfield 118, 3), (27, .invokevirtual 77, 3), (30, .invokestatic 125, 3), (33, .ifCond .ne 19, 3), (36, .aload_n 0, 1), (37, .getfield 38, 3), (40, .bipush 20, 2), (42, .aload_n 0, 1), (43, .getfield 38, 3), (46, .getfield 151, 3), (49, .invokevirtual 94, 3), (52, .aload_n 0, 1), (53, .getfield 38, 3), (56, .aload_n 0, 1), (57, .getfield 38, 3), (60, .getfield 155, 3), (63, .invokevirtual 158, 3), (66, .istore_n 1, 1), (67, .aload_n 0, 1), (68, .getfield 38, 3), (71, .iload_n 1, 1), (72, .invokevirtual 161, 3), (75, .ifCond .gt 14, 3), (78, .aload_n 0, 1), (79, .getfield 38, 3), (82, .iload_n 1, 1), (83, .invokevirtual 164, 3), (86, .ifCond .eq 19, 3), (89, .aload_n 0, 1), (90, .getfield 38, 3), (93, .bipush 21, 2), (95, .aload_n 0, 1), (96, .getfield 38, 3), (99, .getfield 151, 3), (102, .invokevirtual 94, 3), (105, .return_, 1)]
theorem D_Checker_checkStart : ∀ q ∈ T_Checker_checkStart, decode b_Checker_checkStart q.1 = .ok (q.2.1, q.2.2) := by decide +kernel
def w_Checker_checkStart_L105 (Qr : xb_H → Prop) (Qt : String → xb_H → Prop) (h : xb_H) (bc : Nat) (bs : Nat) : Prop :=
    Qr h

def w_Checker_checkStart_L89 (Qr : xb_H → Prop) (Qt : String → xb_H → Prop) (x0 : Nat) (h : xb_H) (bc : Nat) (bs : Nat) : Prop :=
    xb_k h x0 = 5 ∧ ∃ b2 : Nat, (xb_r h x0 0) = some b2 ∧ ∃ b3 : Nat, (xb_r h x0 0) = some b3 ∧ xb_k h b3 = 3 ∧ xb_k h b2 = 3 ∧ ∃ c8 sc8 : Nat, c8 ≤ bc ∧ sc8 ≤ bs ∧ w_StackModule_fail b2 21 (xb_i h b3 16) h c8 sc8 (fun (h6 : xb_H) => xb_ext h h6 → w_Checker_checkStart_L105 Qr Qt h6 (bc - c8) (bs - sc8)) Qt

def w_Checker_checkStart_L52 (Qr : xb_H → Prop) (Qt : String → xb_H → Prop) (x0 : Nat) (h : xb_H) (bc : Nat) (bs : Nat) : Prop :=
    xb_k h x0 = 5 ∧ ∃ b2 : Nat, (xb_r h x0 0) = some b2 ∧ ∃ b3 : Nat, (xb_r h x0 0) = some b3 ∧ xb_k h b3 = 3 ∧ xb_k h b2 = 3 ∧ w_StackModule_typeOf b2 (xb_i h b3 15) h (fun (r7 : Int32) (h6 : xb_H) => xb_ext h h6 → ∃ b8 : Nat, (xb_r h6 x0 0) = some b8 ∧ xb_k h6 b8 = 3 ∧ w_StackModule_parameters b8 r7 h6 (fun (r11 : Int32) (h10 : xb_H) => xb_ext h6 h10 → (((0 : Int32) < r11 → w_Checker_checkStart_L89 Qr Qt x0 h10 bc bs) ∧ (¬ (0 : Int32) < r11 → ∃ b13 : Nat, (xb_r h10 x0 0) = some b13 ∧ xb_k h10 b13 = 3 ∧ w_StackModule_hasResult b13 r7 h10 (fun (r16 : Int32) (h15 : xb_H) => xb_ext h10 h15 → ((r16 = (0 : Int32) → w_Checker_checkStart_L105 Qr Qt h15 bc bs) ∧ (¬ r16 = (0 : Int32) → w_Checker_checkStart_L89 Qr Qt x0 h15 bc bs)))))))

def w_Checker_checkStart (x0 : Nat) (h : xb_H) (bc : Nat) (bs : Nat) (Qr : xb_H → Prop) (Qt : String → xb_H → Prop) : Prop :=
    xb_k h x0 = 5 ∧ ∃ b2 : Nat, (xb_r h x0 0) = some b2 ∧ xb_k h b2 = 3 ∧ ((¬ (xb_i h b2 16) = ((-1) : Int32) → ∃ b5 : Nat, (xb_r h x0 0) = some b5 ∧ xb_k h b5 = 3 ∧ ∃ b7 : Nat, (xb_r h x0 0) = some b7 ∧ xb_k h b7 = 3 ∧ ∃ b9 : Nat, (xb_r h b7 4) = some b9 ∧ xb_k h b9 = 2 ∧ w_Row_lines b9 h (fun (r12 : Int32) (h11 : xb_H) => xb_ext h h11 → w_Checker_isThere (Int32.toInt64 (xb_i h b5 15)) r12 h11 (fun (r14 : Int32) (h13 : xb_H) => xb_ext h11 h13 → ((¬ r14 = (0 : Int32) → w_Checker_checkStart_L52 Qr Qt x0 h13 bc bs) ∧ (r14 = (0 : Int32) → ∃ b16 : Nat, (xb_r h13 x0 0) = some b16 ∧ ∃ b17 : Nat, (xb_r h13 x0 0) = some b17 ∧ xb_k h13 b17 = 3 ∧ xb_k h13 b16 = 3 ∧ ∃ c22 sc22 : Nat, c22 ≤ bc ∧ sc22 ≤ bs ∧ w_StackModule_fail b16 20 (xb_i h13 b17 16) h13 c22 sc22 (fun (h20 : xb_H) => xb_ext h13 h20 → w_Checker_checkStart_L52 Qr Qt x0 h20 (bc - c22) (bs - sc22)) Qt))))) ∧ ((xb_i h b2 16) = ((-1) : Int32) → Qr h))

set_option maxHeartbeats 4000000 in
set_option maxRecDepth 100000 in
theorem am_Checker_checkStart_L105 (l : Launch) (hfl : l.flags = pinnedFlags ++ [noTraceFlag]) (D : va_G) (A : Nat → Prop) (σ MC MS : Nat) (h0 : xb_H) (Qr : xb_H → Prop) (Qt : String → xb_H → Prop) (h : xb_H) (bc : Nat) (bs : Nat) (hw : w_Checker_checkStart_L105 Qr Qt h bc bs) : xb_am l D A σ 4 MC MS h0 (fun v h => v = none ∧ Qr h) Qt y_Checker_checkStart.cls y_Checker_checkStart.name b_Checker_checkStart 2 ([] : List ExceptionTableEntry) none 105 [] [] h bc bs := by
  unfold w_Checker_checkStart_L105 at hw
  intro p e s m args below meth c hC H locs ls k n hE hl hR hS hk hn
  obtain ⟨hx, hb, hown, hlocks, htab, hml, hr, hB, hA, hnm⟩ := id hC
  have hts := hB.1.1.at args
  exact xb_vret hx hb hr hlocks (show k ≤ MC by omega) (show n ≤ MS by omega) hE hR hS (xb_d D_Checker_checkStart 47 rfl) hw

set_option maxHeartbeats 4000000 in
set_option maxRecDepth 100000 in
theorem am_Checker_checkStart_L89 (l : Launch) (hfl : l.flags = pinnedFlags ++ [noTraceFlag]) (D : va_G) (A : Nat → Prop) (σ MC MS : Nat) (h0 : xb_H) (Qr : xb_H → Prop) (Qt : String → xb_H → Prop) (x0 : Nat) (h : xb_H) (bc : Nat) (bs : Nat) (hw : w_Checker_checkStart_L89 Qr Qt x0 h bc bs) : xb_am l D A σ 4 MC MS h0 (fun v h => v = none ∧ Qr h) Qt y_Checker_checkStart.cls y_Checker_checkStart.name b_Checker_checkStart 2 ([] : List ExceptionTableEntry) none 89 [(0, .ref x0)] [] h bc bs := by
  unfold w_Checker_checkStart_L89 at hw
  intro p e s m args below meth c hC H locs ls k n hE hl hR hS hk hn
  obtain ⟨hx, hb, hown, hlocks, htab, hml, hr, hB, hA, hnm⟩ := id hC
  have hts := hB.1.1.at args
  refine lv_aload_n hx hb (xb_d D_Checker_checkStart 40 rfl) rfl (lv_at hl 0 rfl) ?_
  obtain ⟨hk1, hw⟩ := hw
  refine xb_getP (C := R_Checker) (T := F_Checker) (N := 17) hx hb 4 0 hts fin_Checker hown hR hk1 (by decide) rfl (by decide) rfl (hts _ m_070795bc) (fun _ h9 => h9) (xb_d D_Checker_checkStart 41 rfl) ?_
  obtain ⟨b2, eb2, hw⟩ := hw
  refine xb_some eb2 ?_
  refine lv_bipush (v := 21) hx hb (xb_d D_Checker_checkStart 42 rfl) (by decide) ?_
  refine lv_aload_n hx hb (xb_d D_Checker_checkStart 43 rfl) rfl (lv_at hl 0 rfl) ?_
  refine xb_getP (C := R_Checker) (T := F_Checker) (N := 17) hx hb 4 0 hts fin_Checker hown hR hk1 (by decide) rfl (by decide) rfl (hts _ m_070795bc) (fun _ h9 => h9) (xb_d D_Checker_checkStart 44 rfl) ?_
  obtain ⟨b3, eb3, hw⟩ := hw
  refine xb_some eb3 ?_
  obtain ⟨hk4, hw⟩ := hw
  refine xb_getI (C := R_StackModule) (T := F_StackModule) (N := 19) hx hb 2 16 hts fin_StackModule hown hR hk4 (by decide) rfl (by decide) rfl (hts _ m_9ef1af18) (fun _ h9 => h9) (xb_d D_Checker_checkStart 45 rfl) ?_
  obtain ⟨hk5, hw⟩ := hw
  obtain ⟨c8, sc8, hlc8, hlsc8, hw⟩ := hw
  refine xb_call (D := D) (A := A) (σ := σ) (h := h) (d := 2) (mc := c8) (ms := sc8) (maxL := 3) (rest := []) (av := [.ref b2, .int 21, .int (xb_i h b3 16)]) (fun T hT X => by obtain ⟨cb, r1, r2, r3⟩ := xb_recv (ci := 2) hR rfl hk5 (by decide); exact xt_invV X hx hown (hts _ m_1d37521a) (hts _ m_865d5b07) (hts _ m_113f8f75) (xt_sigOf (hts _ m_73e65e5f)) nm_StackModule_fail (by rw [hT]; exact r1) r2 r3 (g := F0 m 102 ls [.int (xb_i h b3 16), .int 21, .ref b2]) rfl (argsL := [.int 21, .int (xb_i h b3 16)]) (rest := []) rfl rfl (by rw [hb]; exact (xb_d D_Checker_checkStart 46 rfl))) (ok_StackModule_fail l hfl D A σ b2 21 (xb_i h b3 16) h c8 sc8 _ _ hw) (hml.trans hl.1.symm) (by rw [hb]; exact (xb_d D_Checker_checkStart 46 rfl)) (Nat.le_of_ble_eq_true rfl) (Nat.le_of_ble_eq_true rfl) (Nat.le_of_ble_eq_true rfl) (show k + c8 ≤ MC by omega) (show n + sc8 ≤ MS by omega) (xt_w1 hB.1 m_73e65e5f) (xt_cdOf hB.1 m_73e65e5f) (hts _ m_9c375545) hB hR hS hA (fun vv h6 H locs hq hEh6 hR hS => ?_) (fun XX ax h6 H locs hq hEh6 hex hR hS => ?_)
  · obtain ⟨rfl, hw⟩ := hq
    have hw := hw hEh6
    have hE := hE.tr hEh6
    refine W.eq (g2 := F0 m 105 ls []) rfl ?_
    exact am_Checker_checkStart_L105 l hfl D A σ MC MS h0 Qr Qt h6 (bc - c8) (bs - sc8) hw p e s m args below meth c hC H locs ls (k + c8) (n + sc8) hE (lv_sub hl [] rfl) hR hS (by omega) (by omega)
  · exact xb_pass hlocks (fun x hx9 => by rw [htab] at hx9; first | cases hx9 | (simp [tableOf] at hx9; rcases hx9 with rfl | rfl | rfl <;> decide)) (show (k + c8) ≤ MC by omega) (show (n + sc8) ≤ MS by omega) (hE.tr hEh6) hR hS hex hq

set_option maxHeartbeats 4000000 in
set_option maxRecDepth 100000 in
theorem am_Checker_checkStart_L52 (l : Launch) (hfl : l.flags = pinnedFlags ++ [noTraceFlag]) (D : va_G) (A : Nat → Prop) (σ MC MS : Nat) (h0 : xb_H) (Qr : xb_H → Prop) (Qt : String → xb_H → Prop) (x0 : Nat) (h : xb_H) (bc : Nat) (bs : Nat) (hw : w_Checker_checkStart_L52 Qr Qt x0 h bc bs) : xb_am l D A σ 4 MC MS h0 (fun v h => v = none ∧ Qr h) Qt y_Checker_checkStart.cls y_Checker_checkStart.name b_Checker_checkStart 2 ([] : List ExceptionTableEntry) none 52 [(0, .ref x0)] [] h bc bs := by
  unfold w_Checker_checkStart_L52 at hw
  intro p e s m args below meth c hC H locs ls k n hE hl hR hS hk hn
  obtain ⟨hx, hb, hown, hlocks, htab, hml, hr, hB, hA, hnm⟩ := id hC
  have hts := hB.1.1.at args
  refine lv_aload_n hx hb (xb_d D_Checker_checkStart 23 rfl) rfl (lv_at hl 0 rfl) ?_
  obtain ⟨hk1, hw⟩ := hw
  refine xb_getP (C := R_Checker) (T := F_Checker) (N := 17) hx hb 4 0 hts fin_Checker hown hR hk1 (by decide) rfl (by decide) rfl (hts _ m_070795bc) (fun _ h9 => h9) (xb_d D_Checker_checkStart 24 rfl) ?_
  obtain ⟨b2, eb2, hw⟩ := hw
  refine xb_some eb2 ?_
  refine lv_aload_n hx hb (xb_d D_Checker_checkStart 25 rfl) rfl (lv_at hl 0 rfl) ?_
  refine xb_getP (C := R_Checker) (T := F_Checker) (N := 17) hx hb 4 0 hts fin_Checker hown hR hk1 (by decide) rfl (by decide) rfl (hts _ m_070795bc) (fun _ h9 => h9) (xb_d D_Checker_checkStart 26 rfl) ?_
  obtain ⟨b3, eb3, hw⟩ := hw
  refine xb_some eb3 ?_
  obtain ⟨hk4, hw⟩ := hw
  refine xb_getI (C := R_StackModule) (T := F_StackModule) (N := 19) hx hb 2 15 hts fin_StackModule hown hR hk4 (by decide) rfl (by decide) rfl (hts _ m_2687ad12) (fun _ h9 => h9) (xb_d D_Checker_checkStart 27 rfl) ?_
  obtain ⟨hk5, hw⟩ := hw
  refine xb_call (D := D) (A := A) (σ := σ) (h := h) (d := 3) (mc := 0) (ms := 0) (maxL := 2) (rest := []) (av := [.ref b2, .int (xb_i h b3 15)]) (fun T hT X => by obtain ⟨cb, r1, r2, r3⟩ := xb_recv (ci := 2) hR rfl hk5 (by decide); exact xt_invV X hx hown (hts _ m_ad67eca9) (hts _ m_eb5729e5) (hts _ m_9cf0d8be) (xt_sigOf (hts _ m_42e2443a)) nm_StackModule_typeOf (by rw [hT]; exact r1) r2 r3 (g := F0 m 63 ls [.int (xb_i h b3 15), .ref b2]) rfl (argsL := [.int (xb_i h b3 15)]) (rest := []) rfl rfl (by rw [hb]; exact (xb_d D_Checker_checkStart 28 rfl))) (ok_StackModule_typeOf l hfl D A σ b2 (xb_i h b3 15) h _ hw) (hml.trans hl.1.symm) (by rw [hb]; exact (xb_d D_Checker_checkStart 28 rfl)) (Nat.le_of_ble_eq_true rfl) (Nat.le_of_ble_eq_true rfl) (Nat.le_of_ble_eq_true rfl) (show k + 0 ≤ MC by omega) (show n + 0 ≤ MS by omega) (xt_w1 hB.1 m_42e2443a) (xt_cdOf hB.1 m_42e2443a) (hts _ m_9c375545) hB hR hS hA (fun vv h6 H locs hq hEh6 hR hS => ?_) (fun XX ax h6 H locs hq hEh6 hex hR hS => ?_)
  · obtain ⟨r7, rfl, hw⟩ := hq
    have hw := hw hEh6
    have hE := hE.tr hEh6
    refine W.eq (g2 := F0 m 66 ls [.int r7]) rfl ?_
    refine lv_istore_n hx hb (xb_d D_Checker_checkStart 29 rfl) rfl hl (by decide) rfl (fun ls hl => ?_)
    have hl : lv_has ls 2 [(1, .int r7), (0, .ref x0)] := hl
    refine lv_aload_n hx hb (xb_d D_Checker_checkStart 30 rfl) rfl (lv_at hl 1 rfl) ?_
    have hk1 : xb_k h6 x0 = 5 := hEh6.k hk1
    refine xb_getP (C := R_Checker) (T := F_Checker) (N := 17) hx hb 4 0 hts fin_Checker hown hR hk1 (by decide) rfl (by decide) rfl (hts _ m_070795bc) (fun _ h9 => h9) (xb_d D_Checker_checkStart 31 rfl) ?_
    obtain ⟨b8, eb8, hw⟩ := hw
    refine xb_some eb8 ?_
    refine lv_iload_n hx hb (xb_d D_Checker_checkStart 32 rfl) rfl (lv_at hl 0 rfl) ?_
    obtain ⟨hk9, hw⟩ := hw
    refine xb_call (D := D) (A := A) (σ := σ) (h := h6) (d := 3) (mc := 0) (ms := 0) (maxL := 2) (rest := []) (av := [.ref b8, .int r7]) (fun T hT X => by obtain ⟨cb, r1, r2, r3⟩ := xb_recv (ci := 2) hR rfl hk9 (by decide); exact xt_invV X hx hown (hts _ m_fc980843) (hts _ m_aa97372f) (hts _ m_8160d9b3) (xt_sigOf (hts _ m_8621e59b)) nm_StackModule_parameters (by rw [hT]; exact r1) r2 r3 (g := F0 m 72 ls [.int r7, .ref b8]) rfl (argsL := [.int r7]) (rest := []) rfl rfl (by rw [hb]; exact (xb_d D_Checker_checkStart 33 rfl))) (ok_StackModule_parameters l hfl D A σ b8 r7 h6 _ hw) (hml.trans hl.1.symm) (by rw [hb]; exact (xb_d D_Checker_checkStart 33 rfl)) (Nat.le_of_ble_eq_true rfl) (Nat.le_of_ble_eq_true rfl) (Nat.le_of_ble_eq_true rfl) (show k + 0 ≤ MC by omega) (show n + 0 ≤ MS by omega) (xt_w1 hB.1 m_8621e59b) (xt_cdOf hB.1 m_8621e59b) (hts _ m_9c375545) hB hR hS hA (fun vv h10 H locs hq hEh10 hR hS => ?_) (fun XX ax h10 H locs hq hEh10 hex hR hS => ?_)
    · obtain ⟨r11, rfl, hw⟩ := hq
      have hw := hw hEh10
      have hE := hE.tr hEh10
      refine W.eq (g2 := F0 m 75 ls [.int r11]) rfl ?_
      refine lv_if_gt (tgt := 89) hx hb (xb_d D_Checker_checkStart 34 rfl) rfl (fun hc12 => ?_) (fun hc12 => ?_)
      · have hw := hw.1 hc12
        exact am_Checker_checkStart_L89 l hfl D A σ MC MS h0 Qr Qt x0 h10 bc bs hw p e s m args below meth c hC H locs ls k n hE (lv_sub hl [1] rfl) hR hS (by omega) (by omega)
      · have hw := hw.2 hc12
        refine lv_aload_n hx hb (xb_d D_Checker_checkStart 35 rfl) rfl (lv_at hl 1 rfl) ?_
        have hk1 : xb_k h10 x0 = 5 := hEh10.k hk1
        refine xb_getP (C := R_Checker) (T := F_Checker) (N := 17) hx hb 4 0 hts fin_Checker hown hR hk1 (by decide) rfl (by decide) rfl (hts _ m_070795bc) (fun _ h9 => h9) (xb_d D_Checker_checkStart 36 rfl) ?_
        obtain ⟨b13, eb13, hw⟩ := hw
        refine xb_some eb13 ?_
        refine lv_iload_n hx hb (xb_d D_Checker_checkStart 37 rfl) rfl (lv_at hl 0 rfl) ?_
        obtain ⟨hk14, hw⟩ := hw
        refine xb_call (D := D) (A := A) (σ := σ) (h := h10) (d := 3) (mc := 0) (ms := 0) (maxL := 2) (rest := []) (av := [.ref b13, .int r7]) (fun T hT X => by obtain ⟨cb, r1, r2, r3⟩ := xb_recv (ci := 2) hR rfl hk14 (by decide); exact xt_invV X hx hown (hts _ m_2e09e00d) (hts _ m_00587e6f) (hts _ m_d605b1a5) (xt_sigOf (hts _ m_ac93cd0b)) nm_StackModule_hasResult (by rw [hT]; exact r1) r2 r3 (g := F0 m 83 ls [.int r7, .ref b13]) rfl (argsL := [.int r7]) (rest := []) rfl rfl (by rw [hb]; exact (xb_d D_Checker_checkStart 38 rfl))) (ok_StackModule_hasResult l hfl D A σ b13 r7 h10 _ hw) (hml.trans hl.1.symm) (by rw [hb]; exact (xb_d D_Checker_checkStart 38 rfl)) (Nat.le_of_ble_eq_true rfl) (Nat.le_of_ble_eq_true rfl) (Nat.le_of_ble_eq_true rfl) (show k + 0 ≤ MC by omega) (show n + 0 ≤ MS by omega) (xt_w1 hB.1 m_ac93cd0b) (xt_cdOf hB.1 m_ac93cd0b) (hts _ m_9c375545) hB hR hS hA (fun vv h15 H locs hq hEh15 hR hS => ?_) (fun XX ax h15 H locs hq hEh15 hex hR hS => ?_)
        · obtain ⟨r16, rfl, hw⟩ := hq
          have hw := hw hEh15
          have hE := hE.tr hEh15
          refine W.eq (g2 := F0 m 86 ls [.int r16]) rfl ?_
          refine lv_if_eq (tgt := 105) hx hb (xb_d D_Checker_checkStart 39 rfl) rfl (fun hc17 => ?_) (fun hc17 => ?_)
          · have hw := hw.1 hc17
            exact am_Checker_checkStart_L105 l hfl D A σ MC MS h0 Qr Qt h15 bc bs hw p e s m args below meth c hC H locs ls k n hE (lv_sub hl [] rfl) hR hS (by omega) (by omega)
          · have hw := hw.2 hc17
            exact am_Checker_checkStart_L89 l hfl D A σ MC MS h0 Qr Qt x0 h15 bc bs hw p e s m args below meth c hC H locs ls k n hE (lv_sub hl [1] rfl) hR hS (by omega) (by omega)
        · exact False.elim hq
    · exact False.elim hq
  · exact False.elim hq

set_option maxHeartbeats 4000000 in
set_option maxRecDepth 100000 in
theorem ok_Checker_checkStart (l : Launch) (hfl : l.flags = pinnedFlags ++ [noTraceFlag]) (D : va_G) (A : Nat → Prop) (σ : Nat) (x0 : Nat) (h : xb_H) (bc : Nat) (bs : Nat) (Qr : xb_H → Prop) (Qt : String → xb_H → Prop) (hw : w_Checker_checkStart x0 h bc bs Qr Qt) : xt_Met l y_Checker_checkStart [.code y_Checker_checkStart b_Checker_checkStart 2 none] (xb_rm 4 bc bs) (xb_Pc D A σ h [.ref x0]) (xb_Qc D A h (fun v h => v = none ∧ Qr h) Qt) bc bs A := by
  refine xb_ofAm (cc := b_Checker_checkStart) (by decide) (Nat.le_of_ble_eq_true rfl) ?_
  unfold w_Checker_checkStart at hw
  show xb_am l D A σ 4 bc bs h (fun v h => v = none ∧ Qr h) Qt y_Checker_checkStart.cls y_Checker_checkStart.name b_Checker_checkStart 2 ([] : List ExceptionTableEntry) none 0 [(0, .ref x0)] [] h bc bs
  obtain ⟨MC, hMC⟩ : ∃ x, x = bc := ⟨_, rfl⟩
  obtain ⟨MS, hMS⟩ : ∃ x, x = bs := ⟨_, rfl⟩
  rw [show xb_am l D A σ 4 bc bs = xb_am l D A σ 4 MC MS by rw [hMC, hMS]]
  obtain ⟨h0, hh0⟩ : ∃ x, x = h := ⟨_, rfl⟩
  rw [show xb_am l D A σ 4 MC MS h = xb_am l D A σ 4 MC MS h0 by rw [hh0]]
  intro p e s m args below meth c hC H locs ls k n hE hl hR hS hk hn
  obtain ⟨hx, hb, hown, hlocks, htab, hml, hr, hB, hA, hnm⟩ := id hC
  have hts := hB.1.1.at args
  refine lv_aload_n hx hb (xb_d D_Checker_checkStart 0 rfl) rfl (lv_at hl 0 rfl) ?_
  obtain ⟨hk1, hw⟩ := hw
  refine xb_getP (C := R_Checker) (T := F_Checker) (N := 17) hx hb 4 0 hts fin_Checker hown hR hk1 (by decide) rfl (by decide) rfl (hts _ m_070795bc) (fun _ h9 => h9) (xb_d D_Checker_checkStart 1 rfl) ?_
  obtain ⟨b2, eb2, hw⟩ := hw
  refine xb_some eb2 ?_
  obtain ⟨hk3, hw⟩ := hw
  refine xb_getI (C := R_StackModule) (T := F_StackModule) (N := 19) hx hb 2 16 hts fin_StackModule hown hR hk3 (by decide) rfl (by decide) rfl (hts _ m_9ef1af18) (fun _ h9 => h9) (xb_d D_Checker_checkStart 2 rfl) ?_
  refine lv_iconst (v := (-1)) hx hb (xb_d D_Checker_checkStart 3 rfl) (by decide) ?_
  refine lv_icmp_ne (tgt := 12) hx hb (xb_d D_Checker_checkStart 4 rfl) rfl (fun hc4 => ?_) (fun hc4 => ?_)
  · have hw := hw.1 hc4
    refine lv_aload_n hx hb (xb_d D_Checker_checkStart 6 rfl) rfl (lv_at hl 0 rfl) ?_
    refine xb_getP (C := R_Checker) (T := F_Checker) (N := 17) hx hb 4 0 hts fin_Checker hown hR hk1 (by decide) rfl (by decide) rfl (hts _ m_070795bc) (fun _ h9 => h9) (xb_d D_Checker_checkStart 7 rfl) ?_
    obtain ⟨b5, eb5, hw⟩ := hw
    refine xb_some eb5 ?_
    obtain ⟨hk6, hw⟩ := hw
    refine xb_getI (C := R_StackModule) (T := F_StackModule) (N := 19) hx hb 2 15 hts fin_StackModule hown hR hk6 (by decide) rfl (by decide) rfl (hts _ m_2687ad12) (fun _ h9 => h9) (xb_d D_Checker_checkStart 8 rfl) ?_
    refine lv_i2l hx hb (xb_d D_Checker_checkStart 9 rfl) rfl ?_
    refine lv_aload_n hx hb (xb_d D_Checker_checkStart 10 rfl) rfl (lv_at hl 0 rfl) ?_
    refine xb_getP (C := R_Checker) (T := F_Checker) (N := 17) hx hb 4 0 hts fin_Checker hown hR hk1 (by decide) rfl (by decide) rfl (hts _ m_070795bc) (fun _ h9 => h9) (xb_d D_Checker_checkStart 11 rfl) ?_
    obtain ⟨b7, eb7, hw⟩ := hw
    refine xb_some eb7 ?_
    obtain ⟨hk8, hw⟩ := hw
    refine xb_getP (C := R_StackModule) (T := F_StackModule) (N := 19) hx hb 2 4 hts fin_StackModule hown hR hk8 (by decide) rfl (by decide) rfl (hts _ m_74009c24) (fun _ h9 => h9) (xb_d D_Checker_checkStart 12 rfl) ?_
    obtain ⟨b9, eb9, hw⟩ := hw
    refine xb_some eb9 ?_
    obtain ⟨hk10, hw⟩ := hw
    refine xb_call (D := D) (A := A) (σ := σ) (h := h) (d := 2) (mc := 0) (ms := 0) (maxL := 1) (rest := [.long (Int32.toInt64 (xb_i h b5 15))]) (av := [.ref b9]) (fun T hT X => by obtain ⟨cb, r1, r2, r3⟩ := xb_recv (ci := 1) hR rfl hk10 (by decide); exact xt_invV X hx hown (hts _ m_c8b950b4) (hts _ m_ded65609) (hts _ m_a4161156) (xt_sigOf (hts _ m_83ba3721)) nm_Row_lines (by rw [hT]; exact r1) r2 r3 (g := F0 m 27 ls [.ref b9, .long (Int32.toInt64 (xb_i h b5 15))]) rfl (argsL := []) (rest := [.long (Int32.toInt64 (xb_i h b5 15))]) rfl rfl (by rw [hb]; exact (xb_d D_Checker_checkStart 13 rfl))) (ok_Row_lines l hfl D A σ b9 h _ hw) (hml.trans hl.1.symm) (by rw [hb]; exact (xb_d D_Checker_checkStart 13 rfl)) (Nat.le_of_ble_eq_true rfl) (Nat.le_of_ble_eq_true rfl) (Nat.le_of_ble_eq_true rfl) (show k + 0 ≤ MC by omega) (show n + 0 ≤ MS by omega) (xt_w1 hB.1 m_83ba3721) (xt_cdOf hB.1 m_83ba3721) (hts _ m_c1bef504) hB hR hS hA (fun vv h11 H locs hq hEh11 hR hS => ?_) (fun XX ax h11 H locs hq hEh11 hex hR hS => ?_)
    · obtain ⟨r12, rfl, hw⟩ := hq
      have hw := hw hEh11
      have hE := hE.tr hEh11
      refine W.eq (g2 := F0 m 30 ls [.int r12, .long (Int32.toInt64 (xb_i h b5 15))]) rfl ?_
      refine xb_call (D := D) (A := A) (σ := σ) (h := h11) (d := 2) (mc := 0) (ms := 0) (maxL := 3) (rest := []) (av := [.long (Int32.toInt64 (xb_i h b5 15)), .int r12]) (fun T hT X => xt_invS X hx hown (hts _ m_fe08b245) (hts _ m_9ad1e0af) (hts _ m_44748ce5) (xt_sgS (hts _ m_2237aee6)).1 (xt_sgS (hts _ m_2237aee6)).2 nm_Checker_isThere (g := F0 m 30 ls [.int r12, .long (Int32.toInt64 (xb_i h b5 15))]) rfl (argsL := [.long (Int32.toInt64 (xb_i h b5 15)), .int r12]) (rest := []) rfl rfl (by rw [hb]; exact (xb_d D_Checker_checkStart 14 rfl))) (ok_Checker_isThere l hfl D A σ (Int32.toInt64 (xb_i h b5 15)) r12 h11 _ hw) (hml.trans hl.1.symm) (by rw [hb]; exact (xb_d D_Checker_checkStart 14 rfl)) (Nat.le_of_ble_eq_true rfl) (Nat.le_of_ble_eq_true rfl) (Nat.le_of_ble_eq_true rfl) (show k + 0 ≤ MC by omega) (show n + 0 ≤ MS by omega) (xt_w1 hB.1 m_2237aee6) (xt_cdOf hB.1 m_2237aee6) (hts _ m_44748ce5) hB hR hS hA (fun vv h13 H locs hq hEh13 hR hS => ?_) (fun XX ax h13 H locs hq hEh13 hex hR hS => ?_)
      · obtain ⟨r14, rfl, hw⟩ := hq
        have hw := hw hEh13
        have hE := hE.tr hEh13
        refine W.eq (g2 := F0 m 33 ls [.int r14]) rfl ?_
        refine lv_if_ne (tgt := 52) hx hb (xb_d D_Checker_checkStart 15 rfl) rfl (fun hc15 => ?_) (fun hc15 => ?_)
        · have hw := hw.1 hc15
          exact am_Checker_checkStart_L52 l hfl D A σ MC MS h0 Qr Qt x0 h13 bc bs hw p e s m args below meth c hC H locs ls k n hE (lv_sub hl [0] rfl) hR hS (by omega) (by omega)
        · have hw := hw.2 hc15
          refine lv_aload_n hx hb (xb_d D_Checker_checkStart 16 rfl) rfl (lv_at hl 0 rfl) ?_
          have hk1 : xb_k h11 x0 = 5 := hEh11.k hk1
          have hk1 : xb_k h13 x0 = 5 := hEh13.k hk1
          refine xb_getP (C := R_Checker) (T := F_Checker) (N := 17) hx hb 4 0 hts fin_Checker hown hR hk1 (by decide) rfl (by decide) rfl (hts _ m_070795bc) (fun _ h9 => h9) (xb_d D_Checker_checkStart 17 rfl) ?_
          obtain ⟨b16, eb16, hw⟩ := hw
          refine xb_some eb16 ?_
          refine lv_bipush (v := 20) hx hb (xb_d D_Checker_checkStart 18 rfl) (by decide) ?_
          refine lv_aload_n hx hb (xb_d D_Checker_checkStart 19 rfl) rfl (lv_at hl 0 rfl) ?_
          refine xb_getP (C := R_Checker) (T := F_Checker) (N := 17) hx hb 4 0 hts fin_Checker hown hR hk1 (by decide) rfl (by decide) rfl (hts _ m_070795bc) (fun _ h9 => h9) (xb_d D_Checker_checkStart 20 rfl) ?_
          obtain ⟨b17, eb17, hw⟩ := hw
          refine xb_some eb17 ?_
          obtain ⟨hk18, hw⟩ := hw
          refine xb_getI (C := R_StackModule) (T := F_StackModule) (N := 19) hx hb 2 16 hts fin_StackModule hown hR hk18 (by decide) rfl (by decide) rfl (hts _ m_9ef1af18) (fun _ h9 => h9) (xb_d D_Checker_checkStart 21 rfl) ?_
          obtain ⟨hk19, hw⟩ := hw
          obtain ⟨c22, sc22, hlc22, hlsc22, hw⟩ := hw
          refine xb_call (D := D) (A := A) (σ := σ) (h := h13) (d := 2) (mc := c22) (ms := sc22) (maxL := 3) (rest := []) (av := [.ref b16, .int 20, .int (xb_i h13 b17 16)]) (fun T hT X => by obtain ⟨cb, r1, r2, r3⟩ := xb_recv (ci := 2) hR rfl hk19 (by decide); exact xt_invV X hx hown (hts _ m_1d37521a) (hts _ m_865d5b07) (hts _ m_113f8f75) (xt_sigOf (hts _ m_73e65e5f)) nm_StackModule_fail (by rw [hT]; exact r1) r2 r3 (g := F0 m 49 ls [.int (xb_i h13 b17 16), .int 20, .ref b16]) rfl (argsL := [.int 20, .int (xb_i h13 b17 16)]) (rest := []) rfl rfl (by rw [hb]; exact (xb_d D_Checker_checkStart 22 rfl))) (ok_StackModule_fail l hfl D A σ b16 20 (xb_i h13 b17 16) h13 c22 sc22 _ _ hw) (hml.trans hl.1.symm) (by rw [hb]; exact (xb_d D_Checker_checkStart 22 rfl)) (Nat.le_of_ble_eq_true rfl) (Nat.le_of_ble_eq_true rfl) (Nat.le_of_ble_eq_true rfl) (show k + c22 ≤ MC by omega) (show n + sc22 ≤ MS by omega) (xt_w1 hB.1 m_73e65e5f) (xt_cdOf hB.1 m_73e65e5f) (hts _ m_9c375545) hB hR hS hA (fun vv h20 H locs hq hEh20 hR hS => ?_) (fun XX ax h20 H locs hq hEh20 hex hR hS => ?_)
          · obtain ⟨rfl, hw⟩ := hq
            have hw := hw hEh20
            have hE := hE.tr hEh20
            refine W.eq (g2 := F0 m 52 ls []) rfl ?_
            exact am_Checker_checkStart_L52 l hfl D A σ MC MS h0 Qr Qt x0 h20 (bc - c22) (bs - sc22) hw p e s m args below meth c hC H locs ls (k + c22) (n + sc22) hE (lv_sub hl [0] rfl) hR hS (by omega) (by omega)
          · exact xb_pass hlocks (fun x hx9 => by rw [htab] at hx9; first | cases hx9 | (simp [tableOf] at hx9; rcases hx9 with rfl | rfl | rfl <;> decide)) (show (k + c22) ≤ MC by omega) (show (n + sc22) ≤ MS by omega) (hE.tr hEh20) hR hS hex hq
      · exact False.elim hq
    · exact False.elim hq
  · have hw := hw.2 hc4
    exact xb_vret hx hb hr hlocks (show k ≤ MC by omega) (show n ≤ MS by omega) hE hR hS (xb_d D_Checker_checkStart 5 rfl) hw

theorem m_5c3b2b0d : (.fieldLink "StackHost$Checker" 73 "StackHost$StackModule" "bodies" "LStackHost$Row;" : Cond) ∈ xt_tbl := xt_in (xt_t3 (List.mem_of_getElem? (i := 100) (by decide +kernel))) (by decide +kernel)
theorem m_6fd30476 : (.fieldLink "StackHost$Checker" 219 "StackHost$StackModule" "groups" "LStackHost$Row;" : Cond) ∈ xt_tbl := xt_in (xt_t3 (List.mem_of_getElem? (i := 105) (by decide +kernel))) (by decide +kernel)
theorem m_d762f6df : (.methodLink "StackHost$Checker" 222 y_Arrays_fill0 : Cond) ∈ xt_tbl := xt_in (xt_t4 (List.mem_of_getElem? (i := 187) (by decide +kernel))) (by decide +kernel)
theorem m_ae8a69e4 : (.static y_Arrays_fill0 : Cond) ∈ xt_tbl := xt_in (xt_t4 (List.mem_of_getElem? (i := 188) (by decide +kernel))) (by decide +kernel)
theorem m_10c24e3c : (.code y_Arrays_fill0 b_Arrays_fill0 5 none : Cond) ∈ xt_tbl := xt_in (xt_t4 (List.mem_of_getElem? (i := 189) (by decide +kernel))) (by decide +kernel)
theorem nm_Arrays_fill0 : xt_nm y_Arrays_fill0 4 := ⟨by decide +kernel, by decide +kernel⟩
set_option maxRecDepth 100000 in
def T_Checker_spreadLocals : List (Nat × Instr × Nat) := [(0, .aload_n 0, 1), (1, .iconst 0, 1), (2, .putfield 216, 3), (5, .aload_n 0, 1), (6, .getfield 38, 3), (9, .getfield 73, 3), (12, .iload_n 1, 1), (13, .iconst 2, 1), (14, .invokevirtual 90, 3), (17, .istore_n 2, 1), (18, .iconst 0, 1), (19, .istore_n 3, 1), (20, .iload_n 3, 1), (21, .aload_n 0, 1), (22, .getfield 38, 3), (25, .getfield 73, 3), (28, .iload_n 1, 1), (29, .iconst 3, 1), (30, .invokevirtual 90, 3), (33, .if_icmp .ge 69, 3), (36, .aload_n 0, 1), (37, .getfield 38, 3), (40, .getfield 219, 3), (43, .iload_n 2, 1), (44, .iload_n 3, 1), (45, .iadd, 1), (46, .iconst 0, 1), (47, .invokevirtual 90, 3), (50, .istore 4, 2), (52, .aload_n 0, 1), (53, .getfield 15, 3), (56, .aload_n 0, 1), (57, .getfield 216, 3), (60, .aload_n 0, 1), (61, .getfield 216, 3), (64, .iload 4, 2), (66, .iadd, 1), (67, .aload_n 0, 1), (68, .getfield 38, 3), (71, .getfield 219, 3), (74, .iload_n 2, 1), (75, .iload_n 3, 1), (76, .iadd, 1), (77, .iconst 1, 1), (78, .invokevirtual 90, 3), (81, .i2b, 1), (82, .invokestatic 222, 3), (85, .aload_n 0, 1), (86, .dup, 1), (87, .getfield 216, 3), (90, .iload 4, 2), (92, .iadd, 1), (93, .putfield 216, 3), (96, .iinc 3 1, 3), (99, .goto (-79), 3), (102, .return_, 1)]
theorem D_Checker_spreadLocals : ∀ q ∈ T_Checker_spreadLocals, decode b_Checker_spreadLocals q.1 = .ok (q.2.1, q.2.2) := by decide +kernel
def w_Checker_spreadLocals_L20 (Qr : xb_H → Prop) : Nat → Nat → Int32 → Int32 → Int32 → xb_H → Prop
  | 0, _, _, _, _, _ => False
  | n9 + 1, x0, x1, x2, x3, h =>
    xb_k h x0 = 5 ∧ ∃ b2 : Nat, (xb_r h x0 0) = some b2 ∧ xb_k h b2 = 3 ∧ ∃ b4 : Nat, (xb_r h b2 11) = some b4 ∧ xb_k h b4 = 2 ∧ w_Row_at b4 x1 3 h (fun (r7 : Int32) (h6 : xb_H) => xb_ext h h6 → ((r7 ≤ x3 → Qr h6) ∧ (¬ r7 ≤ x3 → ∃ b9 : Nat, (xb_r h6 x0 0) = some b9 ∧ xb_k h6 b9 = 3 ∧ ∃ b11 : Nat, (xb_r h6 b9 12) = some b11 ∧ xb_k h6 b11 = 2 ∧ w_Row_at b11 (x2 + x3) 0 h6 (fun (r14 : Int32) (h13 : xb_H) => xb_ext h6 h13 → ∃ b15 : Nat, (xb_r h13 x0 6) = some b15 ∧ ∃ b16 : Nat, (xb_r h13 x0 0) = some b16 ∧ xb_k h13 b16 = 3 ∧ ∃ b18 : Nat, (xb_r h13 b16 12) = some b18 ∧ xb_k h13 b18 = 2 ∧ w_Row_at b18 (x2 + x3) 1 h13 (fun (r21 : Int32) (h20 : xb_H) => xb_ext h13 h20 → w_Arrays_fill0 b15 (xb_i h13 x0 7) ((xb_i h13 x0 7) + r14) ((Int32.toInt8 r21).toInt32) h20 (fun (h22 : xb_H) => xb_ext h20 h22 → ∀ h24 : xb_H, h24 = xb_I h22 x0 7 ((xb_i h22 x0 7) + r14) → w_Checker_spreadLocals_L20 Qr n9 x0 x1 x2 (x3 + 1) h24))))))

def w_Checker_spreadLocals (x0 : Nat) (x1 : Int32) (h : xb_H) (Qr : xb_H → Prop) : Prop :=
    xb_k h x0 = 5 ∧ ∀ h2 : xb_H, h2 = xb_I h x0 7 0 → ∃ b3 : Nat, (xb_r h2 x0 0) = some b3 ∧ xb_k h2 b3 = 3 ∧ ∃ b5 : Nat, (xb_r h2 b3 11) = some b5 ∧ xb_k h2 b5 = 2 ∧ w_Row_at b5 x1 2 h2 (fun (r8 : Int32) (h7 : xb_H) => xb_ext h2 h7 → (∃ n8 : Nat, w_Checker_spreadLocals_L20 Qr n8 x0 x1 r8 0 h7))

set_option maxHeartbeats 4000000 in
set_option maxRecDepth 100000 in
theorem am_Checker_spreadLocals_L20 (l : Launch) (hfl : l.flags = pinnedFlags ++ [noTraceFlag]) (D : va_G) (A : Nat → Prop) (σ MC MS : Nat) (h0 : xb_H) (Qr : xb_H → Prop) (n9 : Nat) : ∀ (x0 : Nat) (x1 : Int32) (x2 : Int32) (x3 : Int32) (h : xb_H), w_Checker_spreadLocals_L20 Qr n9 x0 x1 x2 x3 h → xb_am l D A σ 4 MC MS h0 (fun v h => v = none ∧ Qr h) (fun _ _ => False) y_Checker_spreadLocals.cls y_Checker_spreadLocals.name b_Checker_spreadLocals 5 ([] : List ExceptionTableEntry) none 20 [(0, .ref x0), (1, .int x1), (2, .int x2), (3, .int x3)] [] h 0 0 := by
  induction n9 with
  | zero => intro x0 x1 x2 x3 h hw; exact False.elim hw
  | succ n9 ih =>
    intro x0 x1 x2 x3 h hw
    unfold w_Checker_spreadLocals_L20 at hw
    intro p e s m args below meth c hC H locs ls k n hE hl hR hS hk hn
    obtain ⟨hx, hb, hown, hlocks, htab, hml, hr, hB, hA, hnm⟩ := id hC
    have hts := hB.1.1.at args
    refine lv_iload_n hx hb (xb_d D_Checker_spreadLocals 12 rfl) rfl (lv_at hl 3 rfl) ?_
    refine lv_aload_n hx hb (xb_d D_Checker_spreadLocals 13 rfl) rfl (lv_at hl 0 rfl) ?_
    obtain ⟨hk1, hw⟩ := hw
    refine xb_getP (C := R_Checker) (T := F_Checker) (N := 17) hx hb 4 0 hts fin_Checker hown hR hk1 (by decide) rfl (by decide) rfl (hts _ m_070795bc) (fun _ h9 => h9) (xb_d D_Checker_spreadLocals 14 rfl) ?_
    obtain ⟨b2, eb2, hw⟩ := hw
    refine xb_some eb2 ?_
    obtain ⟨hk3, hw⟩ := hw
    refine xb_getP (C := R_StackModule) (T := F_StackModule) (N := 19) hx hb 2 11 hts fin_StackModule hown hR hk3 (by decide) rfl (by decide) rfl (hts _ m_5c3b2b0d) (fun _ h9 => h9) (xb_d D_Checker_spreadLocals 15 rfl) ?_
    obtain ⟨b4, eb4, hw⟩ := hw
    refine xb_some eb4 ?_
    refine lv_iload_n hx hb (xb_d D_Checker_spreadLocals 16 rfl) rfl (lv_at hl 1 rfl) ?_
    refine lv_iconst (v := 3) hx hb (xb_d D_Checker_spreadLocals 17 rfl) (by decide) ?_
    obtain ⟨hk5, hw⟩ := hw
    refine xb_call (D := D) (A := A) (σ := σ) (h := h) (d := 2) (mc := 0) (ms := 0) (maxL := 3) (rest := [.int x3]) (av := [.ref b4, .int x1, .int 3]) (fun T hT X => by obtain ⟨cb, r1, r2, r3⟩ := xb_recv (ci := 1) hR rfl hk5 (by decide); exact xt_invV X hx hown (hts _ m_068feb96) (hts _ m_8e233096) (hts _ m_27eed10c) (xt_sigOf (hts _ m_ff1c70ae)) nm_Row_at (by rw [hT]; exact r1) r2 r3 (g := F0 m 30 ls [.int 3, .int x1, .ref b4, .int x3]) rfl (argsL := [.int x1, .int 3]) (rest := [.int x3]) rfl rfl (by rw [hb]; exact (xb_d D_Checker_spreadLocals 18 rfl))) (ok_Row_at l hfl D A σ b4 x1 3 h _ hw) (hml.trans hl.1.symm) (by rw [hb]; exact (xb_d D_Checker_spreadLocals 18 rfl)) (Nat.le_of_ble_eq_true rfl) (Nat.le_of_ble_eq_true rfl) (Nat.le_of_ble_eq_true rfl) (show k + 0 ≤ MC by omega) (show n + 0 ≤ MS by omega) (xt_w1 hB.1 m_ff1c70ae) (xt_cdOf hB.1 m_ff1c70ae) (hts _ m_c1bef504) hB hR hS hA (fun vv h6 H locs hq hEh6 hR hS => ?_) (fun XX ax h6 H locs hq hEh6 hex hR hS => ?_)
    · obtain ⟨r7, rfl, hw⟩ := hq
      have hw := hw hEh6
      have hE := hE.tr hEh6
      refine W.eq (g2 := F0 m 33 ls [.int r7, .int x3]) rfl ?_
      refine lv_icmp_ge (tgt := 102) hx hb (xb_d D_Checker_spreadLocals 19 rfl) rfl (fun hc8 => ?_) (fun hc8 => ?_)
      · have hw := hw.1 hc8
        exact xb_vret hx hb hr hlocks (show k ≤ MC by omega) (show n ≤ MS by omega) hE hR hS (xb_d D_Checker_spreadLocals 55 rfl) hw
      · have hw := hw.2 hc8
        refine lv_aload_n hx hb (xb_d D_Checker_spreadLocals 20 rfl) rfl (lv_at hl 0 rfl) ?_
        have hk1 : xb_k h6 x0 = 5 := hEh6.k hk1
        refine xb_getP (C := R_Checker) (T := F_Checker) (N := 17) hx hb 4 0 hts fin_Checker hown hR hk1 (by decide) rfl (by decide) rfl (hts _ m_070795bc) (fun _ h9 => h9) (xb_d D_Checker_spreadLocals 21 rfl) ?_
        obtain ⟨b9, eb9, hw⟩ := hw
        refine xb_some eb9 ?_
        obtain ⟨hk10, hw⟩ := hw
        refine xb_getP (C := R_StackModule) (T := F_StackModule) (N := 19) hx hb 2 12 hts fin_StackModule hown hR hk10 (by decide) rfl (by decide) rfl (hts _ m_6fd30476) (fun _ h9 => h9) (xb_d D_Checker_spreadLocals 22 rfl) ?_
        obtain ⟨b11, eb11, hw⟩ := hw
        refine xb_some eb11 ?_
        refine lv_iload_n hx hb (xb_d D_Checker_spreadLocals 23 rfl) rfl (lv_at hl 2 rfl) ?_
        refine lv_iload_n hx hb (xb_d D_Checker_spreadLocals 24 rfl) rfl (lv_at hl 3 rfl) ?_
        refine lv_iadd hx hb (xb_d D_Checker_spreadLocals 25 rfl) ?_
        refine lv_iconst (v := 0) hx hb (xb_d D_Checker_spreadLocals 26 rfl) (by decide) ?_
        obtain ⟨hk12, hw⟩ := hw
        refine xb_call (D := D) (A := A) (σ := σ) (h := h6) (d := 2) (mc := 0) (ms := 0) (maxL := 3) (rest := []) (av := [.ref b11, .int (x2 + x3), .int 0]) (fun T hT X => by obtain ⟨cb, r1, r2, r3⟩ := xb_recv (ci := 1) hR rfl hk12 (by decide); exact xt_invV X hx hown (hts _ m_068feb96) (hts _ m_8e233096) (hts _ m_27eed10c) (xt_sigOf (hts _ m_ff1c70ae)) nm_Row_at (by rw [hT]; exact r1) r2 r3 (g := F0 m 47 ls [.int 0, .int (x2 + x3), .ref b11]) rfl (argsL := [.int (x2 + x3), .int 0]) (rest := []) rfl rfl (by rw [hb]; exact (xb_d D_Checker_spreadLocals 27 rfl))) (ok_Row_at l hfl D A σ b11 (x2 + x3) 0 h6 _ hw) (hml.trans hl.1.symm) (by rw [hb]; exact (xb_d D_Checker_spreadLocals 27 rfl)) (Nat.le_of_ble_eq_true rfl) (Nat.le_of_ble_eq_true rfl) (Nat.le_of_ble_eq_true rfl) (show k + 0 ≤ MC by omega) (show n + 0 ≤ MS by omega) (xt_w1 hB.1 m_ff1c70ae) (xt_cdOf hB.1 m_ff1c70ae) (hts _ m_c1bef504) hB hR hS hA (fun vv h13 H locs hq hEh13 hR hS => ?_) (fun XX ax h13 H locs hq hEh13 hex hR hS => ?_)
        · obtain ⟨r14, rfl, hw⟩ := hq
          have hw := hw hEh13
          have hE := hE.tr hEh13
          refine W.eq (g2 := F0 m 50 ls [.int r14]) rfl ?_
          refine lv_istore hx hb (xb_d D_Checker_spreadLocals 28 rfl) hl (by decide) rfl (fun ls hl => ?_)
          have hl : lv_has ls 5 [(4, .int r14), (0, .ref x0), (1, .int x1), (2, .int x2), (3, .int x3)] := hl
          refine lv_aload_n hx hb (xb_d D_Checker_spreadLocals 29 rfl) rfl (lv_at hl 1 rfl) ?_
          have hk1 : xb_k h13 x0 = 5 := hEh13.k hk1
          refine xb_getP (C := R_Checker) (T := F_Checker) (N := 17) hx hb 4 6 hts fin_Checker hown hR hk1 (by decide) rfl (by decide) rfl (hts _ m_c12a5435) (fun _ h9 => h9) (xb_d D_Checker_spreadLocals 30 rfl) ?_
          obtain ⟨b15, eb15, hw⟩ := hw
          refine xb_some eb15 ?_
          refine lv_aload_n hx hb (xb_d D_Checker_spreadLocals 31 rfl) rfl (lv_at hl 1 rfl) ?_
          refine xb_getI (C := R_Checker) (T := F_Checker) (N := 17) hx hb 4 7 hts fin_Checker hown hR hk1 (by decide) rfl (by decide) rfl (hts _ m_708ae6ef) (fun _ h9 => h9) (xb_d D_Checker_spreadLocals 32 rfl) ?_
          refine lv_aload_n hx hb (xb_d D_Checker_spreadLocals 33 rfl) rfl (lv_at hl 1 rfl) ?_
          refine xb_getI (C := R_Checker) (T := F_Checker) (N := 17) hx hb 4 7 hts fin_Checker hown hR hk1 (by decide) rfl (by decide) rfl (hts _ m_708ae6ef) (fun _ h9 => h9) (xb_d D_Checker_spreadLocals 34 rfl) ?_
          refine lv_iload hx hb (xb_d D_Checker_spreadLocals 35 rfl) (lv_at hl 0 rfl) ?_
          refine lv_iadd hx hb (xb_d D_Checker_spreadLocals 36 rfl) ?_
          refine lv_aload_n hx hb (xb_d D_Checker_spreadLocals 37 rfl) rfl (lv_at hl 1 rfl) ?_
          refine xb_getP (C := R_Checker) (T := F_Checker) (N := 17) hx hb 4 0 hts fin_Checker hown hR hk1 (by decide) rfl (by decide) rfl (hts _ m_070795bc) (fun _ h9 => h9) (xb_d D_Checker_spreadLocals 38 rfl) ?_
          obtain ⟨b16, eb16, hw⟩ := hw
          refine xb_some eb16 ?_
          obtain ⟨hk17, hw⟩ := hw
          refine xb_getP (C := R_StackModule) (T := F_StackModule) (N := 19) hx hb 2 12 hts fin_StackModule hown hR hk17 (by decide) rfl (by decide) rfl (hts _ m_6fd30476) (fun _ h9 => h9) (xb_d D_Checker_spreadLocals 39 rfl) ?_
          obtain ⟨b18, eb18, hw⟩ := hw
          refine xb_some eb18 ?_
          refine lv_iload_n hx hb (xb_d D_Checker_spreadLocals 40 rfl) rfl (lv_at hl 3 rfl) ?_
          refine lv_iload_n hx hb (xb_d D_Checker_spreadLocals 41 rfl) rfl (lv_at hl 4 rfl) ?_
          refine lv_iadd hx hb (xb_d D_Checker_spreadLocals 42 rfl) ?_
          refine lv_iconst (v := 1) hx hb (xb_d D_Checker_spreadLocals 43 rfl) (by decide) ?_
          obtain ⟨hk19, hw⟩ := hw
          refine xb_call (D := D) (A := A) (σ := σ) (h := h13) (d := 2) (mc := 0) (ms := 0) (maxL := 3) (rest := [.int ((xb_i h13 x0 7) + r14), .int (xb_i h13 x0 7), .ref b15]) (av := [.ref b18, .int (x2 + x3), .int 1]) (fun T hT X => by obtain ⟨cb, r1, r2, r3⟩ := xb_recv (ci := 1) hR rfl hk19 (by decide); exact xt_invV X hx hown (hts _ m_068feb96) (hts _ m_8e233096) (hts _ m_27eed10c) (xt_sigOf (hts _ m_ff1c70ae)) nm_Row_at (by rw [hT]; exact r1) r2 r3 (g := F0 m 78 ls [.int 1, .int (x2 + x3), .ref b18, .int ((xb_i h13 x0 7) + r14), .int (xb_i h13 x0 7), .ref b15]) rfl (argsL := [.int (x2 + x3), .int 1]) (rest := [.int ((xb_i h13 x0 7) + r14), .int (xb_i h13 x0 7), .ref b15]) rfl rfl (by rw [hb]; exact (xb_d D_Checker_spreadLocals 44 rfl))) (ok_Row_at l hfl D A σ b18 (x2 + x3) 1 h13 _ hw) (hml.trans hl.1.symm) (by rw [hb]; exact (xb_d D_Checker_spreadLocals 44 rfl)) (Nat.le_of_ble_eq_true rfl) (Nat.le_of_ble_eq_true rfl) (Nat.le_of_ble_eq_true rfl) (show k + 0 ≤ MC by omega) (show n + 0 ≤ MS by omega) (xt_w1 hB.1 m_ff1c70ae) (xt_cdOf hB.1 m_ff1c70ae) (hts _ m_c1bef504) hB hR hS hA (fun vv h20 H locs hq hEh20 hR hS => ?_) (fun XX ax h20 H locs hq hEh20 hex hR hS => ?_)
          · obtain ⟨r21, rfl, hw⟩ := hq
            have hw := hw hEh20
            have hE := hE.tr hEh20
            refine W.eq (g2 := F0 m 81 ls [.int r21, .int ((xb_i h13 x0 7) + r14), .int (xb_i h13 x0 7), .ref b15]) rfl ?_
            refine lv_i2b hx hb (xb_d D_Checker_spreadLocals 45 rfl) rfl ?_
            refine xb_call (D := D) (A := A) (σ := σ) (h := h20) (d := 3) (mc := 0) (ms := 0) (maxL := 5) (rest := []) (av := [.ref b15, .int (xb_i h13 x0 7), .int ((xb_i h13 x0 7) + r14), .int ((Int32.toInt8 r21).toInt32)]) (fun T hT X => xt_invS X hx hown (hts _ m_d762f6df) (hts _ m_ae8a69e4) (hts _ m_b999e92a) (xt_sgS (hts _ m_10c24e3c)).1 (xt_sgS (hts _ m_10c24e3c)).2 nm_Arrays_fill0 (g := F0 m 82 ls [.int ((Int32.toInt8 r21).toInt32), .int ((xb_i h13 x0 7) + r14), .int (xb_i h13 x0 7), .ref b15]) rfl (argsL := [.ref b15, .int (xb_i h13 x0 7), .int ((xb_i h13 x0 7) + r14), .int ((Int32.toInt8 r21).toInt32)]) (rest := []) rfl rfl (by rw [hb]; exact (xb_d D_Checker_spreadLocals 46 rfl))) (ok_Arrays_fill0 l hfl D A σ b15 (xb_i h13 x0 7) ((xb_i h13 x0 7) + r14) ((Int32.toInt8 r21).toInt32) h20 _ hw) (hml.trans hl.1.symm) (by rw [hb]; exact (xb_d D_Checker_spreadLocals 46 rfl)) (Nat.le_of_ble_eq_true rfl) (Nat.le_of_ble_eq_true rfl) (Nat.le_of_ble_eq_true rfl) (show k + 0 ≤ MC by omega) (show n + 0 ≤ MS by omega) (xt_w1 hB.1 m_10c24e3c) (xt_cdOf hB.1 m_10c24e3c) (hts _ m_b999e92a) hB hR hS hA (fun vv h22 H locs hq hEh22 hR hS => ?_) (fun XX ax h22 H locs hq hEh22 hex hR hS => ?_)
            · obtain ⟨rfl, hw⟩ := hq
              have hw := hw hEh22
              have hE := hE.tr hEh22
              refine W.eq (g2 := F0 m 85 ls []) rfl ?_
              refine lv_aload_n hx hb (xb_d D_Checker_spreadLocals 47 rfl) rfl (lv_at hl 1 rfl) ?_
              refine lv_dup hx hb (xb_d D_Checker_spreadLocals 48 rfl) rfl ?_
              have hk1 : xb_k h20 x0 = 5 := hEh20.k hk1
              have hk1 : xb_k h22 x0 = 5 := hEh22.k hk1
              refine xb_getI (C := R_Checker) (T := F_Checker) (N := 17) hx hb 4 7 hts fin_Checker hown hR hk1 (by decide) rfl (by decide) rfl (hts _ m_708ae6ef) (fun _ h9 => h9) (xb_d D_Checker_spreadLocals 49 rfl) ?_
              refine lv_iload hx hb (xb_d D_Checker_spreadLocals 50 rfl) (lv_at hl 0 rfl) ?_
              refine lv_iadd hx hb (xb_d D_Checker_spreadLocals 51 rfl) ?_
              refine xb_putI (C := R_Checker) (T := F_Checker) (N := 17) (ty := .int) (x := ((xb_i h22 x0 7) + r14)) hx hb 4 7 hts fin_Checker t_Checker t_Checker_ok n_Checker hown hR hS hk1 (by decide) rfl (by decide) rfl (hts _ m_708ae6ef) (fun _ h9 => h9) rfl (by decide +kernel) rfl rfl (xb_d D_Checker_spreadLocals 52 rfl) (fun H locs hR hS => ?_)
              obtain ⟨h24, eh24⟩ : ∃ x : xb_H, x = xb_I h22 x0 7 ((xb_i h22 x0 7) + r14) := ⟨_, rfl⟩
              rw [← eh24] at hR
              have hw := hw h24 eh24
              have hE : xb_ext h0 h24 := by rw [eh24]; exact hE
              refine lv_iinc (v := (x3 + 1)) (k := 4) hx hb (xb_d D_Checker_spreadLocals 53 rfl) hl rfl (by first | rfl | decide) (by decide) rfl (fun ls hl => ?_)
              have hl : lv_has ls 5 [(3, .int (x3 + 1)), (4, .int r14), (0, .ref x0), (1, .int x1), (2, .int x2)] := hl
              refine lv_goto (tgt := 20) hx hb (xb_d D_Checker_spreadLocals 54 rfl) rfl ?_
              exact ih x0 x1 x2 (x3 + 1) h24 hw p e s m args below meth c hC H locs ls k n hE (lv_sub hl [2, 3, 4, 0] rfl) hR hS (by omega) (by omega)
            · exact False.elim hq
          · exact False.elim hq
        · exact False.elim hq
    · exact False.elim hq

set_option maxHeartbeats 4000000 in
set_option maxRecDepth 100000 in
theorem ok_Checker_spreadLocals (l : Launch) (hfl : l.flags = pinnedFlags ++ [noTraceFlag]) (D : va_G) (A : Nat → Prop) (σ : Nat) (x0 : Nat) (x1 : Int32) (h : xb_H) (Qr : xb_H → Prop) (hw : w_Checker_spreadLocals x0 x1 h Qr) : xt_Met l y_Checker_spreadLocals [.code y_Checker_spreadLocals b_Checker_spreadLocals 5 none] (xb_rm 4 0 0) (xb_Pc D A σ h [.ref x0, .int x1]) (xb_Qc D A h (fun v h => v = none ∧ Qr h) (fun _ _ => False)) 0 0 A := by
  refine xb_ofAm (cc := b_Checker_spreadLocals) (by decide) (Nat.le_of_ble_eq_true rfl) ?_
  unfold w_Checker_spreadLocals at hw
  show xb_am l D A σ 4 0 0 h (fun v h => v = none ∧ Qr h) (fun _ _ => False) y_Checker_spreadLocals.cls y_Checker_spreadLocals.name b_Checker_spreadLocals 5 ([] : List ExceptionTableEntry) none 0 [(0, .ref x0), (1, .int x1)] [] h 0 0
  obtain ⟨MC, hMC⟩ : ∃ x, x = 0 := ⟨_, rfl⟩
  obtain ⟨MS, hMS⟩ : ∃ x, x = 0 := ⟨_, rfl⟩
  rw [show xb_am l D A σ 4 0 0 = xb_am l D A σ 4 MC MS by rw [hMC, hMS]]
  obtain ⟨h0, hh0⟩ : ∃ x, x = h := ⟨_, rfl⟩
  rw [show xb_am l D A σ 4 MC MS h = xb_am l D A σ 4 MC MS h0 by rw [hh0]]
  intro p e s m args below meth c hC H locs ls k n hE hl hR hS hk hn
  obtain ⟨hx, hb, hown, hlocks, htab, hml, hr, hB, hA, hnm⟩ := id hC
  have hts := hB.1.1.at args
  refine lv_aload_n hx hb (xb_d D_Checker_spreadLocals 0 rfl) rfl (lv_at hl 0 rfl) ?_
  refine lv_iconst (v := 0) hx hb (xb_d D_Checker_spreadLocals 1 rfl) (by decide) ?_
  obtain ⟨hk1, hw⟩ := hw
  refine xb_putI (C := R_Checker) (T := F_Checker) (N := 17) (ty := .int) (x := 0) hx hb 4 7 hts fin_Checker t_Checker t_Checker_ok n_Checker hown hR hS hk1 (by decide) rfl (by decide) rfl (hts _ m_708ae6ef) (fun _ h9 => h9) rfl (by decide +kernel) rfl rfl (xb_d D_Checker_spreadLocals 2 rfl) (fun H locs hR hS => ?_)
  obtain ⟨h2, eh2⟩ : ∃ x : xb_H, x = xb_I h x0 7 0 := ⟨_, rfl⟩
  rw [← eh2] at hR
  have hw := hw h2 eh2
  have hE : xb_ext h0 h2 := by rw [eh2]; exact hE
  refine lv_aload_n hx hb (xb_d D_Checker_spreadLocals 3 rfl) rfl (lv_at hl 0 rfl) ?_
  have hk1 : xb_k h2 x0 = 5 := by rw [eh2]; exact hk1
  refine xb_getP (C := R_Checker) (T := F_Checker) (N := 17) hx hb 4 0 hts fin_Checker hown hR hk1 (by decide) rfl (by decide) rfl (hts _ m_070795bc) (fun _ h9 => h9) (xb_d D_Checker_spreadLocals 4 rfl) ?_
  obtain ⟨b3, eb3, hw⟩ := hw
  refine xb_some eb3 ?_
  obtain ⟨hk4, hw⟩ := hw
  refine xb_getP (C := R_StackModule) (T := F_StackModule) (N := 19) hx hb 2 11 hts fin_StackModule hown hR hk4 (by decide) rfl (by decide) rfl (hts _ m_5c3b2b0d) (fun _ h9 => h9) (xb_d D_Checker_spreadLocals 5 rfl) ?_
  obtain ⟨b5, eb5, hw⟩ := hw
  refine xb_some eb5 ?_
  refine lv_iload_n hx hb (xb_d D_Checker_spreadLocals 6 rfl) rfl (lv_at hl 1 rfl) ?_
  refine lv_iconst (v := 2) hx hb (xb_d D_Checker_spreadLocals 7 rfl) (by decide) ?_
  obtain ⟨hk6, hw⟩ := hw
  refine xb_call (D := D) (A := A) (σ := σ) (h := h2) (d := 2) (mc := 0) (ms := 0) (maxL := 3) (rest := []) (av := [.ref b5, .int x1, .int 2]) (fun T hT X => by obtain ⟨cb, r1, r2, r3⟩ := xb_recv (ci := 1) hR rfl hk6 (by decide); exact xt_invV X hx hown (hts _ m_068feb96) (hts _ m_8e233096) (hts _ m_27eed10c) (xt_sigOf (hts _ m_ff1c70ae)) nm_Row_at (by rw [hT]; exact r1) r2 r3 (g := F0 m 14 ls [.int 2, .int x1, .ref b5]) rfl (argsL := [.int x1, .int 2]) (rest := []) rfl rfl (by rw [hb]; exact (xb_d D_Checker_spreadLocals 8 rfl))) (ok_Row_at l hfl D A σ b5 x1 2 h2 _ hw) (hml.trans hl.1.symm) (by rw [hb]; exact (xb_d D_Checker_spreadLocals 8 rfl)) (Nat.le_of_ble_eq_true rfl) (Nat.le_of_ble_eq_true rfl) (Nat.le_of_ble_eq_true rfl) (show k + 0 ≤ MC by omega) (show n + 0 ≤ MS by omega) (xt_w1 hB.1 m_ff1c70ae) (xt_cdOf hB.1 m_ff1c70ae) (hts _ m_c1bef504) hB hR hS hA (fun vv h7 H locs hq hEh7 hR hS => ?_) (fun XX ax h7 H locs hq hEh7 hex hR hS => ?_)
  · obtain ⟨r8, rfl, hw⟩ := hq
    have hw := hw hEh7
    have hE := hE.tr hEh7
    refine W.eq (g2 := F0 m 17 ls [.int r8]) rfl ?_
    refine lv_istore_n hx hb (xb_d D_Checker_spreadLocals 9 rfl) rfl hl (by decide) rfl (fun ls hl => ?_)
    have hl : lv_has ls 5 [(2, .int r8), (0, .ref x0), (1, .int x1)] := hl
    refine lv_iconst (v := 0) hx hb (xb_d D_Checker_spreadLocals 10 rfl) (by decide) ?_
    refine lv_istore_n hx hb (xb_d D_Checker_spreadLocals 11 rfl) rfl hl (by decide) rfl (fun ls hl => ?_)
    have hl : lv_has ls 5 [(3, .int 0), (2, .int r8), (0, .ref x0), (1, .int x1)] := hl
    obtain ⟨n8, hw⟩ := hw
    exact am_Checker_spreadLocals_L20 l hfl D A σ MC MS h0 Qr n8 x0 x1 r8 0 h7 hw p e s m args below meth c hC H locs ls k n hE (lv_sub hl [2, 3, 1, 0] rfl) hR hS (by omega) (by omega)
  · exact False.elim hq

theorem m_a5ad9417 : (.methodLink "StackHost$Format" 46 y_Format_ordered : Cond) ∈ xt_tbl := xt_in (xt_t8 (List.mem_of_getElem? (i := 136) (by decide +kernel))) (by decide +kernel)
theorem m_98331b4c : (.instanceMethod y_Format_ordered : Cond) ∈ xt_tbl := xt_in (xt_t8 (List.mem_of_getElem? (i := 138) (by decide +kernel))) (by decide +kernel)
theorem m_04c4d5ab : (.selects "StackHost$Format" y_Format_ordered y_Format_ordered : Cond) ∈ xt_tbl := xt_in (xt_v8 (q := (⟨"StackHost$Format", "ordered", "(J)J"⟩, 5)) (List.mem_of_getElem? (i := 2) (by decide +kernel))) (by decide +kernel)
theorem m_97b0f5b8 : (.code y_Format_ordered b_Format_ordered 3 (some .long) : Cond) ∈ xt_tbl := xt_in (xt_t8 (List.mem_of_getElem? (i := 139) (by decide +kernel))) (by decide +kernel)
theorem nm_Format_ordered : xt_nm y_Format_ordered 1 := ⟨by decide +kernel, by decide +kernel⟩
set_option maxRecDepth 100000 in
def T_Format_greater : List (Nat × Instr × Nat) := [(0, .aload_n 0, 1), (1, .lload_n 1, 1), (2, .invokevirtual 46, 3), (5, .aload_n 0, 1), (6, .lload_n 3, 1), (7, .invokevirtual 46, 3), (10, .lcmp, 1), (11, .ifCond .ne 7, 3), (14, .lload_n 1, 1), (15, .lload_n 3, 1), (16, .land, 1), (17, .lreturn, 1), (18, .aload_n 0, 1), (19, .lload_n 1, 1), (20, .invokevirtual 46, 3), (23, .aload_n 0, 1), (24, .lload_n 3, 1), (25, .invokevirtual 46, 3), (28, .lcmp, 1), (29, .ifCond .le 7, 3), (32, .lload_n 1, 1), (33, .goto 4, 3), (36, .lload_n 3, 1), (37, .lreturn, 1)]
theorem D_Format_greater : ∀ q ∈ T_Format_greater, decode b_Format_greater q.1 = .ok (q.2.1, q.2.2) := by decide +kernel
def w_Format_greater_L37 (Qr : Int64 → xb_H → Prop) (y0 : Int64) (h : xb_H) : Prop :=
    Qr y0 h

def w_Format_greater (x0 : Nat) (x1 : Int64) (x3 : Int64) (h : xb_H) (Qr : Int64 → xb_H → Prop) : Prop :=
    xb_k h x0 = 6 ∧ w_Format_ordered x0 x1 h (fun (r3 : Int64) (h2 : xb_H) => xb_ext h h2 → w_Format_ordered x0 x3 h2 (fun (r5 : Int64) (h4 : xb_H) => xb_ext h2 h4 → ((¬ r3 = r5 → w_Format_ordered x0 x1 h4 (fun (r8 : Int64) (h7 : xb_H) => xb_ext h4 h7 → w_Format_ordered x0 x3 h7 (fun (r10 : Int64) (h9 : xb_H) => xb_ext h7 h9 → ((r8 ≤ r10 → w_Format_greater_L37 Qr x3 h9) ∧ (¬ r8 ≤ r10 → w_Format_greater_L37 Qr x1 h9))))) ∧ (r3 = r5 → Qr (x1 &&& x3) h4))))

set_option maxHeartbeats 4000000 in
set_option maxRecDepth 100000 in
theorem am_Format_greater_L37 (l : Launch) (hfl : l.flags = pinnedFlags ++ [noTraceFlag]) (D : va_G) (A : Nat → Prop) (σ MC MS : Nat) (h0 : xb_H) (Qr : Int64 → xb_H → Prop) (y0 : Int64) (h : xb_H) (hw : w_Format_greater_L37 Qr y0 h) : xb_am l D A σ 4 MC MS h0 (fun v h => ∃ r, v = some (.long r) ∧ Qr r h) (fun _ _ => False) y_Format_greater.cls y_Format_greater.name b_Format_greater 5 ([] : List ExceptionTableEntry) (some .long) 37 [] [.long y0] h 0 0 := by
  unfold w_Format_greater_L37 at hw
  intro p e s m args below meth c hC H locs ls k n hE hl hR hS hk hn
  obtain ⟨hx, hb, hown, hlocks, htab, hml, hr, hB, hA, hnm⟩ := id hC
  have hts := hB.1.1.at args
  exact xb_lret hx hb hr hlocks (show k ≤ MC by omega) (show n ≤ MS by omega) hE hR hS (xb_d D_Format_greater 23 rfl) hw

set_option maxHeartbeats 4000000 in
set_option maxRecDepth 100000 in
theorem ok_Format_greater (l : Launch) (hfl : l.flags = pinnedFlags ++ [noTraceFlag]) (D : va_G) (A : Nat → Prop) (σ : Nat) (x0 : Nat) (x1 : Int64) (x3 : Int64) (h : xb_H) (Qr : Int64 → xb_H → Prop) (hw : w_Format_greater x0 x1 x3 h Qr) : xt_Met l y_Format_greater [.code y_Format_greater b_Format_greater 5 (some .long)] (xb_rm 4 0 0) (xb_Pc D A σ h [.ref x0, .long x1, .long x3]) (xb_Qc D A h (fun v h => ∃ r, v = some (.long r) ∧ Qr r h) (fun _ _ => False)) 0 0 A := by
  refine xb_ofAm (cc := b_Format_greater) (by decide) (Nat.le_of_ble_eq_true rfl) ?_
  unfold w_Format_greater at hw
  show xb_am l D A σ 4 0 0 h (fun v h => ∃ r, v = some (.long r) ∧ Qr r h) (fun _ _ => False) y_Format_greater.cls y_Format_greater.name b_Format_greater 5 ([] : List ExceptionTableEntry) (some .long) 0 [(0, .ref x0), (1, .long x1), (3, .long x3)] [] h 0 0
  obtain ⟨MC, hMC⟩ : ∃ x, x = 0 := ⟨_, rfl⟩
  obtain ⟨MS, hMS⟩ : ∃ x, x = 0 := ⟨_, rfl⟩
  rw [show xb_am l D A σ 4 0 0 = xb_am l D A σ 4 MC MS by rw [hMC, hMS]]
  obtain ⟨h0, hh0⟩ : ∃ x, x = h := ⟨_, rfl⟩
  rw [show xb_am l D A σ 4 MC MS h = xb_am l D A σ 4 MC MS h0 by rw [hh0]]
  intro p e s m args below meth c hC H locs ls k n hE hl hR hS hk hn
  obtain ⟨hx, hb, hown, hlocks, htab, hml, hr, hB, hA, hnm⟩ := id hC
  have hts := hB.1.1.at args
  refine lv_aload_n hx hb (xb_d D_Format_greater 0 rfl) rfl (lv_at hl 0 rfl) ?_
  refine lv_lload_n hx hb (xb_d D_Format_greater 1 rfl) rfl (lv_at hl 1 rfl) ?_
  obtain ⟨hk1, hw⟩ := hw
  refine xb_call (D := D) (A := A) (σ := σ) (h := h) (d := 3) (mc := 0) (ms := 0) (maxL := 3) (rest := []) (av := [.ref x0, .long x1]) (fun T hT X => by obtain ⟨cb, r1, r2, r3⟩ := xb_recv (ci := 5) hR rfl hk1 (by decide); exact xt_invV X hx hown (hts _ m_a5ad9417) (hts _ m_98331b4c) (hts _ m_04c4d5ab) (xt_sigOf (hts _ m_97b0f5b8)) nm_Format_ordered (by rw [hT]; exact r1) r2 r3 (g := F0 m 2 ls [.long x1, .ref x0]) rfl (argsL := [.long x1]) (rest := []) rfl rfl (by rw [hb]; exact (xb_d D_Format_greater 2 rfl))) (ok_Format_ordered l hfl D A σ x0 x1 h _ hw) (hml.trans hl.1.symm) (by rw [hb]; exact (xb_d D_Format_greater 2 rfl)) (Nat.le_of_ble_eq_true rfl) (Nat.le_of_ble_eq_true rfl) (Nat.le_of_ble_eq_true rfl) (show k + 0 ≤ MC by omega) (show n + 0 ≤ MS by omega) (xt_w1 hB.1 m_97b0f5b8) (xt_cdOf hB.1 m_97b0f5b8) (hts _ m_64857de5) hB hR hS hA (fun vv h2 H locs hq hEh2 hR hS => ?_) (fun XX ax h2 H locs hq hEh2 hex hR hS => ?_)
  · obtain ⟨r3, rfl, hw⟩ := hq
    have hw := hw hEh2
    have hE := hE.tr hEh2
    refine W.eq (g2 := F0 m 5 ls [.long r3]) rfl ?_
    refine lv_aload_n hx hb (xb_d D_Format_greater 3 rfl) rfl (lv_at hl 0 rfl) ?_
    refine lv_lload_n hx hb (xb_d D_Format_greater 4 rfl) rfl (lv_at hl 2 rfl) ?_
    have hk1 : xb_k h2 x0 = 6 := hEh2.k hk1
    refine xb_call (D := D) (A := A) (σ := σ) (h := h2) (d := 3) (mc := 0) (ms := 0) (maxL := 3) (rest := [.long r3]) (av := [.ref x0, .long x3]) (fun T hT X => by obtain ⟨cb, r1, r2, r3⟩ := xb_recv (ci := 5) hR rfl hk1 (by decide); exact xt_invV X hx hown (hts _ m_a5ad9417) (hts _ m_98331b4c) (hts _ m_04c4d5ab) (xt_sigOf (hts _ m_97b0f5b8)) nm_Format_ordered (by rw [hT]; exact r1) r2 r3 (g := F0 m 7 ls [.long x3, .ref x0, .long r3]) rfl (argsL := [.long x3]) (rest := [.long r3]) rfl rfl (by rw [hb]; exact (xb_d D_Format_greater 5 rfl))) (ok_Format_ordered l hfl D A σ x0 x3 h2 _ hw) (hml.trans hl.1.symm) (by rw [hb]; exact (xb_d D_Format_greater 5 rfl)) (Nat.le_of_ble_eq_true rfl) (Nat.le_of_ble_eq_true rfl) (Nat.le_of_ble_eq_true rfl) (show k + 0 ≤ MC by omega) (show n + 0 ≤ MS by omega) (xt_w1 hB.1 m_97b0f5b8) (xt_cdOf hB.1 m_97b0f5b8) (hts _ m_64857de5) hB hR hS hA (fun vv h4 H locs hq hEh4 hR hS => ?_) (fun XX ax h4 H locs hq hEh4 hex hR hS => ?_)
    · obtain ⟨r5, rfl, hw⟩ := hq
      have hw := hw hEh4
      have hE := hE.tr hEh4
      refine W.eq (g2 := F0 m 10 ls [.long r5, .long r3]) rfl ?_
      refine xb_lc_ne (tgt := 18) hx hb (xb_d D_Format_greater 6 rfl) (xb_d D_Format_greater 7 rfl) rfl (fun hc6 => ?_) (fun hc6 => ?_)
      · have hw := hw.1 hc6
        refine lv_aload_n hx hb (xb_d D_Format_greater 12 rfl) rfl (lv_at hl 0 rfl) ?_
        refine lv_lload_n hx hb (xb_d D_Format_greater 13 rfl) rfl (lv_at hl 1 rfl) ?_
        have hk1 : xb_k h4 x0 = 6 := hEh4.k hk1
        refine xb_call (D := D) (A := A) (σ := σ) (h := h4) (d := 3) (mc := 0) (ms := 0) (maxL := 3) (rest := []) (av := [.ref x0, .long x1]) (fun T hT X => by obtain ⟨cb, r1, r2, r3⟩ := xb_recv (ci := 5) hR rfl hk1 (by decide); exact xt_invV X hx hown (hts _ m_a5ad9417) (hts _ m_98331b4c) (hts _ m_04c4d5ab) (xt_sigOf (hts _ m_97b0f5b8)) nm_Format_ordered (by rw [hT]; exact r1) r2 r3 (g := F0 m 20 ls [.long x1, .ref x0]) rfl (argsL := [.long x1]) (rest := []) rfl rfl (by rw [hb]; exact (xb_d D_Format_greater 14 rfl))) (ok_Format_ordered l hfl D A σ x0 x1 h4 _ hw) (hml.trans hl.1.symm) (by rw [hb]; exact (xb_d D_Format_greater 14 rfl)) (Nat.le_of_ble_eq_true rfl) (Nat.le_of_ble_eq_true rfl) (Nat.le_of_ble_eq_true rfl) (show k + 0 ≤ MC by omega) (show n + 0 ≤ MS by omega) (xt_w1 hB.1 m_97b0f5b8) (xt_cdOf hB.1 m_97b0f5b8) (hts _ m_64857de5) hB hR hS hA (fun vv h7 H locs hq hEh7 hR hS => ?_) (fun XX ax h7 H locs hq hEh7 hex hR hS => ?_)
        · obtain ⟨r8, rfl, hw⟩ := hq
          have hw := hw hEh7
          have hE := hE.tr hEh7
          refine W.eq (g2 := F0 m 23 ls [.long r8]) rfl ?_
          refine lv_aload_n hx hb (xb_d D_Format_greater 15 rfl) rfl (lv_at hl 0 rfl) ?_
          refine lv_lload_n hx hb (xb_d D_Format_greater 16 rfl) rfl (lv_at hl 2 rfl) ?_
          have hk1 : xb_k h7 x0 = 6 := hEh7.k hk1
          refine xb_call (D := D) (A := A) (σ := σ) (h := h7) (d := 3) (mc := 0) (ms := 0) (maxL := 3) (rest := [.long r8]) (av := [.ref x0, .long x3]) (fun T hT X => by obtain ⟨cb, r1, r2, r3⟩ := xb_recv (ci := 5) hR rfl hk1 (by decide); exact xt_invV X hx hown (hts _ m_a5ad9417) (hts _ m_98331b4c) (hts _ m_04c4d5ab) (xt_sigOf (hts _ m_97b0f5b8)) nm_Format_ordered (by rw [hT]; exact r1) r2 r3 (g := F0 m 25 ls [.long x3, .ref x0, .long r8]) rfl (argsL := [.long x3]) (rest := [.long r8]) rfl rfl (by rw [hb]; exact (xb_d D_Format_greater 17 rfl))) (ok_Format_ordered l hfl D A σ x0 x3 h7 _ hw) (hml.trans hl.1.symm) (by rw [hb]; exact (xb_d D_Format_greater 17 rfl)) (Nat.le_of_ble_eq_true rfl) (Nat.le_of_ble_eq_true rfl) (Nat.le_of_ble_eq_true rfl) (show k + 0 ≤ MC by omega) (show n + 0 ≤ MS by omega) (xt_w1 hB.1 m_97b0f5b8) (xt_cdOf hB.1 m_97b0f5b8) (hts _ m_64857de5) hB hR hS hA (fun vv h9 H locs hq hEh9 hR hS => ?_) (fun XX ax h9 H locs hq hEh9 hex hR hS => ?_)
          · obtain ⟨r10, rfl, hw⟩ := hq
            have hw := hw hEh9
            have hE := hE.tr hEh9
            refine W.eq (g2 := F0 m 28 ls [.long r10, .long r8]) rfl ?_
            refine xb_lc_le (tgt := 36) hx hb (xb_d D_Format_greater 18 rfl) (xb_d D_Format_greater 19 rfl) rfl (fun hc11 => ?_) (fun hc11 => ?_)
            · have hw := hw.1 hc11
              refine lv_lload_n hx hb (xb_d D_Format_greater 22 rfl) rfl (lv_at hl 2 rfl) ?_
              exact am_Format_greater_L37 l hfl D A σ MC MS h0 Qr x3 h9 hw p e s m args below meth c hC H locs ls k n hE (lv_sub hl [] rfl) hR hS (by omega) (by omega)
            · have hw := hw.2 hc11
              refine lv_lload_n hx hb (xb_d D_Format_greater 20 rfl) rfl (lv_at hl 1 rfl) ?_
              refine lv_goto (tgt := 37) hx hb (xb_d D_Format_greater 21 rfl) rfl ?_
              exact am_Format_greater_L37 l hfl D A σ MC MS h0 Qr x1 h9 hw p e s m args below meth c hC H locs ls k n hE (lv_sub hl [] rfl) hR hS (by omega) (by omega)
          · exact False.elim hq
        · exact False.elim hq
      · have hw := hw.2 hc6
        refine lv_lload_n hx hb (xb_d D_Format_greater 8 rfl) rfl (lv_at hl 1 rfl) ?_
        refine lv_lload_n hx hb (xb_d D_Format_greater 9 rfl) rfl (lv_at hl 2 rfl) ?_
        refine lv_land hx hb (xb_d D_Format_greater 10 rfl) ?_
        exact xb_lret hx hb hr hlocks (show k ≤ MC by omega) (show n ≤ MS by omega) hE hR hS (xb_d D_Format_greater 11 rfl) hw
    · exact False.elim hq
  · exact False.elim hq

theorem m_e7d6b62e : (.methodLink "StackHost$Format" 42 y_Format_isNan : Cond) ∈ xt_tbl := xt_in (xt_t8 (List.mem_of_getElem? (i := 24) (by decide +kernel))) (by decide +kernel)
theorem m_28f89ecd : (.instanceMethod y_Format_isNan : Cond) ∈ xt_tbl := xt_in (xt_t8 (List.mem_of_getElem? (i := 26) (by decide +kernel))) (by decide +kernel)
theorem m_79f90d13 : (.selects "StackHost$Format" y_Format_isNan y_Format_isNan : Cond) ∈ xt_tbl := xt_in (xt_v7 (q := (⟨"StackHost$Format", "isNan", "(J)Z"⟩, 5)) (List.mem_of_getElem? (i := 0) (by decide +kernel))) (by decide +kernel)
theorem m_2f81ed74 : (.code y_Format_isNan b_Format_isNan 3 (some .boolean) : Cond) ∈ xt_tbl := xt_in (xt_t8 (List.mem_of_getElem? (i := 27) (by decide +kernel))) (by decide +kernel)
theorem nm_Format_isNan : xt_nm y_Format_isNan 1 := ⟨by decide +kernel, by decide +kernel⟩
set_option maxRecDepth 100000 in
def T_Format_holds : List (Nat × Instr × Nat) := [(0, .aload_n 0, 1), (1, .lload_n 2, 1), (2, .invokevirtual 42, 3), (5, .ifCond .ne 12, 3), (8, .aload_n 0, 1), (9, .lload 4, 2), (11, .invokevirtual 42, 3), (14, .ifCond .eq 14, 3), (17, .iload_n 1, 1), (18, .iconst 1, 1), (19, .if_icmp .ne 7, 3), (22, .iconst 1, 1), (23, .goto 4, 3), (26, .iconst 0, 1), (27, .ireturn, 1), (28, .aload_n 0, 1), (29, .lload_n 2, 1), (30, .invokevirtual 46, 3), (33, .lstore 6, 2), (35, .aload_n 0, 1), (36, .lload 4, 2), (38, .invokevirtual 46, 3), (41, .lstore 8, 2), (43, .iload_n 1, 1), (44, .tableswitch 106 0 4 #[36, 50, 64, 78, 92], 36), (80, .lload 6, 2), (82, .lload 8, 2), (84, .lcmp, 1), (85, .ifCond .ne 7, 3), (88, .iconst 1, 1), (89, .goto 4, 3), (92, .iconst 0, 1), (93, .ireturn, 1), (94, .lload 6, 2), (96, .lload 8, 2), (98, .lcmp, 1), (99, .ifCond .eq 7, 3), (102, .iconst 1, 1), (103, .goto 4, 3), (106, .iconst 0, 1), (107, .ireturn, 1), (108, .lload 6, 2), (110, .lload 8, 2), (112, .lcmp, 1), (113, .ifCond .ge 7, 3), (116, .iconst 1, 1), (117, .goto 4, 3), (120, .iconst 0, 1), (121, .ireturn, 1), (122, .lload 6, 2), (124, .lload 8, 2), (126, .lcmp, 1), (127, .ifCond .le 7, 3), (130, .iconst 1, 1), (131, .goto 4, 3), (134, .iconst 0, 1), (135, .ireturn, 1), (136, .lload 6, 2), (138, .lload 8, 2), (140, .lcmp, 1), (141, .ifCond .gt 7, 3), (144, .iconst 1, 1), (145, .goto 4, 3), (148, .iconst 0, 1), (149, .ireturn, 1), (150, .lload 6, 2), (152, .lload 8, 2), (154, .lcmp, 1), (155, .ifCond .lt 7, 3), (158, .iconst 1, 1), (159, .goto 4, 3), (162, .iconst 0, 1), (163, .ireturn, 1)]
theorem D_Format_holds : ∀ q ∈ T_Format_holds, decode b_Format_holds q.1 = .ok (q.2.1, q.2.2) := by decide +kernel
def w_Format_holds_L163 (Qr : Int32 → xb_H → Prop) (y0 : Int32) (h : xb_H) : Prop :=
    (y0 = 0 ∨ y0 = 1) ∧ Qr y0 h

def w_Format_holds_L149 (Qr : Int32 → xb_H → Prop) (y0 : Int32) (h : xb_H) : Prop :=
    (y0 = 0 ∨ y0 = 1) ∧ Qr y0 h

def w_Format_holds_L135 (Qr : Int32 → xb_H → Prop) (y0 : Int32) (h : xb_H) : Prop :=
    (y0 = 0 ∨ y0 = 1) ∧ Qr y0 h

def w_Format_holds_L121 (Qr : Int32 → xb_H → Prop) (y0 : Int32) (h : xb_H) : Prop :=
    (y0 = 0 ∨ y0 = 1) ∧ Qr y0 h

def w_Format_holds_L107 (Qr : Int32 → xb_H → Prop) (y0 : Int32) (h : xb_H) : Prop :=
    (y0 = 0 ∨ y0 = 1) ∧ Qr y0 h

def w_Format_holds_L93 (Qr : Int32 → xb_H → Prop) (y0 : Int32) (h : xb_H) : Prop :=
    (y0 = 0 ∨ y0 = 1) ∧ Qr y0 h

def w_Format_holds_L27 (Qr : Int32 → xb_H → Prop) (y0 : Int32) (h : xb_H) : Prop :=
    (y0 = 0 ∨ y0 = 1) ∧ Qr y0 h

def w_Format_holds_L17 (Qr : Int32 → xb_H → Prop) (x1 : Int32) (h : xb_H) : Prop :=
    ((¬ x1 = (1 : Int32) → w_Format_holds_L27 Qr 0 h) ∧ (x1 = (1 : Int32) → w_Format_holds_L27 Qr 1 h))

def w_Format_holds (x0 : Nat) (x1 : Int32) (x2 : Int64) (x4 : Int64) (h : xb_H) (Qr : Int32 → xb_H → Prop) : Prop :=
    xb_k h x0 = 6 ∧ w_Format_isNan x0 x2 h (fun (r3 : Int32) (h2 : xb_H) => xb_ext h h2 → ((¬ r3 = (0 : Int32) → w_Format_holds_L17 Qr x1 h2) ∧ (r3 = (0 : Int32) → w_Format_isNan x0 x4 h2 (fun (r6 : Int32) (h5 : xb_H) => xb_ext h2 h5 → ((r6 = (0 : Int32) → w_Format_ordered x0 x2 h5 (fun (r9 : Int64) (h8 : xb_H) => xb_ext h5 h8 → w_Format_ordered x0 x4 h8 (fun (r11 : Int64) (h10 : xb_H) => xb_ext h8 h10 → ((x1 = 0 → ((¬ r9 = r11 → w_Format_holds_L93 Qr 0 h10) ∧ (r9 = r11 → w_Format_holds_L93 Qr 1 h10))) ∧ (x1 = 1 → ((r9 = r11 → w_Format_holds_L107 Qr 0 h10) ∧ (¬ r9 = r11 → w_Format_holds_L107 Qr 1 h10))) ∧ (x1 = 2 → ((r11 ≤ r9 → w_Format_holds_L121 Qr 0 h10) ∧ (¬ r11 ≤ r9 → w_Format_holds_L121 Qr 1 h10))) ∧ (x1 = 3 → ((r9 ≤ r11 → w_Format_holds_L135 Qr 0 h10) ∧ (¬ r9 ≤ r11 → w_Format_holds_L135 Qr 1 h10))) ∧ (x1 = 4 → ((r11 < r9 → w_Format_holds_L149 Qr 0 h10) ∧ (¬ r11 < r9 → w_Format_holds_L149 Qr 1 h10))) ∧ (¬ x1 = 0 → ¬ x1 = 1 → ¬ x1 = 2 → ¬ x1 = 3 → ¬ x1 = 4 → ((r9 < r11 → w_Format_holds_L163 Qr 0 h10) ∧ (¬ r9 < r11 → w_Format_holds_L163 Qr 1 h10))))))) ∧ (¬ r6 = (0 : Int32) → w_Format_holds_L17 Qr x1 h5))))))

set_option maxHeartbeats 4000000 in
set_option maxRecDepth 100000 in
theorem am_Format_holds_L163 (l : Launch) (hfl : l.flags = pinnedFlags ++ [noTraceFlag]) (D : va_G) (A : Nat → Prop) (σ MC MS : Nat) (h0 : xb_H) (Qr : Int32 → xb_H → Prop) (y0 : Int32) (h : xb_H) (hw : w_Format_holds_L163 Qr y0 h) : xb_am l D A σ 4 MC MS h0 (fun v h => ∃ r, v = some (.int r) ∧ Qr r h) (fun _ _ => False) y_Format_holds.cls y_Format_holds.name b_Format_holds 10 ([] : List ExceptionTableEntry) (some .boolean) 163 [] [.int y0] h 0 0 := by
  unfold w_Format_holds_L163 at hw
  intro p e s m args below meth c hC H locs ls k n hE hl hR hS hk hn
  obtain ⟨hx, hb, hown, hlocks, htab, hml, hr, hB, hA, hnm⟩ := id hC
  have hts := hB.1.1.at args
  exact xb_zret hx hb hr hlocks (show k ≤ MC by omega) (show n ≤ MS by omega) hw.1 hE hR hS (xb_d D_Format_holds 72 rfl) hw.2

set_option maxHeartbeats 4000000 in
set_option maxRecDepth 100000 in
theorem am_Format_holds_L149 (l : Launch) (hfl : l.flags = pinnedFlags ++ [noTraceFlag]) (D : va_G) (A : Nat → Prop) (σ MC MS : Nat) (h0 : xb_H) (Qr : Int32 → xb_H → Prop) (y0 : Int32) (h : xb_H) (hw : w_Format_holds_L149 Qr y0 h) : xb_am l D A σ 4 MC MS h0 (fun v h => ∃ r, v = some (.int r) ∧ Qr r h) (fun _ _ => False) y_Format_holds.cls y_Format_holds.name b_Format_holds 10 ([] : List ExceptionTableEntry) (some .boolean) 149 [] [.int y0] h 0 0 := by
  unfold w_Format_holds_L149 at hw
  intro p e s m args below meth c hC H locs ls k n hE hl hR hS hk hn
  obtain ⟨hx, hb, hown, hlocks, htab, hml, hr, hB, hA, hnm⟩ := id hC
  have hts := hB.1.1.at args
  exact xb_zret hx hb hr hlocks (show k ≤ MC by omega) (show n ≤ MS by omega) hw.1 hE hR hS (xb_d D_Format_holds 64 rfl) hw.2

set_option maxHeartbeats 4000000 in
set_option maxRecDepth 100000 in
theorem am_Format_holds_L135 (l : Launch) (hfl : l.flags = pinnedFlags ++ [noTraceFlag]) (D : va_G) (A : Nat → Prop) (σ MC MS : Nat) (h0 : xb_H) (Qr : Int32 → xb_H → Prop) (y0 : Int32) (h : xb_H) (hw : w_Format_holds_L135 Qr y0 h) : xb_am l D A σ 4 MC MS h0 (fun v h => ∃ r, v = some (.int r) ∧ Qr r h) (fun _ _ => False) y_Format_holds.cls y_Format_holds.name b_Format_holds 10 ([] : List ExceptionTableEntry) (some .boolean) 135 [] [.int y0] h 0 0 := by
  unfold w_Format_holds_L135 at hw
  intro p e s m args below meth c hC H locs ls k n hE hl hR hS hk hn
  obtain ⟨hx, hb, hown, hlocks, htab, hml, hr, hB, hA, hnm⟩ := id hC
  have hts := hB.1.1.at args
  exact xb_zret hx hb hr hlocks (show k ≤ MC by omega) (show n ≤ MS by omega) hw.1 hE hR hS (xb_d D_Format_holds 56 rfl) hw.2

set_option maxHeartbeats 4000000 in
set_option maxRecDepth 100000 in
theorem am_Format_holds_L121 (l : Launch) (hfl : l.flags = pinnedFlags ++ [noTraceFlag]) (D : va_G) (A : Nat → Prop) (σ MC MS : Nat) (h0 : xb_H) (Qr : Int32 → xb_H → Prop) (y0 : Int32) (h : xb_H) (hw : w_Format_holds_L121 Qr y0 h) : xb_am l D A σ 4 MC MS h0 (fun v h => ∃ r, v = some (.int r) ∧ Qr r h) (fun _ _ => False) y_Format_holds.cls y_Format_holds.name b_Format_holds 10 ([] : List ExceptionTableEntry) (some .boolean) 121 [] [.int y0] h 0 0 := by
  unfold w_Format_holds_L121 at hw
  intro p e s m args below meth c hC H locs ls k n hE hl hR hS hk hn
  obtain ⟨hx, hb, hown, hlocks, htab, hml, hr, hB, hA, hnm⟩ := id hC
  have hts := hB.1.1.at args
  exact xb_zret hx hb hr hlocks (show k ≤ MC by omega) (show n ≤ MS by omega) hw.1 hE hR hS (xb_d D_Format_holds 48 rfl) hw.2

set_option maxHeartbeats 4000000 in
set_option maxRecDepth 100000 in
theorem am_Format_holds_L107 (l : Launch) (hfl : l.flags = pinnedFlags ++ [noTraceFlag]) (D : va_G) (A : Nat → Prop) (σ MC MS : Nat) (h0 : xb_H) (Qr : Int32 → xb_H → Prop) (y0 : Int32) (h : xb_H) (hw : w_Format_holds_L107 Qr y0 h) : xb_am l D A σ 4 MC MS h0 (fun v h => ∃ r, v = some (.int r) ∧ Qr r h) (fun _ _ => False) y_Format_holds.cls y_Format_holds.name b_Format_holds 10 ([] : List ExceptionTableEntry) (some .boolean) 107 [] [.int y0] h 0 0 := by
  unfold w_Format_holds_L107 at hw
  intro p e s m args below meth c hC H locs ls k n hE hl hR hS hk hn
  obtain ⟨hx, hb, hown, hlocks, htab, hml, hr, hB, hA, hnm⟩ := id hC
  have hts := hB.1.1.at args
  exact xb_zret hx hb hr hlocks (show k ≤ MC by omega) (show n ≤ MS by omega) hw.1 hE hR hS (xb_d D_Format_holds 40 rfl) hw.2

set_option maxHeartbeats 4000000 in
set_option maxRecDepth 100000 in
theorem am_Format_holds_L93 (l : Launch) (hfl : l.flags = pinnedFlags ++ [noTraceFlag]) (D : va_G) (A : Nat → Prop) (σ MC MS : Nat) (h0 : xb_H) (Qr : Int32 → xb_H → Prop) (y0 : Int32) (h : xb_H) (hw : w_Format_holds_L93 Qr y0 h) : xb_am l D A σ 4 MC MS h0 (fun v h => ∃ r, v = some (.int r) ∧ Qr r h) (fun _ _ => False) y_Format_holds.cls y_Format_holds.name b_Format_holds 10 ([] : List ExceptionTableEntry) (some .boolean) 93 [] [.int y0] h 0 0 := by
  unfold w_Format_holds_L93 at hw
  intro p e s m args below meth c hC H locs ls k n hE hl hR hS hk hn
  obtain ⟨hx, hb, hown, hlocks, htab, hml, hr, hB, hA, hnm⟩ := id hC
  have hts := hB.1.1.at args
  exact xb_zret hx hb hr hlocks (show k ≤ MC by omega) (show n ≤ MS by omega) hw.1 hE hR hS (xb_d D_Format_holds 32 rfl) hw.2

set_option maxHeartbeats 4000000 in
set_option maxRecDepth 100000 in
theorem am_Format_holds_L27 (l : Launch) (hfl : l.flags = pinnedFlags ++ [noTraceFlag]) (D : va_G) (A : Nat → Prop) (σ MC MS : Nat) (h0 : xb_H) (Qr : Int32 → xb_H → Prop) (y0 : Int32) (h : xb_H) (hw : w_Format_holds_L27 Qr y0 h) : xb_am l D A σ 4 MC MS h0 (fun v h => ∃ r, v = some (.int r) ∧ Qr r h) (fun _ _ => False) y_Format_holds.cls y_Format_holds.name b_Format_holds 10 ([] : List ExceptionTableEntry) (some .boolean) 27 [] [.int y0] h 0 0 := by
  unfold w_Format_holds_L27 at hw
  intro p e s m args below meth c hC H locs ls k n hE hl hR hS hk hn
  obtain ⟨hx, hb, hown, hlocks, htab, hml, hr, hB, hA, hnm⟩ := id hC
  have hts := hB.1.1.at args
  exact xb_zret hx hb hr hlocks (show k ≤ MC by omega) (show n ≤ MS by omega) hw.1 hE hR hS (xb_d D_Format_holds 14 rfl) hw.2

set_option maxHeartbeats 4000000 in
set_option maxRecDepth 100000 in
theorem am_Format_holds_L17 (l : Launch) (hfl : l.flags = pinnedFlags ++ [noTraceFlag]) (D : va_G) (A : Nat → Prop) (σ MC MS : Nat) (h0 : xb_H) (Qr : Int32 → xb_H → Prop) (x1 : Int32) (h : xb_H) (hw : w_Format_holds_L17 Qr x1 h) : xb_am l D A σ 4 MC MS h0 (fun v h => ∃ r, v = some (.int r) ∧ Qr r h) (fun _ _ => False) y_Format_holds.cls y_Format_holds.name b_Format_holds 10 ([] : List ExceptionTableEntry) (some .boolean) 17 [(1, .int x1)] [] h 0 0 := by
  unfold w_Format_holds_L17 at hw
  intro p e s m args below meth c hC H locs ls k n hE hl hR hS hk hn
  obtain ⟨hx, hb, hown, hlocks, htab, hml, hr, hB, hA, hnm⟩ := id hC
  have hts := hB.1.1.at args
  refine lv_iload_n hx hb (xb_d D_Format_holds 8 rfl) rfl (lv_at hl 0 rfl) ?_
  refine lv_iconst (v := 1) hx hb (xb_d D_Format_holds 9 rfl) (by decide) ?_
  refine lv_icmp_ne (tgt := 26) hx hb (xb_d D_Format_holds 10 rfl) rfl (fun hc1 => ?_) (fun hc1 => ?_)
  · have hw := hw.1 hc1
    refine lv_iconst (v := 0) hx hb (xb_d D_Format_holds 13 rfl) (by decide) ?_
    exact am_Format_holds_L27 l hfl D A σ MC MS h0 Qr 0 h hw p e s m args below meth c hC H locs ls k n hE (lv_sub hl [] rfl) hR hS (by omega) (by omega)
  · have hw := hw.2 hc1
    refine lv_iconst (v := 1) hx hb (xb_d D_Format_holds 11 rfl) (by decide) ?_
    refine lv_goto (tgt := 27) hx hb (xb_d D_Format_holds 12 rfl) rfl ?_
    exact am_Format_holds_L27 l hfl D A σ MC MS h0 Qr 1 h hw p e s m args below meth c hC H locs ls k n hE (lv_sub hl [] rfl) hR hS (by omega) (by omega)

set_option maxHeartbeats 4000000 in
set_option maxRecDepth 100000 in
theorem ok_Format_holds (l : Launch) (hfl : l.flags = pinnedFlags ++ [noTraceFlag]) (D : va_G) (A : Nat → Prop) (σ : Nat) (x0 : Nat) (x1 : Int32) (x2 : Int64) (x4 : Int64) (h : xb_H) (Qr : Int32 → xb_H → Prop) (hw : w_Format_holds x0 x1 x2 x4 h Qr) : xt_Met l y_Format_holds [.code y_Format_holds b_Format_holds 10 (some .boolean)] (xb_rm 4 0 0) (xb_Pc D A σ h [.ref x0, .int x1, .long x2, .long x4]) (xb_Qc D A h (fun v h => ∃ r, v = some (.int r) ∧ Qr r h) (fun _ _ => False)) 0 0 A := by
  refine xb_ofAm (cc := b_Format_holds) (by decide) (Nat.le_of_ble_eq_true rfl) ?_
  unfold w_Format_holds at hw
  show xb_am l D A σ 4 0 0 h (fun v h => ∃ r, v = some (.int r) ∧ Qr r h) (fun _ _ => False) y_Format_holds.cls y_Format_holds.name b_Format_holds 10 ([] : List ExceptionTableEntry) (some .boolean) 0 [(0, .ref x0), (1, .int x1), (2, .long x2), (4, .long x4)] [] h 0 0
  obtain ⟨MC, hMC⟩ : ∃ x, x = 0 := ⟨_, rfl⟩
  obtain ⟨MS, hMS⟩ : ∃ x, x = 0 := ⟨_, rfl⟩
  rw [show xb_am l D A σ 4 0 0 = xb_am l D A σ 4 MC MS by rw [hMC, hMS]]
  obtain ⟨h0, hh0⟩ : ∃ x, x = h := ⟨_, rfl⟩
  rw [show xb_am l D A σ 4 MC MS h = xb_am l D A σ 4 MC MS h0 by rw [hh0]]
  intro p e s m args below meth c hC H locs ls k n hE hl hR hS hk hn
  obtain ⟨hx, hb, hown, hlocks, htab, hml, hr, hB, hA, hnm⟩ := id hC
  have hts := hB.1.1.at args
  refine lv_aload_n hx hb (xb_d D_Format_holds 0 rfl) rfl (lv_at hl 0 rfl) ?_
  refine lv_lload_n hx hb (xb_d D_Format_holds 1 rfl) rfl (lv_at hl 2 rfl) ?_
  obtain ⟨hk1, hw⟩ := hw
  refine xb_call (D := D) (A := A) (σ := σ) (h := h) (d := 2) (mc := 0) (ms := 0) (maxL := 3) (rest := []) (av := [.ref x0, .long x2]) (fun T hT X => by obtain ⟨cb, r1, r2, r3⟩ := xb_recv (ci := 5) hR rfl hk1 (by decide); exact xt_invV X hx hown (hts _ m_e7d6b62e) (hts _ m_28f89ecd) (hts _ m_79f90d13) (xt_sigOf (hts _ m_2f81ed74)) nm_Format_isNan (by rw [hT]; exact r1) r2 r3 (g := F0 m 2 ls [.long x2, .ref x0]) rfl (argsL := [.long x2]) (rest := []) rfl rfl (by rw [hb]; exact (xb_d D_Format_holds 2 rfl))) (ok_Format_isNan l hfl D A σ x0 x2 h _ hw) (hml.trans hl.1.symm) (by rw [hb]; exact (xb_d D_Format_holds 2 rfl)) (Nat.le_of_ble_eq_true rfl) (Nat.le_of_ble_eq_true rfl) (Nat.le_of_ble_eq_true rfl) (show k + 0 ≤ MC by omega) (show n + 0 ≤ MS by omega) (xt_w1 hB.1 m_2f81ed74) (xt_cdOf hB.1 m_2f81ed74) (hts _ m_64857de5) hB hR hS hA (fun vv h2 H locs hq hEh2 hR hS => ?_) (fun XX ax h2 H locs hq hEh2 hex hR hS => ?_)
  · obtain ⟨r3, rfl, hw⟩ := hq
    have hw := hw hEh2
    have hE := hE.tr hEh2
    refine W.eq (g2 := F0 m 5 ls [.int r3]) rfl ?_
    refine lv_if_ne (tgt := 17) hx hb (xb_d D_Format_holds 3 rfl) rfl (fun hc4 => ?_) (fun hc4 => ?_)
    · have hw := hw.1 hc4
      exact am_Format_holds_L17 l hfl D A σ MC MS h0 Qr x1 h2 hw p e s m args below meth c hC H locs ls k n hE (lv_sub hl [1] rfl) hR hS (by omega) (by omega)
    · have hw := hw.2 hc4
      refine lv_aload_n hx hb (xb_d D_Format_holds 4 rfl) rfl (lv_at hl 0 rfl) ?_
      refine lv_lload hx hb (xb_d D_Format_holds 5 rfl) (lv_at hl 3 rfl) ?_
      have hk1 : xb_k h2 x0 = 6 := hEh2.k hk1
      refine xb_call (D := D) (A := A) (σ := σ) (h := h2) (d := 2) (mc := 0) (ms := 0) (maxL := 3) (rest := []) (av := [.ref x0, .long x4]) (fun T hT X => by obtain ⟨cb, r1, r2, r3⟩ := xb_recv (ci := 5) hR rfl hk1 (by decide); exact xt_invV X hx hown (hts _ m_e7d6b62e) (hts _ m_28f89ecd) (hts _ m_79f90d13) (xt_sigOf (hts _ m_2f81ed74)) nm_Format_isNan (by rw [hT]; exact r1) r2 r3 (g := F0 m 11 ls [.long x4, .ref x0]) rfl (argsL := [.long x4]) (rest := []) rfl rfl (by rw [hb]; exact (xb_d D_Format_holds 6 rfl))) (ok_Format_isNan l hfl D A σ x0 x4 h2 _ hw) (hml.trans hl.1.symm) (by rw [hb]; exact (xb_d D_Format_holds 6 rfl)) (Nat.le_of_ble_eq_true rfl) (Nat.le_of_ble_eq_true rfl) (Nat.le_of_ble_eq_true rfl) (show k + 0 ≤ MC by omega) (show n + 0 ≤ MS by omega) (xt_w1 hB.1 m_2f81ed74) (xt_cdOf hB.1 m_2f81ed74) (hts _ m_64857de5) hB hR hS hA (fun vv h5 H locs hq hEh5 hR hS => ?_) (fun XX ax h5 H locs hq hEh5 hex hR hS => ?_)
      · obtain ⟨r6, rfl, hw⟩ := hq
        have hw := hw hEh5
        have hE := hE.tr hEh5
        refine W.eq (g2 := F0 m 14 ls [.int r6]) rfl ?_
        refine lv_if_eq (tgt := 28) hx hb (xb_d D_Format_holds 7 rfl) rfl (fun hc7 => ?_) (fun hc7 => ?_)
        · have hw := hw.1 hc7
          refine lv_aload_n hx hb (xb_d D_Format_holds 15 rfl) rfl (lv_at hl 0 rfl) ?_
          refine lv_lload_n hx hb (xb_d D_Format_holds 16 rfl) rfl (lv_at hl 2 rfl) ?_
          have hk1 : xb_k h5 x0 = 6 := hEh5.k hk1
          refine xb_call (D := D) (A := A) (σ := σ) (h := h5) (d := 3) (mc := 0) (ms := 0) (maxL := 3) (rest := []) (av := [.ref x0, .long x2]) (fun T hT X => by obtain ⟨cb, r1, r2, r3⟩ := xb_recv (ci := 5) hR rfl hk1 (by decide); exact xt_invV X hx hown (hts _ m_a5ad9417) (hts _ m_98331b4c) (hts _ m_04c4d5ab) (xt_sigOf (hts _ m_97b0f5b8)) nm_Format_ordered (by rw [hT]; exact r1) r2 r3 (g := F0 m 30 ls [.long x2, .ref x0]) rfl (argsL := [.long x2]) (rest := []) rfl rfl (by rw [hb]; exact (xb_d D_Format_holds 17 rfl))) (ok_Format_ordered l hfl D A σ x0 x2 h5 _ hw) (hml.trans hl.1.symm) (by rw [hb]; exact (xb_d D_Format_holds 17 rfl)) (Nat.le_of_ble_eq_true rfl) (Nat.le_of_ble_eq_true rfl) (Nat.le_of_ble_eq_true rfl) (show k + 0 ≤ MC by omega) (show n + 0 ≤ MS by omega) (xt_w1 hB.1 m_97b0f5b8) (xt_cdOf hB.1 m_97b0f5b8) (hts _ m_64857de5) hB hR hS hA (fun vv h8 H locs hq hEh8 hR hS => ?_) (fun XX ax h8 H locs hq hEh8 hex hR hS => ?_)
          · obtain ⟨r9, rfl, hw⟩ := hq
            have hw := hw hEh8
            have hE := hE.tr hEh8
            refine W.eq (g2 := F0 m 33 ls [.long r9]) rfl ?_
            refine lv_lstore hx hb (xb_d D_Format_holds 18 rfl) hl (by decide) rfl (fun ls hl => ?_)
            have hl : lv_has ls 10 [(6, .long r9), (0, .ref x0), (1, .int x1), (2, .long x2), (4, .long x4)] := hl
            refine lv_aload_n hx hb (xb_d D_Format_holds 19 rfl) rfl (lv_at hl 1 rfl) ?_
            refine lv_lload hx hb (xb_d D_Format_holds 20 rfl) (lv_at hl 4 rfl) ?_
            have hk1 : xb_k h8 x0 = 6 := hEh8.k hk1
            refine xb_call (D := D) (A := A) (σ := σ) (h := h8) (d := 3) (mc := 0) (ms := 0) (maxL := 3) (rest := []) (av := [.ref x0, .long x4]) (fun T hT X => by obtain ⟨cb, r1, r2, r3⟩ := xb_recv (ci := 5) hR rfl hk1 (by decide); exact xt_invV X hx hown (hts _ m_a5ad9417) (hts _ m_98331b4c) (hts _ m_04c4d5ab) (xt_sigOf (hts _ m_97b0f5b8)) nm_Format_ordered (by rw [hT]; exact r1) r2 r3 (g := F0 m 38 ls [.long x4, .ref x0]) rfl (argsL := [.long x4]) (rest := []) rfl rfl (by rw [hb]; exact (xb_d D_Format_holds 21 rfl))) (ok_Format_ordered l hfl D A σ x0 x4 h8 _ hw) (hml.trans hl.1.symm) (by rw [hb]; exact (xb_d D_Format_holds 21 rfl)) (Nat.le_of_ble_eq_true rfl) (Nat.le_of_ble_eq_true rfl) (Nat.le_of_ble_eq_true rfl) (show k + 0 ≤ MC by omega) (show n + 0 ≤ MS by omega) (xt_w1 hB.1 m_97b0f5b8) (xt_cdOf hB.1 m_97b0f5b8) (hts _ m_64857de5) hB hR hS hA (fun vv h10 H locs hq hEh10 hR hS => ?_) (fun XX ax h10 H locs hq hEh10 hex hR hS => ?_)
            · obtain ⟨r11, rfl, hw⟩ := hq
              have hw := hw hEh10
              have hE := hE.tr hEh10
              refine W.eq (g2 := F0 m 41 ls [.long r11]) rfl ?_
              refine lv_lstore hx hb (xb_d D_Format_holds 22 rfl) hl (by decide) rfl (fun ls hl => ?_)
              have hl : lv_has ls 10 [(8, .long r11), (6, .long r9), (0, .ref x0), (1, .int x1), (2, .long x2), (4, .long x4)] := hl
              refine lv_iload_n hx hb (xb_d D_Format_holds 23 rfl) rfl (lv_at hl 3 rfl) ?_
              by_cases hc12 : x1 = 0
              · have hw := hw.1 hc12
                refine xt_numi hc12 ?_
                refine lv_tableIn (off := 36) (tgt := 80) hx hb (xb_d D_Format_holds 24 rfl) (by decide +kernel) (by decide +kernel) (by decide +kernel) (by decide) ?_
                refine lv_lload hx hb (xb_d D_Format_holds 25 rfl) (lv_at hl 1 rfl) ?_
                refine lv_lload hx hb (xb_d D_Format_holds 26 rfl) (lv_at hl 0 rfl) ?_
                refine xb_lc_ne (tgt := 92) hx hb (xb_d D_Format_holds 27 rfl) (xb_d D_Format_holds 28 rfl) rfl (fun hc13 => ?_) (fun hc13 => ?_)
                · have hw := hw.1 hc13
                  refine lv_iconst (v := 0) hx hb (xb_d D_Format_holds 31 rfl) (by decide) ?_
                  exact am_Format_holds_L93 l hfl D A σ MC MS h0 Qr 0 h10 hw p e s m args below meth c hC H locs ls k n hE (lv_sub hl [] rfl) hR hS (by omega) (by omega)
                · have hw := hw.2 hc13
                  refine lv_iconst (v := 1) hx hb (xb_d D_Format_holds 29 rfl) (by decide) ?_
                  refine lv_goto (tgt := 93) hx hb (xb_d D_Format_holds 30 rfl) rfl ?_
                  exact am_Format_holds_L93 l hfl D A σ MC MS h0 Qr 1 h10 hw p e s m args below meth c hC H locs ls k n hE (lv_sub hl [] rfl) hR hS (by omega) (by omega)
              have hw := hw.2
              by_cases hc14 : x1 = 1
              · have hw := hw.1 hc14
                refine xt_numi hc14 ?_
                refine lv_tableIn (off := 50) (tgt := 94) hx hb (xb_d D_Format_holds 24 rfl) (by decide +kernel) (by decide +kernel) (by decide +kernel) (by decide) ?_
                refine lv_lload hx hb (xb_d D_Format_holds 33 rfl) (lv_at hl 1 rfl) ?_
                refine lv_lload hx hb (xb_d D_Format_holds 34 rfl) (lv_at hl 0 rfl) ?_
                refine xb_lc_eq (tgt := 106) hx hb (xb_d D_Format_holds 35 rfl) (xb_d D_Format_holds 36 rfl) rfl (fun hc15 => ?_) (fun hc15 => ?_)
                · have hw := hw.1 hc15
                  refine lv_iconst (v := 0) hx hb (xb_d D_Format_holds 39 rfl) (by decide) ?_
                  exact am_Format_holds_L107 l hfl D A σ MC MS h0 Qr 0 h10 hw p e s m args below meth c hC H locs ls k n hE (lv_sub hl [] rfl) hR hS (by omega) (by omega)
                · have hw := hw.2 hc15
                  refine lv_iconst (v := 1) hx hb (xb_d D_Format_holds 37 rfl) (by decide) ?_
                  refine lv_goto (tgt := 107) hx hb (xb_d D_Format_holds 38 rfl) rfl ?_
                  exact am_Format_holds_L107 l hfl D A σ MC MS h0 Qr 1 h10 hw p e s m args below meth c hC H locs ls k n hE (lv_sub hl [] rfl) hR hS (by omega) (by omega)
              have hw := hw.2
              by_cases hc16 : x1 = 2
              · have hw := hw.1 hc16
                refine xt_numi hc16 ?_
                refine lv_tableIn (off := 64) (tgt := 108) hx hb (xb_d D_Format_holds 24 rfl) (by decide +kernel) (by decide +kernel) (by decide +kernel) (by decide) ?_
                refine lv_lload hx hb (xb_d D_Format_holds 41 rfl) (lv_at hl 1 rfl) ?_
                refine lv_lload hx hb (xb_d D_Format_holds 42 rfl) (lv_at hl 0 rfl) ?_
                refine xb_lc_ge (tgt := 120) hx hb (xb_d D_Format_holds 43 rfl) (xb_d D_Format_holds 44 rfl) rfl (fun hc17 => ?_) (fun hc17 => ?_)
                · have hw := hw.1 hc17
                  refine lv_iconst (v := 0) hx hb (xb_d D_Format_holds 47 rfl) (by decide) ?_
                  exact am_Format_holds_L121 l hfl D A σ MC MS h0 Qr 0 h10 hw p e s m args below meth c hC H locs ls k n hE (lv_sub hl [] rfl) hR hS (by omega) (by omega)
                · have hw := hw.2 hc17
                  refine lv_iconst (v := 1) hx hb (xb_d D_Format_holds 45 rfl) (by decide) ?_
                  refine lv_goto (tgt := 121) hx hb (xb_d D_Format_holds 46 rfl) rfl ?_
                  exact am_Format_holds_L121 l hfl D A σ MC MS h0 Qr 1 h10 hw p e s m args below meth c hC H locs ls k n hE (lv_sub hl [] rfl) hR hS (by omega) (by omega)
              have hw := hw.2
              by_cases hc18 : x1 = 3
              · have hw := hw.1 hc18
                refine xt_numi hc18 ?_
                refine lv_tableIn (off := 78) (tgt := 122) hx hb (xb_d D_Format_holds 24 rfl) (by decide +kernel) (by decide +kernel) (by decide +kernel) (by decide) ?_
                refine lv_lload hx hb (xb_d D_Format_holds 49 rfl) (lv_at hl 1 rfl) ?_
                refine lv_lload hx hb (xb_d D_Format_holds 50 rfl) (lv_at hl 0 rfl) ?_
                refine xb_lc_le (tgt := 134) hx hb (xb_d D_Format_holds 51 rfl) (xb_d D_Format_holds 52 rfl) rfl (fun hc19 => ?_) (fun hc19 => ?_)
                · have hw := hw.1 hc19
                  refine lv_iconst (v := 0) hx hb (xb_d D_Format_holds 55 rfl) (by decide) ?_
                  exact am_Format_holds_L135 l hfl D A σ MC MS h0 Qr 0 h10 hw p e s m args below meth c hC H locs ls k n hE (lv_sub hl [] rfl) hR hS (by omega) (by omega)
                · have hw := hw.2 hc19
                  refine lv_iconst (v := 1) hx hb (xb_d D_Format_holds 53 rfl) (by decide) ?_
                  refine lv_goto (tgt := 135) hx hb (xb_d D_Format_holds 54 rfl) rfl ?_
                  exact am_Format_holds_L135 l hfl D A σ MC MS h0 Qr 1 h10 hw p e s m args below meth c hC H locs ls k n hE (lv_sub hl [] rfl) hR hS (by omega) (by omega)
              have hw := hw.2
              by_cases hc20 : x1 = 4
              · have hw := hw.1 hc20
                refine xt_numi hc20 ?_
                refine lv_tableIn (off := 92) (tgt := 136) hx hb (xb_d D_Format_holds 24 rfl) (by decide +kernel) (by decide +kernel) (by decide +kernel) (by decide) ?_
                refine lv_lload hx hb (xb_d D_Format_holds 57 rfl) (lv_at hl 1 rfl) ?_
                refine lv_lload hx hb (xb_d D_Format_holds 58 rfl) (lv_at hl 0 rfl) ?_
                refine xb_lc_gt (tgt := 148) hx hb (xb_d D_Format_holds 59 rfl) (xb_d D_Format_holds 60 rfl) rfl (fun hc21 => ?_) (fun hc21 => ?_)
                · have hw := hw.1 hc21
                  refine lv_iconst (v := 0) hx hb (xb_d D_Format_holds 63 rfl) (by decide) ?_
                  exact am_Format_holds_L149 l hfl D A σ MC MS h0 Qr 0 h10 hw p e s m args below meth c hC H locs ls k n hE (lv_sub hl [] rfl) hR hS (by omega) (by omega)
                · have hw := hw.2 hc21
                  refine lv_iconst (v := 1) hx hb (xb_d D_Format_holds 61 rfl) (by decide) ?_
                  refine lv_goto (tgt := 149) hx hb (xb_d D_Format_holds 62 rfl) rfl ?_
                  exact am_Format_holds_L149 l hfl D A σ MC MS h0 Qr 1 h10 hw p e s m args below meth c hC H locs ls k n hE (lv_sub hl [] rfl) hR hS (by omega) (by omega)
              have hw := hw.2
              have hw := hw hc12 hc14 hc16 hc18 hc20
              refine lv_tableOut (tgt := 150) hx hb (xb_d D_Format_holds 24 rfl) (by have a0 := xb_nl (0) 0 (by decide) hc12; have a1 := xb_nl (1) 1 (by decide) hc14; have a2 := xb_nl (2) 2 (by decide) hc16; have a3 := xb_nl (3) 3 (by decide) hc18; have a4 := xb_nl (4) 4 (by decide) hc20; omega) (by decide) ?_
              refine lv_lload hx hb (xb_d D_Format_holds 65 rfl) (lv_at hl 1 rfl) ?_
              refine lv_lload hx hb (xb_d D_Format_holds 66 rfl) (lv_at hl 0 rfl) ?_
              refine xb_lc_lt (tgt := 162) hx hb (xb_d D_Format_holds 67 rfl) (xb_d D_Format_holds 68 rfl) rfl (fun hc22 => ?_) (fun hc22 => ?_)
              · have hw := hw.1 hc22
                refine lv_iconst (v := 0) hx hb (xb_d D_Format_holds 71 rfl) (by decide) ?_
                exact am_Format_holds_L163 l hfl D A σ MC MS h0 Qr 0 h10 hw p e s m args below meth c hC H locs ls k n hE (lv_sub hl [] rfl) hR hS (by omega) (by omega)
              · have hw := hw.2 hc22
                refine lv_iconst (v := 1) hx hb (xb_d D_Format_holds 69 rfl) (by decide) ?_
                refine lv_goto (tgt := 163) hx hb (xb_d D_Format_holds 70 rfl) rfl ?_
                exact am_Format_holds_L163 l hfl D A σ MC MS h0 Qr 1 h10 hw p e s m args below meth c hC H locs ls k n hE (lv_sub hl [] rfl) hR hS (by omega) (by omega)
            · exact False.elim hq
          · exact False.elim hq
        · have hw := hw.2 hc7
          exact am_Format_holds_L17 l hfl D A σ MC MS h0 Qr x1 h5 hw p e s m args below meth c hC H locs ls k n hE (lv_sub hl [1] rfl) hR hS (by omega) (by omega)
      · exact False.elim hq
  · exact False.elim hq

set_option maxRecDepth 100000 in
def T_Format_lesser : List (Nat × Instr × Nat) := [(0, .aload_n 0, 1), (1, .lload_n 1, 1), (2, .invokevirtual 46, 3), (5, .aload_n 0, 1), (6, .lload_n 3, 1), (7, .invokevirtual 46, 3), (10, .lcmp, 1), (11, .ifCond .ne 7, 3), (14, .lload_n 1, 1), (15, .lload_n 3, 1), (16, .lor, 1), (17, .lreturn, 1), (18, .aload_n 0, 1), (19, .lload_n 1, 1), (20, .invokevirtual 46, 3), (23, .aload_n 0, 1), (24, .lload_n 3, 1), (25, .invokevirtual 46, 3), (28, .lcmp, 1), (29, .ifCond .ge 7, 3), (32, .lload_n 1, 1), (33, .goto 4, 3), (36, .lload_n 3, 1), (37, .lreturn, 1)]
theorem D_Format_lesser : ∀ q ∈ T_Format_lesser, decode b_Format_lesser q.1 = .ok (q.2.1, q.2.2) := by decide +kernel
def w_Format_lesser_L37 (Qr : Int64 → xb_H → Prop) (y0 : Int64) (h : xb_H) : Prop :=
    Qr y0 h

def w_Format_lesser (x0 : Nat) (x1 : Int64) (x3 : Int64) (h : xb_H) (Qr : Int64 → xb_H → Prop) : Prop :=
    xb_k h x0 = 6 ∧ w_Format_ordered x0 x1 h (fun (r3 : Int64) (h2 : xb_H) => xb_ext h h2 → w_Format_ordered x0 x3 h2 (fun (r5 : Int64) (h4 : xb_H) => xb_ext h2 h4 → ((¬ r3 = r5 → w_Format_ordered x0 x1 h4 (fun (r8 : Int64) (h7 : xb_H) => xb_ext h4 h7 → w_Format_ordered x0 x3 h7 (fun (r10 : Int64) (h9 : xb_H) => xb_ext h7 h9 → ((r10 ≤ r8 → w_Format_lesser_L37 Qr x3 h9) ∧ (¬ r10 ≤ r8 → w_Format_lesser_L37 Qr x1 h9))))) ∧ (r3 = r5 → Qr (x1 ||| x3) h4))))

set_option maxHeartbeats 4000000 in
set_option maxRecDepth 100000 in
theorem am_Format_lesser_L37 (l : Launch) (hfl : l.flags = pinnedFlags ++ [noTraceFlag]) (D : va_G) (A : Nat → Prop) (σ MC MS : Nat) (h0 : xb_H) (Qr : Int64 → xb_H → Prop) (y0 : Int64) (h : xb_H) (hw : w_Format_lesser_L37 Qr y0 h) : xb_am l D A σ 4 MC MS h0 (fun v h => ∃ r, v = some (.long r) ∧ Qr r h) (fun _ _ => False) y_Format_lesser.cls y_Format_lesser.name b_Format_lesser 5 ([] : List ExceptionTableEntry) (some .long) 37 [] [.long y0] h 0 0 := by
  unfold w_Format_lesser_L37 at hw
  intro p e s m args below meth c hC H locs ls k n hE hl hR hS hk hn
  obtain ⟨hx, hb, hown, hlocks, htab, hml, hr, hB, hA, hnm⟩ := id hC
  have hts := hB.1.1.at args
  exact xb_lret hx hb hr hlocks (show k ≤ MC by omega) (show n ≤ MS by omega) hE hR hS (xb_d D_Format_lesser 23 rfl) hw

set_option maxHeartbeats 4000000 in
set_option maxRecDepth 100000 in
theorem ok_Format_lesser (l : Launch) (hfl : l.flags = pinnedFlags ++ [noTraceFlag]) (D : va_G) (A : Nat → Prop) (σ : Nat) (x0 : Nat) (x1 : Int64) (x3 : Int64) (h : xb_H) (Qr : Int64 → xb_H → Prop) (hw : w_Format_lesser x0 x1 x3 h Qr) : xt_Met l y_Format_lesser [.code y_Format_lesser b_Format_lesser 5 (some .long)] (xb_rm 4 0 0) (xb_Pc D A σ h [.ref x0, .long x1, .long x3]) (xb_Qc D A h (fun v h => ∃ r, v = some (.long r) ∧ Qr r h) (fun _ _ => False)) 0 0 A := by
  refine xb_ofAm (cc := b_Format_lesser) (by decide) (Nat.le_of_ble_eq_true rfl) ?_
  unfold w_Format_lesser at hw
  show xb_am l D A σ 4 0 0 h (fun v h => ∃ r, v = some (.long r) ∧ Qr r h) (fun _ _ => False) y_Format_lesser.cls y_Format_lesser.name b_Format_lesser 5 ([] : List ExceptionTableEntry) (some .long) 0 [(0, .ref x0), (1, .long x1), (3, .long x3)] [] h 0 0
  obtain ⟨MC, hMC⟩ : ∃ x, x = 0 := ⟨_, rfl⟩
  obtain ⟨MS, hMS⟩ : ∃ x, x = 0 := ⟨_, rfl⟩
  rw [show xb_am l D A σ 4 0 0 = xb_am l D A σ 4 MC MS by rw [hMC, hMS]]
  obtain ⟨h0, hh0⟩ : ∃ x, x = h := ⟨_, rfl⟩
  rw [show xb_am l D A σ 4 MC MS h = xb_am l D A σ 4 MC MS h0 by rw [hh0]]
  intro p e s m args below meth c hC H locs ls k n hE hl hR hS hk hn
  obtain ⟨hx, hb, hown, hlocks, htab, hml, hr, hB, hA, hnm⟩ := id hC
  have hts := hB.1.1.at args
  refine lv_aload_n hx hb (xb_d D_Format_lesser 0 rfl) rfl (lv_at hl 0 rfl) ?_
  refine lv_lload_n hx hb (xb_d D_Format_lesser 1 rfl) rfl (lv_at hl 1 rfl) ?_
  obtain ⟨hk1, hw⟩ := hw
  refine xb_call (D := D) (A := A) (σ := σ) (h := h) (d := 3) (mc := 0) (ms := 0) (maxL := 3) (rest := []) (av := [.ref x0, .long x1]) (fun T hT X => by obtain ⟨cb, r1, r2, r3⟩ := xb_recv (ci := 5) hR rfl hk1 (by decide); exact xt_invV X hx hown (hts _ m_a5ad9417) (hts _ m_98331b4c) (hts _ m_04c4d5ab) (xt_sigOf (hts _ m_97b0f5b8)) nm_Format_ordered (by rw [hT]; exact r1) r2 r3 (g := F0 m 2 ls [.long x1, .ref x0]) rfl (argsL := [.long x1]) (rest := []) rfl rfl (by rw [hb]; exact (xb_d D_Format_lesser 2 rfl))) (ok_Format_ordered l hfl D A σ x0 x1 h _ hw) (hml.trans hl.1.symm) (by rw [hb]; exact (xb_d D_Format_lesser 2 rfl)) (Nat.le_of_ble_eq_true rfl) (Nat.le_of_ble_eq_true rfl) (Nat.le_of_ble_eq_true rfl) (show k + 0 ≤ MC by omega) (show n + 0 ≤ MS by omega) (xt_w1 hB.1 m_97b0f5b8) (xt_cdOf hB.1 m_97b0f5b8) (hts _ m_64857de5) hB hR hS hA (fun vv h2 H locs hq hEh2 hR hS => ?_) (fun XX ax h2 H locs hq hEh2 hex hR hS => ?_)
  · obtain ⟨r3, rfl, hw⟩ := hq
    have hw := hw hEh2
    have hE := hE.tr hEh2
    refine W.eq (g2 := F0 m 5 ls [.long r3]) rfl ?_
    refine lv_aload_n hx hb (xb_d D_Format_lesser 3 rfl) rfl (lv_at hl 0 rfl) ?_
    refine lv_lload_n hx hb (xb_d D_Format_lesser 4 rfl) rfl (lv_at hl 2 rfl) ?_
    have hk1 : xb_k h2 x0 = 6 := hEh2.k hk1
    refine xb_call (D := D) (A := A) (σ := σ) (h := h2) (d := 3) (mc := 0) (ms := 0) (maxL := 3) (rest := [.long r3]) (av := [.ref x0, .long x3]) (fun T hT X => by obtain ⟨cb, r1, r2, r3⟩ := xb_recv (ci := 5) hR rfl hk1 (by decide); exact xt_invV X hx hown (hts _ m_a5ad9417) (hts _ m_98331b4c) (hts _ m_04c4d5ab) (xt_sigOf (hts _ m_97b0f5b8)) nm_Format_ordered (by rw [hT]; exact r1) r2 r3 (g := F0 m 7 ls [.long x3, .ref x0, .long r3]) rfl (argsL := [.long x3]) (rest := [.long r3]) rfl rfl (by rw [hb]; exact (xb_d D_Format_lesser 5 rfl))) (ok_Format_ordered l hfl D A σ x0 x3 h2 _ hw) (hml.trans hl.1.symm) (by rw [hb]; exact (xb_d D_Format_lesser 5 rfl)) (Nat.le_of_ble_eq_true rfl) (Nat.le_of_ble_eq_true rfl) (Nat.le_of_ble_eq_true rfl) (show k + 0 ≤ MC by omega) (show n + 0 ≤ MS by omega) (xt_w1 hB.1 m_97b0f5b8) (xt_cdOf hB.1 m_97b0f5b8) (hts _ m_64857de5) hB hR hS hA (fun vv h4 H locs hq hEh4 hR hS => ?_) (fun XX ax h4 H locs hq hEh4 hex hR hS => ?_)
    · obtain ⟨r5, rfl, hw⟩ := hq
      have hw := hw hEh4
      have hE := hE.tr hEh4
      refine W.eq (g2 := F0 m 10 ls [.long r5, .long r3]) rfl ?_
      refine xb_lc_ne (tgt := 18) hx hb (xb_d D_Format_lesser 6 rfl) (xb_d D_Format_lesser 7 rfl) rfl (fun hc6 => ?_) (fun hc6 => ?_)
      · have hw := hw.1 hc6
        refine lv_aload_n hx hb (xb_d D_Format_lesser 12 rfl) rfl (lv_at hl 0 rfl) ?_
        refine lv_lload_n hx hb (xb_d D_Format_lesser 13 rfl) rfl (lv_at hl 1 rfl) ?_
        have hk1 : xb_k h4 x0 = 6 := hEh4.k hk1
        refine xb_call (D := D) (A := A) (σ := σ) (h := h4) (d := 3) (mc := 0) (ms := 0) (maxL := 3) (rest := []) (av := [.ref x0, .long x1]) (fun T hT X => by obtain ⟨cb, r1, r2, r3⟩ := xb_recv (ci := 5) hR rfl hk1 (by decide); exact xt_invV X hx hown (hts _ m_a5ad9417) (hts _ m_98331b4c) (hts _ m_04c4d5ab) (xt_sigOf (hts _ m_97b0f5b8)) nm_Format_ordered (by rw [hT]; exact r1) r2 r3 (g := F0 m 20 ls [.long x1, .ref x0]) rfl (argsL := [.long x1]) (rest := []) rfl rfl (by rw [hb]; exact (xb_d D_Format_lesser 14 rfl))) (ok_Format_ordered l hfl D A σ x0 x1 h4 _ hw) (hml.trans hl.1.symm) (by rw [hb]; exact (xb_d D_Format_lesser 14 rfl)) (Nat.le_of_ble_eq_true rfl) (Nat.le_of_ble_eq_true rfl) (Nat.le_of_ble_eq_true rfl) (show k + 0 ≤ MC by omega) (show n + 0 ≤ MS by omega) (xt_w1 hB.1 m_97b0f5b8) (xt_cdOf hB.1 m_97b0f5b8) (hts _ m_64857de5) hB hR hS hA (fun vv h7 H locs hq hEh7 hR hS => ?_) (fun XX ax h7 H locs hq hEh7 hex hR hS => ?_)
        · obtain ⟨r8, rfl, hw⟩ := hq
          have hw := hw hEh7
          have hE := hE.tr hEh7
          refine W.eq (g2 := F0 m 23 ls [.long r8]) rfl ?_
          refine lv_aload_n hx hb (xb_d D_Format_lesser 15 rfl) rfl (lv_at hl 0 rfl) ?_
          refine lv_lload_n hx hb (xb_d D_Format_lesser 16 rfl) rfl (lv_at hl 2 rfl) ?_
          have hk1 : xb_k h7 x0 = 6 := hEh7.k hk1
          refine xb_call (D := D) (A := A) (σ := σ) (h := h7) (d := 3) (mc := 0) (ms := 0) (maxL := 3) (rest := [.long r8]) (av := [.ref x0, .long x3]) (fun T hT X => by obtain ⟨cb, r1, r2, r3⟩ := xb_recv (ci := 5) hR rfl hk1 (by decide); exact xt_invV X hx hown (hts _ m_a5ad9417) (hts _ m_98331b4c) (hts _ m_04c4d5ab) (xt_sigOf (hts _ m_97b0f5b8)) nm_Format_ordered (by rw [hT]; exact r1) r2 r3 (g := F0 m 25 ls [.long x3, .ref x0, .long r8]) rfl (argsL := [.long x3]) (rest := [.long r8]) rfl rfl (by rw [hb]; exact (xb_d D_Format_lesser 17 rfl))) (ok_Format_ordered l hfl D A σ x0 x3 h7 _ hw) (hml.trans hl.1.symm) (by rw [hb]; exact (xb_d D_Format_lesser 17 rfl)) (Nat.le_of_ble_eq_true rfl) (Nat.le_of_ble_eq_true rfl) (Nat.le_of_ble_eq_true rfl) (show k + 0 ≤ MC by omega) (show n + 0 ≤ MS by omega) (xt_w1 hB.1 m_97b0f5b8) (xt_cdOf hB.1 m_97b0f5b8) (hts _ m_64857de5) hB hR hS hA (fun vv h9 H locs hq hEh9 hR hS => ?_) (fun XX ax h9 H locs hq hEh9 hex hR hS => ?_)
          · obtain ⟨r10, rfl, hw⟩ := hq
            have hw := hw hEh9
            have hE := hE.tr hEh9
            refine W.eq (g2 := F0 m 28 ls [.long r10, .long r8]) rfl ?_
            refine xb_lc_ge (tgt := 36) hx hb (xb_d D_Format_lesser 18 rfl) (xb_d D_Format_lesser 19 rfl) rfl (fun hc11 => ?_) (fun hc11 => ?_)
            · have hw := hw.1 hc11
              refine lv_lload_n hx hb (xb_d D_Format_lesser 22 rfl) rfl (lv_at hl 2 rfl) ?_
              exact am_Format_lesser_L37 l hfl D A σ MC MS h0 Qr x3 h9 hw p e s m args below meth c hC H locs ls k n hE (lv_sub hl [] rfl) hR hS (by omega) (by omega)
            · have hw := hw.2 hc11
              refine lv_lload_n hx hb (xb_d D_Format_lesser 20 rfl) rfl (lv_at hl 1 rfl) ?_
              refine lv_goto (tgt := 37) hx hb (xb_d D_Format_lesser 21 rfl) rfl ?_
              exact am_Format_lesser_L37 l hfl D A σ MC MS h0 Qr x1 h9 hw p e s m args below meth c hC H locs ls k n hE (lv_sub hl [] rfl) hR hS (by omega) (by omega)
          · exact False.elim hq
        · exact False.elim hq
      · have hw := hw.2 hc6
        refine lv_lload_n hx hb (xb_d D_Format_lesser 8 rfl) rfl (lv_at hl 1 rfl) ?_
        refine lv_lload_n hx hb (xb_d D_Format_lesser 9 rfl) rfl (lv_at hl 2 rfl) ?_
        refine lv_lor hx hb (xb_d D_Format_lesser 10 rfl) ?_
        exact xb_lret hx hb hr hlocks (show k ≤ MC by omega) (show n ≤ MS by omega) hE hR hS (xb_d D_Format_lesser 11 rfl) hw
    · exact False.elim hq
  · exact False.elim hq

