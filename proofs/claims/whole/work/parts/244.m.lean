set_option maxRecDepth 100000 in
def T_M_parameterOf : List (Nat × Instr × Nat) := [(0, .iload_n 1, 1), (1, .ldc_w 489, 3), (4, .if_icmp .lt 12, 3), (7, .bipush 127, 2), (9, .iload_n 1, 1), (10, .ldc_w 489, 3), (13, .isub, 1), (14, .isub, 1), (15, .ireturn, 1), (16, .aload_n 0, 1), (17, .getfield 62, 3), (20, .aload_n 0, 1), (21, .getfield 92, 3), (24, .iload_n 1, 1), (25, .iaload, 1), (26, .iaload, 1), (27, .istore_n 3, 1), (28, .aload_n 0, 1), (29, .iload_n 3, 1), (30, .aload_n 0, 1), (31, .iload_n 3, 1), (32, .aload_n 0, 1), (33, .getfield 30, 3), (36, .iconst 4, 1), (37, .iload_n 3, 1), (38, .imul, 1), (39, .iaload, 1), (40, .aload_n 0, 1), (41, .getfield 95, 3), (44, .iload_n 1, 1), (45, .iaload, 1), (46, .iadd, 1), (47, .invokevirtual 369, 3), (50, .iload_n 2, 1), (51, .invokevirtual 339, 3), (54, .ireturn, 1)]
theorem D_M_parameterOf : ∀ q ∈ T_M_parameterOf, decode b_M_parameterOf q.1 = .ok (q.2.1, q.2.2) := by decide +kernel

set_option maxHeartbeats 4000000 in
set_option maxRecDepth 100000 in
theorem ok_M_parameterOf (l : Launch) (hfl : l.flags = pinnedFlags ++ [noTraceFlag]) (D : va_G) (A : Nat → Prop) (σ : Nat) (x0 : Nat) (x1 : Int32) (x2 : Int32) (h : xb_H) (Qr : Int32 → xb_H → Prop) (hw : w_M_parameterOf x0 x1 x2 h Qr) : xb_Met l y_M_parameterOf [.code y_M_parameterOf b_M_parameterOf 4 (some .int)] (xb_rm 9 0 0) (xb_Pc D A σ h [.ref x0, .int x1, .int x2]) (xb_Qc D A h 0 0 (fun v h _ _ => ∃ r, v = some (.int r) ∧ Qr r h) (fun _ _ _ _ => False)) A := by
  refine xb_ofAm (cc := b_M_parameterOf) (by decide) (Nat.le_of_ble_eq_true rfl) ?_
  unfold w_M_parameterOf at hw
  show xb_am l D A σ 9 0 0 h (fun v h _ _ => ∃ r, v = some (.int r) ∧ Qr r h) (fun _ _ _ _ => False) y_M_parameterOf.cls y_M_parameterOf.name b_M_parameterOf 4 ([] : List ExceptionTableEntry) (some .int) 0 [(0, .ref x0), (1, .int x1), (2, .int x2)] [] h 0 0
  obtain ⟨MC, hMC⟩ : ∃ x, x = 0 := ⟨_, rfl⟩
  obtain ⟨MS, hMS⟩ : ∃ x, x = 0 := ⟨_, rfl⟩
  rw [show xb_am l D A σ 9 0 0 = xb_am l D A σ 9 MC MS by rw [hMC, hMS]]
  obtain ⟨h0, hh0⟩ : ∃ x, x = h := ⟨_, rfl⟩
  rw [show xb_am l D A σ 9 MC MS h = xb_am l D A σ 9 MC MS h0 by rw [hh0]]
  intro p e s m args below meth c hC H locs ls k n hE hl hR hS hk hn
  obtain ⟨hx, hb, hown, hlocks, htab, hml, hr, hB, hA, hnm⟩ := id hC
  have hts := hB.1.1.at args
  refine lv_iload_n hx hb (xb_d D_M_parameterOf 0 rfl) rfl (lv_at hl 1 rfl) ?_
  refine lv_ldcw (v := 100000) hx hb hown (hts _ m_0517c3da) (xb_d D_M_parameterOf 1 rfl) ?_
  refine lv_icmp_lt (tgt := 16) hx hb (xb_d D_M_parameterOf 2 rfl) rfl (fun hc1 => ?_) (fun hc1 => ?_)
  · have hw := hw.1 hc1
    refine lv_aload_n hx hb (xb_d D_M_parameterOf 9 rfl) rfl (lv_at hl 0 rfl) ?_
    obtain ⟨hk2, hw⟩ := hw
    refine xb_getP (C := R_M) (T := F_M) (N := 97) hx hb 8 31 hts fin_M hown hR hk2 (by decide) rfl (by decide) rfl (hts _ m_691d5f47) (fun _ h9 => h9) (xb_d D_M_parameterOf 10 rfl) ?_
    obtain ⟨b3, eb3, hw⟩ := hw
    refine xb_some eb3 ?_
    refine lv_aload_n hx hb (xb_d D_M_parameterOf 11 rfl) rfl (lv_at hl 0 rfl) ?_
    refine xb_getP (C := R_M) (T := F_M) (N := 97) hx hb 8 44 hts fin_M hown hR hk2 (by decide) rfl (by decide) rfl (hts _ m_ad0cc5a3) (fun _ h9 => h9) (xb_d D_M_parameterOf 12 rfl) ?_
    obtain ⟨b4, eb4, hw⟩ := hw
    refine xb_some eb4 ?_
    refine lv_iload_n hx hb (xb_d D_M_parameterOf 13 rfl) rfl (lv_at hl 1 rfl) ?_
    obtain ⟨hk6, hw⟩ := hw
    obtain ⟨hi5, hw⟩ := hw
    refine xb_iald hx hb hR hk6 hi5 (xb_d D_M_parameterOf 14 rfl) ?_
    obtain ⟨hk8, hw⟩ := hw
    obtain ⟨hi7, hw⟩ := hw
    refine xb_iald hx hb hR hk8 hi7 (xb_d D_M_parameterOf 15 rfl) ?_
    obtain ⟨v9, ev9⟩ : ∃ x : Int32, x = (xb_i h b3 (Int32.toNatClampNeg (xb_i h b4 (Int32.toNatClampNeg x1)))) := ⟨_, rfl⟩
    have hw := hw v9 ev9
    refine xt_numi (y := v9) ev9.symm ?_
    refine lv_istore_n hx hb (xb_d D_M_parameterOf 16 rfl) rfl hl (by decide) rfl (fun ls hl => ?_)
    have hl : lv_has ls 4 [(3, .int v9), (0, .ref x0), (1, .int x1), (2, .int x2)] := hl
    refine lv_aload_n hx hb (xb_d D_M_parameterOf 17 rfl) rfl (lv_at hl 1 rfl) ?_
    refine lv_iload_n hx hb (xb_d D_M_parameterOf 18 rfl) rfl (lv_at hl 0 rfl) ?_
    refine lv_aload_n hx hb (xb_d D_M_parameterOf 19 rfl) rfl (lv_at hl 1 rfl) ?_
    refine lv_iload_n hx hb (xb_d D_M_parameterOf 20 rfl) rfl (lv_at hl 0 rfl) ?_
    refine lv_aload_n hx hb (xb_d D_M_parameterOf 21 rfl) rfl (lv_at hl 1 rfl) ?_
    refine xb_getP (C := R_M) (T := F_M) (N := 97) hx hb 8 10 hts fin_M hown hR hk2 (by decide) rfl (by decide) rfl (hts _ m_01d0d957) (fun _ h9 => h9) (xb_d D_M_parameterOf 22 rfl) ?_
    obtain ⟨b10, eb10, hw⟩ := hw
    refine xb_some eb10 ?_
    refine lv_iconst (v := 4) hx hb (xb_d D_M_parameterOf 23 rfl) (by decide) ?_
    refine lv_iload_n hx hb (xb_d D_M_parameterOf 24 rfl) rfl (lv_at hl 0 rfl) ?_
    refine lv_imul hx hb (xb_d D_M_parameterOf 25 rfl) ?_
    obtain ⟨hk12, hw⟩ := hw
    obtain ⟨hi11, hw⟩ := hw
    refine xb_iald hx hb hR hk12 hi11 (xb_d D_M_parameterOf 26 rfl) ?_
    refine lv_aload_n hx hb (xb_d D_M_parameterOf 27 rfl) rfl (lv_at hl 1 rfl) ?_
    refine xb_getP (C := R_M) (T := F_M) (N := 97) hx hb 8 45 hts fin_M hown hR hk2 (by decide) rfl (by decide) rfl (hts _ m_4c98e665) (fun _ h9 => h9) (xb_d D_M_parameterOf 28 rfl) ?_
    obtain ⟨b13, eb13, hw⟩ := hw
    refine xb_some eb13 ?_
    refine lv_iload_n hx hb (xb_d D_M_parameterOf 29 rfl) rfl (lv_at hl 2 rfl) ?_
    obtain ⟨hk15, hw⟩ := hw
    obtain ⟨hi14, hw⟩ := hw
    refine xb_iald hx hb hR hk15 hi14 (xb_d D_M_parameterOf 30 rfl) ?_
    refine lv_iadd hx hb (xb_d D_M_parameterOf 31 rfl) ?_
    refine xb_call0 (D := D) (A := A) (σ := σ) (h := h) (d := 8) (maxL := 4) (rest := [.int v9, .ref x0]) (av := [.ref x0, .int v9, .int ((xb_i h b10 (Int32.toNatClampNeg (4 * v9))) + (xb_i h b13 (Int32.toNatClampNeg x1)))]) (fun T hT X => by obtain ⟨cb9, ra9, rb9, rc9⟩ := xb_recv (ci := 8) hR rfl hk2 (by decide); exact xt_invV X hx hown (hts _ m_1d203cc1) (hts _ m_0a0483ac) (hts _ m_42615324) (xt_sigOf (hts _ m_44f87caf)) nm_M_typeOf (by rw [hT]; exact ra9) rb9 rc9 (g := F0 m 47 ls [.int ((xb_i h b10 (Int32.toNatClampNeg (4 * v9))) + (xb_i h b13 (Int32.toNatClampNeg x1))), .int v9, .ref x0, .int v9, .ref x0]) rfl (argsL := [.int v9, .int ((xb_i h b10 (Int32.toNatClampNeg (4 * v9))) + (xb_i h b13 (Int32.toNatClampNeg x1)))]) (rest := [.int v9, .ref x0]) rfl rfl (by rw [hb]; exact (xb_d D_M_parameterOf 32 rfl))) (ok_M_typeOf l hfl D A σ x0 v9 ((xb_i h b10 (Int32.toNatClampNeg (4 * v9))) + (xb_i h b13 (Int32.toNatClampNeg x1))) h _ hw) (hml.trans hl.1.symm) (by rw [hb]; exact (xb_d D_M_parameterOf 32 rfl)) (Nat.le_of_ble_eq_true rfl) (Nat.le_of_ble_eq_true rfl) (Nat.le_of_ble_eq_true rfl) (show k ≤ MC by omega) (show n ≤ MS by omega) (xt_w1 hB.1 m_44f87caf) (xt_cdOf hB.1 m_44f87caf) (hts _ m_d5ed7bed) hB hR hS hA (fun vv h16 H locs hq hEh16 hR hS => ?_)
    obtain ⟨r17, rfl, hw⟩ := hq
    have hw := hw hEh16
    have hE := hE.tr hEh16
    refine W.eq (g2 := F0 m 50 ls [.int r17, .int v9, .ref x0]) rfl ?_
    refine lv_iload_n hx hb (xb_d D_M_parameterOf 33 rfl) rfl (lv_at hl 3 rfl) ?_
    have hk2 : xb_k h16 x0 = 9 := hEh16.k hk2
    refine xb_call0 (D := D) (A := A) (σ := σ) (h := h16) (d := 6) (maxL := 5) (rest := []) (av := [.ref x0, .int v9, .int r17, .int x2]) (fun T hT X => by obtain ⟨cb9, ra9, rb9, rc9⟩ := xb_recv (ci := 8) hR rfl hk2 (by decide); exact xt_invV X hx hown (hts _ m_6138b594) (hts _ m_177929d7) (hts _ m_ef9b6e50) (xt_sigOf (hts _ m_9ea8a027)) nm_M_parameter (by rw [hT]; exact ra9) rb9 rc9 (g := F0 m 51 ls [.int x2, .int r17, .int v9, .ref x0]) rfl (argsL := [.int v9, .int r17, .int x2]) (rest := []) rfl rfl (by rw [hb]; exact (xb_d D_M_parameterOf 34 rfl))) (ok_M_parameter l hfl D A σ x0 v9 r17 x2 h16 _ hw) (hml.trans hl.1.symm) (by rw [hb]; exact (xb_d D_M_parameterOf 34 rfl)) (Nat.le_of_ble_eq_true rfl) (Nat.le_of_ble_eq_true rfl) (Nat.le_of_ble_eq_true rfl) (show k ≤ MC by omega) (show n ≤ MS by omega) (xt_w1 hB.1 m_9ea8a027) (xt_cdOf hB.1 m_9ea8a027) (hts _ m_d5ed7bed) hB hR hS hA (fun vv h18 H locs hq hEh18 hR hS => ?_)
    obtain ⟨r19, rfl, hw⟩ := hq
    have hw := hw hEh18
    have hE := hE.tr hEh18
    refine W.eq (g2 := F0 m 54 ls [.int r19]) rfl ?_
    exact xb_iret 0 0 hx hb hr hlocks (show k + 0 ≤ MC by omega) (show n + 0 ≤ MS by omega) hE hR hS (xb_d D_M_parameterOf 35 rfl) hw
  · have hw := hw.2 hc1
    refine lv_bipush (v := 127) hx hb (xb_d D_M_parameterOf 3 rfl) (by decide) ?_
    refine lv_iload_n hx hb (xb_d D_M_parameterOf 4 rfl) rfl (lv_at hl 1 rfl) ?_
    refine lv_ldcw (v := 100000) hx hb hown (hts _ m_0517c3da) (xb_d D_M_parameterOf 5 rfl) ?_
    refine lv_isub hx hb (xb_d D_M_parameterOf 6 rfl) ?_
    refine lv_isub hx hb (xb_d D_M_parameterOf 7 rfl) ?_
    exact xb_iret 0 0 hx hb hr hlocks (show k + 0 ≤ MC by omega) (show n + 0 ≤ MS by omega) hE hR hS (xb_d D_M_parameterOf 8 rfl) hw

set_option maxRecDepth 100000 in
def T_M_parametersOf : List (Nat × Instr × Nat) := [(0, .iload_n 1, 1), (1, .ldc_w 489, 3), (4, .if_icmp .lt 5, 3), (7, .iconst 1, 1), (8, .ireturn, 1), (9, .aload_n 0, 1), (10, .getfield 62, 3), (13, .aload_n 0, 1), (14, .getfield 92, 3), (17, .iload_n 1, 1), (18, .iaload, 1), (19, .iaload, 1), (20, .istore_n 2, 1), (21, .aload_n 0, 1), (22, .iload_n 2, 1), (23, .aload_n 0, 1), (24, .iload_n 2, 1), (25, .aload_n 0, 1), (26, .getfield 30, 3), (29, .iconst 4, 1), (30, .iload_n 2, 1), (31, .imul, 1), (32, .iaload, 1), (33, .aload_n 0, 1), (34, .getfield 95, 3), (37, .iload_n 1, 1), (38, .iaload, 1), (39, .iadd, 1), (40, .invokevirtual 369, 3), (43, .invokevirtual 333, 3), (46, .ireturn, 1)]
theorem D_M_parametersOf : ∀ q ∈ T_M_parametersOf, decode b_M_parametersOf q.1 = .ok (q.2.1, q.2.2) := by decide +kernel

set_option maxHeartbeats 4000000 in
set_option maxRecDepth 100000 in
theorem ok_M_parametersOf (l : Launch) (hfl : l.flags = pinnedFlags ++ [noTraceFlag]) (D : va_G) (A : Nat → Prop) (σ : Nat) (x0 : Nat) (x1 : Int32) (h : xb_H) (Qr : Int32 → xb_H → Prop) (hw : w_M_parametersOf x0 x1 h Qr) : xb_Met l y_M_parametersOf [.code y_M_parametersOf b_M_parametersOf 3 (some .int)] (xb_rm 9 0 0) (xb_Pc D A σ h [.ref x0, .int x1]) (xb_Qc D A h 0 0 (fun v h _ _ => ∃ r, v = some (.int r) ∧ Qr r h) (fun _ _ _ _ => False)) A := by
  refine xb_ofAm (cc := b_M_parametersOf) (by decide) (Nat.le_of_ble_eq_true rfl) ?_
  unfold w_M_parametersOf at hw
  show xb_am l D A σ 9 0 0 h (fun v h _ _ => ∃ r, v = some (.int r) ∧ Qr r h) (fun _ _ _ _ => False) y_M_parametersOf.cls y_M_parametersOf.name b_M_parametersOf 3 ([] : List ExceptionTableEntry) (some .int) 0 [(0, .ref x0), (1, .int x1)] [] h 0 0
  obtain ⟨MC, hMC⟩ : ∃ x, x = 0 := ⟨_, rfl⟩
  obtain ⟨MS, hMS⟩ : ∃ x, x = 0 := ⟨_, rfl⟩
  rw [show xb_am l D A σ 9 0 0 = xb_am l D A σ 9 MC MS by rw [hMC, hMS]]
  obtain ⟨h0, hh0⟩ : ∃ x, x = h := ⟨_, rfl⟩
  rw [show xb_am l D A σ 9 MC MS h = xb_am l D A σ 9 MC MS h0 by rw [hh0]]
  intro p e s m args below meth c hC H locs ls k n hE hl hR hS hk hn
  obtain ⟨hx, hb, hown, hlocks, htab, hml, hr, hB, hA, hnm⟩ := id hC
  have hts := hB.1.1.at args
  refine lv_iload_n hx hb (xb_d D_M_parametersOf 0 rfl) rfl (lv_at hl 1 rfl) ?_
  refine lv_ldcw (v := 100000) hx hb hown (hts _ m_0517c3da) (xb_d D_M_parametersOf 1 rfl) ?_
  refine lv_icmp_lt (tgt := 9) hx hb (xb_d D_M_parametersOf 2 rfl) rfl (fun hc1 => ?_) (fun hc1 => ?_)
  · have hw := hw.1 hc1
    refine lv_aload_n hx hb (xb_d D_M_parametersOf 5 rfl) rfl (lv_at hl 0 rfl) ?_
    obtain ⟨hk2, hw⟩ := hw
    refine xb_getP (C := R_M) (T := F_M) (N := 97) hx hb 8 31 hts fin_M hown hR hk2 (by decide) rfl (by decide) rfl (hts _ m_691d5f47) (fun _ h9 => h9) (xb_d D_M_parametersOf 6 rfl) ?_
    obtain ⟨b3, eb3, hw⟩ := hw
    refine xb_some eb3 ?_
    refine lv_aload_n hx hb (xb_d D_M_parametersOf 7 rfl) rfl (lv_at hl 0 rfl) ?_
    refine xb_getP (C := R_M) (T := F_M) (N := 97) hx hb 8 44 hts fin_M hown hR hk2 (by decide) rfl (by decide) rfl (hts _ m_ad0cc5a3) (fun _ h9 => h9) (xb_d D_M_parametersOf 8 rfl) ?_
    obtain ⟨b4, eb4, hw⟩ := hw
    refine xb_some eb4 ?_
    refine lv_iload_n hx hb (xb_d D_M_parametersOf 9 rfl) rfl (lv_at hl 1 rfl) ?_
    obtain ⟨hk6, hw⟩ := hw
    obtain ⟨hi5, hw⟩ := hw
    refine xb_iald hx hb hR hk6 hi5 (xb_d D_M_parametersOf 10 rfl) ?_
    obtain ⟨hk8, hw⟩ := hw
    obtain ⟨hi7, hw⟩ := hw
    refine xb_iald hx hb hR hk8 hi7 (xb_d D_M_parametersOf 11 rfl) ?_
    obtain ⟨v9, ev9⟩ : ∃ x : Int32, x = (xb_i h b3 (Int32.toNatClampNeg (xb_i h b4 (Int32.toNatClampNeg x1)))) := ⟨_, rfl⟩
    have hw := hw v9 ev9
    refine xt_numi (y := v9) ev9.symm ?_
    refine lv_istore_n hx hb (xb_d D_M_parametersOf 12 rfl) rfl hl (by decide) rfl (fun ls hl => ?_)
    have hl : lv_has ls 3 [(2, .int v9), (0, .ref x0), (1, .int x1)] := hl
    refine lv_aload_n hx hb (xb_d D_M_parametersOf 13 rfl) rfl (lv_at hl 1 rfl) ?_
    refine lv_iload_n hx hb (xb_d D_M_parametersOf 14 rfl) rfl (lv_at hl 0 rfl) ?_
    refine lv_aload_n hx hb (xb_d D_M_parametersOf 15 rfl) rfl (lv_at hl 1 rfl) ?_
    refine lv_iload_n hx hb (xb_d D_M_parametersOf 16 rfl) rfl (lv_at hl 0 rfl) ?_
    refine lv_aload_n hx hb (xb_d D_M_parametersOf 17 rfl) rfl (lv_at hl 1 rfl) ?_
    refine xb_getP (C := R_M) (T := F_M) (N := 97) hx hb 8 10 hts fin_M hown hR hk2 (by decide) rfl (by decide) rfl (hts _ m_01d0d957) (fun _ h9 => h9) (xb_d D_M_parametersOf 18 rfl) ?_
    obtain ⟨b10, eb10, hw⟩ := hw
    refine xb_some eb10 ?_
    refine lv_iconst (v := 4) hx hb (xb_d D_M_parametersOf 19 rfl) (by decide) ?_
    refine lv_iload_n hx hb (xb_d D_M_parametersOf 20 rfl) rfl (lv_at hl 0 rfl) ?_
    refine lv_imul hx hb (xb_d D_M_parametersOf 21 rfl) ?_
    obtain ⟨hk12, hw⟩ := hw
    obtain ⟨hi11, hw⟩ := hw
    refine xb_iald hx hb hR hk12 hi11 (xb_d D_M_parametersOf 22 rfl) ?_
    refine lv_aload_n hx hb (xb_d D_M_parametersOf 23 rfl) rfl (lv_at hl 1 rfl) ?_
    refine xb_getP (C := R_M) (T := F_M) (N := 97) hx hb 8 45 hts fin_M hown hR hk2 (by decide) rfl (by decide) rfl (hts _ m_4c98e665) (fun _ h9 => h9) (xb_d D_M_parametersOf 24 rfl) ?_
    obtain ⟨b13, eb13, hw⟩ := hw
    refine xb_some eb13 ?_
    refine lv_iload_n hx hb (xb_d D_M_parametersOf 25 rfl) rfl (lv_at hl 2 rfl) ?_
    obtain ⟨hk15, hw⟩ := hw
    obtain ⟨hi14, hw⟩ := hw
    refine xb_iald hx hb hR hk15 hi14 (xb_d D_M_parametersOf 26 rfl) ?_
    refine lv_iadd hx hb (xb_d D_M_parametersOf 27 rfl) ?_
    refine xb_call0 (D := D) (A := A) (σ := σ) (h := h) (d := 8) (maxL := 4) (rest := [.int v9, .ref x0]) (av := [.ref x0, .int v9, .int ((xb_i h b10 (Int32.toNatClampNeg (4 * v9))) + (xb_i h b13 (Int32.toNatClampNeg x1)))]) (fun T hT X => by obtain ⟨cb9, ra9, rb9, rc9⟩ := xb_recv (ci := 8) hR rfl hk2 (by decide); exact xt_invV X hx hown (hts _ m_1d203cc1) (hts _ m_0a0483ac) (hts _ m_42615324) (xt_sigOf (hts _ m_44f87caf)) nm_M_typeOf (by rw [hT]; exact ra9) rb9 rc9 (g := F0 m 40 ls [.int ((xb_i h b10 (Int32.toNatClampNeg (4 * v9))) + (xb_i h b13 (Int32.toNatClampNeg x1))), .int v9, .ref x0, .int v9, .ref x0]) rfl (argsL := [.int v9, .int ((xb_i h b10 (Int32.toNatClampNeg (4 * v9))) + (xb_i h b13 (Int32.toNatClampNeg x1)))]) (rest := [.int v9, .ref x0]) rfl rfl (by rw [hb]; exact (xb_d D_M_parametersOf 28 rfl))) (ok_M_typeOf l hfl D A σ x0 v9 ((xb_i h b10 (Int32.toNatClampNeg (4 * v9))) + (xb_i h b13 (Int32.toNatClampNeg x1))) h _ hw) (hml.trans hl.1.symm) (by rw [hb]; exact (xb_d D_M_parametersOf 28 rfl)) (Nat.le_of_ble_eq_true rfl) (Nat.le_of_ble_eq_true rfl) (Nat.le_of_ble_eq_true rfl) (show k ≤ MC by omega) (show n ≤ MS by omega) (xt_w1 hB.1 m_44f87caf) (xt_cdOf hB.1 m_44f87caf) (hts _ m_d5ed7bed) hB hR hS hA (fun vv h16 H locs hq hEh16 hR hS => ?_)
    obtain ⟨r17, rfl, hw⟩ := hq
    have hw := hw hEh16
    have hE := hE.tr hEh16
    refine W.eq (g2 := F0 m 43 ls [.int r17, .int v9, .ref x0]) rfl ?_
    have hk2 : xb_k h16 x0 = 9 := hEh16.k hk2
    refine xb_call0 (D := D) (A := A) (σ := σ) (h := h16) (d := 5) (maxL := 3) (rest := []) (av := [.ref x0, .int v9, .int r17]) (fun T hT X => by obtain ⟨cb9, ra9, rb9, rc9⟩ := xb_recv (ci := 8) hR rfl hk2 (by decide); exact xt_invV X hx hown (hts _ m_4fd64ef0) (hts _ m_2eb48211) (hts _ m_ff1f4a94) (xt_sigOf (hts _ m_2faa0c5c)) nm_M_parameters (by rw [hT]; exact ra9) rb9 rc9 (g := F0 m 43 ls [.int r17, .int v9, .ref x0]) rfl (argsL := [.int v9, .int r17]) (rest := []) rfl rfl (by rw [hb]; exact (xb_d D_M_parametersOf 29 rfl))) (ok_M_parameters l hfl D A σ x0 v9 r17 h16 _ hw) (hml.trans hl.1.symm) (by rw [hb]; exact (xb_d D_M_parametersOf 29 rfl)) (Nat.le_of_ble_eq_true rfl) (Nat.le_of_ble_eq_true rfl) (Nat.le_of_ble_eq_true rfl) (show k ≤ MC by omega) (show n ≤ MS by omega) (xt_w1 hB.1 m_2faa0c5c) (xt_cdOf hB.1 m_2faa0c5c) (hts _ m_d5ed7bed) hB hR hS hA (fun vv h18 H locs hq hEh18 hR hS => ?_)
    obtain ⟨r19, rfl, hw⟩ := hq
    have hw := hw hEh18
    have hE := hE.tr hEh18
    refine W.eq (g2 := F0 m 46 ls [.int r19]) rfl ?_
    exact xb_iret 0 0 hx hb hr hlocks (show k + 0 ≤ MC by omega) (show n + 0 ≤ MS by omega) hE hR hS (xb_d D_M_parametersOf 30 rfl) hw
  · have hw := hw.2 hc1
    refine lv_iconst (v := 1) hx hb (xb_d D_M_parametersOf 3 rfl) (by decide) ?_
    exact xb_iret 0 0 hx hb hr hlocks (show k + 0 ≤ MC by omega) (show n + 0 ≤ MS by omega) hE hR hS (xb_d D_M_parametersOf 4 rfl) hw

theorem m_bc61b689 : (.methodLink "StackHostModel" 428 y_Exact_first : Cond) ∈ xt_tbl := xt_in (xt_t11 (List.mem_of_getElem? (i := 177) (by decide +kernel))) (by decide +kernel)
theorem m_f3dff0a2 : (.methodLink "StackHostModel" 686 y_Exact_run : Cond) ∈ xt_tbl := xt_in (xt_t12 (List.mem_of_getElem? (i := 193) (by decide +kernel))) (by decide +kernel)
theorem m_8d0e47b1 : (.instanceMethod y_Exact_run : Cond) ∈ xt_tbl := xt_in (xt_t12 (List.mem_of_getElem? (i := 194) (by decide +kernel))) (by decide +kernel)
theorem m_99b1e751 : (.selects "StackHostModel$Exact" y_Exact_run y_Exact_run : Cond) ∈ xt_tbl := xt_in (xt_t12 (List.mem_of_getElem? (i := 195) (by decide +kernel))) (by decide +kernel)
theorem m_a6970958 : (.code y_Exact_run b_Exact_run 12 (some .long) : Cond) ∈ xt_tbl := xt_in (xt_t12 (List.mem_of_getElem? (i := 196) (by decide +kernel))) (by decide +kernel)
theorem m_a2ac8b2d : (.fieldLink "StackHostModel" 690 "StackHostModel$Exact" "code" "I" : Cond) ∈ xt_tbl := xt_in (xt_t9 (List.mem_of_getElem? (i := 105) (by decide +kernel))) (by decide +kernel)
theorem m_c299b093 : (.methodLink "StackHostModel" 430 y_Exact_result : Cond) ∈ xt_tbl := xt_in (xt_t11 (List.mem_of_getElem? (i := 178) (by decide +kernel))) (by decide +kernel)
theorem m_3cb61595 : (.methodLink "StackHostModel" 425 y_Exact_second : Cond) ∈ xt_tbl := xt_in (xt_t11 (List.mem_of_getElem? (i := 161) (by decide +kernel))) (by decide +kernel)
theorem m_cf6a0046 : (.static y_Exact_second : Cond) ∈ xt_tbl := xt_in (xt_t11 (List.mem_of_getElem? (i := 162) (by decide +kernel))) (by decide +kernel)
theorem m_d63ee885 : (.code y_Exact_second b_Exact_second 2 (some .int) : Cond) ∈ xt_tbl := xt_in (xt_t11 (List.mem_of_getElem? (i := 163) (by decide +kernel))) (by decide +kernel)
theorem nm_Exact_run : xt_nm y_Exact_run 3 := ⟨by decide +kernel, by decide +kernel⟩
theorem nm_Exact_second : xt_nm y_Exact_second 1 := ⟨by decide +kernel, by decide +kernel⟩
set_option maxRecDepth 100000 in
def T_M_reckon : List (Nat × Instr × Nat) := [(0, .iload_n 1, 1), (1, .invokestatic 425, 3), (4, .istore_n 2, 1), (5, .iload_n 2, 1), (6, .ifCond .lt 14, 3), (9, .aload_n 0, 1), (10, .bipush 127, 2), (12, .iload_n 2, 1), (13, .isub, 1), (14, .invokevirtual 634, 3), (17, .goto 4, 3), (20, .lconst 0, 1), (21, .lstore_n 3, 1), (22, .aload_n 0, 1), (23, .bipush 127, 2), (25, .iload_n 1, 1), (26, .invokestatic 428, 3), (29, .isub, 1), (30, .invokevirtual 634, 3), (33, .lstore 5, 2), (35, .aload_n 0, 1), (36, .getfield 185, 3), (39, .iload_n 1, 1), (40, .lload 5, 2), (42, .lload_n 3, 1), (43, .invokevirtual 686, 3), (46, .lstore 7, 2), (48, .aload_n 0, 1), (49, .getfield 185, 3), (52, .getfield 690, 3), (55, .ifCond .le 19, 3), (58, .aload_n 0, 1), (59, .aload_n 0, 1), (60, .getfield 185, 3), (63, .getfield 690, 3), (66, .iconst 1, 1), (67, .iadd, 1), (68, .putfield 625, 3), (71, .goto 16, 3), (74, .aload_n 0, 1), (75, .lload 7, 2), (77, .bipush 127, 2), (79, .iload_n 1, 1), (80, .invokestatic 430, 3), (83, .isub, 1), (84, .invokevirtual 628, 3), (87, .return_, 1)]
theorem D_M_reckon : ∀ q ∈ T_M_reckon, decode b_M_reckon q.1 = .ok (q.2.1, q.2.2) := by decide +kernel

set_option maxHeartbeats 4000000 in
set_option maxRecDepth 100000 in
theorem am_M_reckon_L87 (l : Launch) (hfl : l.flags = pinnedFlags ++ [noTraceFlag]) (D : va_G) (A : Nat → Prop) (σ MC MS : Nat) (h0 : xb_H) (Qr : xb_H → Prop) (h : xb_H) (hw : w_M_reckon_L87 Qr h) : xb_am l D A σ 9 MC MS h0 (fun v h _ _ => v = none ∧ Qr h) (fun _ _ _ _ => False) y_M_reckon.cls y_M_reckon.name b_M_reckon 9 ([] : List ExceptionTableEntry) none 87 [] [] h 0 0 := by
  unfold w_M_reckon_L87 at hw
  intro p e s m args below meth c hC H locs ls k n hE hl hR hS hk hn
  obtain ⟨hx, hb, hown, hlocks, htab, hml, hr, hB, hA, hnm⟩ := id hC
  have hts := hB.1.1.at args
  exact xb_vret 0 0 hx hb hr hlocks (show k + 0 ≤ MC by omega) (show n + 0 ≤ MS by omega) hE hR hS (xb_d D_M_reckon 46 rfl) hw

set_option maxHeartbeats 4000000 in
set_option maxRecDepth 100000 in
theorem am_M_reckon_L21 (l : Launch) (hfl : l.flags = pinnedFlags ++ [noTraceFlag]) (D : va_G) (A : Nat → Prop) (σ MC MS : Nat) (h0 : xb_H) (Qr : xb_H → Prop) (x0 : Nat) (x1 : Int32) (y0 : Int64) (h : xb_H) (hw : w_M_reckon_L21 Qr x0 x1 y0 h) : xb_am l D A σ 9 MC MS h0 (fun v h _ _ => v = none ∧ Qr h) (fun _ _ _ _ => False) y_M_reckon.cls y_M_reckon.name b_M_reckon 9 ([] : List ExceptionTableEntry) none 21 [(0, .ref x0), (1, .int x1)] [.long y0] h 0 0 := by
  unfold w_M_reckon_L21 at hw
  intro p e s m args below meth c hC H locs ls k n hE hl hR hS hk hn
  obtain ⟨hx, hb, hown, hlocks, htab, hml, hr, hB, hA, hnm⟩ := id hC
  have hts := hB.1.1.at args
  refine lv_lstore_n hx hb (xb_d D_M_reckon 12 rfl) rfl hl (by decide) rfl (fun ls hl => ?_)
  have hl : lv_has ls 9 [(3, .long y0), (0, .ref x0), (1, .int x1)] := hl
  refine lv_aload_n hx hb (xb_d D_M_reckon 13 rfl) rfl (lv_at hl 1 rfl) ?_
  refine lv_bipush (v := 127) hx hb (xb_d D_M_reckon 14 rfl) (by decide) ?_
  refine lv_iload_n hx hb (xb_d D_M_reckon 15 rfl) rfl (lv_at hl 2 rfl) ?_
  refine xb_call0 (D := D) (A := A) (σ := σ) (h := h) (d := 3) (maxL := 1) (rest := [.int 127, .ref x0]) (av := [.int x1]) (fun T hT X => xt_invS X hx hown (hts _ m_bc61b689) (hts _ m_69a81f16) (hts _ m_b807310b) (xt_sgS (hts _ m_4328253a)).1 (xt_sgS (hts _ m_4328253a)).2 nm_Exact_first (g := F0 m 26 ls [.int x1, .int 127, .ref x0]) rfl (argsL := [.int x1]) (rest := [.int 127, .ref x0]) rfl rfl (by rw [hb]; exact (xb_d D_M_reckon 16 rfl))) (ok_Exact_first l hfl D A σ x1 h _ hw) (hml.trans hl.1.symm) (by rw [hb]; exact (xb_d D_M_reckon 16 rfl)) (Nat.le_of_ble_eq_true rfl) (Nat.le_of_ble_eq_true rfl) (Nat.le_of_ble_eq_true rfl) (show k ≤ MC by omega) (show n ≤ MS by omega) (xt_w1 hB.1 m_4328253a) (xt_cdOf hB.1 m_4328253a) (hts _ m_b807310b) hB hR hS hA (fun vv h1 H locs hq hEh1 hR hS => ?_)
  obtain ⟨r2, rfl, hw⟩ := hq
  have hw := hw hEh1
  have hE := hE.tr hEh1
  refine W.eq (g2 := F0 m 29 ls [.int r2, .int 127, .ref x0]) rfl ?_
  refine lv_isub hx hb (xb_d D_M_reckon 17 rfl) ?_
  obtain ⟨hk3, hw⟩ := hw
  refine xb_call0 (D := D) (A := A) (σ := σ) (h := h1) (d := 2) (maxL := 2) (rest := []) (av := [.ref x0, .int (127 - r2)]) (fun T hT X => by obtain ⟨cb9, ra9, rb9, rc9⟩ := xb_recv (ci := 8) hR rfl hk3 (by decide); exact xt_invV X hx hown (hts _ m_ce40dc40) (hts _ m_c3a002b8) (hts _ m_395c99b5) (xt_sigOf (hts _ m_1ea89357)) nm_M_pop (by rw [hT]; exact ra9) rb9 rc9 (g := F0 m 30 ls [.int (127 - r2), .ref x0]) rfl (argsL := [.int (127 - r2)]) (rest := []) rfl rfl (by rw [hb]; exact (xb_d D_M_reckon 18 rfl))) (ok_M_pop l hfl D A σ x0 (127 - r2) h1 _ hw) (hml.trans hl.1.symm) (by rw [hb]; exact (xb_d D_M_reckon 18 rfl)) (Nat.le_of_ble_eq_true rfl) (Nat.le_of_ble_eq_true rfl) (Nat.le_of_ble_eq_true rfl) (show k ≤ MC by omega) (show n ≤ MS by omega) (xt_w1 hB.1 m_1ea89357) (xt_cdOf hB.1 m_1ea89357) (hts _ m_d5ed7bed) hB hR hS hA (fun vv h4 H locs hq hEh4 hR hS => ?_)
  obtain ⟨r5, rfl, hw⟩ := hq
  have hw := hw hEh4
  have hE := hE.tr hEh4
  refine W.eq (g2 := F0 m 33 ls [.long r5]) rfl ?_
  refine lv_lstore hx hb (xb_d D_M_reckon 19 rfl) hl (by decide) rfl (fun ls hl => ?_)
  have hl : lv_has ls 9 [(5, .long r5), (3, .long y0), (0, .ref x0), (1, .int x1)] := hl
  refine lv_aload_n hx hb (xb_d D_M_reckon 20 rfl) rfl (lv_at hl 2 rfl) ?_
  have hk3 : xb_k h4 x0 = 9 := hEh4.k hk3
  refine xb_getP (C := R_M) (T := F_M) (N := 97) hx hb 8 90 hts fin_M hown hR hk3 (by decide) rfl (by decide) rfl (hts _ m_58f0444c) (fun _ h9 => h9) (xb_d D_M_reckon 21 rfl) ?_
  obtain ⟨b6, eb6, hw⟩ := hw
  refine xb_some eb6 ?_
  refine lv_iload_n hx hb (xb_d D_M_reckon 22 rfl) rfl (lv_at hl 3 rfl) ?_
  refine lv_lload hx hb (xb_d D_M_reckon 23 rfl) (lv_at hl 0 rfl) ?_
  refine lv_lload_n hx hb (xb_d D_M_reckon 24 rfl) rfl (lv_at hl 1 rfl) ?_
  obtain ⟨hk7, hw⟩ := hw
  refine xb_call0 (D := D) (A := A) (σ := σ) (h := h4) (d := 8) (maxL := 12) (rest := []) (av := [.ref b6, .int x1, .long r5, .long y0]) (fun T hT X => by obtain ⟨cb9, ra9, rb9, rc9⟩ := xb_recv (ci := 9) hR rfl hk7 (by decide); exact xt_invV X hx hown (hts _ m_f3dff0a2) (hts _ m_8d0e47b1) (hts _ m_99b1e751) (xt_sigOf (hts _ m_a6970958)) nm_Exact_run (by rw [hT]; exact ra9) rb9 rc9 (g := F0 m 43 ls [.long y0, .long r5, .int x1, .ref b6]) rfl (argsL := [.int x1, .long r5, .long y0]) (rest := []) rfl rfl (by rw [hb]; exact (xb_d D_M_reckon 25 rfl))) (ok_Exact_run l hfl D A σ b6 x1 r5 y0 h4 _ hw) (hml.trans hl.1.symm) (by rw [hb]; exact (xb_d D_M_reckon 25 rfl)) (Nat.le_of_ble_eq_true rfl) (Nat.le_of_ble_eq_true rfl) (Nat.le_of_ble_eq_true rfl) (show k ≤ MC by omega) (show n ≤ MS by omega) (xt_w1 hB.1 m_a6970958) (xt_cdOf hB.1 m_a6970958) (hts _ m_b807310b) hB hR hS hA (fun vv h8 H locs hq hEh8 hR hS => ?_)
  obtain ⟨r9, rfl, hw⟩ := hq
  have hw := hw hEh8
  have hE := hE.tr hEh8
  refine W.eq (g2 := F0 m 46 ls [.long r9]) rfl ?_
  refine lv_lstore hx hb (xb_d D_M_reckon 26 rfl) hl (by decide) rfl (fun ls hl => ?_)
  have hl : lv_has ls 9 [(7, .long r9), (5, .long r5), (3, .long y0), (0, .ref x0), (1, .int x1)] := hl
  refine lv_aload_n hx hb (xb_d D_M_reckon 27 rfl) rfl (lv_at hl 3 rfl) ?_
  have hk3 : xb_k h8 x0 = 9 := hEh8.k hk3
  refine xb_getP (C := R_M) (T := F_M) (N := 97) hx hb 8 90 hts fin_M hown hR hk3 (by decide) rfl (by decide) rfl (hts _ m_58f0444c) (fun _ h9 => h9) (xb_d D_M_reckon 28 rfl) ?_
  obtain ⟨b10, eb10, hw⟩ := hw
  refine xb_some eb10 ?_
  obtain ⟨hk11, hw⟩ := hw
  refine xb_getI (C := R_Exact) (T := F_Exact) (N := 11) hx hb 9 0 hts fin_Exact hown hR hk11 (by decide) rfl (by decide) rfl (hts _ m_a2ac8b2d) (fun _ h9 => h9) (xb_d D_M_reckon 29 rfl) ?_
  refine lv_if_le (tgt := 74) hx hb (xb_d D_M_reckon 30 rfl) rfl (fun hc12 => ?_) (fun hc12 => ?_)
  · have hw := hw.1 hc12
    refine lv_aload_n hx hb (xb_d D_M_reckon 39 rfl) rfl (lv_at hl 3 rfl) ?_
    refine lv_lload hx hb (xb_d D_M_reckon 40 rfl) (lv_at hl 0 rfl) ?_
    refine lv_bipush (v := 127) hx hb (xb_d D_M_reckon 41 rfl) (by decide) ?_
    refine lv_iload_n hx hb (xb_d D_M_reckon 42 rfl) rfl (lv_at hl 4 rfl) ?_
    refine xb_call0 (D := D) (A := A) (σ := σ) (h := h8) (d := 2) (maxL := 1) (rest := [.int 127, .long r9, .ref x0]) (av := [.int x1]) (fun T hT X => xt_invS X hx hown (hts _ m_c299b093) (hts _ m_2a32d197) (hts _ m_b807310b) (xt_sgS (hts _ m_ce6b0c6d)).1 (xt_sgS (hts _ m_ce6b0c6d)).2 nm_Exact_result (g := F0 m 80 ls [.int x1, .int 127, .long r9, .ref x0]) rfl (argsL := [.int x1]) (rest := [.int 127, .long r9, .ref x0]) rfl rfl (by rw [hb]; exact (xb_d D_M_reckon 43 rfl))) (ok_Exact_result l hfl D A σ x1 h8 _ hw) (hml.trans hl.1.symm) (by rw [hb]; exact (xb_d D_M_reckon 43 rfl)) (Nat.le_of_ble_eq_true rfl) (Nat.le_of_ble_eq_true rfl) (Nat.le_of_ble_eq_true rfl) (show k ≤ MC by omega) (show n ≤ MS by omega) (xt_w1 hB.1 m_ce6b0c6d) (xt_cdOf hB.1 m_ce6b0c6d) (hts _ m_b807310b) hB hR hS hA (fun vv h13 H locs hq hEh13 hR hS => ?_)
    obtain ⟨r14, rfl, hw⟩ := hq
    have hw := hw hEh13
    have hE := hE.tr hEh13
    refine W.eq (g2 := F0 m 83 ls [.int r14, .int 127, .long r9, .ref x0]) rfl ?_
    refine lv_isub hx hb (xb_d D_M_reckon 44 rfl) ?_
    have hk3 : xb_k h13 x0 = 9 := hEh13.k hk3
    refine xb_call0 (D := D) (A := A) (σ := σ) (h := h13) (d := 2) (maxL := 4) (rest := []) (av := [.ref x0, .long r9, .int (127 - r14)]) (fun T hT X => by obtain ⟨cb9, ra9, rb9, rc9⟩ := xb_recv (ci := 8) hR rfl hk3 (by decide); exact xt_invV X hx hown (hts _ m_1dd22d11) (hts _ m_e8ae1713) (hts _ m_973b740a) (xt_sigOf (hts _ m_a0d5a63e)) nm_M_add (by rw [hT]; exact ra9) rb9 rc9 (g := F0 m 84 ls [.int (127 - r14), .long r9, .ref x0]) rfl (argsL := [.long r9, .int (127 - r14)]) (rest := []) rfl rfl (by rw [hb]; exact (xb_d D_M_reckon 45 rfl))) (ok_M_add l hfl D A σ x0 r9 (127 - r14) h13 _ hw) (hml.trans hl.1.symm) (by rw [hb]; exact (xb_d D_M_reckon 45 rfl)) (Nat.le_of_ble_eq_true rfl) (Nat.le_of_ble_eq_true rfl) (Nat.le_of_ble_eq_true rfl) (show k ≤ MC by omega) (show n ≤ MS by omega) (xt_w1 hB.1 m_a0d5a63e) (xt_cdOf hB.1 m_a0d5a63e) (hts _ m_d5ed7bed) hB hR hS hA (fun vv h15 H locs hq hEh15 hR hS => ?_)
    obtain ⟨rfl, hw⟩ := hq
    have hw := hw hEh15
    have hE := hE.tr hEh15
    refine W.eq (g2 := F0 m 87 ls []) rfl ?_
    exact am_M_reckon_L87 l hfl D A σ MC MS h0 Qr h15 hw p e s m args below meth c hC H locs ls k n hE (lv_sub hl [] rfl) hR hS (by omega) (by omega)
  · have hw := hw.2 hc12
    refine lv_aload_n hx hb (xb_d D_M_reckon 31 rfl) rfl (lv_at hl 3 rfl) ?_
    refine lv_aload_n hx hb (xb_d D_M_reckon 32 rfl) rfl (lv_at hl 3 rfl) ?_
    refine xb_getP (C := R_M) (T := F_M) (N := 97) hx hb 8 90 hts fin_M hown hR hk3 (by decide) rfl (by decide) rfl (hts _ m_58f0444c) (fun _ h9 => h9) (xb_d D_M_reckon 33 rfl) ?_
    obtain ⟨b17, eb17, hw⟩ := hw
    refine xb_some eb17 ?_
    obtain ⟨hk18, hw⟩ := hw
    refine xb_getI (C := R_Exact) (T := F_Exact) (N := 11) hx hb 9 0 hts fin_Exact hown hR hk18 (by decide) rfl (by decide) rfl (hts _ m_a2ac8b2d) (fun _ h9 => h9) (xb_d D_M_reckon 34 rfl) ?_
    refine lv_iconst (v := 1) hx hb (xb_d D_M_reckon 35 rfl) (by decide) ?_
    refine lv_iadd hx hb (xb_d D_M_reckon 36 rfl) ?_
    refine xb_putI (C := R_M) (T := F_M) (N := 97) (ty := .int) (x := ((xb_i h8 b17 0) + 1)) hx hb 8 82 hts fin_M t_M t_M_ok n_M hown hR hS hk3 (by decide) rfl (by decide) rfl (hts _ m_ad343437) (fun _ h9 => h9) rfl (by decide +kernel) rfl rfl (xb_d D_M_reckon 37 rfl) (fun H locs hR hS => ?_)
    obtain ⟨h19, eh19⟩ : ∃ x : xb_H, x = xb_I h8 x0 82 ((xb_i h8 b17 0) + 1) := ⟨_, rfl⟩
    rw [← eh19] at hR
    have hw := hw h19 eh19
    have hE : xb_ext h0 h19 := by rw [eh19]; exact hE
    refine lv_goto (tgt := 87) hx hb (xb_d D_M_reckon 38 rfl) rfl ?_
    exact am_M_reckon_L87 l hfl D A σ MC MS h0 Qr h19 hw p e s m args below meth c hC H locs ls k n hE (lv_sub hl [] rfl) hR hS (by omega) (by omega)

set_option maxHeartbeats 4000000 in
set_option maxRecDepth 100000 in
theorem ok_M_reckon (l : Launch) (hfl : l.flags = pinnedFlags ++ [noTraceFlag]) (D : va_G) (A : Nat → Prop) (σ : Nat) (x0 : Nat) (x1 : Int32) (h : xb_H) (Qr : xb_H → Prop) (hw : w_M_reckon x0 x1 h Qr) : xb_Met l y_M_reckon [.code y_M_reckon b_M_reckon 9 none] (xb_rm 9 0 0) (xb_Pc D A σ h [.ref x0, .int x1]) (xb_Qc D A h 0 0 (fun v h _ _ => v = none ∧ Qr h) (fun _ _ _ _ => False)) A := by
  refine xb_ofAm (cc := b_M_reckon) (by decide) (Nat.le_of_ble_eq_true rfl) ?_
  unfold w_M_reckon at hw
  show xb_am l D A σ 9 0 0 h (fun v h _ _ => v = none ∧ Qr h) (fun _ _ _ _ => False) y_M_reckon.cls y_M_reckon.name b_M_reckon 9 ([] : List ExceptionTableEntry) none 0 [(0, .ref x0), (1, .int x1)] [] h 0 0
  obtain ⟨MC, hMC⟩ : ∃ x, x = 0 := ⟨_, rfl⟩
  obtain ⟨MS, hMS⟩ : ∃ x, x = 0 := ⟨_, rfl⟩
  rw [show xb_am l D A σ 9 0 0 = xb_am l D A σ 9 MC MS by rw [hMC, hMS]]
  obtain ⟨h0, hh0⟩ : ∃ x, x = h := ⟨_, rfl⟩
  rw [show xb_am l D A σ 9 MC MS h = xb_am l D A σ 9 MC MS h0 by rw [hh0]]
  intro p e s m args below meth c hC H locs ls k n hE hl hR hS hk hn
  obtain ⟨hx, hb, hown, hlocks, htab, hml, hr, hB, hA, hnm⟩ := id hC
  have hts := hB.1.1.at args
  refine lv_iload_n hx hb (xb_d D_M_reckon 0 rfl) rfl (lv_at hl 1 rfl) ?_
  refine xb_call0 (D := D) (A := A) (σ := σ) (h := h) (d := 4) (maxL := 2) (rest := []) (av := [.int x1]) (fun T hT X => xt_invS X hx hown (hts _ m_3cb61595) (hts _ m_cf6a0046) (hts _ m_b807310b) (xt_sgS (hts _ m_d63ee885)).1 (xt_sgS (hts _ m_d63ee885)).2 nm_Exact_second (g := F0 m 1 ls [.int x1]) rfl (argsL := [.int x1]) (rest := []) rfl rfl (by rw [hb]; exact (xb_d D_M_reckon 1 rfl))) (ok_Exact_second l hfl D A σ x1 h _ hw) (hml.trans hl.1.symm) (by rw [hb]; exact (xb_d D_M_reckon 1 rfl)) (Nat.le_of_ble_eq_true rfl) (Nat.le_of_ble_eq_true rfl) (Nat.le_of_ble_eq_true rfl) (show k ≤ MC by omega) (show n ≤ MS by omega) (xt_w1 hB.1 m_d63ee885) (xt_cdOf hB.1 m_d63ee885) (hts _ m_b807310b) hB hR hS hA (fun vv h1 H locs hq hEh1 hR hS => ?_)
  obtain ⟨r2, rfl, hw⟩ := hq
  have hw := hw hEh1
  have hE := hE.tr hEh1
  refine W.eq (g2 := F0 m 4 ls [.int r2]) rfl ?_
  refine lv_istore_n hx hb (xb_d D_M_reckon 2 rfl) rfl hl (by decide) rfl (fun ls hl => ?_)
  have hl : lv_has ls 9 [(2, .int r2), (0, .ref x0), (1, .int x1)] := hl
  refine lv_iload_n hx hb (xb_d D_M_reckon 3 rfl) rfl (lv_at hl 0 rfl) ?_
  refine lv_if_lt (tgt := 20) hx hb (xb_d D_M_reckon 4 rfl) rfl (fun hc3 => ?_) (fun hc3 => ?_)
  · have hw := hw.1 hc3
    refine lv_lconst (v := 0) hx hb (xb_d D_M_reckon 11 rfl) (by decide) ?_
    exact am_M_reckon_L21 l hfl D A σ MC MS h0 Qr x0 x1 0 h1 hw p e s m args below meth c hC H locs ls k n hE (lv_sub hl [1, 2] rfl) hR hS (by omega) (by omega)
  · have hw := hw.2 hc3
    refine lv_aload_n hx hb (xb_d D_M_reckon 5 rfl) rfl (lv_at hl 1 rfl) ?_
    refine lv_bipush (v := 127) hx hb (xb_d D_M_reckon 6 rfl) (by decide) ?_
    refine lv_iload_n hx hb (xb_d D_M_reckon 7 rfl) rfl (lv_at hl 0 rfl) ?_
    refine lv_isub hx hb (xb_d D_M_reckon 8 rfl) ?_
    obtain ⟨hk4, hw⟩ := hw
    refine xb_call0 (D := D) (A := A) (σ := σ) (h := h1) (d := 2) (maxL := 2) (rest := []) (av := [.ref x0, .int (127 - r2)]) (fun T hT X => by obtain ⟨cb9, ra9, rb9, rc9⟩ := xb_recv (ci := 8) hR rfl hk4 (by decide); exact xt_invV X hx hown (hts _ m_ce40dc40) (hts _ m_c3a002b8) (hts _ m_395c99b5) (xt_sigOf (hts _ m_1ea89357)) nm_M_pop (by rw [hT]; exact ra9) rb9 rc9 (g := F0 m 14 ls [.int (127 - r2), .ref x0]) rfl (argsL := [.int (127 - r2)]) (rest := []) rfl rfl (by rw [hb]; exact (xb_d D_M_reckon 9 rfl))) (ok_M_pop l hfl D A σ x0 (127 - r2) h1 _ hw) (hml.trans hl.1.symm) (by rw [hb]; exact (xb_d D_M_reckon 9 rfl)) (Nat.le_of_ble_eq_true rfl) (Nat.le_of_ble_eq_true rfl) (Nat.le_of_ble_eq_true rfl) (show k ≤ MC by omega) (show n ≤ MS by omega) (xt_w1 hB.1 m_1ea89357) (xt_cdOf hB.1 m_1ea89357) (hts _ m_d5ed7bed) hB hR hS hA (fun vv h5 H locs hq hEh5 hR hS => ?_)
    obtain ⟨r6, rfl, hw⟩ := hq
    have hw := hw hEh5
    have hE := hE.tr hEh5
    refine W.eq (g2 := F0 m 17 ls [.long r6]) rfl ?_
    refine lv_goto (tgt := 21) hx hb (xb_d D_M_reckon 10 rfl) rfl ?_
    exact am_M_reckon_L21 l hfl D A σ MC MS h0 Qr x0 x1 r6 h5 hw p e s m args below meth c hC H locs ls k n hE (lv_sub hl [1, 2] rfl) hR hS (by omega) (by omega)

set_option maxRecDepth 100000 in
def T_M_resultTypeOf : List (Nat × Instr × Nat) := [(0, .iload_n 1, 1), (1, .ldc_w 489, 3), (4, .if_icmp .lt 6, 3), (7, .bipush 64, 2), (9, .ireturn, 1), (10, .aload_n 0, 1), (11, .getfield 62, 3), (14, .aload_n 0, 1), (15, .getfield 92, 3), (18, .iload_n 1, 1), (19, .iaload, 1), (20, .iaload, 1), (21, .istore_n 2, 1), (22, .aload_n 0, 1), (23, .iload_n 2, 1), (24, .aload_n 0, 1), (25, .iload_n 2, 1), (26, .aload_n 0, 1), (27, .getfield 30, 3), (30, .iconst 4, 1), (31, .iload_n 2, 1), (32, .imul, 1), (33, .iaload, 1), (34, .aload_n 0, 1), (35, .getfield 95, 3), (38, .iload_n 1, 1), (39, .iaload, 1), (40, .iadd, 1), (41, .invokevirtual 369, 3), (44, .invokevirtual 336, 3), (47, .ireturn, 1)]
theorem D_M_resultTypeOf : ∀ q ∈ T_M_resultTypeOf, decode b_M_resultTypeOf q.1 = .ok (q.2.1, q.2.2) := by decide +kernel

set_option maxHeartbeats 4000000 in
set_option maxRecDepth 100000 in
theorem ok_M_resultTypeOf (l : Launch) (hfl : l.flags = pinnedFlags ++ [noTraceFlag]) (D : va_G) (A : Nat → Prop) (σ : Nat) (x0 : Nat) (x1 : Int32) (h : xb_H) (Qr : Int32 → xb_H → Prop) (hw : w_M_resultTypeOf x0 x1 h Qr) : xb_Met l y_M_resultTypeOf [.code y_M_resultTypeOf b_M_resultTypeOf 3 (some .int)] (xb_rm 9 0 0) (xb_Pc D A σ h [.ref x0, .int x1]) (xb_Qc D A h 0 0 (fun v h _ _ => ∃ r, v = some (.int r) ∧ Qr r h) (fun _ _ _ _ => False)) A := by
  refine xb_ofAm (cc := b_M_resultTypeOf) (by decide) (Nat.le_of_ble_eq_true rfl) ?_
  unfold w_M_resultTypeOf at hw
  show xb_am l D A σ 9 0 0 h (fun v h _ _ => ∃ r, v = some (.int r) ∧ Qr r h) (fun _ _ _ _ => False) y_M_resultTypeOf.cls y_M_resultTypeOf.name b_M_resultTypeOf 3 ([] : List ExceptionTableEntry) (some .int) 0 [(0, .ref x0), (1, .int x1)] [] h 0 0
  obtain ⟨MC, hMC⟩ : ∃ x, x = 0 := ⟨_, rfl⟩
  obtain ⟨MS, hMS⟩ : ∃ x, x = 0 := ⟨_, rfl⟩
  rw [show xb_am l D A σ 9 0 0 = xb_am l D A σ 9 MC MS by rw [hMC, hMS]]
  obtain ⟨h0, hh0⟩ : ∃ x, x = h := ⟨_, rfl⟩
  rw [show xb_am l D A σ 9 MC MS h = xb_am l D A σ 9 MC MS h0 by rw [hh0]]
  intro p e s m args below meth c hC H locs ls k n hE hl hR hS hk hn
  obtain ⟨hx, hb, hown, hlocks, htab, hml, hr, hB, hA, hnm⟩ := id hC
  have hts := hB.1.1.at args
  refine lv_iload_n hx hb (xb_d D_M_resultTypeOf 0 rfl) rfl (lv_at hl 1 rfl) ?_
  refine lv_ldcw (v := 100000) hx hb hown (hts _ m_0517c3da) (xb_d D_M_resultTypeOf 1 rfl) ?_
  refine lv_icmp_lt (tgt := 10) hx hb (xb_d D_M_resultTypeOf 2 rfl) rfl (fun hc1 => ?_) (fun hc1 => ?_)
  · have hw := hw.1 hc1
    refine lv_aload_n hx hb (xb_d D_M_resultTypeOf 5 rfl) rfl (lv_at hl 0 rfl) ?_
    obtain ⟨hk2, hw⟩ := hw
    refine xb_getP (C := R_M) (T := F_M) (N := 97) hx hb 8 31 hts fin_M hown hR hk2 (by decide) rfl (by decide) rfl (hts _ m_691d5f47) (fun _ h9 => h9) (xb_d D_M_resultTypeOf 6 rfl) ?_
    obtain ⟨b3, eb3, hw⟩ := hw
    refine xb_some eb3 ?_
    refine lv_aload_n hx hb (xb_d D_M_resultTypeOf 7 rfl) rfl (lv_at hl 0 rfl) ?_
    refine xb_getP (C := R_M) (T := F_M) (N := 97) hx hb 8 44 hts fin_M hown hR hk2 (by decide) rfl (by decide) rfl (hts _ m_ad0cc5a3) (fun _ h9 => h9) (xb_d D_M_resultTypeOf 8 rfl) ?_
    obtain ⟨b4, eb4, hw⟩ := hw
    refine xb_some eb4 ?_
    refine lv_iload_n hx hb (xb_d D_M_resultTypeOf 9 rfl) rfl (lv_at hl 1 rfl) ?_
    obtain ⟨hk6, hw⟩ := hw
    obtain ⟨hi5, hw⟩ := hw
    refine xb_iald hx hb hR hk6 hi5 (xb_d D_M_resultTypeOf 10 rfl) ?_
    obtain ⟨hk8, hw⟩ := hw
    obtain ⟨hi7, hw⟩ := hw
    refine xb_iald hx hb hR hk8 hi7 (xb_d D_M_resultTypeOf 11 rfl) ?_
    obtain ⟨v9, ev9⟩ : ∃ x : Int32, x = (xb_i h b3 (Int32.toNatClampNeg (xb_i h b4 (Int32.toNatClampNeg x1)))) := ⟨_, rfl⟩
    have hw := hw v9 ev9
    refine xt_numi (y := v9) ev9.symm ?_
    refine lv_istore_n hx hb (xb_d D_M_resultTypeOf 12 rfl) rfl hl (by decide) rfl (fun ls hl => ?_)
    have hl : lv_has ls 3 [(2, .int v9), (0, .ref x0), (1, .int x1)] := hl
    refine lv_aload_n hx hb (xb_d D_M_resultTypeOf 13 rfl) rfl (lv_at hl 1 rfl) ?_
    refine lv_iload_n hx hb (xb_d D_M_resultTypeOf 14 rfl) rfl (lv_at hl 0 rfl) ?_
    refine lv_aload_n hx hb (xb_d D_M_resultTypeOf 15 rfl) rfl (lv_at hl 1 rfl) ?_
    refine lv_iload_n hx hb (xb_d D_M_resultTypeOf 16 rfl) rfl (lv_at hl 0 rfl) ?_
    refine lv_aload_n hx hb (xb_d D_M_resultTypeOf 17 rfl) rfl (lv_at hl 1 rfl) ?_
    refine xb_getP (C := R_M) (T := F_M) (N := 97) hx hb 8 10 hts fin_M hown hR hk2 (by decide) rfl (by decide) rfl (hts _ m_01d0d957) (fun _ h9 => h9) (xb_d D_M_resultTypeOf 18 rfl) ?_
    obtain ⟨b10, eb10, hw⟩ := hw
    refine xb_some eb10 ?_
    refine lv_iconst (v := 4) hx hb (xb_d D_M_resultTypeOf 19 rfl) (by decide) ?_
    refine lv_iload_n hx hb (xb_d D_M_resultTypeOf 20 rfl) rfl (lv_at hl 0 rfl) ?_
    refine lv_imul hx hb (xb_d D_M_resultTypeOf 21 rfl) ?_
    obtain ⟨hk12, hw⟩ := hw
    obtain ⟨hi11, hw⟩ := hw
    refine xb_iald hx hb hR hk12 hi11 (xb_d D_M_resultTypeOf 22 rfl) ?_
    refine lv_aload_n hx hb (xb_d D_M_resultTypeOf 23 rfl) rfl (lv_at hl 1 rfl) ?_
    refine xb_getP (C := R_M) (T := F_M) (N := 97) hx hb 8 45 hts fin_M hown hR hk2 (by decide) rfl (by decide) rfl (hts _ m_4c98e665) (fun _ h9 => h9) (xb_d D_M_resultTypeOf 24 rfl) ?_
    obtain ⟨b13, eb13, hw⟩ := hw
    refine xb_some eb13 ?_
    refine lv_iload_n hx hb (xb_d D_M_resultTypeOf 25 rfl) rfl (lv_at hl 2 rfl) ?_
    obtain ⟨hk15, hw⟩ := hw
    obtain ⟨hi14, hw⟩ := hw
    refine xb_iald hx hb hR hk15 hi14 (xb_d D_M_resultTypeOf 26 rfl) ?_
    refine lv_iadd hx hb (xb_d D_M_resultTypeOf 27 rfl) ?_
    refine xb_call0 (D := D) (A := A) (σ := σ) (h := h) (d := 8) (maxL := 4) (rest := [.int v9, .ref x0]) (av := [.ref x0, .int v9, .int ((xb_i h b10 (Int32.toNatClampNeg (4 * v9))) + (xb_i h b13 (Int32.toNatClampNeg x1)))]) (fun T hT X => by obtain ⟨cb9, ra9, rb9, rc9⟩ := xb_recv (ci := 8) hR rfl hk2 (by decide); exact xt_invV X hx hown (hts _ m_1d203cc1) (hts _ m_0a0483ac) (hts _ m_42615324) (xt_sigOf (hts _ m_44f87caf)) nm_M_typeOf (by rw [hT]; exact ra9) rb9 rc9 (g := F0 m 41 ls [.int ((xb_i h b10 (Int32.toNatClampNeg (4 * v9))) + (xb_i h b13 (Int32.toNatClampNeg x1))), .int v9, .ref x0, .int v9, .ref x0]) rfl (argsL := [.int v9, .int ((xb_i h b10 (Int32.toNatClampNeg (4 * v9))) + (xb_i h b13 (Int32.toNatClampNeg x1)))]) (rest := [.int v9, .ref x0]) rfl rfl (by rw [hb]; exact (xb_d D_M_resultTypeOf 28 rfl))) (ok_M_typeOf l hfl D A σ x0 v9 ((xb_i h b10 (Int32.toNatClampNeg (4 * v9))) + (xb_i h b13 (Int32.toNatClampNeg x1))) h _ hw) (hml.trans hl.1.symm) (by rw [hb]; exact (xb_d D_M_resultTypeOf 28 rfl)) (Nat.le_of_ble_eq_true rfl) (Nat.le_of_ble_eq_true rfl) (Nat.le_of_ble_eq_true rfl) (show k ≤ MC by omega) (show n ≤ MS by omega) (xt_w1 hB.1 m_44f87caf) (xt_cdOf hB.1 m_44f87caf) (hts _ m_d5ed7bed) hB hR hS hA (fun vv h16 H locs hq hEh16 hR hS => ?_)
    obtain ⟨r17, rfl, hw⟩ := hq
    have hw := hw hEh16
    have hE := hE.tr hEh16
    refine W.eq (g2 := F0 m 44 ls [.int r17, .int v9, .ref x0]) rfl ?_
    have hk2 : xb_k h16 x0 = 9 := hEh16.k hk2
    refine xb_call0 (D := D) (A := A) (σ := σ) (h := h16) (d := 6) (maxL := 4) (rest := []) (av := [.ref x0, .int v9, .int r17]) (fun T hT X => by obtain ⟨cb9, ra9, rb9, rc9⟩ := xb_recv (ci := 8) hR rfl hk2 (by decide); exact xt_invV X hx hown (hts _ m_bd023100) (hts _ m_d08a9c75) (hts _ m_9ac7cfcb) (xt_sigOf (hts _ m_9dee8e5c)) nm_M_resultOf (by rw [hT]; exact ra9) rb9 rc9 (g := F0 m 44 ls [.int r17, .int v9, .ref x0]) rfl (argsL := [.int v9, .int r17]) (rest := []) rfl rfl (by rw [hb]; exact (xb_d D_M_resultTypeOf 29 rfl))) (ok_M_resultOf l hfl D A σ x0 v9 r17 h16 _ hw) (hml.trans hl.1.symm) (by rw [hb]; exact (xb_d D_M_resultTypeOf 29 rfl)) (Nat.le_of_ble_eq_true rfl) (Nat.le_of_ble_eq_true rfl) (Nat.le_of_ble_eq_true rfl) (show k ≤ MC by omega) (show n ≤ MS by omega) (xt_w1 hB.1 m_9dee8e5c) (xt_cdOf hB.1 m_9dee8e5c) (hts _ m_d5ed7bed) hB hR hS hA (fun vv h18 H locs hq hEh18 hR hS => ?_)
    obtain ⟨r19, rfl, hw⟩ := hq
    have hw := hw hEh18
    have hE := hE.tr hEh18
    refine W.eq (g2 := F0 m 47 ls [.int r19]) rfl ?_
    exact xb_iret 0 0 hx hb hr hlocks (show k + 0 ≤ MC by omega) (show n + 0 ≤ MS by omega) hE hR hS (xb_d D_M_resultTypeOf 30 rfl) hw
  · have hw := hw.2 hc1
    refine lv_bipush (v := 64) hx hb (xb_d D_M_resultTypeOf 3 rfl) (by decide) ?_
    exact xb_iret 0 0 hx hb hr hlocks (show k + 0 ≤ MC by omega) (show n + 0 ≤ MS by omega) hE hR hS (xb_d D_M_resultTypeOf 4 rfl) hw

theorem m_35d7e567 : (.methodLink "StackHostModel" 278 y_M_note : Cond) ∈ xt_tbl := xt_in (xt_t10 (List.mem_of_getElem? (i := 237) (by decide +kernel))) (by decide +kernel)
theorem m_b3ce2bdc : (.instanceMethod y_M_note : Cond) ∈ xt_tbl := xt_in (xt_t10 (List.mem_of_getElem? (i := 239) (by decide +kernel))) (by decide +kernel)
theorem m_b2673fc8 : (.selects "StackHostModel" y_M_note y_M_note : Cond) ∈ xt_tbl := xt_in (xt_v9 (q := (⟨"StackHostModel", "note", "(I)V"⟩, 97)) (List.mem_of_getElem? (i := 9) (by decide +kernel))) (by decide +kernel)
theorem m_1dbf8488 : (.code y_M_note b_M_note 5 none : Cond) ∈ xt_tbl := xt_in (xt_t11 (List.mem_of_getElem? (i := 0) (by decide +kernel))) (by decide +kernel)
theorem m_e7c863cf : (.methodLink "StackHostModel" 281 y_M_importEntry : Cond) ∈ xt_tbl := xt_in (xt_t11 (List.mem_of_getElem? (i := 20) (by decide +kernel))) (by decide +kernel)
theorem m_ba28eb00 : (.instanceMethod y_M_importEntry : Cond) ∈ xt_tbl := xt_in (xt_t11 (List.mem_of_getElem? (i := 22) (by decide +kernel))) (by decide +kernel)
theorem m_d1bca475 : (.selects "StackHostModel" y_M_importEntry y_M_importEntry : Cond) ∈ xt_tbl := xt_in (xt_v9 (q := (⟨"StackHostModel", "importEntry", "()V"⟩, 97)) (List.mem_of_getElem? (i := 14) (by decide +kernel))) (by decide +kernel)
theorem m_02aaae69 : (.code y_M_importEntry b_M_importEntry 2 none : Cond) ∈ xt_tbl := xt_in (xt_t11 (List.mem_of_getElem? (i := 23) (by decide +kernel))) (by decide +kernel)
theorem m_14b1b20f : (.methodLink "StackHostModel" 296 y_M_body : Cond) ∈ xt_tbl := xt_in (xt_t11 (List.mem_of_getElem? (i := 55) (by decide +kernel))) (by decide +kernel)
theorem m_a733c60c : (.instanceMethod y_M_body : Cond) ∈ xt_tbl := xt_in (xt_t11 (List.mem_of_getElem? (i := 57) (by decide +kernel))) (by decide +kernel)
theorem m_fa7d877a : (.selects "StackHostModel" y_M_body y_M_body : Cond) ∈ xt_tbl := xt_in (xt_v10 (q := (⟨"StackHostModel", "body", "()V"⟩, 97)) (List.mem_of_getElem? (i := 6) (by decide +kernel))) (by decide +kernel)
theorem m_5ef6c972 : (.code y_M_body b_M_body 11 none : Cond) ∈ xt_tbl := xt_in (xt_t11 (List.mem_of_getElem? (i := 58) (by decide +kernel))) (by decide +kernel)
theorem nm_M_note : xt_nm y_M_note 1 := ⟨by decide +kernel, by decide +kernel⟩
theorem nm_M_importEntry : xt_nm y_M_importEntry 0 := ⟨by decide +kernel, by decide +kernel⟩
theorem nm_M_body : xt_nm y_M_body 0 := ⟨by decide +kernel, by decide +kernel⟩
set_option maxRecDepth 100000 in
def T_M_sectionEntry : List (Nat × Instr × Nat) := [(0, .aload_n 0, 1), (1, .iload_n 1, 1), (2, .invokevirtual 278, 3), (5, .iload_n 1, 1), (6, .tableswitch 157 1 10 #[54, 75, 82, 90, 97, 104, 115, 157, 133, 150], 54), (60, .aload_n 0, 1), (61, .bipush 96, 2), (63, .bipush 96, 2), (65, .invokevirtual 234, 3), (68, .aload_n 0, 1), (69, .iconst 1, 1), (70, .invokevirtual 243, 3), (73, .aload_n 0, 1), (74, .iconst 1, 1), (75, .invokevirtual 243, 3), (78, .goto 102, 3), (81, .aload_n 0, 1), (82, .invokevirtual 281, 3), (85, .goto 95, 3), (88, .aload_n 0, 1), (89, .invokevirtual 218, 3), (92, .pop2, 1), (93, .goto 87, 3), (96, .aload_n 0, 1), (97, .invokevirtual 284, 3), (100, .goto 80, 3), (103, .aload_n 0, 1), (104, .invokevirtual 237, 3), (107, .goto 73, 3), (110, .aload_n 0, 1), (111, .invokevirtual 287, 3), (114, .aload_n 0, 1), (115, .invokevirtual 290, 3), (118, .goto 62, 3), (121, .aload_n 0, 1), (122, .invokevirtual 293, 3), (125, .aload_n 0, 1), (126, .iconst 0, 1), (127, .iconst 3, 1), (128, .invokevirtual 234, 3), (131, .aload_n 0, 1), (132, .invokevirtual 218, 3), (135, .pop2, 1), (136, .goto 44, 3), (139, .aload_n 0, 1), (140, .invokevirtual 218, 3), (143, .pop2, 1), (144, .aload_n 0, 1), (145, .invokevirtual 290, 3), (148, .aload_n 0, 1), (149, .iconst 0, 1), (150, .invokevirtual 243, 3), (153, .goto 27, 3), (156, .aload_n 0, 1), (157, .invokevirtual 296, 3), (160, .goto 20, 3), (163, .aload_n 0, 1), (164, .invokevirtual 218, 3), (167, .pop2, 1), (168, .aload_n 0, 1), (169, .invokevirtual 290, 3), (172, .aload_n 0, 1), (173, .aload_n 0, 1), (174, .invokevirtual 218, 3), (177, .invokevirtual 255, 3), (180, .return_, 1)]
theorem D_M_sectionEntry : ∀ q ∈ T_M_sectionEntry, decode b_M_sectionEntry q.1 = .ok (q.2.1, q.2.2) := by decide +kernel

set_option maxHeartbeats 4000000 in
set_option maxRecDepth 100000 in
theorem am_M_sectionEntry_L180 (l : Launch) (hfl : l.flags = pinnedFlags ++ [noTraceFlag]) (D : va_G) (A : Nat → Prop) (σ MC MS : Nat) (h0 : xb_H) (Qr : xb_H → Nat → Nat → Prop) (h : xb_H) (bc : Nat) (bs : Nat) (hw : w_M_sectionEntry_L180 Qr h bc bs) : xb_am l D A σ 9 MC MS h0 (fun v h bc bs => v = none ∧ Qr h bc bs) (fun _ _ _ _ => False) y_M_sectionEntry.cls y_M_sectionEntry.name b_M_sectionEntry 2 ([] : List ExceptionTableEntry) none 180 [] [] h bc bs := by
  unfold w_M_sectionEntry_L180 at hw
  intro p e s m args below meth c hC H locs ls k n hE hl hR hS hk hn
  obtain ⟨hx, hb, hown, hlocks, htab, hml, hr, hB, hA, hnm⟩ := id hC
  have hts := hB.1.1.at args
  exact xb_vret bc bs hx hb hr hlocks (show k + bc ≤ MC by omega) (show n + bs ≤ MS by omega) hE hR hS (xb_d D_M_sectionEntry 65 rfl) hw

set_option maxHeartbeats 4000000 in
set_option maxRecDepth 100000 in
theorem am_M_sectionEntry_L163 (l : Launch) (hfl : l.flags = pinnedFlags ++ [noTraceFlag]) (D : va_G) (A : Nat → Prop) (σ MC MS : Nat) (h0 : xb_H) (Qr : xb_H → Nat → Nat → Prop) (x0 : Nat) (h : xb_H) (bc : Nat) (bs : Nat) (hw : w_M_sectionEntry_L163 Qr x0 h bc bs) : xb_am l D A σ 9 MC MS h0 (fun v h bc bs => v = none ∧ Qr h bc bs) (fun _ _ _ _ => False) y_M_sectionEntry.cls y_M_sectionEntry.name b_M_sectionEntry 2 ([] : List ExceptionTableEntry) none 163 [(0, .ref x0)] [] h bc bs := by
  unfold w_M_sectionEntry_L163 at hw
  intro p e s m args below meth c hC H locs ls k n hE hl hR hS hk hn
  obtain ⟨hx, hb, hown, hlocks, htab, hml, hr, hB, hA, hnm⟩ := id hC
  have hts := hB.1.1.at args
  refine lv_aload_n hx hb (xb_d D_M_sectionEntry 56 rfl) rfl (lv_at hl 0 rfl) ?_
  obtain ⟨hk1, hw⟩ := hw
  refine xb_call0 (D := D) (A := A) (σ := σ) (h := h) (d := 4) (maxL := 5) (rest := []) (av := [.ref x0]) (fun T hT X => by obtain ⟨cb9, ra9, rb9, rc9⟩ := xb_recv (ci := 8) hR rfl hk1 (by decide); exact xt_invV X hx hown (hts _ m_e991293f) (hts _ m_385a74b3) (hts _ m_c9fbcd02) (xt_sigOf (hts _ m_1f53f210)) nm_M_count (by rw [hT]; exact ra9) rb9 rc9 (g := F0 m 164 ls [.ref x0]) rfl (argsL := []) (rest := []) rfl rfl (by rw [hb]; exact (xb_d D_M_sectionEntry 57 rfl))) (ok_M_count l hfl D A σ x0 h _ hw) (hml.trans hl.1.symm) (by rw [hb]; exact (xb_d D_M_sectionEntry 57 rfl)) (Nat.le_of_ble_eq_true rfl) (Nat.le_of_ble_eq_true rfl) (Nat.le_of_ble_eq_true rfl) (show k ≤ MC by omega) (show n ≤ MS by omega) (xt_w1 hB.1 m_1f53f210) (xt_cdOf hB.1 m_1f53f210) (hts _ m_d5ed7bed) hB hR hS hA (fun vv h2 H locs hq hEh2 hR hS => ?_)
  obtain ⟨r3, rfl, hw⟩ := hq
  have hw := hw hEh2
  have hE := hE.tr hEh2
  refine W.eq (g2 := F0 m 167 ls [.long r3]) rfl ?_
  refine lv_pop2_2 hx hb (xb_d D_M_sectionEntry 58 rfl) rfl ?_
  refine lv_aload_n hx hb (xb_d D_M_sectionEntry 59 rfl) rfl (lv_at hl 0 rfl) ?_
  have hk1 : xb_k h2 x0 = 9 := hEh2.k hk1
  refine xb_call0 (D := D) (A := A) (σ := σ) (h := h2) (d := 7) (maxL := 5) (rest := []) (av := [.ref x0]) (fun T hT X => by obtain ⟨cb9, ra9, rb9, rc9⟩ := xb_recv (ci := 8) hR rfl hk1 (by decide); exact xt_invV X hx hown (hts _ m_4644df8e) (hts _ m_2230da74) (hts _ m_7fd46769) (xt_sigOf (hts _ m_ed213729)) nm_M_expression (by rw [hT]; exact ra9) rb9 rc9 (g := F0 m 169 ls [.ref x0]) rfl (argsL := []) (rest := []) rfl rfl (by rw [hb]; exact (xb_d D_M_sectionEntry 60 rfl))) (ok_M_expression l hfl D A σ x0 h2 _ hw) (hml.trans hl.1.symm) (by rw [hb]; exact (xb_d D_M_sectionEntry 60 rfl)) (Nat.le_of_ble_eq_true rfl) (Nat.le_of_ble_eq_true rfl) (Nat.le_of_ble_eq_true rfl) (show k ≤ MC by omega) (show n ≤ MS by omega) (xt_w1 hB.1 m_ed213729) (xt_cdOf hB.1 m_ed213729) (hts _ m_d5ed7bed) hB hR hS hA (fun vv h4 H locs hq hEh4 hR hS => ?_)
  obtain ⟨rfl, hw⟩ := hq
  have hw := hw hEh4
  have hE := hE.tr hEh4
  refine W.eq (g2 := F0 m 172 ls []) rfl ?_
  refine lv_aload_n hx hb (xb_d D_M_sectionEntry 61 rfl) rfl (lv_at hl 0 rfl) ?_
  refine lv_aload_n hx hb (xb_d D_M_sectionEntry 62 rfl) rfl (lv_at hl 0 rfl) ?_
  have hk1 : xb_k h4 x0 = 9 := hEh4.k hk1
  refine xb_call0 (D := D) (A := A) (σ := σ) (h := h4) (d := 4) (maxL := 5) (rest := [.ref x0]) (av := [.ref x0]) (fun T hT X => by obtain ⟨cb9, ra9, rb9, rc9⟩ := xb_recv (ci := 8) hR rfl hk1 (by decide); exact xt_invV X hx hown (hts _ m_e991293f) (hts _ m_385a74b3) (hts _ m_c9fbcd02) (xt_sigOf (hts _ m_1f53f210)) nm_M_count (by rw [hT]; exact ra9) rb9 rc9 (g := F0 m 174 ls [.ref x0, .ref x0]) rfl (argsL := []) (rest := [.ref x0]) rfl rfl (by rw [hb]; exact (xb_d D_M_sectionEntry 63 rfl))) (ok_M_count l hfl D A σ x0 h4 _ hw) (hml.trans hl.1.symm) (by rw [hb]; exact (xb_d D_M_sectionEntry 63 rfl)) (Nat.le_of_ble_eq_true rfl) (Nat.le_of_ble_eq_true rfl) (Nat.le_of_ble_eq_true rfl) (show k ≤ MC by omega) (show n ≤ MS by omega) (xt_w1 hB.1 m_1f53f210) (xt_cdOf hB.1 m_1f53f210) (hts _ m_d5ed7bed) hB hR hS hA (fun vv h6 H locs hq hEh6 hR hS => ?_)
  obtain ⟨r7, rfl, hw⟩ := hq
  have hw := hw hEh6
  have hE := hE.tr hEh6
  refine W.eq (g2 := F0 m 177 ls [.long r7, .ref x0]) rfl ?_
  have hk1 : xb_k h6 x0 = 9 := hEh6.k hk1
  refine xb_call0 (D := D) (A := A) (σ := σ) (h := h6) (d := 3) (maxL := 3) (rest := []) (av := [.ref x0, .long r7]) (fun T hT X => by obtain ⟨cb9, ra9, rb9, rc9⟩ := xb_recv (ci := 8) hR rfl hk1 (by decide); exact xt_invV X hx hown (hts _ m_dbba3a05) (hts _ m_5f0e3dde) (hts _ m_3b85804e) (xt_sigOf (hts _ m_d537edcb)) nm_M_skip (by rw [hT]; exact ra9) rb9 rc9 (g := F0 m 177 ls [.long r7, .ref x0]) rfl (argsL := [.long r7]) (rest := []) rfl rfl (by rw [hb]; exact (xb_d D_M_sectionEntry 64 rfl))) (ok_M_skip l hfl D A σ x0 r7 h6 _ hw) (hml.trans hl.1.symm) (by rw [hb]; exact (xb_d D_M_sectionEntry 64 rfl)) (Nat.le_of_ble_eq_true rfl) (Nat.le_of_ble_eq_true rfl) (Nat.le_of_ble_eq_true rfl) (show k ≤ MC by omega) (show n ≤ MS by omega) (xt_w1 hB.1 m_d537edcb) (xt_cdOf hB.1 m_d537edcb) (hts _ m_d5ed7bed) hB hR hS hA (fun vv h8 H locs hq hEh8 hR hS => ?_)
  obtain ⟨rfl, hw⟩ := hq
  have hw := hw hEh8
  have hE := hE.tr hEh8
  refine W.eq (g2 := F0 m 180 ls []) rfl ?_
  exact am_M_sectionEntry_L180 l hfl D A σ MC MS h0 Qr h8 bc bs hw p e s m args below meth c hC H locs ls k n hE (lv_sub hl [] rfl) hR hS (by omega) (by omega)

set_option maxHeartbeats 4000000 in
set_option maxRecDepth 100000 in
theorem ok_M_sectionEntry (l : Launch) (hfl : l.flags = pinnedFlags ++ [noTraceFlag]) (D : va_G) (A : Nat → Prop) (σ : Nat) (x0 : Nat) (x1 : Int32) (h : xb_H) (bc : Nat) (bs : Nat) (Qr : xb_H → Nat → Nat → Prop) (hw : w_M_sectionEntry x0 x1 h bc bs Qr) : xb_Met l y_M_sectionEntry [.code y_M_sectionEntry b_M_sectionEntry 2 none] (xb_rm 9 bc bs) (xb_Pc D A σ h [.ref x0, .int x1]) (xb_Qc D A h bc bs (fun v h bc bs => v = none ∧ Qr h bc bs) (fun _ _ _ _ => False)) A := by
  refine xb_ofAm (cc := b_M_sectionEntry) (by decide) (Nat.le_of_ble_eq_true rfl) ?_
  unfold w_M_sectionEntry at hw
  show xb_am l D A σ 9 bc bs h (fun v h bc bs => v = none ∧ Qr h bc bs) (fun _ _ _ _ => False) y_M_sectionEntry.cls y_M_sectionEntry.name b_M_sectionEntry 2 ([] : List ExceptionTableEntry) none 0 [(0, .ref x0), (1, .int x1)] [] h bc bs
  obtain ⟨MC, hMC⟩ : ∃ x, x = bc := ⟨_, rfl⟩
  obtain ⟨MS, hMS⟩ : ∃ x, x = bs := ⟨_, rfl⟩
  rw [show xb_am l D A σ 9 bc bs = xb_am l D A σ 9 MC MS by rw [hMC, hMS]]
  obtain ⟨h0, hh0⟩ : ∃ x, x = h := ⟨_, rfl⟩
  rw [show xb_am l D A σ 9 MC MS h = xb_am l D A σ 9 MC MS h0 by rw [hh0]]
  intro p e s m args below meth c hC H locs ls k n hE hl hR hS hk hn
  obtain ⟨hx, hb, hown, hlocks, htab, hml, hr, hB, hA, hnm⟩ := id hC
  have hts := hB.1.1.at args
  refine lv_aload_n hx hb (xb_d D_M_sectionEntry 0 rfl) rfl (lv_at hl 0 rfl) ?_
  refine lv_iload_n hx hb (xb_d D_M_sectionEntry 1 rfl) rfl (lv_at hl 1 rfl) ?_
  obtain ⟨hk1, hw⟩ := hw
  refine xb_call (D := D) (A := A) (σ := σ) (h := h) (d := 2) (mc := bc) (ms := bs) (maxL := 5) (rest := []) (av := [.ref x0, .int x1]) (fun T hT X => by obtain ⟨cb9, ra9, rb9, rc9⟩ := xb_recv (ci := 8) hR rfl hk1 (by decide); exact xt_invV X hx hown (hts _ m_35d7e567) (hts _ m_b3ce2bdc) (hts _ m_b2673fc8) (xt_sigOf (hts _ m_1dbf8488)) nm_M_note (by rw [hT]; exact ra9) rb9 rc9 (g := F0 m 2 ls [.int x1, .ref x0]) rfl (argsL := [.int x1]) (rest := []) rfl rfl (by rw [hb]; exact (xb_d D_M_sectionEntry 2 rfl))) (ok_M_note l hfl D A σ x0 x1 h bc bs _ hw) (hml.trans hl.1.symm) (by rw [hb]; exact (xb_d D_M_sectionEntry 2 rfl)) (Nat.le_of_ble_eq_true rfl) (Nat.le_of_ble_eq_true rfl) (Nat.le_of_ble_eq_true rfl) (show k + bc ≤ MC by omega) (show n + bs ≤ MS by omega) (xt_w1 hB.1 m_1dbf8488) (xt_cdOf hB.1 m_1dbf8488) (hts _ m_d5ed7bed) hB hR hS hA (fun vv h2 bc3 bs3 kk3 nn3 H locs hk3 hn3 hq hEh2 hR hS => ?_) (fun XX ax h2 bc3 bs3 kk3 nn3 H locs hk3 hn3 hq hEh2 hex hR hS => ?_)
  · obtain ⟨rfl, hw⟩ := hq
    have hw := hw hEh2
    have hE := hE.tr hEh2
    refine W.eq (g2 := F0 m 5 ls []) rfl ?_
    refine lv_iload_n hx hb (xb_d D_M_sectionEntry 3 rfl) rfl (lv_at hl 1 rfl) ?_
    by_cases hc4 : x1 = 1
    · have hw := hw.1 hc4
      refine xt_numi hc4 ?_
      refine lv_tableIn (off := 54) (tgt := 60) hx hb (xb_d D_M_sectionEntry 4 rfl) (by decide +kernel) (by decide +kernel) (by decide +kernel) (by decide) ?_
      refine lv_aload_n hx hb (xb_d D_M_sectionEntry 5 rfl) rfl (lv_at hl 0 rfl) ?_
      refine lv_bipush (v := 96) hx hb (xb_d D_M_sectionEntry 6 rfl) (by decide) ?_
      refine lv_bipush (v := 96) hx hb (xb_d D_M_sectionEntry 7 rfl) (by decide) ?_
      have hk1 : xb_k h2 x0 = 9 := hEh2.k hk1
      refine xb_call0 (D := D) (A := A) (σ := σ) (h := h2) (d := 4) (maxL := 4) (rest := []) (av := [.ref x0, .int 96, .int 96]) (fun T hT X => by obtain ⟨cb9, ra9, rb9, rc9⟩ := xb_recv (ci := 8) hR rfl hk1 (by decide); exact xt_invV X hx hown (hts _ m_8f6f4626) (hts _ m_01caba2f) (hts _ m_4616b4d4) (xt_sigOf (hts _ m_6db7f9f9)) nm_M_wanted (by rw [hT]; exact ra9) rb9 rc9 (g := F0 m 65 ls [.int 96, .int 96, .ref x0]) rfl (argsL := [.int 96, .int 96]) (rest := []) rfl rfl (by rw [hb]; exact (xb_d D_M_sectionEntry 8 rfl))) (ok_M_wanted l hfl D A σ x0 96 96 h2 _ hw) (hml.trans hl.1.symm) (by rw [hb]; exact (xb_d D_M_sectionEntry 8 rfl)) (Nat.le_of_ble_eq_true rfl) (Nat.le_of_ble_eq_true rfl) (Nat.le_of_ble_eq_true rfl) (show (k + kk3) ≤ MC by omega) (show (n + nn3) ≤ MS by omega) (xt_w1 hB.1 m_6db7f9f9) (xt_cdOf hB.1 m_6db7f9f9) (hts _ m_d5ed7bed) hB hR hS hA (fun vv h5 H locs hq hEh5 hR hS => ?_)
      obtain ⟨rfl, hw⟩ := hq
      have hw := hw hEh5
      have hE := hE.tr hEh5
      refine W.eq (g2 := F0 m 68 ls []) rfl ?_
      refine lv_aload_n hx hb (xb_d D_M_sectionEntry 9 rfl) rfl (lv_at hl 0 rfl) ?_
      refine lv_iconst (v := 1) hx hb (xb_d D_M_sectionEntry 10 rfl) (by decide) ?_
      have hk1 : xb_k h5 x0 = 9 := hEh5.k hk1
      refine xb_call0 (D := D) (A := A) (σ := σ) (h := h5) (d := 5) (maxL := 6) (rest := []) (av := [.ref x0, .int 1]) (fun T hT X => by obtain ⟨cb9, ra9, rb9, rc9⟩ := xb_recv (ci := 8) hR rfl hk1 (by decide); exact xt_invV X hx hown (hts _ m_065c51a0) (hts _ m_29bd5f42) (hts _ m_39b260c0) (xt_sigOf (hts _ m_f669d6ca)) nm_M_row (by rw [hT]; exact ra9) rb9 rc9 (g := F0 m 70 ls [.int 1, .ref x0]) rfl (argsL := [.int 1]) (rest := []) rfl rfl (by rw [hb]; exact (xb_d D_M_sectionEntry 11 rfl))) (ok_M_row l hfl D A σ x0 1 h5 _ hw) (hml.trans hl.1.symm) (by rw [hb]; exact (xb_d D_M_sectionEntry 11 rfl)) (Nat.le_of_ble_eq_true rfl) (Nat.le_of_ble_eq_true rfl) (Nat.le_of_ble_eq_true rfl) (show (k + kk3) ≤ MC by omega) (show (n + nn3) ≤ MS by omega) (xt_w1 hB.1 m_f669d6ca) (xt_cdOf hB.1 m_f669d6ca) (hts _ m_d5ed7bed) hB hR hS hA (fun vv h7 H locs hq hEh7 hR hS => ?_)
      obtain ⟨rfl, hw⟩ := hq
      have hw := hw hEh7
      have hE := hE.tr hEh7
      refine W.eq (g2 := F0 m 73 ls []) rfl ?_
      refine lv_aload_n hx hb (xb_d D_M_sectionEntry 12 rfl) rfl (lv_at hl 0 rfl) ?_
      refine lv_iconst (v := 1) hx hb (xb_d D_M_sectionEntry 13 rfl) (by decide) ?_
      have hk1 : xb_k h7 x0 = 9 := hEh7.k hk1
      refine xb_call0 (D := D) (A := A) (σ := σ) (h := h7) (d := 5) (maxL := 6) (rest := []) (av := [.ref x0, .int 1]) (fun T hT X => by obtain ⟨cb9, ra9, rb9, rc9⟩ := xb_recv (ci := 8) hR rfl hk1 (by decide); exact xt_invV X hx hown (hts _ m_065c51a0) (hts _ m_29bd5f42) (hts _ m_39b260c0) (xt_sigOf (hts _ m_f669d6ca)) nm_M_row (by rw [hT]; exact ra9) rb9 rc9 (g := F0 m 75 ls [.int 1, .ref x0]) rfl (argsL := [.int 1]) (rest := []) rfl rfl (by rw [hb]; exact (xb_d D_M_sectionEntry 14 rfl))) (ok_M_row l hfl D A σ x0 1 h7 _ hw) (hml.trans hl.1.symm) (by rw [hb]; exact (xb_d D_M_sectionEntry 14 rfl)) (Nat.le_of_ble_eq_true rfl) (Nat.le_of_ble_eq_true rfl) (Nat.le_of_ble_eq_true rfl) (show (k + kk3) ≤ MC by omega) (show (n + nn3) ≤ MS by omega) (xt_w1 hB.1 m_f669d6ca) (xt_cdOf hB.1 m_f669d6ca) (hts _ m_d5ed7bed) hB hR hS hA (fun vv h9 H locs hq hEh9 hR hS => ?_)
      obtain ⟨rfl, hw⟩ := hq
      have hw := hw hEh9
      have hE := hE.tr hEh9
      refine W.eq (g2 := F0 m 78 ls []) rfl ?_
      refine lv_goto (tgt := 180) hx hb (xb_d D_M_sectionEntry 15 rfl) rfl ?_
      exact am_M_sectionEntry_L180 l hfl D A σ MC MS h0 Qr h9 bc3 bs3 hw p e s m args below meth c hC H locs ls (k + kk3) (n + nn3) hE (lv_sub hl [] rfl) hR hS (by omega) (by omega)
    have hw := hw.2
    by_cases hc11 : x1 = 2
    · have hw := hw.1 hc11
      refine xt_numi hc11 ?_
      refine lv_tableIn (off := 75) (tgt := 81) hx hb (xb_d D_M_sectionEntry 4 rfl) (by decide +kernel) (by decide +kernel) (by decide +kernel) (by decide) ?_
      refine lv_aload_n hx hb (xb_d D_M_sectionEntry 16 rfl) rfl (lv_at hl 0 rfl) ?_
      have hk1 : xb_k h2 x0 = 9 := hEh2.k hk1
      refine xb_call0 (D := D) (A := A) (σ := σ) (h := h2) (d := 7) (maxL := 2) (rest := []) (av := [.ref x0]) (fun T hT X => by obtain ⟨cb9, ra9, rb9, rc9⟩ := xb_recv (ci := 8) hR rfl hk1 (by decide); exact xt_invV X hx hown (hts _ m_e7c863cf) (hts _ m_ba28eb00) (hts _ m_d1bca475) (xt_sigOf (hts _ m_02aaae69)) nm_M_importEntry (by rw [hT]; exact ra9) rb9 rc9 (g := F0 m 82 ls [.ref x0]) rfl (argsL := []) (rest := []) rfl rfl (by rw [hb]; exact (xb_d D_M_sectionEntry 17 rfl))) (ok_M_importEntry l hfl D A σ x0 h2 _ hw) (hml.trans hl.1.symm) (by rw [hb]; exact (xb_d D_M_sectionEntry 17 rfl)) (Nat.le_of_ble_eq_true rfl) (Nat.le_of_ble_eq_true rfl) (Nat.le_of_ble_eq_true rfl) (show (k + kk3) ≤ MC by omega) (show (n + nn3) ≤ MS by omega) (xt_w1 hB.1 m_02aaae69) (xt_cdOf hB.1 m_02aaae69) (hts _ m_d5ed7bed) hB hR hS hA (fun vv h12 H locs hq hEh12 hR hS => ?_)
      obtain ⟨rfl, hw⟩ := hq
      have hw := hw hEh12
      have hE := hE.tr hEh12
      refine W.eq (g2 := F0 m 85 ls []) rfl ?_
      refine lv_goto (tgt := 180) hx hb (xb_d D_M_sectionEntry 18 rfl) rfl ?_
      exact am_M_sectionEntry_L180 l hfl D A σ MC MS h0 Qr h12 bc3 bs3 hw p e s m args below meth c hC H locs ls (k + kk3) (n + nn3) hE (lv_sub hl [] rfl) hR hS (by omega) (by omega)
    have hw := hw.2
    by_cases hc14 : x1 = 3
    · have hw := hw.1 hc14
      refine xt_numi hc14 ?_
      refine lv_tableIn (off := 82) (tgt := 88) hx hb (xb_d D_M_sectionEntry 4 rfl) (by decide +kernel) (by decide +kernel) (by decide +kernel) (by decide) ?_
      refine lv_aload_n hx hb (xb_d D_M_sectionEntry 19 rfl) rfl (lv_at hl 0 rfl) ?_
      have hk1 : xb_k h2 x0 = 9 := hEh2.k hk1
      refine xb_call0 (D := D) (A := A) (σ := σ) (h := h2) (d := 4) (maxL := 5) (rest := []) (av := [.ref x0]) (fun T hT X => by obtain ⟨cb9, ra9, rb9, rc9⟩ := xb_recv (ci := 8) hR rfl hk1 (by decide); exact xt_invV X hx hown (hts _ m_e991293f) (hts _ m_385a74b3) (hts _ m_c9fbcd02) (xt_sigOf (hts _ m_1f53f210)) nm_M_count (by rw [hT]; exact ra9) rb9 rc9 (g := F0 m 89 ls [.ref x0]) rfl (argsL := []) (rest := []) rfl rfl (by rw [hb]; exact (xb_d D_M_sectionEntry 20 rfl))) (ok_M_count l hfl D A σ x0 h2 _ hw) (hml.trans hl.1.symm) (by rw [hb]; exact (xb_d D_M_sectionEntry 20 rfl)) (Nat.le_of_ble_eq_true rfl) (Nat.le_of_ble_eq_true rfl) (Nat.le_of_ble_eq_true rfl) (show (k + kk3) ≤ MC by omega) (show (n + nn3) ≤ MS by omega) (xt_w1 hB.1 m_1f53f210) (xt_cdOf hB.1 m_1f53f210) (hts _ m_d5ed7bed) hB hR hS hA (fun vv h15 H locs hq hEh15 hR hS => ?_)
      obtain ⟨r16, rfl, hw⟩ := hq
      have hw := hw hEh15
      have hE := hE.tr hEh15
      refine W.eq (g2 := F0 m 92 ls [.long r16]) rfl ?_
      refine lv_pop2_2 hx hb (xb_d D_M_sectionEntry 21 rfl) rfl ?_
      refine lv_goto (tgt := 180) hx hb (xb_d D_M_sectionEntry 22 rfl) rfl ?_
      exact am_M_sectionEntry_L180 l hfl D A σ MC MS h0 Qr h15 bc3 bs3 hw p e s m args below meth c hC H locs ls (k + kk3) (n + nn3) hE (lv_sub hl [] rfl) hR hS (by omega) (by omega)
    have hw := hw.2
    by_cases hc17 : x1 = 4
    · have hw := hw.1 hc17
      refine xt_numi hc17 ?_
      refine lv_tableIn (off := 90) (tgt := 96) hx hb (xb_d D_M_sectionEntry 4 rfl) (by decide +kernel) (by decide +kernel) (by decide +kernel) (by decide) ?_
      refine lv_aload_n hx hb (xb_d D_M_sectionEntry 23 rfl) rfl (lv_at hl 0 rfl) ?_
      have hk1 : xb_k h2 x0 = 9 := hEh2.k hk1
      refine xb_call0 (D := D) (A := A) (σ := σ) (h := h2) (d := 6) (maxL := 1) (rest := []) (av := [.ref x0]) (fun T hT X => by obtain ⟨cb9, ra9, rb9, rc9⟩ := xb_recv (ci := 8) hR rfl hk1 (by decide); exact xt_invV X hx hown (hts _ m_649f8fdd) (hts _ m_5adfa267) (hts _ m_d7022070) (xt_sigOf (hts _ m_11c8eedd)) nm_M_tableType (by rw [hT]; exact ra9) rb9 rc9 (g := F0 m 97 ls [.ref x0]) rfl (argsL := []) (rest := []) rfl rfl (by rw [hb]; exact (xb_d D_M_sectionEntry 24 rfl))) (ok_M_tableType l hfl D A σ x0 h2 _ hw) (hml.trans hl.1.symm) (by rw [hb]; exact (xb_d D_M_sectionEntry 24 rfl)) (Nat.le_of_ble_eq_true rfl) (Nat.le_of_ble_eq_true rfl) (Nat.le_of_ble_eq_true rfl) (show (k + kk3) ≤ MC by omega) (show (n + nn3) ≤ MS by omega) (xt_w1 hB.1 m_11c8eedd) (xt_cdOf hB.1 m_11c8eedd) (hts _ m_d5ed7bed) hB hR hS hA (fun vv h18 H locs hq hEh18 hR hS => ?_)
      obtain ⟨rfl, hw⟩ := hq
      have hw := hw hEh18
      have hE := hE.tr hEh18
      refine W.eq (g2 := F0 m 100 ls []) rfl ?_
      refine lv_goto (tgt := 180) hx hb (xb_d D_M_sectionEntry 25 rfl) rfl ?_
      exact am_M_sectionEntry_L180 l hfl D A σ MC MS h0 Qr h18 bc3 bs3 hw p e s m args below meth c hC H locs ls (k + kk3) (n + nn3) hE (lv_sub hl [] rfl) hR hS (by omega) (by omega)
    have hw := hw.2
    by_cases hc20 : x1 = 5
    · have hw := hw.1 hc20
      refine xt_numi hc20 ?_
      refine lv_tableIn (off := 97) (tgt := 103) hx hb (xb_d D_M_sectionEntry 4 rfl) (by decide +kernel) (by decide +kernel) (by decide +kernel) (by decide) ?_
      refine lv_aload_n hx hb (xb_d D_M_sectionEntry 26 rfl) rfl (lv_at hl 0 rfl) ?_
      have hk1 : xb_k h2 x0 = 9 := hEh2.k hk1
      refine xb_call0 (D := D) (A := A) (σ := σ) (h := h2) (d := 5) (maxL := 3) (rest := []) (av := [.ref x0]) (fun T hT X => by obtain ⟨cb9, ra9, rb9, rc9⟩ := xb_recv (ci := 8) hR rfl hk1 (by decide); exact xt_invV X hx hown (hts _ m_27918af5) (hts _ m_8f0ce704) (hts _ m_1c9ac27d) (xt_sigOf (hts _ m_c998ef6e)) nm_M_limits (by rw [hT]; exact ra9) rb9 rc9 (g := F0 m 104 ls [.ref x0]) rfl (argsL := []) (rest := []) rfl rfl (by rw [hb]; exact (xb_d D_M_sectionEntry 27 rfl))) (ok_M_limits l hfl D A σ x0 h2 _ hw) (hml.trans hl.1.symm) (by rw [hb]; exact (xb_d D_M_sectionEntry 27 rfl)) (Nat.le_of_ble_eq_true rfl) (Nat.le_of_ble_eq_true rfl) (Nat.le_of_ble_eq_true rfl) (show (k + kk3) ≤ MC by omega) (show (n + nn3) ≤ MS by omega) (xt_w1 hB.1 m_c998ef6e) (xt_cdOf hB.1 m_c998ef6e) (hts _ m_d5ed7bed) hB hR hS hA (fun vv h21 H locs hq hEh21 hR hS => ?_)
      obtain ⟨rfl, hw⟩ := hq
      have hw := hw hEh21
      have hE := hE.tr hEh21
      refine W.eq (g2 := F0 m 107 ls []) rfl ?_
      refine lv_goto (tgt := 180) hx hb (xb_d D_M_sectionEntry 28 rfl) rfl ?_
      exact am_M_sectionEntry_L180 l hfl D A σ MC MS h0 Qr h21 bc3 bs3 hw p e s m args below meth c hC H locs ls (k + kk3) (n + nn3) hE (lv_sub hl [] rfl) hR hS (by omega) (by omega)
    have hw := hw.2
    by_cases hc23 : x1 = 6
    · have hw := hw.1 hc23
      refine xt_numi hc23 ?_
      refine lv_tableIn (off := 104) (tgt := 110) hx hb (xb_d D_M_sectionEntry 4 rfl) (by decide +kernel) (by decide +kernel) (by decide +kernel) (by decide) ?_
      refine lv_aload_n hx hb (xb_d D_M_sectionEntry 29 rfl) rfl (lv_at hl 0 rfl) ?_
      have hk1 : xb_k h2 x0 = 9 := hEh2.k hk1
      refine xb_call0 (D := D) (A := A) (σ := σ) (h := h2) (d := 5) (maxL := 1) (rest := []) (av := [.ref x0]) (fun T hT X => by obtain ⟨cb9, ra9, rb9, rc9⟩ := xb_recv (ci := 8) hR rfl hk1 (by decide); exact xt_invV X hx hown (hts _ m_d7224fd9) (hts _ m_4ba67653) (hts _ m_0264d432) (xt_sigOf (hts _ m_db18be48)) nm_M_variableKind (by rw [hT]; exact ra9) rb9 rc9 (g := F0 m 111 ls [.ref x0]) rfl (argsL := []) (rest := []) rfl rfl (by rw [hb]; exact (xb_d D_M_sectionEntry 30 rfl))) (ok_M_variableKind l hfl D A σ x0 h2 _ hw) (hml.trans hl.1.symm) (by rw [hb]; exact (xb_d D_M_sectionEntry 30 rfl)) (Nat.le_of_ble_eq_true rfl) (Nat.le_of_ble_eq_true rfl) (Nat.le_of_ble_eq_true rfl) (show (k + kk3) ≤ MC by omega) (show (n + nn3) ≤ MS by omega) (xt_w1 hB.1 m_db18be48) (xt_cdOf hB.1 m_db18be48) (hts _ m_d5ed7bed) hB hR hS hA (fun vv h24 H locs hq hEh24 hR hS => ?_)
      obtain ⟨rfl, hw⟩ := hq
      have hw := hw hEh24
      have hE := hE.tr hEh24
      refine W.eq (g2 := F0 m 114 ls []) rfl ?_
      refine lv_aload_n hx hb (xb_d D_M_sectionEntry 31 rfl) rfl (lv_at hl 0 rfl) ?_
      have hk1 : xb_k h24 x0 = 9 := hEh24.k hk1
      refine xb_call0 (D := D) (A := A) (σ := σ) (h := h24) (d := 7) (maxL := 5) (rest := []) (av := [.ref x0]) (fun T hT X => by obtain ⟨cb9, ra9, rb9, rc9⟩ := xb_recv (ci := 8) hR rfl hk1 (by decide); exact xt_invV X hx hown (hts _ m_4644df8e) (hts _ m_2230da74) (hts _ m_7fd46769) (xt_sigOf (hts _ m_ed213729)) nm_M_expression (by rw [hT]; exact ra9) rb9 rc9 (g := F0 m 115 ls [.ref x0]) rfl (argsL := []) (rest := []) rfl rfl (by rw [hb]; exact (xb_d D_M_sectionEntry 32 rfl))) (ok_M_expression l hfl D A σ x0 h24 _ hw) (hml.trans hl.1.symm) (by rw [hb]; exact (xb_d D_M_sectionEntry 32 rfl)) (Nat.le_of_ble_eq_true rfl) (Nat.le_of_ble_eq_true rfl) (Nat.le_of_ble_eq_true rfl) (show (k + kk3) ≤ MC by omega) (show (n + nn3) ≤ MS by omega) (xt_w1 hB.1 m_ed213729) (xt_cdOf hB.1 m_ed213729) (hts _ m_d5ed7bed) hB hR hS hA (fun vv h26 H locs hq hEh26 hR hS => ?_)
      obtain ⟨rfl, hw⟩ := hq
      have hw := hw hEh26
      have hE := hE.tr hEh26
      refine W.eq (g2 := F0 m 118 ls []) rfl ?_
      refine lv_goto (tgt := 180) hx hb (xb_d D_M_sectionEntry 33 rfl) rfl ?_
      exact am_M_sectionEntry_L180 l hfl D A σ MC MS h0 Qr h26 bc3 bs3 hw p e s m args below meth c hC H locs ls (k + kk3) (n + nn3) hE (lv_sub hl [] rfl) hR hS (by omega) (by omega)
    have hw := hw.2
    by_cases hc28 : x1 = 7
    · have hw := hw.1 hc28
      refine xt_numi hc28 ?_
      refine lv_tableIn (off := 115) (tgt := 121) hx hb (xb_d D_M_sectionEntry 4 rfl) (by decide +kernel) (by decide +kernel) (by decide +kernel) (by decide) ?_
      refine lv_aload_n hx hb (xb_d D_M_sectionEntry 34 rfl) rfl (lv_at hl 0 rfl) ?_
      have hk1 : xb_k h2 x0 = 9 := hEh2.k hk1
      refine xb_call0 (D := D) (A := A) (σ := σ) (h := h2) (d := 5) (maxL := 5) (rest := []) (av := [.ref x0]) (fun T hT X => by obtain ⟨cb9, ra9, rb9, rc9⟩ := xb_recv (ci := 8) hR rfl hk1 (by decide); exact xt_invV X hx hown (hts _ m_32411888) (hts _ m_1909bcad) (hts _ m_471efb70) (xt_sigOf (hts _ m_06b9cb5d)) nm_M_name0 (by rw [hT]; exact ra9) rb9 rc9 (g := F0 m 122 ls [.ref x0]) rfl (argsL := []) (rest := []) rfl rfl (by rw [hb]; exact (xb_d D_M_sectionEntry 35 rfl))) (ok_M_name0 l hfl D A σ x0 h2 _ hw) (hml.trans hl.1.symm) (by rw [hb]; exact (xb_d D_M_sectionEntry 35 rfl)) (Nat.le_of_ble_eq_true rfl) (Nat.le_of_ble_eq_true rfl) (Nat.le_of_ble_eq_true rfl) (show (k + kk3) ≤ MC by omega) (show (n + nn3) ≤ MS by omega) (xt_w1 hB.1 m_06b9cb5d) (xt_cdOf hB.1 m_06b9cb5d) (hts _ m_d5ed7bed) hB hR hS hA (fun vv h29 H locs hq hEh29 hR hS => ?_)
      obtain ⟨rfl, hw⟩ := hq
      have hw := hw hEh29
      have hE := hE.tr hEh29
      refine W.eq (g2 := F0 m 125 ls []) rfl ?_
      refine lv_aload_n hx hb (xb_d D_M_sectionEntry 36 rfl) rfl (lv_at hl 0 rfl) ?_
      refine lv_iconst (v := 0) hx hb (xb_d D_M_sectionEntry 37 rfl) (by decide) ?_
      refine lv_iconst (v := 3) hx hb (xb_d D_M_sectionEntry 38 rfl) (by decide) ?_
      have hk1 : xb_k h29 x0 = 9 := hEh29.k hk1
      refine xb_call0 (D := D) (A := A) (σ := σ) (h := h29) (d := 4) (maxL := 4) (rest := []) (av := [.ref x0, .int 0, .int 3]) (fun T hT X => by obtain ⟨cb9, ra9, rb9, rc9⟩ := xb_recv (ci := 8) hR rfl hk1 (by decide); exact xt_invV X hx hown (hts _ m_8f6f4626) (hts _ m_01caba2f) (hts _ m_4616b4d4) (xt_sigOf (hts _ m_6db7f9f9)) nm_M_wanted (by rw [hT]; exact ra9) rb9 rc9 (g := F0 m 128 ls [.int 3, .int 0, .ref x0]) rfl (argsL := [.int 0, .int 3]) (rest := []) rfl rfl (by rw [hb]; exact (xb_d D_M_sectionEntry 39 rfl))) (ok_M_wanted l hfl D A σ x0 0 3 h29 _ hw) (hml.trans hl.1.symm) (by rw [hb]; exact (xb_d D_M_sectionEntry 39 rfl)) (Nat.le_of_ble_eq_true rfl) (Nat.le_of_ble_eq_true rfl) (Nat.le_of_ble_eq_true rfl) (show (k + kk3) ≤ MC by omega) (show (n + nn3) ≤ MS by omega) (xt_w1 hB.1 m_6db7f9f9) (xt_cdOf hB.1 m_6db7f9f9) (hts _ m_d5ed7bed) hB hR hS hA (fun vv h31 H locs hq hEh31 hR hS => ?_)
      obtain ⟨rfl, hw⟩ := hq
      have hw := hw hEh31
      have hE := hE.tr hEh31
      refine W.eq (g2 := F0 m 131 ls []) rfl ?_
      refine lv_aload_n hx hb (xb_d D_M_sectionEntry 40 rfl) rfl (lv_at hl 0 rfl) ?_
      have hk1 : xb_k h31 x0 = 9 := hEh31.k hk1
      refine xb_call0 (D := D) (A := A) (σ := σ) (h := h31) (d := 4) (maxL := 5) (rest := []) (av := [.ref x0]) (fun T hT X => by obtain ⟨cb9, ra9, rb9, rc9⟩ := xb_recv (ci := 8) hR rfl hk1 (by decide); exact xt_invV X hx hown (hts _ m_e991293f) (hts _ m_385a74b3) (hts _ m_c9fbcd02) (xt_sigOf (hts _ m_1f53f210)) nm_M_count (by rw [hT]; exact ra9) rb9 rc9 (g := F0 m 132 ls [.ref x0]) rfl (argsL := []) (rest := []) rfl rfl (by rw [hb]; exact (xb_d D_M_sectionEntry 41 rfl))) (ok_M_count l hfl D A σ x0 h31 _ hw) (hml.trans hl.1.symm) (by rw [hb]; exact (xb_d D_M_sectionEntry 41 rfl)) (Nat.le_of_ble_eq_true rfl) (Nat.le_of_ble_eq_true rfl) (Nat.le_of_ble_eq_true rfl) (show (k + kk3) ≤ MC by omega) (show (n + nn3) ≤ MS by omega) (xt_w1 hB.1 m_1f53f210) (xt_cdOf hB.1 m_1f53f210) (hts _ m_d5ed7bed) hB hR hS hA (fun vv h33 H locs hq hEh33 hR hS => ?_)
      obtain ⟨r34, rfl, hw⟩ := hq
      have hw := hw hEh33
      have hE := hE.tr hEh33
      refine W.eq (g2 := F0 m 135 ls [.long r34]) rfl ?_
      refine lv_pop2_2 hx hb (xb_d D_M_sectionEntry 42 rfl) rfl ?_
      refine lv_goto (tgt := 180) hx hb (xb_d D_M_sectionEntry 43 rfl) rfl ?_
      exact am_M_sectionEntry_L180 l hfl D A σ MC MS h0 Qr h33 bc3 bs3 hw p e s m args below meth c hC H locs ls (k + kk3) (n + nn3) hE (lv_sub hl [] rfl) hR hS (by omega) (by omega)
    have hw := hw.2
    by_cases hc35 : x1 = 8
    · have hw := hw.1 hc35
      refine xt_numi hc35 ?_
      refine lv_tableIn (off := 157) (tgt := 163) hx hb (xb_d D_M_sectionEntry 4 rfl) (by decide +kernel) (by decide +kernel) (by decide +kernel) (by decide) ?_
      exact am_M_sectionEntry_L163 l hfl D A σ MC MS h0 Qr x0 h2 bc3 bs3 hw p e s m args below meth c hC H locs ls (k + kk3) (n + nn3) hE (lv_sub hl [0] rfl) hR hS (by omega) (by omega)
    have hw := hw.2
    by_cases hc36 : x1 = 9
    · have hw := hw.1 hc36
      refine xt_numi hc36 ?_
      refine lv_tableIn (off := 133) (tgt := 139) hx hb (xb_d D_M_sectionEntry 4 rfl) (by decide +kernel) (by decide +kernel) (by decide +kernel) (by decide) ?_
      refine lv_aload_n hx hb (xb_d D_M_sectionEntry 44 rfl) rfl (lv_at hl 0 rfl) ?_
      have hk1 : xb_k h2 x0 = 9 := hEh2.k hk1
      refine xb_call0 (D := D) (A := A) (σ := σ) (h := h2) (d := 4) (maxL := 5) (rest := []) (av := [.ref x0]) (fun T hT X => by obtain ⟨cb9, ra9, rb9, rc9⟩ := xb_recv (ci := 8) hR rfl hk1 (by decide); exact xt_invV X hx hown (hts _ m_e991293f) (hts _ m_385a74b3) (hts _ m_c9fbcd02) (xt_sigOf (hts _ m_1f53f210)) nm_M_count (by rw [hT]; exact ra9) rb9 rc9 (g := F0 m 140 ls [.ref x0]) rfl (argsL := []) (rest := []) rfl rfl (by rw [hb]; exact (xb_d D_M_sectionEntry 45 rfl))) (ok_M_count l hfl D A σ x0 h2 _ hw) (hml.trans hl.1.symm) (by rw [hb]; exact (xb_d D_M_sectionEntry 45 rfl)) (Nat.le_of_ble_eq_true rfl) (Nat.le_of_ble_eq_true rfl) (Nat.le_of_ble_eq_true rfl) (show (k + kk3) ≤ MC by omega) (show (n + nn3) ≤ MS by omega) (xt_w1 hB.1 m_1f53f210) (xt_cdOf hB.1 m_1f53f210) (hts _ m_d5ed7bed) hB hR hS hA (fun vv h37 H locs hq hEh37 hR hS => ?_)
      obtain ⟨r38, rfl, hw⟩ := hq
      have hw := hw hEh37
      have hE := hE.tr hEh37
      refine W.eq (g2 := F0 m 143 ls [.long r38]) rfl ?_
      refine lv_pop2_2 hx hb (xb_d D_M_sectionEntry 46 rfl) rfl ?_
      refine lv_aload_n hx hb (xb_d D_M_sectionEntry 47 rfl) rfl (lv_at hl 0 rfl) ?_
      have hk1 : xb_k h37 x0 = 9 := hEh37.k hk1
      refine xb_call0 (D := D) (A := A) (σ := σ) (h := h37) (d := 7) (maxL := 5) (rest := []) (av := [.ref x0]) (fun T hT X => by obtain ⟨cb9, ra9, rb9, rc9⟩ := xb_recv (ci := 8) hR rfl hk1 (by decide); exact xt_invV X hx hown (hts _ m_4644df8e) (hts _ m_2230da74) (hts _ m_7fd46769) (xt_sigOf (hts _ m_ed213729)) nm_M_expression (by rw [hT]; exact ra9) rb9 rc9 (g := F0 m 145 ls [.ref x0]) rfl (argsL := []) (rest := []) rfl rfl (by rw [hb]; exact (xb_d D_M_sectionEntry 48 rfl))) (ok_M_expression l hfl D A σ x0 h37 _ hw) (hml.trans hl.1.symm) (by rw [hb]; exact (xb_d D_M_sectionEntry 48 rfl)) (Nat.le_of_ble_eq_true rfl) (Nat.le_of_ble_eq_true rfl) (Nat.le_of_ble_eq_true rfl) (show (k + kk3) ≤ MC by omega) (show (n + nn3) ≤ MS by omega) (xt_w1 hB.1 m_ed213729) (xt_cdOf hB.1 m_ed213729) (hts _ m_d5ed7bed) hB hR hS hA (fun vv h39 H locs hq hEh39 hR hS => ?_)
      obtain ⟨rfl, hw⟩ := hq
      have hw := hw hEh39
      have hE := hE.tr hEh39
      refine W.eq (g2 := F0 m 148 ls []) rfl ?_
      refine lv_aload_n hx hb (xb_d D_M_sectionEntry 49 rfl) rfl (lv_at hl 0 rfl) ?_
      refine lv_iconst (v := 0) hx hb (xb_d D_M_sectionEntry 50 rfl) (by decide) ?_
      have hk1 : xb_k h39 x0 = 9 := hEh39.k hk1
      refine xb_call0 (D := D) (A := A) (σ := σ) (h := h39) (d := 5) (maxL := 6) (rest := []) (av := [.ref x0, .int 0]) (fun T hT X => by obtain ⟨cb9, ra9, rb9, rc9⟩ := xb_recv (ci := 8) hR rfl hk1 (by decide); exact xt_invV X hx hown (hts _ m_065c51a0) (hts _ m_29bd5f42) (hts _ m_39b260c0) (xt_sigOf (hts _ m_f669d6ca)) nm_M_row (by rw [hT]; exact ra9) rb9 rc9 (g := F0 m 150 ls [.int 0, .ref x0]) rfl (argsL := [.int 0]) (rest := []) rfl rfl (by rw [hb]; exact (xb_d D_M_sectionEntry 51 rfl))) (ok_M_row l hfl D A σ x0 0 h39 _ hw) (hml.trans hl.1.symm) (by rw [hb]; exact (xb_d D_M_sectionEntry 51 rfl)) (Nat.le_of_ble_eq_true rfl) (Nat.le_of_ble_eq_true rfl) (Nat.le_of_ble_eq_true rfl) (show (k + kk3) ≤ MC by omega) (show (n + nn3) ≤ MS by omega) (xt_w1 hB.1 m_f669d6ca) (xt_cdOf hB.1 m_f669d6ca) (hts _ m_d5ed7bed) hB hR hS hA (fun vv h41 H locs hq hEh41 hR hS => ?_)
      obtain ⟨rfl, hw⟩ := hq
      have hw := hw hEh41
      have hE := hE.tr hEh41
      refine W.eq (g2 := F0 m 153 ls []) rfl ?_
      refine lv_goto (tgt := 180) hx hb (xb_d D_M_sectionEntry 52 rfl) rfl ?_
      exact am_M_sectionEntry_L180 l hfl D A σ MC MS h0 Qr h41 bc3 bs3 hw p e s m args below meth c hC H locs ls (k + kk3) (n + nn3) hE (lv_sub hl [] rfl) hR hS (by omega) (by omega)
    have hw := hw.2
    by_cases hc43 : x1 = 10
    · have hw := hw.1 hc43
      refine xt_numi hc43 ?_
      refine lv_tableIn (off := 150) (tgt := 156) hx hb (xb_d D_M_sectionEntry 4 rfl) (by decide +kernel) (by decide +kernel) (by decide +kernel) (by decide) ?_
      refine lv_aload_n hx hb (xb_d D_M_sectionEntry 53 rfl) rfl (lv_at hl 0 rfl) ?_
      have hk1 : xb_k h2 x0 = 9 := hEh2.k hk1
      refine xb_call0 (D := D) (A := A) (σ := σ) (h := h2) (d := 8) (maxL := 11) (rest := []) (av := [.ref x0]) (fun T hT X => by obtain ⟨cb9, ra9, rb9, rc9⟩ := xb_recv (ci := 8) hR rfl hk1 (by decide); exact xt_invV X hx hown (hts _ m_14b1b20f) (hts _ m_a733c60c) (hts _ m_fa7d877a) (xt_sigOf (hts _ m_5ef6c972)) nm_M_body (by rw [hT]; exact ra9) rb9 rc9 (g := F0 m 157 ls [.ref x0]) rfl (argsL := []) (rest := []) rfl rfl (by rw [hb]; exact (xb_d D_M_sectionEntry 54 rfl))) (ok_M_body l hfl D A σ x0 h2 _ hw) (hml.trans hl.1.symm) (by rw [hb]; exact (xb_d D_M_sectionEntry 54 rfl)) (Nat.le_of_ble_eq_true rfl) (Nat.le_of_ble_eq_true rfl) (Nat.le_of_ble_eq_true rfl) (show (k + kk3) ≤ MC by omega) (show (n + nn3) ≤ MS by omega) (xt_w1 hB.1 m_5ef6c972) (xt_cdOf hB.1 m_5ef6c972) (hts _ m_d5ed7bed) hB hR hS hA (fun vv h44 H locs hq hEh44 hR hS => ?_)
      obtain ⟨rfl, hw⟩ := hq
      have hw := hw hEh44
      have hE := hE.tr hEh44
      refine W.eq (g2 := F0 m 160 ls []) rfl ?_
      refine lv_goto (tgt := 180) hx hb (xb_d D_M_sectionEntry 55 rfl) rfl ?_
      exact am_M_sectionEntry_L180 l hfl D A σ MC MS h0 Qr h44 bc3 bs3 hw p e s m args below meth c hC H locs ls (k + kk3) (n + nn3) hE (lv_sub hl [] rfl) hR hS (by omega) (by omega)
    have hw := hw.2
    have hw := hw hc4 hc11 hc14 hc17 hc20 hc23 hc28 hc35 hc36 hc43
    refine lv_tableOut (tgt := 163) hx hb (xb_d D_M_sectionEntry 4 rfl) (by have a0 := xb_nl (1) 1 (by decide) hc4; have a1 := xb_nl (2) 2 (by decide) hc11; have a2 := xb_nl (3) 3 (by decide) hc14; have a3 := xb_nl (4) 4 (by decide) hc17; have a4 := xb_nl (5) 5 (by decide) hc20; have a5 := xb_nl (6) 6 (by decide) hc23; have a6 := xb_nl (7) 7 (by decide) hc28; have a7 := xb_nl (8) 8 (by decide) hc35; have a8 := xb_nl (9) 9 (by decide) hc36; have a9 := xb_nl (10) 10 (by decide) hc43; omega) (by decide) ?_
    exact am_M_sectionEntry_L163 l hfl D A σ MC MS h0 Qr x0 h2 bc3 bs3 hw p e s m args below meth c hC H locs ls (k + kk3) (n + nn3) hE (lv_sub hl [0] rfl) hR hS (by omega) (by omega)
  · exact False.elim hq

set_option maxRecDepth 100000 in
def T_M_variable : List (Nat × Instr × Nat) := [(0, .aload_n 0, 1), (1, .aload_n 0, 1), (2, .iload_n 1, 1), (3, .invokevirtual 592, 3), (6, .ifCond .eq 28, 3), (9, .iload_n 2, 1), (10, .ifCond .lt 24, 3), (13, .iload_n 2, 1), (14, .i2l, 1), (15, .aload_n 0, 1), (16, .aload_n 0, 1), (17, .getfield 62, 3), (20, .iload_n 1, 1), (21, .iaload, 1), (22, .iconst 3, 1), (23, .invokevirtual 362, 3), (26, .lcmp, 1), (27, .ifCond .ge 7, 3), (30, .iconst 0, 1), (31, .goto 4, 3), (34, .iconst 1, 1), (35, .putfield 189, 3), (38, .aload_n 0, 1), (39, .getfield 189, 3), (42, .ifCond .le 7, 3), (45, .lconst 0, 1), (46, .goto 15, 3), (49, .aload_n 0, 1), (50, .getfield 130, 3), (53, .aload_n 0, 1), (54, .iload_n 1, 1), (55, .iconst 3, 1), (56, .iload_n 2, 1), (57, .invokevirtual 479, 3), (60, .laload, 1), (61, .lreturn, 1)]
theorem D_M_variable : ∀ q ∈ T_M_variable, decode b_M_variable q.1 = .ok (q.2.1, q.2.2) := by decide +kernel

set_option maxHeartbeats 4000000 in
set_option maxRecDepth 100000 in
theorem am_M_variable_L61 (l : Launch) (hfl : l.flags = pinnedFlags ++ [noTraceFlag]) (D : va_G) (A : Nat → Prop) (σ MC MS : Nat) (h0 : xb_H) (Qr : Int64 → xb_H → Prop) (y0 : Int64) (h : xb_H) (hw : w_M_variable_L61 Qr y0 h) : xb_am l D A σ 9 MC MS h0 (fun v h _ _ => ∃ r, v = some (.long r) ∧ Qr r h) (fun _ _ _ _ => False) y_M_variable.cls y_M_variable.name b_M_variable 3 ([] : List ExceptionTableEntry) (some .long) 61 [] [.long y0] h 0 0 := by
  unfold w_M_variable_L61 at hw
  intro p e s m args below meth c hC H locs ls k n hE hl hR hS hk hn
  obtain ⟨hx, hb, hown, hlocks, htab, hml, hr, hB, hA, hnm⟩ := id hC
  have hts := hB.1.1.at args
  exact xb_lret 0 0 hx hb hr hlocks (show k + 0 ≤ MC by omega) (show n + 0 ≤ MS by omega) hE hR hS (xb_d D_M_variable 35 rfl) hw

set_option maxHeartbeats 4000000 in
set_option maxRecDepth 100000 in
theorem am_M_variable_L35 (l : Launch) (hfl : l.flags = pinnedFlags ++ [noTraceFlag]) (D : va_G) (A : Nat → Prop) (σ MC MS : Nat) (h0 : xb_H) (Qr : Int64 → xb_H → Prop) (x0 : Nat) (x1 : Int32) (x2 : Int32) (y0 : Int32) (y1 : Nat) (h : xb_H) (hw : w_M_variable_L35 Qr x0 x1 x2 y0 y1 h) : xb_am l D A σ 9 MC MS h0 (fun v h _ _ => ∃ r, v = some (.long r) ∧ Qr r h) (fun _ _ _ _ => False) y_M_variable.cls y_M_variable.name b_M_variable 3 ([] : List ExceptionTableEntry) (some .long) 35 [(0, .ref x0), (1, .int x1), (2, .int x2)] [.int y0, .ref y1] h 0 0 := by
  unfold w_M_variable_L35 at hw
  intro p e s m args below meth c hC H locs ls k n hE hl hR hS hk hn
  obtain ⟨hx, hb, hown, hlocks, htab, hml, hr, hB, hA, hnm⟩ := id hC
  have hts := hB.1.1.at args
  obtain ⟨hk1, hw⟩ := hw
  refine xb_putI (C := R_M) (T := F_M) (N := 97) (ty := .int) (x := y0) hx hb 8 0 hts fin_M t_M t_M_ok n_M hown hR hS hk1 (by decide) rfl (by decide) rfl (hts _ m_afabd6a0) (fun _ h9 => h9) rfl (by decide +kernel) rfl rfl (xb_d D_M_variable 21 rfl) (fun H locs hR hS => ?_)
  obtain ⟨h2, eh2⟩ : ∃ x : xb_H, x = xb_I h y1 0 y0 := ⟨_, rfl⟩
  rw [← eh2] at hR
  have hw := hw h2 eh2
  have hE : xb_ext h0 h2 := by rw [eh2]; exact hE
  refine lv_aload_n hx hb (xb_d D_M_variable 22 rfl) rfl (lv_at hl 0 rfl) ?_
  obtain ⟨hk3, hw⟩ := hw
  refine xb_getI (C := R_M) (T := F_M) (N := 97) hx hb 8 0 hts fin_M hown hR hk3 (by decide) rfl (by decide) rfl (hts _ m_afabd6a0) (fun _ h9 => h9) (xb_d D_M_variable 23 rfl) ?_
  refine lv_if_le (tgt := 49) hx hb (xb_d D_M_variable 24 rfl) rfl (fun hc4 => ?_) (fun hc4 => ?_)
  · have hw := hw.1 hc4
    refine lv_aload_n hx hb (xb_d D_M_variable 27 rfl) rfl (lv_at hl 0 rfl) ?_
    refine xb_getP (C := R_M) (T := F_M) (N := 97) hx hb 8 61 hts fin_M hown hR hk3 (by decide) rfl (by decide) rfl (hts _ m_418ce3a7) (fun _ h9 => h9) (xb_d D_M_variable 28 rfl) ?_
    obtain ⟨b5, eb5, hw⟩ := hw
    refine xb_some eb5 ?_
    refine lv_aload_n hx hb (xb_d D_M_variable 29 rfl) rfl (lv_at hl 0 rfl) ?_
    refine lv_iload_n hx hb (xb_d D_M_variable 30 rfl) rfl (lv_at hl 1 rfl) ?_
    refine lv_iconst (v := 3) hx hb (xb_d D_M_variable 31 rfl) (by decide) ?_
    refine lv_iload_n hx hb (xb_d D_M_variable 32 rfl) rfl (lv_at hl 2 rfl) ?_
    refine xb_call0 (D := D) (A := A) (σ := σ) (h := h2) (d := 8) (maxL := 6) (rest := [.ref b5]) (av := [.ref x0, .int x1, .int 3, .int x2]) (fun T hT X => by obtain ⟨cb9, ra9, rb9, rc9⟩ := xb_recv (ci := 8) hR rfl hk3 (by decide); exact xt_invV X hx hown (hts _ m_5ec466f2) (hts _ m_f0f1d102) (hts _ m_cfa25922) (xt_sigOf (hts _ m_59347bba)) nm_M_meant (by rw [hT]; exact ra9) rb9 rc9 (g := F0 m 57 ls [.int x2, .int 3, .int x1, .ref x0, .ref b5]) rfl (argsL := [.int x1, .int 3, .int x2]) (rest := [.ref b5]) rfl rfl (by rw [hb]; exact (xb_d D_M_variable 33 rfl))) (ok_M_meant l hfl D A σ x0 x1 3 x2 h2 _ hw) (hml.trans hl.1.symm) (by rw [hb]; exact (xb_d D_M_variable 33 rfl)) (Nat.le_of_ble_eq_true rfl) (Nat.le_of_ble_eq_true rfl) (Nat.le_of_ble_eq_true rfl) (show k ≤ MC by omega) (show n ≤ MS by omega) (xt_w1 hB.1 m_59347bba) (xt_cdOf hB.1 m_59347bba) (hts _ m_d5ed7bed) hB hR hS hA (fun vv h6 H locs hq hEh6 hR hS => ?_)
    obtain ⟨r7, rfl, hw⟩ := hq
    have hw := hw hEh6
    have hE := hE.tr hEh6
    refine W.eq (g2 := F0 m 60 ls [.int r7, .ref b5]) rfl ?_
    obtain ⟨hk9, hw⟩ := hw
    obtain ⟨hi8, hw⟩ := hw
    refine xb_lald hx hb hR hk9 hi8 (xb_d D_M_variable 34 rfl) ?_
    exact am_M_variable_L61 l hfl D A σ MC MS h0 Qr (xb_l h6 b5 (Int32.toNatClampNeg r7)) h6 hw p e s m args below meth c hC H locs ls k n hE (lv_sub hl [] rfl) hR hS (by omega) (by omega)
  · have hw := hw.2 hc4
    refine lv_lconst (v := 0) hx hb (xb_d D_M_variable 25 rfl) (by decide) ?_
    refine lv_goto (tgt := 61) hx hb (xb_d D_M_variable 26 rfl) rfl ?_
    exact am_M_variable_L61 l hfl D A σ MC MS h0 Qr 0 h2 hw p e s m args below meth c hC H locs ls k n hE (lv_sub hl [] rfl) hR hS (by omega) (by omega)

set_option maxHeartbeats 4000000 in
set_option maxRecDepth 100000 in
theorem am_M_variable_L34 (l : Launch) (hfl : l.flags = pinnedFlags ++ [noTraceFlag]) (D : va_G) (A : Nat → Prop) (σ MC MS : Nat) (h0 : xb_H) (Qr : Int64 → xb_H → Prop) (x0 : Nat) (x1 : Int32) (x2 : Int32) (y0 : Nat) (h : xb_H) (hw : w_M_variable_L34 Qr x0 x1 x2 y0 h) : xb_am l D A σ 9 MC MS h0 (fun v h _ _ => ∃ r, v = some (.long r) ∧ Qr r h) (fun _ _ _ _ => False) y_M_variable.cls y_M_variable.name b_M_variable 3 ([] : List ExceptionTableEntry) (some .long) 34 [(0, .ref x0), (1, .int x1), (2, .int x2)] [.ref y0] h 0 0 := by
  unfold w_M_variable_L34 at hw
  intro p e s m args below meth c hC H locs ls k n hE hl hR hS hk hn
  obtain ⟨hx, hb, hown, hlocks, htab, hml, hr, hB, hA, hnm⟩ := id hC
  have hts := hB.1.1.at args
  refine lv_iconst (v := 1) hx hb (xb_d D_M_variable 20 rfl) (by decide) ?_
  exact am_M_variable_L35 l hfl D A σ MC MS h0 Qr x0 x1 x2 1 y0 h hw p e s m args below meth c hC H locs ls k n hE (lv_sub hl [0, 1, 2] rfl) hR hS (by omega) (by omega)

set_option maxHeartbeats 4000000 in
set_option maxRecDepth 100000 in
theorem ok_M_variable (l : Launch) (hfl : l.flags = pinnedFlags ++ [noTraceFlag]) (D : va_G) (A : Nat → Prop) (σ : Nat) (x0 : Nat) (x1 : Int32) (x2 : Int32) (h : xb_H) (Qr : Int64 → xb_H → Prop) (hw : w_M_variable x0 x1 x2 h Qr) : xb_Met l y_M_variable [.code y_M_variable b_M_variable 3 (some .long)] (xb_rm 9 0 0) (xb_Pc D A σ h [.ref x0, .int x1, .int x2]) (xb_Qc D A h 0 0 (fun v h _ _ => ∃ r, v = some (.long r) ∧ Qr r h) (fun _ _ _ _ => False)) A := by
  refine xb_ofAm (cc := b_M_variable) (by decide) (Nat.le_of_ble_eq_true rfl) ?_
  unfold w_M_variable at hw
  show xb_am l D A σ 9 0 0 h (fun v h _ _ => ∃ r, v = some (.long r) ∧ Qr r h) (fun _ _ _ _ => False) y_M_variable.cls y_M_variable.name b_M_variable 3 ([] : List ExceptionTableEntry) (some .long) 0 [(0, .ref x0), (1, .int x1), (2, .int x2)] [] h 0 0
  obtain ⟨MC, hMC⟩ : ∃ x, x = 0 := ⟨_, rfl⟩
  obtain ⟨MS, hMS⟩ : ∃ x, x = 0 := ⟨_, rfl⟩
  rw [show xb_am l D A σ 9 0 0 = xb_am l D A σ 9 MC MS by rw [hMC, hMS]]
  obtain ⟨h0, hh0⟩ : ∃ x, x = h := ⟨_, rfl⟩
  rw [show xb_am l D A σ 9 MC MS h = xb_am l D A σ 9 MC MS h0 by rw [hh0]]
  intro p e s m args below meth c hC H locs ls k n hE hl hR hS hk hn
  obtain ⟨hx, hb, hown, hlocks, htab, hml, hr, hB, hA, hnm⟩ := id hC
  have hts := hB.1.1.at args
  refine lv_aload_n hx hb (xb_d D_M_variable 0 rfl) rfl (lv_at hl 0 rfl) ?_
  refine lv_aload_n hx hb (xb_d D_M_variable 1 rfl) rfl (lv_at hl 0 rfl) ?_
  refine lv_iload_n hx hb (xb_d D_M_variable 2 rfl) rfl (lv_at hl 1 rfl) ?_
  obtain ⟨hk1, hw⟩ := hw
  refine xb_call0 (D := D) (A := A) (σ := σ) (h := h) (d := 2) (maxL := 2) (rest := [.ref x0]) (av := [.ref x0, .int x1]) (fun T hT X => by obtain ⟨cb9, ra9, rb9, rc9⟩ := xb_recv (ci := 8) hR rfl hk1 (by decide); exact xt_invV X hx hown (hts _ m_ec7c79cd) (hts _ m_cefd1701) (hts _ m_d2ca0421) (xt_sigOf (hts _ m_5aaa69eb)) nm_M_isInstance (by rw [hT]; exact ra9) rb9 rc9 (g := F0 m 3 ls [.int x1, .ref x0, .ref x0]) rfl (argsL := [.int x1]) (rest := [.ref x0]) rfl rfl (by rw [hb]; exact (xb_d D_M_variable 3 rfl))) (ok_M_isInstance l hfl D A σ x0 x1 h _ hw) (hml.trans hl.1.symm) (by rw [hb]; exact (xb_d D_M_variable 3 rfl)) (Nat.le_of_ble_eq_true rfl) (Nat.le_of_ble_eq_true rfl) (Nat.le_of_ble_eq_true rfl) (show k ≤ MC by omega) (show n ≤ MS by omega) (xt_w1 hB.1 m_5aaa69eb) (xt_cdOf hB.1 m_5aaa69eb) (hts _ m_d5ed7bed) hB hR hS hA (fun vv h2 H locs hq hEh2 hR hS => ?_)
  obtain ⟨r3, rfl, hw⟩ := hq
  have hw := hw hEh2
  have hE := hE.tr hEh2
  refine W.eq (g2 := F0 m 6 ls [.int r3, .ref x0]) rfl ?_
  refine lv_if_eq (tgt := 34) hx hb (xb_d D_M_variable 4 rfl) rfl (fun hc4 => ?_) (fun hc4 => ?_)
  · have hw := hw.1 hc4
    exact am_M_variable_L34 l hfl D A σ MC MS h0 Qr x0 x1 x2 x0 h2 hw p e s m args below meth c hC H locs ls k n hE (lv_sub hl [0, 1, 2] rfl) hR hS (by omega) (by omega)
  · have hw := hw.2 hc4
    refine lv_iload_n hx hb (xb_d D_M_variable 5 rfl) rfl (lv_at hl 2 rfl) ?_
    refine lv_if_lt (tgt := 34) hx hb (xb_d D_M_variable 6 rfl) rfl (fun hc5 => ?_) (fun hc5 => ?_)
    · have hw := hw.1 hc5
      exact am_M_variable_L34 l hfl D A σ MC MS h0 Qr x0 x1 x2 x0 h2 hw p e s m args below meth c hC H locs ls k n hE (lv_sub hl [0, 1, 2] rfl) hR hS (by omega) (by omega)
    · have hw := hw.2 hc5
      refine lv_iload_n hx hb (xb_d D_M_variable 7 rfl) rfl (lv_at hl 2 rfl) ?_
      refine lv_i2l hx hb (xb_d D_M_variable 8 rfl) rfl ?_
      refine lv_aload_n hx hb (xb_d D_M_variable 9 rfl) rfl (lv_at hl 0 rfl) ?_
      refine lv_aload_n hx hb (xb_d D_M_variable 10 rfl) rfl (lv_at hl 0 rfl) ?_
      have hk1 : xb_k h2 x0 = 9 := hEh2.k hk1
      refine xb_getP (C := R_M) (T := F_M) (N := 97) hx hb 8 31 hts fin_M hown hR hk1 (by decide) rfl (by decide) rfl (hts _ m_691d5f47) (fun _ h9 => h9) (xb_d D_M_variable 11 rfl) ?_
      obtain ⟨b6, eb6, hw⟩ := hw
      refine xb_some eb6 ?_
      refine lv_iload_n hx hb (xb_d D_M_variable 12 rfl) rfl (lv_at hl 1 rfl) ?_
      obtain ⟨hk8, hw⟩ := hw
      obtain ⟨hi7, hw⟩ := hw
      refine xb_iald hx hb hR hk8 hi7 (xb_d D_M_variable 13 rfl) ?_
      refine lv_iconst (v := 3) hx hb (xb_d D_M_variable 14 rfl) (by decide) ?_
      refine xb_call0 (D := D) (A := A) (σ := σ) (h := h2) (d := 3) (maxL := 3) (rest := [.long (Int32.toInt64 x2), .ref x0]) (av := [.ref x0, .int (xb_i h2 b6 (Int32.toNatClampNeg x1)), .int 3]) (fun T hT X => by obtain ⟨cb9, ra9, rb9, rc9⟩ := xb_recv (ci := 8) hR rfl hk1 (by decide); exact xt_invV X hx hown (hts _ m_940fb65e) (hts _ m_342c0f16) (hts _ m_c0324d76) (xt_sigOf (hts _ m_feaaa075)) nm_M_total (by rw [hT]; exact ra9) rb9 rc9 (g := F0 m 23 ls [.int 3, .int (xb_i h2 b6 (Int32.toNatClampNeg x1)), .ref x0, .long (Int32.toInt64 x2), .ref x0]) rfl (argsL := [.int (xb_i h2 b6 (Int32.toNatClampNeg x1)), .int 3]) (rest := [.long (Int32.toInt64 x2), .ref x0]) rfl rfl (by rw [hb]; exact (xb_d D_M_variable 15 rfl))) (ok_M_total l hfl D A σ x0 (xb_i h2 b6 (Int32.toNatClampNeg x1)) 3 h2 _ hw) (hml.trans hl.1.symm) (by rw [hb]; exact (xb_d D_M_variable 15 rfl)) (Nat.le_of_ble_eq_true rfl) (Nat.le_of_ble_eq_true rfl) (Nat.le_of_ble_eq_true rfl) (show k ≤ MC by omega) (show n ≤ MS by omega) (xt_w1 hB.1 m_feaaa075) (xt_cdOf hB.1 m_feaaa075) (hts _ m_d5ed7bed) hB hR hS hA (fun vv h9 H locs hq hEh9 hR hS => ?_)
      obtain ⟨r10, rfl, hw⟩ := hq
      have hw := hw hEh9
      have hE := hE.tr hEh9
      refine W.eq (g2 := F0 m 26 ls [.long r10, .long (Int32.toInt64 x2), .ref x0]) rfl ?_
      refine xb_lc_ge (tgt := 34) hx hb (xb_d D_M_variable 16 rfl) (xb_d D_M_variable 17 rfl) rfl (fun hc11 => ?_) (fun hc11 => ?_)
      · have hw := hw.1 hc11
        exact am_M_variable_L34 l hfl D A σ MC MS h0 Qr x0 x1 x2 x0 h9 hw p e s m args below meth c hC H locs ls k n hE (lv_sub hl [0, 1, 2] rfl) hR hS (by omega) (by omega)
      · have hw := hw.2 hc11
        refine lv_iconst (v := 0) hx hb (xb_d D_M_variable 18 rfl) (by decide) ?_
        refine lv_goto (tgt := 35) hx hb (xb_d D_M_variable 19 rfl) rfl ?_
        exact am_M_variable_L35 l hfl D A σ MC MS h0 Qr x0 x1 x2 0 x0 h9 hw p e s m args below meth c hC H locs ls k n hE (lv_sub hl [0, 1, 2] rfl) hR hS (by omega) (by omega)

theorem m_29588ef4 : (.constant "StackHost" 259 1000000 : Cond) ∈ xt_tbl := xt_in (xt_t7 (List.mem_of_getElem? (i := 200) (by decide +kernel))) (by decide +kernel)
theorem m_285fb5f3 : (.methodLink "StackHost" 264 y_Machine_go : Cond) ∈ xt_tbl := xt_in (xt_t7 (List.mem_of_getElem? (i := 203) (by decide +kernel))) (by decide +kernel)
theorem m_860e7091 : (.instanceMethod y_Machine_go : Cond) ∈ xt_tbl := xt_in (xt_t7 (List.mem_of_getElem? (i := 204) (by decide +kernel))) (by decide +kernel)
theorem m_57801612 : (.selects "StackHost$Machine" y_Machine_go y_Machine_go : Cond) ∈ xt_tbl := xt_in (xt_t7 (List.mem_of_getElem? (i := 205) (by decide +kernel))) (by decide +kernel)
theorem m_13a2fd19 : (.code y_Machine_go b_Machine_go 3 (some .int) : Cond) ∈ xt_tbl := xt_in (xt_t7 (List.mem_of_getElem? (i := 206) (by decide +kernel))) (by decide +kernel)
theorem nm_Machine_go : xt_nm y_Machine_go 1 := ⟨by decide +kernel, by decide +kernel⟩
set_option maxRecDepth 100000 in
def T_H_run : List (Nat × Instr × Nat) := [(0, .iload_n 1, 1), (1, .ifCond .lt 10, 3), (4, .iload_n 1, 1), (5, .ldc_w 259, 3), (8, .if_icmp .le 14, 3), (11, .new 86, 3), (14, .dup, 1), (15, .ldc_w 260, 3), (18, .invokespecial 90, 3), (21, .athrow, 1), (22, .aload_n 0, 1), (23, .getfield 45, 3), (26, .getfield 194, 3), (29, .ifCond .ne 14, 3), (32, .new 63, 3), (35, .dup, 1), (36, .ldc_w 262, 3), (39, .invokespecial 67, 3), (42, .athrow, 1), (43, .aload_n 0, 1), (44, .getfield 45, 3), (47, .iload_n 1, 1), (48, .invokevirtual 264, 3), (51, .ireturn, 1)]
theorem D_H_run : ∀ q ∈ T_H_run, decode b_H_run q.1 = .ok (q.2.1, q.2.2) := by decide +kernel

set_option maxHeartbeats 4000000 in
set_option maxRecDepth 100000 in
theorem am_H_run_L11 (l : Launch) (hfl : l.flags = pinnedFlags ++ [noTraceFlag]) (D : va_G) (A : Nat → Prop) (σ MC MS : Nat) (h0 : xb_H) (Qr : Int32 → xb_H → Nat → Nat → Prop) (Qt : String → xb_H → Nat → Nat → Prop) (h : xb_H) (bc : Nat) (bs : Nat) (hw : w_H_run_L11 Qr Qt h bc bs) : xb_am l D A σ 10 MC MS h0 (fun v h bc bs => ∃ r, v = some (.int r) ∧ Qr r h bc bs) Qt y_H_run.cls y_H_run.name b_H_run 2 ([] : List ExceptionTableEntry) (some .int) 11 [] [] h bc bs := by
  unfold w_H_run_L11 at hw
  intro p e s m args below meth c hC H locs ls k n hE hl hR hS hk hn
  obtain ⟨hx, hb, hown, hlocks, htab, hml, hr, hB, hA, hnm⟩ := id hC
  have hts := hB.1.1.at args
  obtain ⟨hc9, hs9, hw⟩ := hw
  exact xb_throw (names := ["java/lang/RuntimeException", "java/lang/Exception"]) hx hb (hml.trans hl.1.symm) hlocks hfl hown xsite_07fd36 hB hS (show k + bc ≤ MC by omega) (show n + bs ≤ MS by omega) hc9 hs9 (by decide) (Nat.le_of_ble_eq_true rfl) htab (xb_d D_H_run 5 rfl) (xb_d D_H_run 6 rfl) xt_l3 (xb_d D_H_run 7 rfl) (xb_d D_H_run 8 rfl) (xb_d D_H_run 9 rfl) hE hR hw

set_option maxHeartbeats 4000000 in
set_option maxRecDepth 100000 in
theorem ok_H_run (l : Launch) (hfl : l.flags = pinnedFlags ++ [noTraceFlag]) (D : va_G) (A : Nat → Prop) (σ : Nat) (x0 : Nat) (x1 : Int32) (h : xb_H) (bc : Nat) (bs : Nat) (Qr : Int32 → xb_H → Nat → Nat → Prop) (Qt : String → xb_H → Nat → Nat → Prop) (hw : w_H_run x0 x1 h bc bs Qr Qt) : xb_Met l y_H_run [.code y_H_run b_H_run 2 (some .int)] (xb_rm 10 bc bs) (xb_Pc D A σ h [.ref x0, .int x1]) (xb_Qc D A h bc bs (fun v h bc bs => ∃ r, v = some (.int r) ∧ Qr r h bc bs) Qt) A := by
  refine xb_ofAm (cc := b_H_run) (by decide) (Nat.le_of_ble_eq_true rfl) ?_
  unfold w_H_run at hw
  show xb_am l D A σ 10 bc bs h (fun v h bc bs => ∃ r, v = some (.int r) ∧ Qr r h bc bs) Qt y_H_run.cls y_H_run.name b_H_run 2 ([] : List ExceptionTableEntry) (some .int) 0 [(0, .ref x0), (1, .int x1)] [] h bc bs
  obtain ⟨MC, hMC⟩ : ∃ x, x = bc := ⟨_, rfl⟩
  obtain ⟨MS, hMS⟩ : ∃ x, x = bs := ⟨_, rfl⟩
  rw [show xb_am l D A σ 10 bc bs = xb_am l D A σ 10 MC MS by rw [hMC, hMS]]
  obtain ⟨h0, hh0⟩ : ∃ x, x = h := ⟨_, rfl⟩
  rw [show xb_am l D A σ 10 MC MS h = xb_am l D A σ 10 MC MS h0 by rw [hh0]]
  intro p e s m args below meth c hC H locs ls k n hE hl hR hS hk hn
  obtain ⟨hx, hb, hown, hlocks, htab, hml, hr, hB, hA, hnm⟩ := id hC
  have hts := hB.1.1.at args
  refine lv_iload_n hx hb (xb_d D_H_run 0 rfl) rfl (lv_at hl 1 rfl) ?_
  refine lv_if_lt (tgt := 11) hx hb (xb_d D_H_run 1 rfl) rfl (fun hc1 => ?_) (fun hc1 => ?_)
  · have hw := hw.1 hc1
    exact am_H_run_L11 l hfl D A σ MC MS h0 Qr Qt h bc bs hw p e s m args below meth c hC H locs ls k n hE (lv_sub hl [] rfl) hR hS (by omega) (by omega)
  · have hw := hw.2 hc1
    refine lv_iload_n hx hb (xb_d D_H_run 2 rfl) rfl (lv_at hl 1 rfl) ?_
    refine lv_ldcw (v := 1000000) hx hb hown (hts _ m_29588ef4) (xb_d D_H_run 3 rfl) ?_
    refine lv_icmp_le (tgt := 22) hx hb (xb_d D_H_run 4 rfl) rfl (fun hc2 => ?_) (fun hc2 => ?_)
    · have hw := hw.1 hc2
      refine lv_aload_n hx hb (xb_d D_H_run 10 rfl) rfl (lv_at hl 0 rfl) ?_
      obtain ⟨hk3, hw⟩ := hw
      refine xb_getP (C := R_H) (T := F_H) (N := 11) hx hb 0 7 hts fin_H hown hR hk3 (by decide) rfl (by decide) rfl (hts _ m_ab10058e) (fun _ h9 => h9) (xb_d D_H_run 11 rfl) ?_
      obtain ⟨b4, eb4, hw⟩ := hw
      refine xb_some eb4 ?_
      obtain ⟨hk5, hw⟩ := hw
      refine xb_getI (C := R_Machine) (T := F_Machine) (N := 18) hx hb 7 3 hts fin_Machine hown hR hk5 (by decide) rfl (by decide) rfl (hts _ m_de837f39) (fun _ h9 => h9) (xb_d D_H_run 12 rfl) ?_
      refine lv_if_ne (tgt := 43) hx hb (xb_d D_H_run 13 rfl) rfl (fun hc6 => ?_) (fun hc6 => ?_)
      · have hw := hw.1 hc6
        refine lv_aload_n hx hb (xb_d D_H_run 19 rfl) rfl (lv_at hl 0 rfl) ?_
        refine xb_getP (C := R_H) (T := F_H) (N := 11) hx hb 0 7 hts fin_H hown hR hk3 (by decide) rfl (by decide) rfl (hts _ m_ab10058e) (fun _ h9 => h9) (xb_d D_H_run 20 rfl) ?_
        obtain ⟨b7, eb7, hw⟩ := hw
        refine xb_some eb7 ?_
        refine lv_iload_n hx hb (xb_d D_H_run 21 rfl) rfl (lv_at hl 1 rfl) ?_
        obtain ⟨hk8, hw⟩ := hw
        refine xb_call (D := D) (A := A) (σ := σ) (h := h) (d := 9) (mc := bc) (ms := bs) (maxL := 3) (rest := []) (av := [.ref b7, .int x1]) (fun T hT X => by obtain ⟨cb9, ra9, rb9, rc9⟩ := xb_recv (ci := 7) hR rfl hk8 (by decide); exact xt_invV X hx hown (hts _ m_285fb5f3) (hts _ m_860e7091) (hts _ m_57801612) (xt_sigOf (hts _ m_13a2fd19)) nm_Machine_go (by rw [hT]; exact ra9) rb9 rc9 (g := F0 m 48 ls [.int x1, .ref b7]) rfl (argsL := [.int x1]) (rest := []) rfl rfl (by rw [hb]; exact (xb_d D_H_run 22 rfl))) (ok_Machine_go l hfl D A σ b7 x1 h bc bs _ hw) (hml.trans hl.1.symm) (by rw [hb]; exact (xb_d D_H_run 22 rfl)) (Nat.le_of_ble_eq_true rfl) (Nat.le_of_ble_eq_true rfl) (Nat.le_of_ble_eq_true rfl) (show k + bc ≤ MC by omega) (show n + bs ≤ MS by omega) (xt_w1 hB.1 m_13a2fd19) (xt_cdOf hB.1 m_13a2fd19) (hts _ m_73451f9b) hB hR hS hA (fun vv h9 bc10 bs10 kk10 nn10 H locs hk10 hn10 hq hEh9 hR hS => ?_) (fun XX ax h9 bc10 bs10 kk10 nn10 H locs hk10 hn10 hq hEh9 hex hR hS => ?_)
        · obtain ⟨r10, rfl, hw⟩ := hq
          have hw := hw hEh9
          have hE := hE.tr hEh9
          refine W.eq (g2 := F0 m 51 ls [.int r10]) rfl ?_
          exact xb_iret bc10 bs10 hx hb hr hlocks (show (k + kk10) + bc10 ≤ MC by omega) (show (n + nn10) + bs10 ≤ MS by omega) hE hR hS (xb_d D_H_run 23 rfl) hw
        · exact False.elim hq
      · have hw := hw.2 hc6
        obtain ⟨hc9, hs9, hw⟩ := hw
        exact xb_throw (names := ["java/lang/RuntimeException", "java/lang/Exception"]) hx hb (hml.trans hl.1.symm) hlocks hfl hown xsite_533e0f hB hS (show k + bc ≤ MC by omega) (show n + bs ≤ MS by omega) hc9 hs9 (by decide) (Nat.le_of_ble_eq_true rfl) htab (xb_d D_H_run 14 rfl) (xb_d D_H_run 15 rfl) xt_l3 (xb_d D_H_run 16 rfl) (xb_d D_H_run 17 rfl) (xb_d D_H_run 18 rfl) hE hR hw
    · have hw := hw.2 hc2
      exact am_H_run_L11 l hfl D A σ MC MS h0 Qr Qt h bc bs hw p e s m args below meth c hC H locs ls k n hE (lv_sub hl [] rfl) hR hS (by omega) (by omega)

theorem m_99343911 : (.methodLink "StackHostLaw" 21 y_H_load : Cond) ∈ xt_tbl := xt_in (xt_t3 (List.mem_of_getElem? (i := 30) (by decide +kernel))) (by decide +kernel)
theorem m_824d9955 : (.instanceMethod y_H_load : Cond) ∈ xt_tbl := xt_in (xt_t3 (List.mem_of_getElem? (i := 31) (by decide +kernel))) (by decide +kernel)
theorem m_f5861a72 : (.selects "StackHost" y_H_load y_H_load : Cond) ∈ xt_tbl := xt_in (xt_t3 (List.mem_of_getElem? (i := 32) (by decide +kernel))) (by decide +kernel)
theorem m_2468cc82 : (.codeWith y_H_load b_H_load 3 (some .int) [(38, 54, 57, 86)] : Cond) ∈ xt_tbl := xt_in (xt_t3 (List.mem_of_getElem? (i := 33) (by decide +kernel))) (by decide +kernel)
theorem nm_H_load : xt_nm y_H_load 0 := ⟨by decide +kernel, by decide +kernel⟩
set_option maxRecDepth 100000 in
def T_Law_load : List (Nat × Instr × Nat) := [(0, .aload_n 1, 1), (1, .iconst 0, 1), (2, .aload_n 0, 1), (3, .invokevirtual 21, 3), (6, .i2l, 1), (7, .lastore, 1), (8, .goto 6, 3), (11, .astore_n 2, 1), (12, .iconst 1, 1), (13, .ireturn, 1), (14, .iconst 0, 1), (15, .ireturn, 1)]
theorem D_Law_load : ∀ q ∈ T_Law_load, decode b_Law_load q.1 = .ok (q.2.1, q.2.2) := by decide +kernel

set_option maxHeartbeats 4000000 in
set_option maxRecDepth 100000 in
theorem ok_Law_load (l : Launch) (hfl : l.flags = pinnedFlags ++ [noTraceFlag]) (D : va_G) (A : Nat → Prop) (σ : Nat) (x0 : Nat) (x1 : Nat) (h : xb_H) (bc : Nat) (bs : Nat) (Qr : Int32 → xb_H → Nat → Nat → Prop) (hw : w_Law_load x0 x1 h bc bs Qr) : xb_Met l y_Law_load [.codeWith y_Law_load b_Law_load 3 (some .int) [(0, 8, 11, 13)]] (xb_rm 10 bc bs) (xb_Pc D A σ h [.ref x0, .ref x1]) (xb_Qc D A h bc bs (fun v h bc bs => ∃ r, v = some (.int r) ∧ Qr r h bc bs) (fun _ _ _ _ => False)) A := by
  refine xb_ofAmH (cc := b_Law_load) (by decide) (Nat.le_of_ble_eq_true rfl) ?_
  unfold w_Law_load at hw
  show xb_am l D A σ 10 bc bs h (fun v h bc bs => ∃ r, v = some (.int r) ∧ Qr r h bc bs) (fun _ _ _ _ => False) y_Law_load.cls y_Law_load.name b_Law_load 3 (tableOf [(0, 8, 11, 13)]) (some .int) 0 [(0, .ref x0), (1, .ref x1)] [] h bc bs
  obtain ⟨MC, hMC⟩ : ∃ x, x = bc := ⟨_, rfl⟩
  obtain ⟨MS, hMS⟩ : ∃ x, x = bs := ⟨_, rfl⟩
  rw [show xb_am l D A σ 10 bc bs = xb_am l D A σ 10 MC MS by rw [hMC, hMS]]
  obtain ⟨h0, hh0⟩ : ∃ x, x = h := ⟨_, rfl⟩
  rw [show xb_am l D A σ 10 MC MS h = xb_am l D A σ 10 MC MS h0 by rw [hh0]]
  intro p e s m args below meth c hC H locs ls k n hE hl hR hS hk hn
  obtain ⟨hx, hb, hown, hlocks, htab, hml, hr, hB, hA, hnm⟩ := id hC
  have hts := hB.1.1.at args
  refine lv_aload_n hx hb (xb_d D_Law_load 0 rfl) rfl (lv_at hl 1 rfl) ?_
  refine lv_iconst (v := 0) hx hb (xb_d D_Law_load 1 rfl) (by decide) ?_
  refine lv_aload_n hx hb (xb_d D_Law_load 2 rfl) rfl (lv_at hl 0 rfl) ?_
  obtain ⟨hk1, hw⟩ := hw
  refine xb_call (D := D) (A := A) (σ := σ) (h := h) (d := 9) (mc := bc) (ms := bs) (maxL := 3) (rest := [.int 0, .ref x1]) (av := [.ref x0]) (fun T hT X => by obtain ⟨cb9, ra9, rb9, rc9⟩ := xb_recv (ci := 0) hR rfl hk1 (by decide); exact xt_invV X hx hown (hts _ m_99343911) (hts _ m_824d9955) (hts _ m_f5861a72) (xt_sigOfH (hts _ m_2468cc82)) nm_H_load (by rw [hT]; exact ra9) rb9 rc9 (g := F0 m 3 ls [.ref x0, .int 0, .ref x1]) rfl (argsL := []) (rest := [.int 0, .ref x1]) rfl rfl (by rw [hb]; exact (xb_d D_Law_load 3 rfl))) (ok_H_load l hfl D A σ x0 h bc bs _ _ hw) (hml.trans hl.1.symm) (by rw [hb]; exact (xb_d D_Law_load 3 rfl)) (Nat.le_of_ble_eq_true rfl) (Nat.le_of_ble_eq_true rfl) (Nat.le_of_ble_eq_true rfl) (show k + bc ≤ MC by omega) (show n + bs ≤ MS by omega) (xt_w1 hB.1 m_2468cc82) (xt_cdOfH hB.1 m_2468cc82) (hts _ m_ba0734f5) hB hR hS hA (fun vv h2 bc3 bs3 kk3 nn3 H locs hk3 hn3 hq hEh2 hR hS => ?_) (fun XX ax h2 bc3 bs3 kk3 nn3 H locs hk3 hn3 hq hEh2 hex hR hS => ?_)
  · obtain ⟨r3, rfl, hw⟩ := hq
    have hw := hw hEh2
    have hE := hE.tr hEh2
    refine W.eq (g2 := F0 m 6 ls [.int r3, .int 0, .ref x1]) rfl ?_
    refine lv_i2l hx hb (xb_d D_Law_load 4 rfl) rfl ?_
    obtain ⟨hk4, hw⟩ := hw
    obtain ⟨hi5, hw⟩ := hw
    refine xb_last hx hb hR hS hk4 hi5 (xb_d D_Law_load 5 rfl) (fun H locs hR hS => ?_)
    obtain ⟨h6, eh6⟩ : ∃ x : xb_H, x = xb_L h2 x1 (Int32.toNatClampNeg 0) (Int32.toInt64 r3) := ⟨_, rfl⟩
    rw [← eh6] at hR
    have hw := hw h6 eh6
    have hE : xb_ext h0 h6 := by rw [eh6]; exact hE
    refine lv_goto (tgt := 14) hx hb (xb_d D_Law_load 6 rfl) rfl ?_
    refine lv_iconst (v := 0) hx hb (xb_d D_Law_load 10 rfl) (by decide) ?_
    exact xb_iret bc3 bs3 hx hb hr hlocks (show (k + kk3) + bc3 ≤ MC by omega) (show (n + nn3) + bs3 ≤ MS by omega) hE hR hS (xb_d D_Law_load 11 rfl) hw
  · have hw := hq hEh2 ax
    have hE := hE.tr hEh2
    obtain ⟨rfl, hw⟩ := hw
    refine xt_catch (own := "StackHostLaw") (name := "java/lang/IllegalStateException") (Xn := "java/lang/IllegalStateException") hown ⟨0, 8, 11, 13⟩ [] htab (by decide) (by decide) (hts _ m_cd065aea) (hts _ m_a4ef0ec8) hex ?_
    refine W.eq (g2 := F0 m 11 ls [.ref ax]) rfl ?_
    refine lv_astore_n hx hb (xb_d D_Law_load 7 rfl) rfl hl (by decide) rfl (fun ls hl => ?_)
    have hl : lv_has ls 3 [(2, .ref ax), (0, .ref x0), (1, .ref x1)] := hl
    refine lv_iconst (v := 1) hx hb (xb_d D_Law_load 8 rfl) (by decide) ?_
    exact xb_iret bc3 bs3 hx hb hr hlocks (show (k + kk3) + bc3 ≤ MC by omega) (show (n + nn3) + bs3 ≤ MS by omega) hE hR hS (xb_d D_Law_load 9 rfl) hw

