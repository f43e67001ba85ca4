set_option maxRecDepth 100000 in
def T_StackModule_sameType : List (Nat × Instr × Nat) := [(0, .aload_n 0, 1), (1, .getfield 14, 3), (4, .iload_n 1, 1), (5, .iconst 2, 1), (6, .invokevirtual 84, 3), (9, .istore 4, 2), (11, .iload 4, 2), (13, .aload_n 2, 1), (14, .getfield 14, 3), (17, .iload_n 3, 1), (18, .iconst 2, 1), (19, .invokevirtual 84, 3), (22, .if_icmp .ne 24, 3), (25, .aload_n 0, 1), (26, .getfield 14, 3), (29, .iload_n 1, 1), (30, .iconst 4, 1), (31, .invokevirtual 84, 3), (34, .aload_n 2, 1), (35, .getfield 14, 3), (38, .iload_n 3, 1), (39, .iconst 4, 1), (40, .invokevirtual 84, 3), (43, .if_icmp .eq 5, 3), (46, .iconst 0, 1), (47, .ireturn, 1), (48, .aload_n 0, 1), (49, .getfield 14, 3), (52, .iload_n 1, 1), (53, .iconst 1, 1), (54, .invokevirtual 84, 3), (57, .istore 5, 2), (59, .aload_n 0, 1), (60, .getfield 64, 3), (63, .iload 5, 2), (65, .aload_n 2, 1), (66, .getfield 64, 3), (69, .aload_n 2, 1), (70, .getfield 14, 3), (73, .iload_n 3, 1), (74, .iconst 1, 1), (75, .invokevirtual 84, 3), (78, .iload 4, 2), (80, .invokestatic 88, 3), (83, .ireturn, 1)]
theorem D_StackModule_sameType : ∀ q ∈ T_StackModule_sameType, decode b_StackModule_sameType q.1 = .ok (q.2.1, q.2.2) := by decide +kernel

set_option maxHeartbeats 4000000 in
set_option maxRecDepth 100000 in
theorem am_StackModule_sameType_L46 (l : Launch) (hfl : l.flags = pinnedFlags ++ [noTraceFlag]) (D : va_G) (A : Nat → Prop) (σ MC MS : Nat) (h0 : xb_H) (Qr : Int32 → xb_H → Prop) (h : xb_H) (hw : w_StackModule_sameType_L46 Qr h) : xb_am l D A σ 3 MC MS h0 (fun v h _ _ => ∃ r, v = some (.int r) ∧ Qr r h) (fun _ _ _ _ => False) y_StackModule_sameType.cls y_StackModule_sameType.name b_StackModule_sameType 6 ([] : List ExceptionTableEntry) (some .boolean) 46 [] [] h 0 0 := by
  unfold w_StackModule_sameType_L46 at hw
  intro p e s m args below meth c hC H locs ls k n hE hl hR hS hk hn
  obtain ⟨hx, hb, hown, hlocks, htab, hml, hr, hB, hA, hnm⟩ := id hC
  have hts := hB.1.1.at args
  refine lv_iconst (v := 0) hx hb (xb_d D_StackModule_sameType 24 rfl) (by decide) ?_
  exact xb_zret 0 0 hx hb hr hlocks (show k + 0 ≤ MC by omega) (show n + 0 ≤ MS by omega) (by decide) hE hR hS (xb_d D_StackModule_sameType 25 rfl) hw

set_option maxHeartbeats 4000000 in
set_option maxRecDepth 100000 in
theorem ok_StackModule_sameType (l : Launch) (hfl : l.flags = pinnedFlags ++ [noTraceFlag]) (D : va_G) (A : Nat → Prop) (σ : Nat) (x0 : Nat) (x1 : Int32) (x2 : Nat) (x3 : Int32) (h : xb_H) (Qr : Int32 → xb_H → Prop) (hw : w_StackModule_sameType x0 x1 x2 x3 h Qr) : xb_Met l y_StackModule_sameType [.code y_StackModule_sameType b_StackModule_sameType 6 (some .boolean)] (xb_rm 3 0 0) (xb_Pc D A σ h [.ref x0, .int x1, .ref x2, .int x3]) (xb_Qc D A h 0 0 (fun v h _ _ => ∃ r, v = some (.int r) ∧ Qr r h) (fun _ _ _ _ => False)) A := by
  refine xb_ofAm (cc := b_StackModule_sameType) (by decide) (Nat.le_of_ble_eq_true rfl) ?_
  unfold w_StackModule_sameType at hw
  show xb_am l D A σ 3 0 0 h (fun v h _ _ => ∃ r, v = some (.int r) ∧ Qr r h) (fun _ _ _ _ => False) y_StackModule_sameType.cls y_StackModule_sameType.name b_StackModule_sameType 6 ([] : List ExceptionTableEntry) (some .boolean) 0 [(0, .ref x0), (1, .int x1), (2, .ref x2), (3, .int x3)] [] h 0 0
  obtain ⟨MC, hMC⟩ : ∃ x, x = 0 := ⟨_, rfl⟩
  obtain ⟨MS, hMS⟩ : ∃ x, x = 0 := ⟨_, rfl⟩
  rw [show xb_am l D A σ 3 0 0 = xb_am l D A σ 3 MC MS by rw [hMC, hMS]]
  obtain ⟨h0, hh0⟩ : ∃ x, x = h := ⟨_, rfl⟩
  rw [show xb_am l D A σ 3 MC MS h = xb_am l D A σ 3 MC MS h0 by rw [hh0]]
  intro p e s m args below meth c hC H locs ls k n hE hl hR hS hk hn
  obtain ⟨hx, hb, hown, hlocks, htab, hml, hr, hB, hA, hnm⟩ := id hC
  have hts := hB.1.1.at args
  refine lv_aload_n hx hb (xb_d D_StackModule_sameType 0 rfl) rfl (lv_at hl 0 rfl) ?_
  obtain ⟨hk1, hw⟩ := hw
  refine xb_getP (C := R_StackModule) (T := F_StackModule) (N := 19) hx hb 2 2 hts fin_StackModule hown hR hk1 (by decide) rfl (by decide) rfl (hts _ m_b7ec8f62) (fun _ h9 => h9) (xb_d D_StackModule_sameType 1 rfl) ?_
  obtain ⟨b2, eb2, hw⟩ := hw
  refine xb_some eb2 ?_
  refine lv_iload_n hx hb (xb_d D_StackModule_sameType 2 rfl) rfl (lv_at hl 1 rfl) ?_
  refine lv_iconst (v := 2) hx hb (xb_d D_StackModule_sameType 3 rfl) (by decide) ?_
  obtain ⟨hk3, hw⟩ := hw
  refine xb_call0 (D := D) (A := A) (σ := σ) (h := h) (d := 2) (maxL := 3) (rest := []) (av := [.ref b2, .int x1, .int 2]) (fun T hT X => by obtain ⟨cb9, ra9, rb9, rc9⟩ := xb_recv (ci := 1) hR rfl hk3 (by decide); exact xt_invV X hx hown (hts _ m_2fc63c70) (hts _ m_8e233096) (hts _ m_27eed10c) (xt_sigOf (hts _ m_ff1c70ae)) nm_Row_at (by rw [hT]; exact ra9) rb9 rc9 (g := F0 m 6 ls [.int 2, .int x1, .ref b2]) rfl (argsL := [.int x1, .int 2]) (rest := []) rfl rfl (by rw [hb]; exact (xb_d D_StackModule_sameType 4 rfl))) (ok_Row_at l hfl D A σ b2 x1 2 h _ hw) (hml.trans hl.1.symm) (by rw [hb]; exact (xb_d D_StackModule_sameType 4 rfl)) (Nat.le_of_ble_eq_true rfl) (Nat.le_of_ble_eq_true rfl) (Nat.le_of_ble_eq_true rfl) (show k ≤ MC by omega) (show n ≤ MS by omega) (xt_w1 hB.1 m_ff1c70ae) (xt_cdOf hB.1 m_ff1c70ae) (hts _ m_c1bef504) hB hR hS hA (fun vv h4 H locs hq hEh4 hR hS => ?_)
  obtain ⟨r5, rfl, hw⟩ := hq
  have hw := hw hEh4
  have hE := hE.tr hEh4
  refine W.eq (g2 := F0 m 9 ls [.int r5]) rfl ?_
  refine lv_istore hx hb (xb_d D_StackModule_sameType 5 rfl) hl (by decide) rfl (fun ls hl => ?_)
  have hl : lv_has ls 6 [(4, .int r5), (0, .ref x0), (1, .int x1), (2, .ref x2), (3, .int x3)] := hl
  refine lv_iload hx hb (xb_d D_StackModule_sameType 6 rfl) (lv_at hl 0 rfl) ?_
  refine lv_aload_n hx hb (xb_d D_StackModule_sameType 7 rfl) rfl (lv_at hl 3 rfl) ?_
  obtain ⟨hk6, hw⟩ := hw
  refine xb_getP (C := R_StackModule) (T := F_StackModule) (N := 19) hx hb 2 2 hts fin_StackModule hown hR hk6 (by decide) rfl (by decide) rfl (hts _ m_b7ec8f62) (fun _ h9 => h9) (xb_d D_StackModule_sameType 8 rfl) ?_
  obtain ⟨b7, eb7, hw⟩ := hw
  refine xb_some eb7 ?_
  refine lv_iload_n hx hb (xb_d D_StackModule_sameType 9 rfl) rfl (lv_at hl 4 rfl) ?_
  refine lv_iconst (v := 2) hx hb (xb_d D_StackModule_sameType 10 rfl) (by decide) ?_
  obtain ⟨hk8, hw⟩ := hw
  refine xb_call0 (D := D) (A := A) (σ := σ) (h := h4) (d := 2) (maxL := 3) (rest := [.int r5]) (av := [.ref b7, .int x3, .int 2]) (fun T hT X => by obtain ⟨cb9, ra9, rb9, rc9⟩ := xb_recv (ci := 1) hR rfl hk8 (by decide); exact xt_invV X hx hown (hts _ m_2fc63c70) (hts _ m_8e233096) (hts _ m_27eed10c) (xt_sigOf (hts _ m_ff1c70ae)) nm_Row_at (by rw [hT]; exact ra9) rb9 rc9 (g := F0 m 19 ls [.int 2, .int x3, .ref b7, .int r5]) rfl (argsL := [.int x3, .int 2]) (rest := [.int r5]) rfl rfl (by rw [hb]; exact (xb_d D_StackModule_sameType 11 rfl))) (ok_Row_at l hfl D A σ b7 x3 2 h4 _ hw) (hml.trans hl.1.symm) (by rw [hb]; exact (xb_d D_StackModule_sameType 11 rfl)) (Nat.le_of_ble_eq_true rfl) (Nat.le_of_ble_eq_true rfl) (Nat.le_of_ble_eq_true rfl) (show k ≤ MC by omega) (show n ≤ MS by omega) (xt_w1 hB.1 m_ff1c70ae) (xt_cdOf hB.1 m_ff1c70ae) (hts _ m_c1bef504) hB hR hS hA (fun vv h9 H locs hq hEh9 hR hS => ?_)
  obtain ⟨r10, rfl, hw⟩ := hq
  have hw := hw hEh9
  have hE := hE.tr hEh9
  refine W.eq (g2 := F0 m 22 ls [.int r10, .int r5]) rfl ?_
  refine lv_icmp_ne (tgt := 46) hx hb (xb_d D_StackModule_sameType 12 rfl) rfl (fun hc11 => ?_) (fun hc11 => ?_)
  · have hw := hw.1 hc11
    exact am_StackModule_sameType_L46 l hfl D A σ MC MS h0 Qr h9 hw p e s m args below meth c hC H locs ls k n hE (lv_sub hl [] rfl) hR hS (by omega) (by omega)
  · have hw := hw.2 hc11
    refine lv_aload_n hx hb (xb_d D_StackModule_sameType 13 rfl) rfl (lv_at hl 1 rfl) ?_
    have hk1 : xb_k h4 x0 = 3 := hEh4.k hk1
    have hk1 : xb_k h9 x0 = 3 := hEh9.k hk1
    refine xb_getP (C := R_StackModule) (T := F_StackModule) (N := 19) hx hb 2 2 hts fin_StackModule hown hR hk1 (by decide) rfl (by decide) rfl (hts _ m_b7ec8f62) (fun _ h9 => h9) (xb_d D_StackModule_sameType 14 rfl) ?_
    obtain ⟨b12, eb12, hw⟩ := hw
    refine xb_some eb12 ?_
    refine lv_iload_n hx hb (xb_d D_StackModule_sameType 15 rfl) rfl (lv_at hl 2 rfl) ?_
    refine lv_iconst (v := 4) hx hb (xb_d D_StackModule_sameType 16 rfl) (by decide) ?_
    obtain ⟨hk13, hw⟩ := hw
    refine xb_call0 (D := D) (A := A) (σ := σ) (h := h9) (d := 2) (maxL := 3) (rest := []) (av := [.ref b12, .int x1, .int 4]) (fun T hT X => by obtain ⟨cb9, ra9, rb9, rc9⟩ := xb_recv (ci := 1) hR rfl hk13 (by decide); exact xt_invV X hx hown (hts _ m_2fc63c70) (hts _ m_8e233096) (hts _ m_27eed10c) (xt_sigOf (hts _ m_ff1c70ae)) nm_Row_at (by rw [hT]; exact ra9) rb9 rc9 (g := F0 m 31 ls [.int 4, .int x1, .ref b12]) rfl (argsL := [.int x1, .int 4]) (rest := []) rfl rfl (by rw [hb]; exact (xb_d D_StackModule_sameType 17 rfl))) (ok_Row_at l hfl D A σ b12 x1 4 h9 _ hw) (hml.trans hl.1.symm) (by rw [hb]; exact (xb_d D_StackModule_sameType 17 rfl)) (Nat.le_of_ble_eq_true rfl) (Nat.le_of_ble_eq_true rfl) (Nat.le_of_ble_eq_true rfl) (show k ≤ MC by omega) (show n ≤ MS by omega) (xt_w1 hB.1 m_ff1c70ae) (xt_cdOf hB.1 m_ff1c70ae) (hts _ m_c1bef504) hB hR hS hA (fun vv h14 H locs hq hEh14 hR hS => ?_)
    obtain ⟨r15, rfl, hw⟩ := hq
    have hw := hw hEh14
    have hE := hE.tr hEh14
    refine W.eq (g2 := F0 m 34 ls [.int r15]) rfl ?_
    refine lv_aload_n hx hb (xb_d D_StackModule_sameType 18 rfl) rfl (lv_at hl 3 rfl) ?_
    have hk6 : xb_k h9 x2 = 3 := hEh9.k hk6
    have hk6 : xb_k h14 x2 = 3 := hEh14.k hk6
    refine xb_getP (C := R_StackModule) (T := F_StackModule) (N := 19) hx hb 2 2 hts fin_StackModule hown hR hk6 (by decide) rfl (by decide) rfl (hts _ m_b7ec8f62) (fun _ h9 => h9) (xb_d D_StackModule_sameType 19 rfl) ?_
    obtain ⟨b16, eb16, hw⟩ := hw
    refine xb_some eb16 ?_
    refine lv_iload_n hx hb (xb_d D_StackModule_sameType 20 rfl) rfl (lv_at hl 4 rfl) ?_
    refine lv_iconst (v := 4) hx hb (xb_d D_StackModule_sameType 21 rfl) (by decide) ?_
    obtain ⟨hk17, hw⟩ := hw
    refine xb_call0 (D := D) (A := A) (σ := σ) (h := h14) (d := 2) (maxL := 3) (rest := [.int r15]) (av := [.ref b16, .int x3, .int 4]) (fun T hT X => by obtain ⟨cb9, ra9, rb9, rc9⟩ := xb_recv (ci := 1) hR rfl hk17 (by decide); exact xt_invV X hx hown (hts _ m_2fc63c70) (hts _ m_8e233096) (hts _ m_27eed10c) (xt_sigOf (hts _ m_ff1c70ae)) nm_Row_at (by rw [hT]; exact ra9) rb9 rc9 (g := F0 m 40 ls [.int 4, .int x3, .ref b16, .int r15]) rfl (argsL := [.int x3, .int 4]) (rest := [.int r15]) rfl rfl (by rw [hb]; exact (xb_d D_StackModule_sameType 22 rfl))) (ok_Row_at l hfl D A σ b16 x3 4 h14 _ hw) (hml.trans hl.1.symm) (by rw [hb]; exact (xb_d D_StackModule_sameType 22 rfl)) (Nat.le_of_ble_eq_true rfl) (Nat.le_of_ble_eq_true rfl) (Nat.le_of_ble_eq_true rfl) (show k ≤ MC by omega) (show n ≤ MS by omega) (xt_w1 hB.1 m_ff1c70ae) (xt_cdOf hB.1 m_ff1c70ae) (hts _ m_c1bef504) hB hR hS hA (fun vv h18 H locs hq hEh18 hR hS => ?_)
    obtain ⟨r19, rfl, hw⟩ := hq
    have hw := hw hEh18
    have hE := hE.tr hEh18
    refine W.eq (g2 := F0 m 43 ls [.int r19, .int r15]) rfl ?_
    refine lv_icmp_eq (tgt := 48) hx hb (xb_d D_StackModule_sameType 23 rfl) rfl (fun hc20 => ?_) (fun hc20 => ?_)
    · have hw := hw.1 hc20
      refine lv_aload_n hx hb (xb_d D_StackModule_sameType 26 rfl) rfl (lv_at hl 1 rfl) ?_
      have hk1 : xb_k h14 x0 = 3 := hEh14.k hk1
      have hk1 : xb_k h18 x0 = 3 := hEh18.k hk1
      refine xb_getP (C := R_StackModule) (T := F_StackModule) (N := 19) hx hb 2 2 hts fin_StackModule hown hR hk1 (by decide) rfl (by decide) rfl (hts _ m_b7ec8f62) (fun _ h9 => h9) (xb_d D_StackModule_sameType 27 rfl) ?_
      obtain ⟨b21, eb21, hw⟩ := hw
      refine xb_some eb21 ?_
      refine lv_iload_n hx hb (xb_d D_StackModule_sameType 28 rfl) rfl (lv_at hl 2 rfl) ?_
      refine lv_iconst (v := 1) hx hb (xb_d D_StackModule_sameType 29 rfl) (by decide) ?_
      obtain ⟨hk22, hw⟩ := hw
      refine xb_call0 (D := D) (A := A) (σ := σ) (h := h18) (d := 2) (maxL := 3) (rest := []) (av := [.ref b21, .int x1, .int 1]) (fun T hT X => by obtain ⟨cb9, ra9, rb9, rc9⟩ := xb_recv (ci := 1) hR rfl hk22 (by decide); exact xt_invV X hx hown (hts _ m_2fc63c70) (hts _ m_8e233096) (hts _ m_27eed10c) (xt_sigOf (hts _ m_ff1c70ae)) nm_Row_at (by rw [hT]; exact ra9) rb9 rc9 (g := F0 m 54 ls [.int 1, .int x1, .ref b21]) rfl (argsL := [.int x1, .int 1]) (rest := []) rfl rfl (by rw [hb]; exact (xb_d D_StackModule_sameType 30 rfl))) (ok_Row_at l hfl D A σ b21 x1 1 h18 _ hw) (hml.trans hl.1.symm) (by rw [hb]; exact (xb_d D_StackModule_sameType 30 rfl)) (Nat.le_of_ble_eq_true rfl) (Nat.le_of_ble_eq_true rfl) (Nat.le_of_ble_eq_true rfl) (show k ≤ MC by omega) (show n ≤ MS by omega) (xt_w1 hB.1 m_ff1c70ae) (xt_cdOf hB.1 m_ff1c70ae) (hts _ m_c1bef504) hB hR hS hA (fun vv h23 H locs hq hEh23 hR hS => ?_)
      obtain ⟨r24, rfl, hw⟩ := hq
      have hw := hw hEh23
      have hE := hE.tr hEh23
      refine W.eq (g2 := F0 m 57 ls [.int r24]) rfl ?_
      refine lv_istore hx hb (xb_d D_StackModule_sameType 31 rfl) hl (by decide) rfl (fun ls hl => ?_)
      have hl : lv_has ls 6 [(5, .int r24), (4, .int r5), (0, .ref x0), (1, .int x1), (2, .ref x2), (3, .int x3)] := hl
      refine lv_aload_n hx hb (xb_d D_StackModule_sameType 32 rfl) rfl (lv_at hl 2 rfl) ?_
      have hk1 : xb_k h23 x0 = 3 := hEh23.k hk1
      refine xb_getP (C := R_StackModule) (T := F_StackModule) (N := 19) hx hb 2 0 hts fin_StackModule hown hR hk1 (by decide) rfl (by decide) rfl (hts _ m_18969b14) (fun _ h9 => h9) (xb_d D_StackModule_sameType 33 rfl) ?_
      obtain ⟨b25, eb25, hw⟩ := hw
      refine xb_some eb25 ?_
      refine lv_iload hx hb (xb_d D_StackModule_sameType 34 rfl) (lv_at hl 0 rfl) ?_
      refine lv_aload_n hx hb (xb_d D_StackModule_sameType 35 rfl) rfl (lv_at hl 4 rfl) ?_
      have hk6 : xb_k h18 x2 = 3 := hEh18.k hk6
      have hk6 : xb_k h23 x2 = 3 := hEh23.k hk6
      refine xb_getP (C := R_StackModule) (T := F_StackModule) (N := 19) hx hb 2 0 hts fin_StackModule hown hR hk6 (by decide) rfl (by decide) rfl (hts _ m_18969b14) (fun _ h9 => h9) (xb_d D_StackModule_sameType 36 rfl) ?_
      obtain ⟨b26, eb26, hw⟩ := hw
      refine xb_some eb26 ?_
      refine lv_aload_n hx hb (xb_d D_StackModule_sameType 37 rfl) rfl (lv_at hl 4 rfl) ?_
      refine xb_getP (C := R_StackModule) (T := F_StackModule) (N := 19) hx hb 2 2 hts fin_StackModule hown hR hk6 (by decide) rfl (by decide) rfl (hts _ m_b7ec8f62) (fun _ h9 => h9) (xb_d D_StackModule_sameType 38 rfl) ?_
      obtain ⟨b27, eb27, hw⟩ := hw
      refine xb_some eb27 ?_
      refine lv_iload_n hx hb (xb_d D_StackModule_sameType 39 rfl) rfl (lv_at hl 5 rfl) ?_
      refine lv_iconst (v := 1) hx hb (xb_d D_StackModule_sameType 40 rfl) (by decide) ?_
      obtain ⟨hk28, hw⟩ := hw
      refine xb_call0 (D := D) (A := A) (σ := σ) (h := h23) (d := 2) (maxL := 3) (rest := [.ref b26, .int r24, .ref b25]) (av := [.ref b27, .int x3, .int 1]) (fun T hT X => by obtain ⟨cb9, ra9, rb9, rc9⟩ := xb_recv (ci := 1) hR rfl hk28 (by decide); exact xt_invV X hx hown (hts _ m_2fc63c70) (hts _ m_8e233096) (hts _ m_27eed10c) (xt_sigOf (hts _ m_ff1c70ae)) nm_Row_at (by rw [hT]; exact ra9) rb9 rc9 (g := F0 m 75 ls [.int 1, .int x3, .ref b27, .ref b26, .int r24, .ref b25]) rfl (argsL := [.int x3, .int 1]) (rest := [.ref b26, .int r24, .ref b25]) rfl rfl (by rw [hb]; exact (xb_d D_StackModule_sameType 41 rfl))) (ok_Row_at l hfl D A σ b27 x3 1 h23 _ hw) (hml.trans hl.1.symm) (by rw [hb]; exact (xb_d D_StackModule_sameType 41 rfl)) (Nat.le_of_ble_eq_true rfl) (Nat.le_of_ble_eq_true rfl) (Nat.le_of_ble_eq_true rfl) (show k ≤ MC by omega) (show n ≤ MS by omega) (xt_w1 hB.1 m_ff1c70ae) (xt_cdOf hB.1 m_ff1c70ae) (hts _ m_c1bef504) hB hR hS hA (fun vv h29 H locs hq hEh29 hR hS => ?_)
      obtain ⟨r30, rfl, hw⟩ := hq
      have hw := hw hEh29
      have hE := hE.tr hEh29
      refine W.eq (g2 := F0 m 78 ls [.int r30, .ref b26, .int r24, .ref b25]) rfl ?_
      refine lv_iload hx hb (xb_d D_StackModule_sameType 42 rfl) (lv_at hl 1 rfl) ?_
      refine xb_call0 (D := D) (A := A) (σ := σ) (h := h29) (d := 2) (maxL := 6) (rest := []) (av := [.ref b25, .int r24, .ref b26, .int r30, .int r5]) (fun T hT X => xt_invS X hx hown (hts _ m_c75cb26b) (hts _ m_60db31ff) (hts _ m_9c375545) (xt_sgS (hts _ m_e49b5738)).1 (xt_sgS (hts _ m_e49b5738)).2 nm_StackModule_sameBytes (g := F0 m 80 ls [.int r5, .int r30, .ref b26, .int r24, .ref b25]) rfl (argsL := [.ref b25, .int r24, .ref b26, .int r30, .int r5]) (rest := []) rfl rfl (by rw [hb]; exact (xb_d D_StackModule_sameType 43 rfl))) (ok_StackModule_sameBytes l hfl D A σ b25 r24 b26 r30 r5 h29 _ hw) (hml.trans hl.1.symm) (by rw [hb]; exact (xb_d D_StackModule_sameType 43 rfl)) (Nat.le_of_ble_eq_true rfl) (Nat.le_of_ble_eq_true rfl) (Nat.le_of_ble_eq_true rfl) (show k ≤ MC by omega) (show n ≤ MS by omega) (xt_w1 hB.1 m_e49b5738) (xt_cdOf hB.1 m_e49b5738) (hts _ m_9c375545) hB hR hS hA (fun vv h31 H locs hq hEh31 hR hS => ?_)
      obtain ⟨r32, rfl, hw⟩ := hq
      have hw := hw hEh31
      have hE := hE.tr hEh31
      refine W.eq (g2 := F0 m 83 ls [.int r32]) rfl ?_
      exact xb_zret 0 0 hx hb hr hlocks (show k + 0 ≤ MC by omega) (show n + 0 ≤ MS by omega) hw.1 hE hR hS (xb_d D_StackModule_sameType 44 rfl) hw.2
    · have hw := hw.2 hc20
      exact am_StackModule_sameType_L46 l hfl D A σ MC MS h0 Qr h18 hw p e s m args below meth c hC H locs ls k n hE (lv_sub hl [] rfl) hR hS (by omega) (by omega)

set_option maxRecDepth 100000 in
def T_StackModule_typeOf : List (Nat × Instr × Nat) := [(0, .aload_n 0, 1), (1, .getfield 23, 3), (4, .iload_n 1, 1), (5, .iconst 1, 1), (6, .invokevirtual 84, 3), (9, .ireturn, 1)]
theorem D_StackModule_typeOf : ∀ q ∈ T_StackModule_typeOf, decode b_StackModule_typeOf q.1 = .ok (q.2.1, q.2.2) := by decide +kernel

set_option maxHeartbeats 4000000 in
set_option maxRecDepth 100000 in
theorem ok_StackModule_typeOf (l : Launch) (hfl : l.flags = pinnedFlags ++ [noTraceFlag]) (D : va_G) (A : Nat → Prop) (σ : Nat) (x0 : Nat) (x1 : Int32) (h : xb_H) (Qr : Int32 → xb_H → Prop) (hw : w_StackModule_typeOf x0 x1 h Qr) : xb_Met l y_StackModule_typeOf [.code y_StackModule_typeOf b_StackModule_typeOf 2 (some .int)] (xb_rm 3 0 0) (xb_Pc D A σ h [.ref x0, .int x1]) (xb_Qc D A h 0 0 (fun v h _ _ => ∃ r, v = some (.int r) ∧ Qr r h) (fun _ _ _ _ => False)) A := by
  refine xb_ofAm (cc := b_StackModule_typeOf) (by decide) (Nat.le_of_ble_eq_true rfl) ?_
  unfold w_StackModule_typeOf at hw
  show xb_am l D A σ 3 0 0 h (fun v h _ _ => ∃ r, v = some (.int r) ∧ Qr r h) (fun _ _ _ _ => False) y_StackModule_typeOf.cls y_StackModule_typeOf.name b_StackModule_typeOf 2 ([] : List ExceptionTableEntry) (some .int) 0 [(0, .ref x0), (1, .int x1)] [] h 0 0
  obtain ⟨MC, hMC⟩ : ∃ x, x = 0 := ⟨_, rfl⟩
  obtain ⟨MS, hMS⟩ : ∃ x, x = 0 := ⟨_, rfl⟩
  rw [show xb_am l D A σ 3 0 0 = xb_am l D A σ 3 MC MS by rw [hMC, hMS]]
  obtain ⟨h0, hh0⟩ : ∃ x, x = h := ⟨_, rfl⟩
  rw [show xb_am l D A σ 3 MC MS h = xb_am l D A σ 3 MC MS h0 by rw [hh0]]
  intro p e s m args below meth c hC H locs ls k n hE hl hR hS hk hn
  obtain ⟨hx, hb, hown, hlocks, htab, hml, hr, hB, hA, hnm⟩ := id hC
  have hts := hB.1.1.at args
  refine lv_aload_n hx hb (xb_d D_StackModule_typeOf 0 rfl) rfl (lv_at hl 0 rfl) ?_
  obtain ⟨hk1, hw⟩ := hw
  refine xb_getP (C := R_StackModule) (T := F_StackModule) (N := 19) hx hb 2 4 hts fin_StackModule hown hR hk1 (by decide) rfl (by decide) rfl (hts _ m_4d92b9c1) (fun _ h9 => h9) (xb_d D_StackModule_typeOf 1 rfl) ?_
  obtain ⟨b2, eb2, hw⟩ := hw
  refine xb_some eb2 ?_
  refine lv_iload_n hx hb (xb_d D_StackModule_typeOf 2 rfl) rfl (lv_at hl 1 rfl) ?_
  refine lv_iconst (v := 1) hx hb (xb_d D_StackModule_typeOf 3 rfl) (by decide) ?_
  obtain ⟨hk3, hw⟩ := hw
  refine xb_call0 (D := D) (A := A) (σ := σ) (h := h) (d := 2) (maxL := 3) (rest := []) (av := [.ref b2, .int x1, .int 1]) (fun T hT X => by obtain ⟨cb9, ra9, rb9, rc9⟩ := xb_recv (ci := 1) hR rfl hk3 (by decide); exact xt_invV X hx hown (hts _ m_2fc63c70) (hts _ m_8e233096) (hts _ m_27eed10c) (xt_sigOf (hts _ m_ff1c70ae)) nm_Row_at (by rw [hT]; exact ra9) rb9 rc9 (g := F0 m 6 ls [.int 1, .int x1, .ref b2]) rfl (argsL := [.int x1, .int 1]) (rest := []) rfl rfl (by rw [hb]; exact (xb_d D_StackModule_typeOf 4 rfl))) (ok_Row_at l hfl D A σ b2 x1 1 h _ hw) (hml.trans hl.1.symm) (by rw [hb]; exact (xb_d D_StackModule_typeOf 4 rfl)) (Nat.le_of_ble_eq_true rfl) (Nat.le_of_ble_eq_true rfl) (Nat.le_of_ble_eq_true rfl) (show k ≤ MC by omega) (show n ≤ MS by omega) (xt_w1 hB.1 m_ff1c70ae) (xt_cdOf hB.1 m_ff1c70ae) (hts _ m_c1bef504) hB hR hS hA (fun vv h4 H locs hq hEh4 hR hS => ?_)
  obtain ⟨r5, rfl, hw⟩ := hq
  have hw := hw hEh4
  have hE := hE.tr hEh4
  refine W.eq (g2 := F0 m 9 ls [.int r5]) rfl ?_
  exact xb_iret 0 0 hx hb hr hlocks (show k + 0 ≤ MC by omega) (show n + 0 ≤ MS by omega) hE hR hS (xb_d D_StackModule_typeOf 5 rfl) hw

theorem m_30bc8b83 : (.methodLink "StackHost$Whole" 19 y_Whole_zerosAbove : Cond) ∈ xt_tbl := xt_in (xt_t8 (List.mem_of_getElem? (i := 171) (by decide +kernel))) (by decide +kernel)
theorem m_c4b80527 : (.constantLong "StackHost$Whole" 29 (-1) : Cond) ∈ xt_tbl := xt_in (xt_t8 (List.mem_of_getElem? (i := 195) (by decide +kernel))) (by decide +kernel)
theorem m_fc8fcc72 : (.methodLink "StackHost$Whole" 31 y_Long_bitCount : Cond) ∈ xt_tbl := xt_in (xt_t8 (List.mem_of_getElem? (i := 196) (by decide +kernel))) (by decide +kernel)
theorem m_2ec6347b : (.static y_Long_bitCount : Cond) ∈ xt_tbl := xt_in (xt_t8 (List.mem_of_getElem? (i := 197) (by decide +kernel))) (by decide +kernel)
theorem m_82f837e0 : (.initialized "java/lang/Long" : Cond) ∈ xt_tbl := xt_in (xt_t1 (List.mem_of_getElem? (i := 33) (by decide +kernel))) (by decide +kernel)
theorem m_48fbbabc : (.code y_Long_bitCount b_Long_bitCount 2 (some .int) : Cond) ∈ xt_tbl := xt_in (xt_t8 (List.mem_of_getElem? (i := 198) (by decide +kernel))) (by decide +kernel)
theorem nm_Long_bitCount : xt_nm y_Long_bitCount 1 := ⟨by decide +kernel, by decide +kernel⟩
set_option maxRecDepth 100000 in
def T_Whole_countLong : List (Nat × Instr × Nat) := [(0, .iload_n 0, 1), (1, .lookupswitch 45 #[(0, 27), (1, 32)], 27), (28, .lload_n 1, 1), (29, .invokestatic 19, 3), (32, .ireturn, 1), (33, .lload_n 1, 1), (34, .ldc2_w 29, 3), (37, .lxor, 1), (38, .lload_n 1, 1), (39, .lconst 1, 1), (40, .lsub, 1), (41, .land, 1), (42, .invokestatic 31, 3), (45, .ireturn, 1), (46, .lload_n 1, 1), (47, .invokestatic 31, 3), (50, .ireturn, 1)]
theorem D_Whole_countLong : ∀ q ∈ T_Whole_countLong, decode b_Whole_countLong q.1 = .ok (q.2.1, q.2.2) := by decide +kernel

set_option maxHeartbeats 4000000 in
set_option maxRecDepth 100000 in
theorem ok_Whole_countLong (l : Launch) (hfl : l.flags = pinnedFlags ++ [noTraceFlag]) (D : va_G) (A : Nat → Prop) (σ : Nat) (x0 : Int32) (x1 : Int64) (h : xb_H) (Qr : Int32 → xb_H → Prop) (hw : w_Whole_countLong x0 x1 h Qr) : xb_Met l y_Whole_countLong [.code y_Whole_countLong b_Whole_countLong 3 (some .int)] (xb_rm 3 0 0) (xb_Pc D A σ h [.int x0, .long x1]) (xb_Qc D A h 0 0 (fun v h _ _ => ∃ r, v = some (.int r) ∧ Qr r h) (fun _ _ _ _ => False)) A := by
  refine xb_ofAm (cc := b_Whole_countLong) (by decide) (Nat.le_of_ble_eq_true rfl) ?_
  unfold w_Whole_countLong at hw
  show xb_am l D A σ 3 0 0 h (fun v h _ _ => ∃ r, v = some (.int r) ∧ Qr r h) (fun _ _ _ _ => False) y_Whole_countLong.cls y_Whole_countLong.name b_Whole_countLong 3 ([] : List ExceptionTableEntry) (some .int) 0 [(0, .int x0), (1, .long x1)] [] h 0 0
  obtain ⟨MC, hMC⟩ : ∃ x, x = 0 := ⟨_, rfl⟩
  obtain ⟨MS, hMS⟩ : ∃ x, x = 0 := ⟨_, rfl⟩
  rw [show xb_am l D A σ 3 0 0 = xb_am l D A σ 3 MC MS by rw [hMC, hMS]]
  obtain ⟨h0, hh0⟩ : ∃ x, x = h := ⟨_, rfl⟩
  rw [show xb_am l D A σ 3 MC MS h = xb_am l D A σ 3 MC MS h0 by rw [hh0]]
  intro p e s m args below meth c hC H locs ls k n hE hl hR hS hk hn
  obtain ⟨hx, hb, hown, hlocks, htab, hml, hr, hB, hA, hnm⟩ := id hC
  have hts := hB.1.1.at args
  refine lv_iload_n hx hb (xb_d D_Whole_countLong 0 rfl) rfl (lv_at hl 0 rfl) ?_
  by_cases hc1 : x0 = 0
  · have hw := hw.1 hc1
    refine xt_numi hc1 ?_
    refine lv_lookup (off := 27) (tgt := 28) hx hb (xb_d D_Whole_countLong 1 rfl) (by decide +kernel) (by decide +kernel) (by decide) ?_
    refine lv_lload_n hx hb (xb_d D_Whole_countLong 2 rfl) rfl (lv_at hl 1 rfl) ?_
    refine xb_call0 (D := D) (A := A) (σ := σ) (h := h) (d := 2) (maxL := 6) (rest := []) (av := [.long x1]) (fun T hT X => xt_invS X hx hown (hts _ m_30bc8b83) (hts _ m_a350c52f) (hts _ m_912e4ef6) (xt_sgS (hts _ m_041868e1)).1 (xt_sgS (hts _ m_041868e1)).2 nm_Whole_zerosAbove (g := F0 m 29 ls [.long x1]) rfl (argsL := [.long x1]) (rest := []) rfl rfl (by rw [hb]; exact (xb_d D_Whole_countLong 3 rfl))) (ok_Whole_zerosAbove l hfl D A σ x1 h _ hw) (hml.trans hl.1.symm) (by rw [hb]; exact (xb_d D_Whole_countLong 3 rfl)) (Nat.le_of_ble_eq_true rfl) (Nat.le_of_ble_eq_true rfl) (Nat.le_of_ble_eq_true rfl) (show k ≤ MC by omega) (show n ≤ MS by omega) (xt_w1 hB.1 m_041868e1) (xt_cdOf hB.1 m_041868e1) (hts _ m_912e4ef6) hB hR hS hA (fun vv h2 H locs hq hEh2 hR hS => ?_)
    obtain ⟨r3, rfl, hw⟩ := hq
    have hw := hw hEh2
    have hE := hE.tr hEh2
    refine W.eq (g2 := F0 m 32 ls [.int r3]) rfl ?_
    exact xb_iret 0 0 hx hb hr hlocks (show k + 0 ≤ MC by omega) (show n + 0 ≤ MS by omega) hE hR hS (xb_d D_Whole_countLong 4 rfl) hw
  have hw := hw.2
  by_cases hc4 : x0 = 1
  · have hw := hw.1 hc4
    refine xt_numi hc4 ?_
    refine lv_lookup (off := 32) (tgt := 33) hx hb (xb_d D_Whole_countLong 1 rfl) (by decide +kernel) (by decide +kernel) (by decide) ?_
    refine lv_lload_n hx hb (xb_d D_Whole_countLong 5 rfl) rfl (lv_at hl 1 rfl) ?_
    refine lv_ldc2 (v := (-1)) hx hb hown (hts _ m_c4b80527) (xb_d D_Whole_countLong 6 rfl) ?_
    refine lv_lxor hx hb (xb_d D_Whole_countLong 7 rfl) ?_
    refine lv_lload_n hx hb (xb_d D_Whole_countLong 8 rfl) rfl (lv_at hl 1 rfl) ?_
    refine lv_lconst (v := 1) hx hb (xb_d D_Whole_countLong 9 rfl) (by decide) ?_
    refine lv_lsub hx hb (xb_d D_Whole_countLong 10 rfl) ?_
    refine lv_land hx hb (xb_d D_Whole_countLong 11 rfl) ?_
    refine xb_call0 (D := D) (A := A) (σ := σ) (h := h) (d := 2) (maxL := 2) (rest := []) (av := [.long ((x1 ^^^ (-1)) &&& (x1 - 1))]) (fun T hT X => xt_invS X hx hown (hts _ m_fc8fcc72) (hts _ m_2ec6347b) (hts _ m_82f837e0) (xt_sgS (hts _ m_48fbbabc)).1 (xt_sgS (hts _ m_48fbbabc)).2 nm_Long_bitCount (g := F0 m 42 ls [.long ((x1 ^^^ (-1)) &&& (x1 - 1))]) rfl (argsL := [.long ((x1 ^^^ (-1)) &&& (x1 - 1))]) (rest := []) rfl rfl (by rw [hb]; exact (xb_d D_Whole_countLong 12 rfl))) (ok_Long_bitCount l hfl D A σ ((x1 ^^^ (-1)) &&& (x1 - 1)) h _ hw) (hml.trans hl.1.symm) (by rw [hb]; exact (xb_d D_Whole_countLong 12 rfl)) (Nat.le_of_ble_eq_true rfl) (Nat.le_of_ble_eq_true rfl) (Nat.le_of_ble_eq_true rfl) (show k ≤ MC by omega) (show n ≤ MS by omega) (xt_w1 hB.1 m_48fbbabc) (xt_cdOf hB.1 m_48fbbabc) (hts _ m_82f837e0) hB hR hS hA (fun vv h5 H locs hq hEh5 hR hS => ?_)
    obtain ⟨r6, rfl, hw⟩ := hq
    have hw := hw hEh5
    have hE := hE.tr hEh5
    refine W.eq (g2 := F0 m 45 ls [.int r6]) rfl ?_
    exact xb_iret 0 0 hx hb hr hlocks (show k + 0 ≤ MC by omega) (show n + 0 ≤ MS by omega) hE hR hS (xb_d D_Whole_countLong 13 rfl) hw
  have hw := hw.2
  have hw := hw hc1 hc4
  refine lv_lookup (off := 45) (tgt := 46) hx hb (xb_d D_Whole_countLong 1 rfl) (by decide +kernel) (by simp only [List.toList_toArray, Op.lookupswitch.offset_cons, Op.lookupswitch.offset_nil]; rw [if_neg (fun h9 => xb_nl (0) 0 (by decide) hc1 h9.symm), if_neg (fun h9 => xb_nl (1) 1 (by decide) hc4 h9.symm)]) (by decide) ?_
  refine lv_lload_n hx hb (xb_d D_Whole_countLong 14 rfl) rfl (lv_at hl 1 rfl) ?_
  refine xb_call0 (D := D) (A := A) (σ := σ) (h := h) (d := 2) (maxL := 2) (rest := []) (av := [.long x1]) (fun T hT X => xt_invS X hx hown (hts _ m_fc8fcc72) (hts _ m_2ec6347b) (hts _ m_82f837e0) (xt_sgS (hts _ m_48fbbabc)).1 (xt_sgS (hts _ m_48fbbabc)).2 nm_Long_bitCount (g := F0 m 47 ls [.long x1]) rfl (argsL := [.long x1]) (rest := []) rfl rfl (by rw [hb]; exact (xb_d D_Whole_countLong 15 rfl))) (ok_Long_bitCount l hfl D A σ x1 h _ hw) (hml.trans hl.1.symm) (by rw [hb]; exact (xb_d D_Whole_countLong 15 rfl)) (Nat.le_of_ble_eq_true rfl) (Nat.le_of_ble_eq_true rfl) (Nat.le_of_ble_eq_true rfl) (show k ≤ MC by omega) (show n ≤ MS by omega) (xt_w1 hB.1 m_48fbbabc) (xt_cdOf hB.1 m_48fbbabc) (hts _ m_82f837e0) hB hR hS hA (fun vv h7 H locs hq hEh7 hR hS => ?_)
  obtain ⟨r8, rfl, hw⟩ := hq
  have hw := hw hEh7
  have hE := hE.tr hEh7
  refine W.eq (g2 := F0 m 50 ls [.int r8]) rfl ?_
  exact xb_iret 0 0 hx hb hr hlocks (show k + 0 ≤ MC by omega) (show n + 0 ≤ MS by omega) hE hR hS (xb_d D_Whole_countLong 16 rfl) hw

theorem m_e1828f80 : (.methodLink "StackHost$Whole" 23 y_Integer_bitCount : Cond) ∈ xt_tbl := xt_in (xt_t8 (List.mem_of_getElem? (i := 172) (by decide +kernel))) (by decide +kernel)
theorem m_63bc7ab2 : (.static y_Integer_bitCount : Cond) ∈ xt_tbl := xt_in (xt_t8 (List.mem_of_getElem? (i := 173) (by decide +kernel))) (by decide +kernel)
theorem m_4a61c565 : (.initialized "java/lang/Integer" : Cond) ∈ xt_tbl := xt_in (xt_t1 (List.mem_of_getElem? (i := 26) (by decide +kernel))) (by decide +kernel)
theorem m_c9c99516 : (.code y_Integer_bitCount b_Integer_bitCount 1 (some .int) : Cond) ∈ xt_tbl := xt_in (xt_t8 (List.mem_of_getElem? (i := 174) (by decide +kernel))) (by decide +kernel)
theorem nm_Integer_bitCount : xt_nm y_Integer_bitCount 1 := ⟨by decide +kernel, by decide +kernel⟩
set_option maxRecDepth 100000 in
def T_Whole_countShort : List (Nat × Instr × Nat) := [(0, .iload_n 0, 1), (1, .lookupswitch 51 #[(0, 27), (1, 40)], 27), (28, .iload_n 1, 1), (29, .i2l, 1), (30, .ldc2_w 17, 3), (33, .land, 1), (34, .invokestatic 19, 3), (37, .bipush 32, 2), (39, .isub, 1), (40, .ireturn, 1), (41, .iload_n 1, 1), (42, .iconst (-1), 1), (43, .ixor, 1), (44, .iload_n 1, 1), (45, .iconst 1, 1), (46, .isub, 1), (47, .iand, 1), (48, .invokestatic 23, 3), (51, .ireturn, 1), (52, .iload_n 1, 1), (53, .invokestatic 23, 3), (56, .ireturn, 1)]
theorem D_Whole_countShort : ∀ q ∈ T_Whole_countShort, decode b_Whole_countShort q.1 = .ok (q.2.1, q.2.2) := by decide +kernel

set_option maxHeartbeats 4000000 in
set_option maxRecDepth 100000 in
theorem ok_Whole_countShort (l : Launch) (hfl : l.flags = pinnedFlags ++ [noTraceFlag]) (D : va_G) (A : Nat → Prop) (σ : Nat) (x0 : Int32) (x1 : Int32) (h : xb_H) (Qr : Int32 → xb_H → Prop) (hw : w_Whole_countShort x0 x1 h Qr) : xb_Met l y_Whole_countShort [.code y_Whole_countShort b_Whole_countShort 2 (some .int)] (xb_rm 3 0 0) (xb_Pc D A σ h [.int x0, .int x1]) (xb_Qc D A h 0 0 (fun v h _ _ => ∃ r, v = some (.int r) ∧ Qr r h) (fun _ _ _ _ => False)) A := by
  refine xb_ofAm (cc := b_Whole_countShort) (by decide) (Nat.le_of_ble_eq_true rfl) ?_
  unfold w_Whole_countShort at hw
  show xb_am l D A σ 3 0 0 h (fun v h _ _ => ∃ r, v = some (.int r) ∧ Qr r h) (fun _ _ _ _ => False) y_Whole_countShort.cls y_Whole_countShort.name b_Whole_countShort 2 ([] : List ExceptionTableEntry) (some .int) 0 [(0, .int x0), (1, .int x1)] [] h 0 0
  obtain ⟨MC, hMC⟩ : ∃ x, x = 0 := ⟨_, rfl⟩
  obtain ⟨MS, hMS⟩ : ∃ x, x = 0 := ⟨_, rfl⟩
  rw [show xb_am l D A σ 3 0 0 = xb_am l D A σ 3 MC MS by rw [hMC, hMS]]
  obtain ⟨h0, hh0⟩ : ∃ x, x = h := ⟨_, rfl⟩
  rw [show xb_am l D A σ 3 MC MS h = xb_am l D A σ 3 MC MS h0 by rw [hh0]]
  intro p e s m args below meth c hC H locs ls k n hE hl hR hS hk hn
  obtain ⟨hx, hb, hown, hlocks, htab, hml, hr, hB, hA, hnm⟩ := id hC
  have hts := hB.1.1.at args
  refine lv_iload_n hx hb (xb_d D_Whole_countShort 0 rfl) rfl (lv_at hl 0 rfl) ?_
  by_cases hc1 : x0 = 0
  · have hw := hw.1 hc1
    refine xt_numi hc1 ?_
    refine lv_lookup (off := 27) (tgt := 28) hx hb (xb_d D_Whole_countShort 1 rfl) (by decide +kernel) (by decide +kernel) (by decide) ?_
    refine lv_iload_n hx hb (xb_d D_Whole_countShort 2 rfl) rfl (lv_at hl 1 rfl) ?_
    refine lv_i2l hx hb (xb_d D_Whole_countShort 3 rfl) rfl ?_
    refine lv_ldc2 (v := 4294967295) hx hb hown (hts _ m_b9681625) (xb_d D_Whole_countShort 4 rfl) ?_
    refine lv_land hx hb (xb_d D_Whole_countShort 5 rfl) ?_
    refine xb_call0 (D := D) (A := A) (σ := σ) (h := h) (d := 2) (maxL := 6) (rest := []) (av := [.long ((Int32.toInt64 x1) &&& 4294967295)]) (fun T hT X => xt_invS X hx hown (hts _ m_30bc8b83) (hts _ m_a350c52f) (hts _ m_912e4ef6) (xt_sgS (hts _ m_041868e1)).1 (xt_sgS (hts _ m_041868e1)).2 nm_Whole_zerosAbove (g := F0 m 34 ls [.long ((Int32.toInt64 x1) &&& 4294967295)]) rfl (argsL := [.long ((Int32.toInt64 x1) &&& 4294967295)]) (rest := []) rfl rfl (by rw [hb]; exact (xb_d D_Whole_countShort 6 rfl))) (ok_Whole_zerosAbove l hfl D A σ ((Int32.toInt64 x1) &&& 4294967295) h _ hw) (hml.trans hl.1.symm) (by rw [hb]; exact (xb_d D_Whole_countShort 6 rfl)) (Nat.le_of_ble_eq_true rfl) (Nat.le_of_ble_eq_true rfl) (Nat.le_of_ble_eq_true rfl) (show k ≤ MC by omega) (show n ≤ MS by omega) (xt_w1 hB.1 m_041868e1) (xt_cdOf hB.1 m_041868e1) (hts _ m_912e4ef6) hB hR hS hA (fun vv h2 H locs hq hEh2 hR hS => ?_)
    obtain ⟨r3, rfl, hw⟩ := hq
    have hw := hw hEh2
    have hE := hE.tr hEh2
    refine W.eq (g2 := F0 m 37 ls [.int r3]) rfl ?_
    refine lv_bipush (v := 32) hx hb (xb_d D_Whole_countShort 7 rfl) (by decide) ?_
    refine lv_isub hx hb (xb_d D_Whole_countShort 8 rfl) ?_
    exact xb_iret 0 0 hx hb hr hlocks (show k + 0 ≤ MC by omega) (show n + 0 ≤ MS by omega) hE hR hS (xb_d D_Whole_countShort 9 rfl) hw
  have hw := hw.2
  by_cases hc4 : x0 = 1
  · have hw := hw.1 hc4
    refine xt_numi hc4 ?_
    refine lv_lookup (off := 40) (tgt := 41) hx hb (xb_d D_Whole_countShort 1 rfl) (by decide +kernel) (by decide +kernel) (by decide) ?_
    refine lv_iload_n hx hb (xb_d D_Whole_countShort 10 rfl) rfl (lv_at hl 1 rfl) ?_
    refine lv_iconst (v := (-1)) hx hb (xb_d D_Whole_countShort 11 rfl) (by decide) ?_
    refine lv_ixor hx hb (xb_d D_Whole_countShort 12 rfl) ?_
    refine lv_iload_n hx hb (xb_d D_Whole_countShort 13 rfl) rfl (lv_at hl 1 rfl) ?_
    refine lv_iconst (v := 1) hx hb (xb_d D_Whole_countShort 14 rfl) (by decide) ?_
    refine lv_isub hx hb (xb_d D_Whole_countShort 15 rfl) ?_
    refine lv_iand hx hb (xb_d D_Whole_countShort 16 rfl) ?_
    refine xb_call0 (D := D) (A := A) (σ := σ) (h := h) (d := 2) (maxL := 1) (rest := []) (av := [.int ((x1 ^^^ (-1)) &&& (x1 - 1))]) (fun T hT X => xt_invS X hx hown (hts _ m_e1828f80) (hts _ m_63bc7ab2) (hts _ m_4a61c565) (xt_sgS (hts _ m_c9c99516)).1 (xt_sgS (hts _ m_c9c99516)).2 nm_Integer_bitCount (g := F0 m 48 ls [.int ((x1 ^^^ (-1)) &&& (x1 - 1))]) rfl (argsL := [.int ((x1 ^^^ (-1)) &&& (x1 - 1))]) (rest := []) rfl rfl (by rw [hb]; exact (xb_d D_Whole_countShort 17 rfl))) (ok_Integer_bitCount l hfl D A σ ((x1 ^^^ (-1)) &&& (x1 - 1)) h _ hw) (hml.trans hl.1.symm) (by rw [hb]; exact (xb_d D_Whole_countShort 17 rfl)) (Nat.le_of_ble_eq_true rfl) (Nat.le_of_ble_eq_true rfl) (Nat.le_of_ble_eq_true rfl) (show k ≤ MC by omega) (show n ≤ MS by omega) (xt_w1 hB.1 m_c9c99516) (xt_cdOf hB.1 m_c9c99516) (hts _ m_4a61c565) hB hR hS hA (fun vv h5 H locs hq hEh5 hR hS => ?_)
    obtain ⟨r6, rfl, hw⟩ := hq
    have hw := hw hEh5
    have hE := hE.tr hEh5
    refine W.eq (g2 := F0 m 51 ls [.int r6]) rfl ?_
    exact xb_iret 0 0 hx hb hr hlocks (show k + 0 ≤ MC by omega) (show n + 0 ≤ MS by omega) hE hR hS (xb_d D_Whole_countShort 18 rfl) hw
  have hw := hw.2
  have hw := hw hc1 hc4
  refine lv_lookup (off := 51) (tgt := 52) hx hb (xb_d D_Whole_countShort 1 rfl) (by decide +kernel) (by simp only [List.toList_toArray, Op.lookupswitch.offset_cons, Op.lookupswitch.offset_nil]; rw [if_neg (fun h9 => xb_nl (0) 0 (by decide) hc1 h9.symm), if_neg (fun h9 => xb_nl (1) 1 (by decide) hc4 h9.symm)]) (by decide) ?_
  refine lv_iload_n hx hb (xb_d D_Whole_countShort 19 rfl) rfl (lv_at hl 1 rfl) ?_
  refine xb_call0 (D := D) (A := A) (σ := σ) (h := h) (d := 2) (maxL := 1) (rest := []) (av := [.int x1]) (fun T hT X => xt_invS X hx hown (hts _ m_e1828f80) (hts _ m_63bc7ab2) (hts _ m_4a61c565) (xt_sgS (hts _ m_c9c99516)).1 (xt_sgS (hts _ m_c9c99516)).2 nm_Integer_bitCount (g := F0 m 53 ls [.int x1]) rfl (argsL := [.int x1]) (rest := []) rfl rfl (by rw [hb]; exact (xb_d D_Whole_countShort 20 rfl))) (ok_Integer_bitCount l hfl D A σ x1 h _ hw) (hml.trans hl.1.symm) (by rw [hb]; exact (xb_d D_Whole_countShort 20 rfl)) (Nat.le_of_ble_eq_true rfl) (Nat.le_of_ble_eq_true rfl) (Nat.le_of_ble_eq_true rfl) (show k ≤ MC by omega) (show n ≤ MS by omega) (xt_w1 hB.1 m_c9c99516) (xt_cdOf hB.1 m_c9c99516) (hts _ m_4a61c565) hB hR hS hA (fun vv h7 H locs hq hEh7 hR hS => ?_)
  obtain ⟨r8, rfl, hw⟩ := hq
  have hw := hw hEh7
  have hE := hE.tr hEh7
  refine W.eq (g2 := F0 m 56 ls [.int r8]) rfl ?_
  exact xb_iret 0 0 hx hb hr hlocks (show k + 0 ≤ MC by omega) (show n + 0 ≤ MS by omega) hE hR hS (xb_d D_Whole_countShort 21 rfl) hw

theorem m_601e0a48 : (.methodLink "StackHost$Whole" 43 y_Whole_quotient : Cond) ∈ xt_tbl := xt_in (xt_t8 (List.mem_of_getElem? (i := 209) (by decide +kernel))) (by decide +kernel)
theorem m_39b8ef05 : (.static y_Whole_quotient : Cond) ∈ xt_tbl := xt_in (xt_t8 (List.mem_of_getElem? (i := 210) (by decide +kernel))) (by decide +kernel)
theorem m_be008d72 : (.code y_Whole_quotient b_Whole_quotient 8 (some .long) : Cond) ∈ xt_tbl := xt_in (xt_t8 (List.mem_of_getElem? (i := 211) (by decide +kernel))) (by decide +kernel)
theorem nm_Whole_quotient : xt_nm y_Whole_quotient 2 := ⟨by decide +kernel, by decide +kernel⟩
set_option maxRecDepth 100000 in
def T_Whole_divideLong : List (Nat × Instr × Nat) := [(0, .iload_n 0, 1), (1, .tableswitch 41 3 5 #[27, 31, 37], 27), (28, .lload_n 1, 1), (29, .lload_n 3, 1), (30, .ldiv, 1), (31, .lreturn, 1), (32, .lload_n 1, 1), (33, .lload_n 3, 1), (34, .invokestatic 43, 3), (37, .lreturn, 1), (38, .lload_n 1, 1), (39, .lload_n 3, 1), (40, .lrem, 1), (41, .lreturn, 1), (42, .lload_n 1, 1), (43, .lload_n 1, 1), (44, .lload_n 3, 1), (45, .invokestatic 43, 3), (48, .lload_n 3, 1), (49, .lmul, 1), (50, .lsub, 1), (51, .lreturn, 1)]
theorem D_Whole_divideLong : ∀ q ∈ T_Whole_divideLong, decode b_Whole_divideLong q.1 = .ok (q.2.1, q.2.2) := by decide +kernel

set_option maxHeartbeats 4000000 in
set_option maxRecDepth 100000 in
theorem ok_Whole_divideLong (l : Launch) (hfl : l.flags = pinnedFlags ++ [noTraceFlag]) (D : va_G) (A : Nat → Prop) (σ : Nat) (x0 : Int32) (x1 : Int64) (x3 : Int64) (h : xb_H) (Qr : Int64 → xb_H → Prop) (hw : w_Whole_divideLong x0 x1 x3 h Qr) : xb_Met l y_Whole_divideLong [.code y_Whole_divideLong b_Whole_divideLong 5 (some .long)] (xb_rm 3 0 0) (xb_Pc D A σ h [.int x0, .long x1, .long x3]) (xb_Qc D A h 0 0 (fun v h _ _ => ∃ r, v = some (.long r) ∧ Qr r h) (fun _ _ _ _ => False)) A := by
  refine xb_ofAm (cc := b_Whole_divideLong) (by decide) (Nat.le_of_ble_eq_true rfl) ?_
  unfold w_Whole_divideLong at hw
  show xb_am l D A σ 3 0 0 h (fun v h _ _ => ∃ r, v = some (.long r) ∧ Qr r h) (fun _ _ _ _ => False) y_Whole_divideLong.cls y_Whole_divideLong.name b_Whole_divideLong 5 ([] : List ExceptionTableEntry) (some .long) 0 [(0, .int x0), (1, .long x1), (3, .long x3)] [] h 0 0
  obtain ⟨MC, hMC⟩ : ∃ x, x = 0 := ⟨_, rfl⟩
  obtain ⟨MS, hMS⟩ : ∃ x, x = 0 := ⟨_, rfl⟩
  rw [show xb_am l D A σ 3 0 0 = xb_am l D A σ 3 MC MS by rw [hMC, hMS]]
  obtain ⟨h0, hh0⟩ : ∃ x, x = h := ⟨_, rfl⟩
  rw [show xb_am l D A σ 3 MC MS h = xb_am l D A σ 3 MC MS h0 by rw [hh0]]
  intro p e s m args below meth c hC H locs ls k n hE hl hR hS hk hn
  obtain ⟨hx, hb, hown, hlocks, htab, hml, hr, hB, hA, hnm⟩ := id hC
  have hts := hB.1.1.at args
  refine lv_iload_n hx hb (xb_d D_Whole_divideLong 0 rfl) rfl (lv_at hl 0 rfl) ?_
  by_cases hc1 : x0 = 3
  · have hw := hw.1 hc1
    refine xt_numi hc1 ?_
    refine lv_tableIn (off := 27) (tgt := 28) hx hb (xb_d D_Whole_divideLong 1 rfl) (by decide +kernel) (by decide +kernel) (by decide +kernel) (by decide) ?_
    refine lv_lload_n hx hb (xb_d D_Whole_divideLong 2 rfl) rfl (lv_at hl 1 rfl) ?_
    refine lv_lload_n hx hb (xb_d D_Whole_divideLong 3 rfl) rfl (lv_at hl 2 rfl) ?_
    obtain ⟨hz2, hw⟩ := hw
    refine lv_ldiv hx hb (xb_d D_Whole_divideLong 4 rfl) hz2 ?_
    exact xb_lret 0 0 hx hb hr hlocks (show k + 0 ≤ MC by omega) (show n + 0 ≤ MS by omega) hE hR hS (xb_d D_Whole_divideLong 5 rfl) hw
  have hw := hw.2
  by_cases hc3 : x0 = 4
  · have hw := hw.1 hc3
    refine xt_numi hc3 ?_
    refine lv_tableIn (off := 31) (tgt := 32) hx hb (xb_d D_Whole_divideLong 1 rfl) (by decide +kernel) (by decide +kernel) (by decide +kernel) (by decide) ?_
    refine lv_lload_n hx hb (xb_d D_Whole_divideLong 6 rfl) rfl (lv_at hl 1 rfl) ?_
    refine lv_lload_n hx hb (xb_d D_Whole_divideLong 7 rfl) rfl (lv_at hl 2 rfl) ?_
    refine xb_call0 (D := D) (A := A) (σ := σ) (h := h) (d := 2) (maxL := 8) (rest := []) (av := [.long x1, .long x3]) (fun T hT X => xt_invS X hx hown (hts _ m_601e0a48) (hts _ m_39b8ef05) (hts _ m_912e4ef6) (xt_sgS (hts _ m_be008d72)).1 (xt_sgS (hts _ m_be008d72)).2 nm_Whole_quotient (g := F0 m 34 ls [.long x3, .long x1]) rfl (argsL := [.long x1, .long x3]) (rest := []) rfl rfl (by rw [hb]; exact (xb_d D_Whole_divideLong 8 rfl))) (ok_Whole_quotient l hfl D A σ x1 x3 h _ hw) (hml.trans hl.1.symm) (by rw [hb]; exact (xb_d D_Whole_divideLong 8 rfl)) (Nat.le_of_ble_eq_true rfl) (Nat.le_of_ble_eq_true rfl) (Nat.le_of_ble_eq_true rfl) (show k ≤ MC by omega) (show n ≤ MS by omega) (xt_w1 hB.1 m_be008d72) (xt_cdOf hB.1 m_be008d72) (hts _ m_912e4ef6) hB hR hS hA (fun vv h4 H locs hq hEh4 hR hS => ?_)
    obtain ⟨r5, rfl, hw⟩ := hq
    have hw := hw hEh4
    have hE := hE.tr hEh4
    refine W.eq (g2 := F0 m 37 ls [.long r5]) rfl ?_
    exact xb_lret 0 0 hx hb hr hlocks (show k + 0 ≤ MC by omega) (show n + 0 ≤ MS by omega) hE hR hS (xb_d D_Whole_divideLong 9 rfl) hw
  have hw := hw.2
  by_cases hc6 : x0 = 5
  · have hw := hw.1 hc6
    refine xt_numi hc6 ?_
    refine lv_tableIn (off := 37) (tgt := 38) hx hb (xb_d D_Whole_divideLong 1 rfl) (by decide +kernel) (by decide +kernel) (by decide +kernel) (by decide) ?_
    refine lv_lload_n hx hb (xb_d D_Whole_divideLong 10 rfl) rfl (lv_at hl 1 rfl) ?_
    refine lv_lload_n hx hb (xb_d D_Whole_divideLong 11 rfl) rfl (lv_at hl 2 rfl) ?_
    obtain ⟨hz7, hw⟩ := hw
    refine lv_lrem hx hb (xb_d D_Whole_divideLong 12 rfl) hz7 ?_
    exact xb_lret 0 0 hx hb hr hlocks (show k + 0 ≤ MC by omega) (show n + 0 ≤ MS by omega) hE hR hS (xb_d D_Whole_divideLong 13 rfl) hw
  have hw := hw.2
  have hw := hw hc1 hc3 hc6
  refine lv_tableOut (tgt := 42) hx hb (xb_d D_Whole_divideLong 1 rfl) (by have a0 := xb_nl (3) 3 (by decide) hc1; have a1 := xb_nl (4) 4 (by decide) hc3; have a2 := xb_nl (5) 5 (by decide) hc6; omega) (by decide) ?_
  refine lv_lload_n hx hb (xb_d D_Whole_divideLong 14 rfl) rfl (lv_at hl 1 rfl) ?_
  refine lv_lload_n hx hb (xb_d D_Whole_divideLong 15 rfl) rfl (lv_at hl 1 rfl) ?_
  refine lv_lload_n hx hb (xb_d D_Whole_divideLong 16 rfl) rfl (lv_at hl 2 rfl) ?_
  refine xb_call0 (D := D) (A := A) (σ := σ) (h := h) (d := 2) (maxL := 8) (rest := [.long x1]) (av := [.long x1, .long x3]) (fun T hT X => xt_invS X hx hown (hts _ m_601e0a48) (hts _ m_39b8ef05) (hts _ m_912e4ef6) (xt_sgS (hts _ m_be008d72)).1 (xt_sgS (hts _ m_be008d72)).2 nm_Whole_quotient (g := F0 m 45 ls [.long x3, .long x1, .long x1]) rfl (argsL := [.long x1, .long x3]) (rest := [.long x1]) rfl rfl (by rw [hb]; exact (xb_d D_Whole_divideLong 17 rfl))) (ok_Whole_quotient l hfl D A σ x1 x3 h _ hw) (hml.trans hl.1.symm) (by rw [hb]; exact (xb_d D_Whole_divideLong 17 rfl)) (Nat.le_of_ble_eq_true rfl) (Nat.le_of_ble_eq_true rfl) (Nat.le_of_ble_eq_true rfl) (show k ≤ MC by omega) (show n ≤ MS by omega) (xt_w1 hB.1 m_be008d72) (xt_cdOf hB.1 m_be008d72) (hts _ m_912e4ef6) hB hR hS hA (fun vv h8 H locs hq hEh8 hR hS => ?_)
  obtain ⟨r9, rfl, hw⟩ := hq
  have hw := hw hEh8
  have hE := hE.tr hEh8
  refine W.eq (g2 := F0 m 48 ls [.long r9, .long x1]) rfl ?_
  refine lv_lload_n hx hb (xb_d D_Whole_divideLong 18 rfl) rfl (lv_at hl 2 rfl) ?_
  refine lv_lmul hx hb (xb_d D_Whole_divideLong 19 rfl) ?_
  refine lv_lsub hx hb (xb_d D_Whole_divideLong 20 rfl) ?_
  exact xb_lret 0 0 hx hb hr hlocks (show k + 0 ≤ MC by omega) (show n + 0 ≤ MS by omega) hE hR hS (xb_d D_Whole_divideLong 21 rfl) hw

theorem m_7fedb969 : (.methodLink "StackHost$Whole" 9 y_Whole_isBelow : Cond) ∈ xt_tbl := xt_in (xt_t8 (List.mem_of_getElem? (i := 155) (by decide +kernel))) (by decide +kernel)
theorem m_ed9d4f6c : (.static y_Whole_isBelow : Cond) ∈ xt_tbl := xt_in (xt_t8 (List.mem_of_getElem? (i := 156) (by decide +kernel))) (by decide +kernel)
theorem m_0b5c2741 : (.code y_Whole_isBelow b_Whole_isBelow 4 (some .boolean) : Cond) ∈ xt_tbl := xt_in (xt_t8 (List.mem_of_getElem? (i := 157) (by decide +kernel))) (by decide +kernel)
theorem nm_Whole_isBelow : xt_nm y_Whole_isBelow 2 := ⟨by decide +kernel, by decide +kernel⟩
set_option maxRecDepth 100000 in
def T_Whole_holds : List (Nat × Instr × Nat) := [(0, .iload_n 0, 1), (1, .tableswitch 149 0 8 #[51, 63, 75, 87, 93, 105, 111, 123, 137], 51), (52, .lload_n 1, 1), (53, .lload_n 3, 1), (54, .lcmp, 1), (55, .ifCond .ne 7, 3), (58, .iconst 1, 1), (59, .goto 4, 3), (62, .iconst 0, 1), (63, .ireturn, 1), (64, .lload_n 1, 1), (65, .lload_n 3, 1), (66, .lcmp, 1), (67, .ifCond .eq 7, 3), (70, .iconst 1, 1), (71, .goto 4, 3), (74, .iconst 0, 1), (75, .ireturn, 1), (76, .lload_n 1, 1), (77, .lload_n 3, 1), (78, .lcmp, 1), (79, .ifCond .ge 7, 3), (82, .iconst 1, 1), (83, .goto 4, 3), (86, .iconst 0, 1), (87, .ireturn, 1), (88, .lload_n 1, 1), (89, .lload_n 3, 1), (90, .invokestatic 9, 3), (93, .ireturn, 1), (94, .lload_n 1, 1), (95, .lload_n 3, 1), (96, .lcmp, 1), (97, .ifCond .le 7, 3), (100, .iconst 1, 1), (101, .goto 4, 3), (104, .iconst 0, 1), (105, .ireturn, 1), (106, .lload_n 3, 1), (107, .lload_n 1, 1), (108, .invokestatic 9, 3), (111, .ireturn, 1), (112, .lload_n 1, 1), (113, .lload_n 3, 1), (114, .lcmp, 1), (115, .ifCond .gt 7, 3), (118, .iconst 1, 1), (119, .goto 4, 3), (122, .iconst 0, 1), (123, .ireturn, 1), (124, .lload_n 3, 1), (125, .lload_n 1, 1), (126, .invokestatic 9, 3), (129, .ifCond .ne 7, 3), (132, .iconst 1, 1), (133, .goto 4, 3), (136, .iconst 0, 1), (137, .ireturn, 1), (138, .lload_n 1, 1), (139, .lload_n 3, 1), (140, .lcmp, 1), (141, .ifCond .lt 7, 3), (144, .iconst 1, 1), (145, .goto 4, 3), (148, .iconst 0, 1), (149, .ireturn, 1), (150, .lload_n 1, 1), (151, .lload_n 3, 1), (152, .invokestatic 9, 3), (155, .ifCond .ne 7, 3), (158, .iconst 1, 1), (159, .goto 4, 3), (162, .iconst 0, 1), (163, .ireturn, 1)]
theorem D_Whole_holds : ∀ q ∈ T_Whole_holds, decode b_Whole_holds q.1 = .ok (q.2.1, q.2.2) := by decide +kernel

set_option maxHeartbeats 4000000 in
set_option maxRecDepth 100000 in
theorem am_Whole_holds_L163 (l : Launch) (hfl : l.flags = pinnedFlags ++ [noTraceFlag]) (D : va_G) (A : Nat → Prop) (σ MC MS : Nat) (h0 : xb_H) (Qr : Int32 → xb_H → Prop) (y0 : Int32) (h : xb_H) (hw : w_Whole_holds_L163 Qr y0 h) : xb_am l D A σ 3 MC MS h0 (fun v h _ _ => ∃ r, v = some (.int r) ∧ Qr r h) (fun _ _ _ _ => False) y_Whole_holds.cls y_Whole_holds.name b_Whole_holds 5 ([] : List ExceptionTableEntry) (some .boolean) 163 [] [.int y0] h 0 0 := by
  unfold w_Whole_holds_L163 at hw
  intro p e s m args below meth c hC H locs ls k n hE hl hR hS hk hn
  obtain ⟨hx, hb, hown, hlocks, htab, hml, hr, hB, hA, hnm⟩ := id hC
  have hts := hB.1.1.at args
  exact xb_zret 0 0 hx hb hr hlocks (show k + 0 ≤ MC by omega) (show n + 0 ≤ MS by omega) hw.1 hE hR hS (xb_d D_Whole_holds 73 rfl) hw.2

set_option maxHeartbeats 4000000 in
set_option maxRecDepth 100000 in
theorem am_Whole_holds_L149 (l : Launch) (hfl : l.flags = pinnedFlags ++ [noTraceFlag]) (D : va_G) (A : Nat → Prop) (σ MC MS : Nat) (h0 : xb_H) (Qr : Int32 → xb_H → Prop) (y0 : Int32) (h : xb_H) (hw : w_Whole_holds_L149 Qr y0 h) : xb_am l D A σ 3 MC MS h0 (fun v h _ _ => ∃ r, v = some (.int r) ∧ Qr r h) (fun _ _ _ _ => False) y_Whole_holds.cls y_Whole_holds.name b_Whole_holds 5 ([] : List ExceptionTableEntry) (some .boolean) 149 [] [.int y0] h 0 0 := by
  unfold w_Whole_holds_L149 at hw
  intro p e s m args below meth c hC H locs ls k n hE hl hR hS hk hn
  obtain ⟨hx, hb, hown, hlocks, htab, hml, hr, hB, hA, hnm⟩ := id hC
  have hts := hB.1.1.at args
  exact xb_zret 0 0 hx hb hr hlocks (show k + 0 ≤ MC by omega) (show n + 0 ≤ MS by omega) hw.1 hE hR hS (xb_d D_Whole_holds 65 rfl) hw.2

set_option maxHeartbeats 4000000 in
set_option maxRecDepth 100000 in
theorem am_Whole_holds_L137 (l : Launch) (hfl : l.flags = pinnedFlags ++ [noTraceFlag]) (D : va_G) (A : Nat → Prop) (σ MC MS : Nat) (h0 : xb_H) (Qr : Int32 → xb_H → Prop) (y0 : Int32) (h : xb_H) (hw : w_Whole_holds_L137 Qr y0 h) : xb_am l D A σ 3 MC MS h0 (fun v h _ _ => ∃ r, v = some (.int r) ∧ Qr r h) (fun _ _ _ _ => False) y_Whole_holds.cls y_Whole_holds.name b_Whole_holds 5 ([] : List ExceptionTableEntry) (some .boolean) 137 [] [.int y0] h 0 0 := by
  unfold w_Whole_holds_L137 at hw
  intro p e s m args below meth c hC H locs ls k n hE hl hR hS hk hn
  obtain ⟨hx, hb, hown, hlocks, htab, hml, hr, hB, hA, hnm⟩ := id hC
  have hts := hB.1.1.at args
  exact xb_zret 0 0 hx hb hr hlocks (show k + 0 ≤ MC by omega) (show n + 0 ≤ MS by omega) hw.1 hE hR hS (xb_d D_Whole_holds 57 rfl) hw.2

set_option maxHeartbeats 4000000 in
set_option maxRecDepth 100000 in
theorem am_Whole_holds_L123 (l : Launch) (hfl : l.flags = pinnedFlags ++ [noTraceFlag]) (D : va_G) (A : Nat → Prop) (σ MC MS : Nat) (h0 : xb_H) (Qr : Int32 → xb_H → Prop) (y0 : Int32) (h : xb_H) (hw : w_Whole_holds_L123 Qr y0 h) : xb_am l D A σ 3 MC MS h0 (fun v h _ _ => ∃ r, v = some (.int r) ∧ Qr r h) (fun _ _ _ _ => False) y_Whole_holds.cls y_Whole_holds.name b_Whole_holds 5 ([] : List ExceptionTableEntry) (some .boolean) 123 [] [.int y0] h 0 0 := by
  unfold w_Whole_holds_L123 at hw
  intro p e s m args below meth c hC H locs ls k n hE hl hR hS hk hn
  obtain ⟨hx, hb, hown, hlocks, htab, hml, hr, hB, hA, hnm⟩ := id hC
  have hts := hB.1.1.at args
  exact xb_zret 0 0 hx hb hr hlocks (show k + 0 ≤ MC by omega) (show n + 0 ≤ MS by omega) hw.1 hE hR hS (xb_d D_Whole_holds 49 rfl) hw.2

set_option maxHeartbeats 4000000 in
set_option maxRecDepth 100000 in
theorem am_Whole_holds_L105 (l : Launch) (hfl : l.flags = pinnedFlags ++ [noTraceFlag]) (D : va_G) (A : Nat → Prop) (σ MC MS : Nat) (h0 : xb_H) (Qr : Int32 → xb_H → Prop) (y0 : Int32) (h : xb_H) (hw : w_Whole_holds_L105 Qr y0 h) : xb_am l D A σ 3 MC MS h0 (fun v h _ _ => ∃ r, v = some (.int r) ∧ Qr r h) (fun _ _ _ _ => False) y_Whole_holds.cls y_Whole_holds.name b_Whole_holds 5 ([] : List ExceptionTableEntry) (some .boolean) 105 [] [.int y0] h 0 0 := by
  unfold w_Whole_holds_L105 at hw
  intro p e s m args below meth c hC H locs ls k n hE hl hR hS hk hn
  obtain ⟨hx, hb, hown, hlocks, htab, hml, hr, hB, hA, hnm⟩ := id hC
  have hts := hB.1.1.at args
  exact xb_zret 0 0 hx hb hr hlocks (show k + 0 ≤ MC by omega) (show n + 0 ≤ MS by omega) hw.1 hE hR hS (xb_d D_Whole_holds 37 rfl) hw.2

set_option maxHeartbeats 4000000 in
set_option maxRecDepth 100000 in
theorem am_Whole_holds_L87 (l : Launch) (hfl : l.flags = pinnedFlags ++ [noTraceFlag]) (D : va_G) (A : Nat → Prop) (σ MC MS : Nat) (h0 : xb_H) (Qr : Int32 → xb_H → Prop) (y0 : Int32) (h : xb_H) (hw : w_Whole_holds_L87 Qr y0 h) : xb_am l D A σ 3 MC MS h0 (fun v h _ _ => ∃ r, v = some (.int r) ∧ Qr r h) (fun _ _ _ _ => False) y_Whole_holds.cls y_Whole_holds.name b_Whole_holds 5 ([] : List ExceptionTableEntry) (some .boolean) 87 [] [.int y0] h 0 0 := by
  unfold w_Whole_holds_L87 at hw
  intro p e s m args below meth c hC H locs ls k n hE hl hR hS hk hn
  obtain ⟨hx, hb, hown, hlocks, htab, hml, hr, hB, hA, hnm⟩ := id hC
  have hts := hB.1.1.at args
  exact xb_zret 0 0 hx hb hr hlocks (show k + 0 ≤ MC by omega) (show n + 0 ≤ MS by omega) hw.1 hE hR hS (xb_d D_Whole_holds 25 rfl) hw.2

set_option maxHeartbeats 4000000 in
set_option maxRecDepth 100000 in
theorem am_Whole_holds_L75 (l : Launch) (hfl : l.flags = pinnedFlags ++ [noTraceFlag]) (D : va_G) (A : Nat → Prop) (σ MC MS : Nat) (h0 : xb_H) (Qr : Int32 → xb_H → Prop) (y0 : Int32) (h : xb_H) (hw : w_Whole_holds_L75 Qr y0 h) : xb_am l D A σ 3 MC MS h0 (fun v h _ _ => ∃ r, v = some (.int r) ∧ Qr r h) (fun _ _ _ _ => False) y_Whole_holds.cls y_Whole_holds.name b_Whole_holds 5 ([] : List ExceptionTableEntry) (some .boolean) 75 [] [.int y0] h 0 0 := by
  unfold w_Whole_holds_L75 at hw
  intro p e s m args below meth c hC H locs ls k n hE hl hR hS hk hn
  obtain ⟨hx, hb, hown, hlocks, htab, hml, hr, hB, hA, hnm⟩ := id hC
  have hts := hB.1.1.at args
  exact xb_zret 0 0 hx hb hr hlocks (show k + 0 ≤ MC by omega) (show n + 0 ≤ MS by omega) hw.1 hE hR hS (xb_d D_Whole_holds 17 rfl) hw.2

set_option maxHeartbeats 4000000 in
set_option maxRecDepth 100000 in
theorem am_Whole_holds_L63 (l : Launch) (hfl : l.flags = pinnedFlags ++ [noTraceFlag]) (D : va_G) (A : Nat → Prop) (σ MC MS : Nat) (h0 : xb_H) (Qr : Int32 → xb_H → Prop) (y0 : Int32) (h : xb_H) (hw : w_Whole_holds_L63 Qr y0 h) : xb_am l D A σ 3 MC MS h0 (fun v h _ _ => ∃ r, v = some (.int r) ∧ Qr r h) (fun _ _ _ _ => False) y_Whole_holds.cls y_Whole_holds.name b_Whole_holds 5 ([] : List ExceptionTableEntry) (some .boolean) 63 [] [.int y0] h 0 0 := by
  unfold w_Whole_holds_L63 at hw
  intro p e s m args below meth c hC H locs ls k n hE hl hR hS hk hn
  obtain ⟨hx, hb, hown, hlocks, htab, hml, hr, hB, hA, hnm⟩ := id hC
  have hts := hB.1.1.at args
  exact xb_zret 0 0 hx hb hr hlocks (show k + 0 ≤ MC by omega) (show n + 0 ≤ MS by omega) hw.1 hE hR hS (xb_d D_Whole_holds 9 rfl) hw.2

set_option maxHeartbeats 4000000 in
set_option maxRecDepth 100000 in
theorem ok_Whole_holds (l : Launch) (hfl : l.flags = pinnedFlags ++ [noTraceFlag]) (D : va_G) (A : Nat → Prop) (σ : Nat) (x0 : Int32) (x1 : Int64) (x3 : Int64) (h : xb_H) (Qr : Int32 → xb_H → Prop) (hw : w_Whole_holds x0 x1 x3 h Qr) : xb_Met l y_Whole_holds [.code y_Whole_holds b_Whole_holds 5 (some .boolean)] (xb_rm 3 0 0) (xb_Pc D A σ h [.int x0, .long x1, .long x3]) (xb_Qc D A h 0 0 (fun v h _ _ => ∃ r, v = some (.int r) ∧ Qr r h) (fun _ _ _ _ => False)) A := by
  refine xb_ofAm (cc := b_Whole_holds) (by decide) (Nat.le_of_ble_eq_true rfl) ?_
  unfold w_Whole_holds at hw
  show xb_am l D A σ 3 0 0 h (fun v h _ _ => ∃ r, v = some (.int r) ∧ Qr r h) (fun _ _ _ _ => False) y_Whole_holds.cls y_Whole_holds.name b_Whole_holds 5 ([] : List ExceptionTableEntry) (some .boolean) 0 [(0, .int x0), (1, .long x1), (3, .long x3)] [] h 0 0
  obtain ⟨MC, hMC⟩ : ∃ x, x = 0 := ⟨_, rfl⟩
  obtain ⟨MS, hMS⟩ : ∃ x, x = 0 := ⟨_, rfl⟩
  rw [show xb_am l D A σ 3 0 0 = xb_am l D A σ 3 MC MS by rw [hMC, hMS]]
  obtain ⟨h0, hh0⟩ : ∃ x, x = h := ⟨_, rfl⟩
  rw [show xb_am l D A σ 3 MC MS h = xb_am l D A σ 3 MC MS h0 by rw [hh0]]
  intro p e s m args below meth c hC H locs ls k n hE hl hR hS hk hn
  obtain ⟨hx, hb, hown, hlocks, htab, hml, hr, hB, hA, hnm⟩ := id hC
  have hts := hB.1.1.at args
  refine lv_iload_n hx hb (xb_d D_Whole_holds 0 rfl) rfl (lv_at hl 0 rfl) ?_
  by_cases hc1 : x0 = 0
  · have hw := hw.1 hc1
    refine xt_numi hc1 ?_
    refine lv_tableIn (off := 51) (tgt := 52) hx hb (xb_d D_Whole_holds 1 rfl) (by decide +kernel) (by decide +kernel) (by decide +kernel) (by decide) ?_
    refine lv_lload_n hx hb (xb_d D_Whole_holds 2 rfl) rfl (lv_at hl 1 rfl) ?_
    refine lv_lload_n hx hb (xb_d D_Whole_holds 3 rfl) rfl (lv_at hl 2 rfl) ?_
    refine xb_lc_ne (tgt := 62) hx hb (xb_d D_Whole_holds 4 rfl) (xb_d D_Whole_holds 5 rfl) rfl (fun hc2 => ?_) (fun hc2 => ?_)
    · have hw := hw.1 hc2
      refine lv_iconst (v := 0) hx hb (xb_d D_Whole_holds 8 rfl) (by decide) ?_
      exact am_Whole_holds_L63 l hfl D A σ MC MS h0 Qr 0 h hw p e s m args below meth c hC H locs ls k n hE (lv_sub hl [] rfl) hR hS (by omega) (by omega)
    · have hw := hw.2 hc2
      refine lv_iconst (v := 1) hx hb (xb_d D_Whole_holds 6 rfl) (by decide) ?_
      refine lv_goto (tgt := 63) hx hb (xb_d D_Whole_holds 7 rfl) rfl ?_
      exact am_Whole_holds_L63 l hfl D A σ MC MS h0 Qr 1 h hw p e s m args below meth c hC H locs ls k n hE (lv_sub hl [] rfl) hR hS (by omega) (by omega)
  have hw := hw.2
  by_cases hc3 : x0 = 1
  · have hw := hw.1 hc3
    refine xt_numi hc3 ?_
    refine lv_tableIn (off := 63) (tgt := 64) hx hb (xb_d D_Whole_holds 1 rfl) (by decide +kernel) (by decide +kernel) (by decide +kernel) (by decide) ?_
    refine lv_lload_n hx hb (xb_d D_Whole_holds 10 rfl) rfl (lv_at hl 1 rfl) ?_
    refine lv_lload_n hx hb (xb_d D_Whole_holds 11 rfl) rfl (lv_at hl 2 rfl) ?_
    refine xb_lc_eq (tgt := 74) hx hb (xb_d D_Whole_holds 12 rfl) (xb_d D_Whole_holds 13 rfl) rfl (fun hc4 => ?_) (fun hc4 => ?_)
    · have hw := hw.1 hc4
      refine lv_iconst (v := 0) hx hb (xb_d D_Whole_holds 16 rfl) (by decide) ?_
      exact am_Whole_holds_L75 l hfl D A σ MC MS h0 Qr 0 h hw p e s m args below meth c hC H locs ls k n hE (lv_sub hl [] rfl) hR hS (by omega) (by omega)
    · have hw := hw.2 hc4
      refine lv_iconst (v := 1) hx hb (xb_d D_Whole_holds 14 rfl) (by decide) ?_
      refine lv_goto (tgt := 75) hx hb (xb_d D_Whole_holds 15 rfl) rfl ?_
      exact am_Whole_holds_L75 l hfl D A σ MC MS h0 Qr 1 h hw p e s m args below meth c hC H locs ls k n hE (lv_sub hl [] rfl) hR hS (by omega) (by omega)
  have hw := hw.2
  by_cases hc5 : x0 = 2
  · have hw := hw.1 hc5
    refine xt_numi hc5 ?_
    refine lv_tableIn (off := 75) (tgt := 76) hx hb (xb_d D_Whole_holds 1 rfl) (by decide +kernel) (by decide +kernel) (by decide +kernel) (by decide) ?_
    refine lv_lload_n hx hb (xb_d D_Whole_holds 18 rfl) rfl (lv_at hl 1 rfl) ?_
    refine lv_lload_n hx hb (xb_d D_Whole_holds 19 rfl) rfl (lv_at hl 2 rfl) ?_
    refine xb_lc_ge (tgt := 86) hx hb (xb_d D_Whole_holds 20 rfl) (xb_d D_Whole_holds 21 rfl) rfl (fun hc6 => ?_) (fun hc6 => ?_)
    · have hw := hw.1 hc6
      refine lv_iconst (v := 0) hx hb (xb_d D_Whole_holds 24 rfl) (by decide) ?_
      exact am_Whole_holds_L87 l hfl D A σ MC MS h0 Qr 0 h hw p e s m args below meth c hC H locs ls k n hE (lv_sub hl [] rfl) hR hS (by omega) (by omega)
    · have hw := hw.2 hc6
      refine lv_iconst (v := 1) hx hb (xb_d D_Whole_holds 22 rfl) (by decide) ?_
      refine lv_goto (tgt := 87) hx hb (xb_d D_Whole_holds 23 rfl) rfl ?_
      exact am_Whole_holds_L87 l hfl D A σ MC MS h0 Qr 1 h hw p e s m args below meth c hC H locs ls k n hE (lv_sub hl [] rfl) hR hS (by omega) (by omega)
  have hw := hw.2
  by_cases hc7 : x0 = 3
  · have hw := hw.1 hc7
    refine xt_numi hc7 ?_
    refine lv_tableIn (off := 87) (tgt := 88) hx hb (xb_d D_Whole_holds 1 rfl) (by decide +kernel) (by decide +kernel) (by decide +kernel) (by decide) ?_
    refine lv_lload_n hx hb (xb_d D_Whole_holds 26 rfl) rfl (lv_at hl 1 rfl) ?_
    refine lv_lload_n hx hb (xb_d D_Whole_holds 27 rfl) rfl (lv_at hl 2 rfl) ?_
    refine xb_call0 (D := D) (A := A) (σ := σ) (h := h) (d := 2) (maxL := 4) (rest := []) (av := [.long x1, .long x3]) (fun T hT X => xt_invS X hx hown (hts _ m_7fedb969) (hts _ m_ed9d4f6c) (hts _ m_912e4ef6) (xt_sgS (hts _ m_0b5c2741)).1 (xt_sgS (hts _ m_0b5c2741)).2 nm_Whole_isBelow (g := F0 m 90 ls [.long x3, .long x1]) rfl (argsL := [.long x1, .long x3]) (rest := []) rfl rfl (by rw [hb]; exact (xb_d D_Whole_holds 28 rfl))) (ok_Whole_isBelow l hfl D A σ x1 x3 h _ hw) (hml.trans hl.1.symm) (by rw [hb]; exact (xb_d D_Whole_holds 28 rfl)) (Nat.le_of_ble_eq_true rfl) (Nat.le_of_ble_eq_true rfl) (Nat.le_of_ble_eq_true rfl) (show k ≤ MC by omega) (show n ≤ MS by omega) (xt_w1 hB.1 m_0b5c2741) (xt_cdOf hB.1 m_0b5c2741) (hts _ m_912e4ef6) hB hR hS hA (fun vv h8 H locs hq hEh8 hR hS => ?_)
    obtain ⟨r9, rfl, hw⟩ := hq
    have hw := hw hEh8
    have hE := hE.tr hEh8
    refine W.eq (g2 := F0 m 93 ls [.int r9]) rfl ?_
    exact xb_zret 0 0 hx hb hr hlocks (show k + 0 ≤ MC by omega) (show n + 0 ≤ MS by omega) hw.1 hE hR hS (xb_d D_Whole_holds 29 rfl) hw.2
  have hw := hw.2
  by_cases hc10 : x0 = 4
  · have hw := hw.1 hc10
    refine xt_numi hc10 ?_
    refine lv_tableIn (off := 93) (tgt := 94) hx hb (xb_d D_Whole_holds 1 rfl) (by decide +kernel) (by decide +kernel) (by decide +kernel) (by decide) ?_
    refine lv_lload_n hx hb (xb_d D_Whole_holds 30 rfl) rfl (lv_at hl 1 rfl) ?_
    refine lv_lload_n hx hb (xb_d D_Whole_holds 31 rfl) rfl (lv_at hl 2 rfl) ?_
    refine xb_lc_le (tgt := 104) hx hb (xb_d D_Whole_holds 32 rfl) (xb_d D_Whole_holds 33 rfl) rfl (fun hc11 => ?_) (fun hc11 => ?_)
    · have hw := hw.1 hc11
      refine lv_iconst (v := 0) hx hb (xb_d D_Whole_holds 36 rfl) (by decide) ?_
      exact am_Whole_holds_L105 l hfl D A σ MC MS h0 Qr 0 h hw p e s m args below meth c hC H locs ls k n hE (lv_sub hl [] rfl) hR hS (by omega) (by omega)
    · have hw := hw.2 hc11
      refine lv_iconst (v := 1) hx hb (xb_d D_Whole_holds 34 rfl) (by decide) ?_
      refine lv_goto (tgt := 105) hx hb (xb_d D_Whole_holds 35 rfl) rfl ?_
      exact am_Whole_holds_L105 l hfl D A σ MC MS h0 Qr 1 h hw p e s m args below meth c hC H locs ls k n hE (lv_sub hl [] rfl) hR hS (by omega) (by omega)
  have hw := hw.2
  by_cases hc12 : x0 = 5
  · have hw := hw.1 hc12
    refine xt_numi hc12 ?_
    refine lv_tableIn (off := 105) (tgt := 106) hx hb (xb_d D_Whole_holds 1 rfl) (by decide +kernel) (by decide +kernel) (by decide +kernel) (by decide) ?_
    refine lv_lload_n hx hb (xb_d D_Whole_holds 38 rfl) rfl (lv_at hl 2 rfl) ?_
    refine lv_lload_n hx hb (xb_d D_Whole_holds 39 rfl) rfl (lv_at hl 1 rfl) ?_
    refine xb_call0 (D := D) (A := A) (σ := σ) (h := h) (d := 2) (maxL := 4) (rest := []) (av := [.long x3, .long x1]) (fun T hT X => xt_invS X hx hown (hts _ m_7fedb969) (hts _ m_ed9d4f6c) (hts _ m_912e4ef6) (xt_sgS (hts _ m_0b5c2741)).1 (xt_sgS (hts _ m_0b5c2741)).2 nm_Whole_isBelow (g := F0 m 108 ls [.long x1, .long x3]) rfl (argsL := [.long x3, .long x1]) (rest := []) rfl rfl (by rw [hb]; exact (xb_d D_Whole_holds 40 rfl))) (ok_Whole_isBelow l hfl D A σ x3 x1 h _ hw) (hml.trans hl.1.symm) (by rw [hb]; exact (xb_d D_Whole_holds 40 rfl)) (Nat.le_of_ble_eq_true rfl) (Nat.le_of_ble_eq_true rfl) (Nat.le_of_ble_eq_true rfl) (show k ≤ MC by omega) (show n ≤ MS by omega) (xt_w1 hB.1 m_0b5c2741) (xt_cdOf hB.1 m_0b5c2741) (hts _ m_912e4ef6) hB hR hS hA (fun vv h13 H locs hq hEh13 hR hS => ?_)
    obtain ⟨r14, rfl, hw⟩ := hq
    have hw := hw hEh13
    have hE := hE.tr hEh13
    refine W.eq (g2 := F0 m 111 ls [.int r14]) rfl ?_
    exact xb_zret 0 0 hx hb hr hlocks (show k + 0 ≤ MC by omega) (show n + 0 ≤ MS by omega) hw.1 hE hR hS (xb_d D_Whole_holds 41 rfl) hw.2
  have hw := hw.2
  by_cases hc15 : x0 = 6
  · have hw := hw.1 hc15
    refine xt_numi hc15 ?_
    refine lv_tableIn (off := 111) (tgt := 112) hx hb (xb_d D_Whole_holds 1 rfl) (by decide +kernel) (by decide +kernel) (by decide +kernel) (by decide) ?_
    refine lv_lload_n hx hb (xb_d D_Whole_holds 42 rfl) rfl (lv_at hl 1 rfl) ?_
    refine lv_lload_n hx hb (xb_d D_Whole_holds 43 rfl) rfl (lv_at hl 2 rfl) ?_
    refine xb_lc_gt (tgt := 122) hx hb (xb_d D_Whole_holds 44 rfl) (xb_d D_Whole_holds 45 rfl) rfl (fun hc16 => ?_) (fun hc16 => ?_)
    · have hw := hw.1 hc16
      refine lv_iconst (v := 0) hx hb (xb_d D_Whole_holds 48 rfl) (by decide) ?_
      exact am_Whole_holds_L123 l hfl D A σ MC MS h0 Qr 0 h hw p e s m args below meth c hC H locs ls k n hE (lv_sub hl [] rfl) hR hS (by omega) (by omega)
    · have hw := hw.2 hc16
      refine lv_iconst (v := 1) hx hb (xb_d D_Whole_holds 46 rfl) (by decide) ?_
      refine lv_goto (tgt := 123) hx hb (xb_d D_Whole_holds 47 rfl) rfl ?_
      exact am_Whole_holds_L123 l hfl D A σ MC MS h0 Qr 1 h hw p e s m args below meth c hC H locs ls k n hE (lv_sub hl [] rfl) hR hS (by omega) (by omega)
  have hw := hw.2
  by_cases hc17 : x0 = 7
  · have hw := hw.1 hc17
    refine xt_numi hc17 ?_
    refine lv_tableIn (off := 123) (tgt := 124) hx hb (xb_d D_Whole_holds 1 rfl) (by decide +kernel) (by decide +kernel) (by decide +kernel) (by decide) ?_
    refine lv_lload_n hx hb (xb_d D_Whole_holds 50 rfl) rfl (lv_at hl 2 rfl) ?_
    refine lv_lload_n hx hb (xb_d D_Whole_holds 51 rfl) rfl (lv_at hl 1 rfl) ?_
    refine xb_call0 (D := D) (A := A) (σ := σ) (h := h) (d := 2) (maxL := 4) (rest := []) (av := [.long x3, .long x1]) (fun T hT X => xt_invS X hx hown (hts _ m_7fedb969) (hts _ m_ed9d4f6c) (hts _ m_912e4ef6) (xt_sgS (hts _ m_0b5c2741)).1 (xt_sgS (hts _ m_0b5c2741)).2 nm_Whole_isBelow (g := F0 m 126 ls [.long x1, .long x3]) rfl (argsL := [.long x3, .long x1]) (rest := []) rfl rfl (by rw [hb]; exact (xb_d D_Whole_holds 52 rfl))) (ok_Whole_isBelow l hfl D A σ x3 x1 h _ hw) (hml.trans hl.1.symm) (by rw [hb]; exact (xb_d D_Whole_holds 52 rfl)) (Nat.le_of_ble_eq_true rfl) (Nat.le_of_ble_eq_true rfl) (Nat.le_of_ble_eq_true rfl) (show k ≤ MC by omega) (show n ≤ MS by omega) (xt_w1 hB.1 m_0b5c2741) (xt_cdOf hB.1 m_0b5c2741) (hts _ m_912e4ef6) hB hR hS hA (fun vv h18 H locs hq hEh18 hR hS => ?_)
    obtain ⟨r19, rfl, hw⟩ := hq
    have hw := hw hEh18
    have hE := hE.tr hEh18
    refine W.eq (g2 := F0 m 129 ls [.int r19]) rfl ?_
    refine lv_if_ne (tgt := 136) hx hb (xb_d D_Whole_holds 53 rfl) rfl (fun hc20 => ?_) (fun hc20 => ?_)
    · have hw := hw.1 hc20
      refine lv_iconst (v := 0) hx hb (xb_d D_Whole_holds 56 rfl) (by decide) ?_
      exact am_Whole_holds_L137 l hfl D A σ MC MS h0 Qr 0 h18 hw p e s m args below meth c hC H locs ls k n hE (lv_sub hl [] rfl) hR hS (by omega) (by omega)
    · have hw := hw.2 hc20
      refine lv_iconst (v := 1) hx hb (xb_d D_Whole_holds 54 rfl) (by decide) ?_
      refine lv_goto (tgt := 137) hx hb (xb_d D_Whole_holds 55 rfl) rfl ?_
      exact am_Whole_holds_L137 l hfl D A σ MC MS h0 Qr 1 h18 hw p e s m args below meth c hC H locs ls k n hE (lv_sub hl [] rfl) hR hS (by omega) (by omega)
  have hw := hw.2
  by_cases hc21 : x0 = 8
  · have hw := hw.1 hc21
    refine xt_numi hc21 ?_
    refine lv_tableIn (off := 137) (tgt := 138) hx hb (xb_d D_Whole_holds 1 rfl) (by decide +kernel) (by decide +kernel) (by decide +kernel) (by decide) ?_
    refine lv_lload_n hx hb (xb_d D_Whole_holds 58 rfl) rfl (lv_at hl 1 rfl) ?_
    refine lv_lload_n hx hb (xb_d D_Whole_holds 59 rfl) rfl (lv_at hl 2 rfl) ?_
    refine xb_lc_lt (tgt := 148) hx hb (xb_d D_Whole_holds 60 rfl) (xb_d D_Whole_holds 61 rfl) rfl (fun hc22 => ?_) (fun hc22 => ?_)
    · have hw := hw.1 hc22
      refine lv_iconst (v := 0) hx hb (xb_d D_Whole_holds 64 rfl) (by decide) ?_
      exact am_Whole_holds_L149 l hfl D A σ MC MS h0 Qr 0 h hw p e s m args below meth c hC H locs ls k n hE (lv_sub hl [] rfl) hR hS (by omega) (by omega)
    · have hw := hw.2 hc22
      refine lv_iconst (v := 1) hx hb (xb_d D_Whole_holds 62 rfl) (by decide) ?_
      refine lv_goto (tgt := 149) hx hb (xb_d D_Whole_holds 63 rfl) rfl ?_
      exact am_Whole_holds_L149 l hfl D A σ MC MS h0 Qr 1 h hw p e s m args below meth c hC H locs ls k n hE (lv_sub hl [] rfl) hR hS (by omega) (by omega)
  have hw := hw.2
  have hw := hw hc1 hc3 hc5 hc7 hc10 hc12 hc15 hc17 hc21
  refine lv_tableOut (tgt := 150) hx hb (xb_d D_Whole_holds 1 rfl) (by have a0 := xb_nl (0) 0 (by decide) hc1; have a1 := xb_nl (1) 1 (by decide) hc3; have a2 := xb_nl (2) 2 (by decide) hc5; have a3 := xb_nl (3) 3 (by decide) hc7; have a4 := xb_nl (4) 4 (by decide) hc10; have a5 := xb_nl (5) 5 (by decide) hc12; have a6 := xb_nl (6) 6 (by decide) hc15; have a7 := xb_nl (7) 7 (by decide) hc17; have a8 := xb_nl (8) 8 (by decide) hc21; omega) (by decide) ?_
  refine lv_lload_n hx hb (xb_d D_Whole_holds 66 rfl) rfl (lv_at hl 1 rfl) ?_
  refine lv_lload_n hx hb (xb_d D_Whole_holds 67 rfl) rfl (lv_at hl 2 rfl) ?_
  refine xb_call0 (D := D) (A := A) (σ := σ) (h := h) (d := 2) (maxL := 4) (rest := []) (av := [.long x1, .long x3]) (fun T hT X => xt_invS X hx hown (hts _ m_7fedb969) (hts _ m_ed9d4f6c) (hts _ m_912e4ef6) (xt_sgS (hts _ m_0b5c2741)).1 (xt_sgS (hts _ m_0b5c2741)).2 nm_Whole_isBelow (g := F0 m 152 ls [.long x3, .long x1]) rfl (argsL := [.long x1, .long x3]) (rest := []) rfl rfl (by rw [hb]; exact (xb_d D_Whole_holds 68 rfl))) (ok_Whole_isBelow l hfl D A σ x1 x3 h _ hw) (hml.trans hl.1.symm) (by rw [hb]; exact (xb_d D_Whole_holds 68 rfl)) (Nat.le_of_ble_eq_true rfl) (Nat.le_of_ble_eq_true rfl) (Nat.le_of_ble_eq_true rfl) (show k ≤ MC by omega) (show n ≤ MS by omega) (xt_w1 hB.1 m_0b5c2741) (xt_cdOf hB.1 m_0b5c2741) (hts _ m_912e4ef6) hB hR hS hA (fun vv h23 H locs hq hEh23 hR hS => ?_)
  obtain ⟨r24, rfl, hw⟩ := hq
  have hw := hw hEh23
  have hE := hE.tr hEh23
  refine W.eq (g2 := F0 m 155 ls [.int r24]) rfl ?_
  refine lv_if_ne (tgt := 162) hx hb (xb_d D_Whole_holds 69 rfl) rfl (fun hc25 => ?_) (fun hc25 => ?_)
  · have hw := hw.1 hc25
    refine lv_iconst (v := 0) hx hb (xb_d D_Whole_holds 72 rfl) (by decide) ?_
    exact am_Whole_holds_L163 l hfl D A σ MC MS h0 Qr 0 h23 hw p e s m args below meth c hC H locs ls k n hE (lv_sub hl [] rfl) hR hS (by omega) (by omega)
  · have hw := hw.2 hc25
    refine lv_iconst (v := 1) hx hb (xb_d D_Whole_holds 70 rfl) (by decide) ?_
    refine lv_goto (tgt := 163) hx hb (xb_d D_Whole_holds 71 rfl) rfl ?_
    exact am_Whole_holds_L163 l hfl D A σ MC MS h0 Qr 1 h23 hw p e s m args below meth c hC H locs ls k n hE (lv_sub hl [] rfl) hR hS (by omega) (by omega)

theorem m_3062d431 : (.methodLink "StackHost$Whole" 35 y_Whole_divideShort : Cond) ∈ xt_tbl := xt_in (xt_t8 (List.mem_of_getElem? (i := 185) (by decide +kernel))) (by decide +kernel)
theorem m_7d1b207c : (.static y_Whole_divideShort : Cond) ∈ xt_tbl := xt_in (xt_t8 (List.mem_of_getElem? (i := 186) (by decide +kernel))) (by decide +kernel)
theorem m_8ff8adaf : (.code y_Whole_divideShort b_Whole_divideShort 7 (some .int) : Cond) ∈ xt_tbl := xt_in (xt_t8 (List.mem_of_getElem? (i := 187) (by decide +kernel))) (by decide +kernel)
theorem nm_Whole_divideShort : xt_nm y_Whole_divideShort 3 := ⟨by decide +kernel, by decide +kernel⟩
set_option maxRecDepth 100000 in
def T_Whole_reckonShort : List (Nat × Instr × Nat) := [(0, .iload_n 0, 1), (1, .tableswitch 131 0 13 #[71, 75, 79, 83, 83, 83, 83, 98, 102, 106, 110, 114, 118, 122], 71), (72, .iload_n 1, 1), (73, .iload_n 2, 1), (74, .iadd, 1), (75, .ireturn, 1), (76, .iload_n 1, 1), (77, .iload_n 2, 1), (78, .isub, 1), (79, .ireturn, 1), (80, .iload_n 1, 1), (81, .iload_n 2, 1), (82, .imul, 1), (83, .ireturn, 1), (84, .iload_n 2, 1), (85, .ifCond .ne 7, 3), (88, .iconst 0, 1), (89, .goto 9, 3), (92, .iload_n 0, 1), (93, .iload_n 1, 1), (94, .iload_n 2, 1), (95, .invokestatic 35, 3), (98, .ireturn, 1), (99, .iload_n 1, 1), (100, .iload_n 2, 1), (101, .iand, 1), (102, .ireturn, 1), (103, .iload_n 1, 1), (104, .iload_n 2, 1), (105, .ior, 1), (106, .ireturn, 1), (107, .iload_n 1, 1), (108, .iload_n 2, 1), (109, .ixor, 1), (110, .ireturn, 1), (111, .iload_n 1, 1), (112, .iload_n 2, 1), (113, .ishl, 1), (114, .ireturn, 1), (115, .iload_n 1, 1), (116, .iload_n 2, 1), (117, .ishr, 1), (118, .ireturn, 1), (119, .iload_n 1, 1), (120, .iload_n 2, 1), (121, .iushr, 1), (122, .ireturn, 1), (123, .iload_n 1, 1), (124, .iload_n 2, 1), (125, .ishl, 1), (126, .iload_n 1, 1), (127, .iload_n 2, 1), (128, .ineg, 1), (129, .iushr, 1), (130, .ior, 1), (131, .ireturn, 1), (132, .iload_n 1, 1), (133, .iload_n 2, 1), (134, .iushr, 1), (135, .iload_n 1, 1), (136, .iload_n 2, 1), (137, .ineg, 1), (138, .ishl, 1), (139, .ior, 1), (140, .ireturn, 1)]
theorem D_Whole_reckonShort : ∀ q ∈ T_Whole_reckonShort, decode b_Whole_reckonShort q.1 = .ok (q.2.1, q.2.2) := by decide +kernel

set_option maxHeartbeats 4000000 in
set_option maxRecDepth 100000 in
theorem am_Whole_reckonShort_L98 (l : Launch) (hfl : l.flags = pinnedFlags ++ [noTraceFlag]) (D : va_G) (A : Nat → Prop) (σ MC MS : Nat) (h0 : xb_H) (Qr : Int32 → xb_H → Prop) (y0 : Int32) (h : xb_H) (hw : w_Whole_reckonShort_L98 Qr y0 h) : xb_am l D A σ 3 MC MS h0 (fun v h _ _ => ∃ r, v = some (.int r) ∧ Qr r h) (fun _ _ _ _ => False) y_Whole_reckonShort.cls y_Whole_reckonShort.name b_Whole_reckonShort 3 ([] : List ExceptionTableEntry) (some .int) 98 [] [.int y0] h 0 0 := by
  unfold w_Whole_reckonShort_L98 at hw
  intro p e s m args below meth c hC H locs ls k n hE hl hR hS hk hn
  obtain ⟨hx, hb, hown, hlocks, htab, hml, hr, hB, hA, hnm⟩ := id hC
  have hts := hB.1.1.at args
  exact xb_iret 0 0 hx hb hr hlocks (show k + 0 ≤ MC by omega) (show n + 0 ≤ MS by omega) hE hR hS (xb_d D_Whole_reckonShort 22 rfl) hw

set_option maxHeartbeats 4000000 in
set_option maxRecDepth 100000 in
theorem am_Whole_reckonShort_L84 (l : Launch) (hfl : l.flags = pinnedFlags ++ [noTraceFlag]) (D : va_G) (A : Nat → Prop) (σ MC MS : Nat) (h0 : xb_H) (Qr : Int32 → xb_H → Prop) (x0 : Int32) (x1 : Int32) (x2 : Int32) (h : xb_H) (hw : w_Whole_reckonShort_L84 Qr x0 x1 x2 h) : xb_am l D A σ 3 MC MS h0 (fun v h _ _ => ∃ r, v = some (.int r) ∧ Qr r h) (fun _ _ _ _ => False) y_Whole_reckonShort.cls y_Whole_reckonShort.name b_Whole_reckonShort 3 ([] : List ExceptionTableEntry) (some .int) 84 [(0, .int x0), (1, .int x1), (2, .int x2)] [] h 0 0 := by
  unfold w_Whole_reckonShort_L84 at hw
  intro p e s m args below meth c hC H locs ls k n hE hl hR hS hk hn
  obtain ⟨hx, hb, hown, hlocks, htab, hml, hr, hB, hA, hnm⟩ := id hC
  have hts := hB.1.1.at args
  refine lv_iload_n hx hb (xb_d D_Whole_reckonShort 14 rfl) rfl (lv_at hl 2 rfl) ?_
  refine lv_if_ne (tgt := 92) hx hb (xb_d D_Whole_reckonShort 15 rfl) rfl (fun hc1 => ?_) (fun hc1 => ?_)
  · have hw := hw.1 hc1
    refine lv_iload_n hx hb (xb_d D_Whole_reckonShort 18 rfl) rfl (lv_at hl 0 rfl) ?_
    refine lv_iload_n hx hb (xb_d D_Whole_reckonShort 19 rfl) rfl (lv_at hl 1 rfl) ?_
    refine lv_iload_n hx hb (xb_d D_Whole_reckonShort 20 rfl) rfl (lv_at hl 2 rfl) ?_
    refine xb_call0 (D := D) (A := A) (σ := σ) (h := h) (d := 2) (maxL := 7) (rest := []) (av := [.int x0, .int x1, .int x2]) (fun T hT X => xt_invS X hx hown (hts _ m_3062d431) (hts _ m_7d1b207c) (hts _ m_912e4ef6) (xt_sgS (hts _ m_8ff8adaf)).1 (xt_sgS (hts _ m_8ff8adaf)).2 nm_Whole_divideShort (g := F0 m 95 ls [.int x2, .int x1, .int x0]) rfl (argsL := [.int x0, .int x1, .int x2]) (rest := []) rfl rfl (by rw [hb]; exact (xb_d D_Whole_reckonShort 21 rfl))) (ok_Whole_divideShort l hfl D A σ x0 x1 x2 h _ hw) (hml.trans hl.1.symm) (by rw [hb]; exact (xb_d D_Whole_reckonShort 21 rfl)) (Nat.le_of_ble_eq_true rfl) (Nat.le_of_ble_eq_true rfl) (Nat.le_of_ble_eq_true rfl) (show k ≤ MC by omega) (show n ≤ MS by omega) (xt_w1 hB.1 m_8ff8adaf) (xt_cdOf hB.1 m_8ff8adaf) (hts _ m_912e4ef6) hB hR hS hA (fun vv h2 H locs hq hEh2 hR hS => ?_)
    obtain ⟨r3, rfl, hw⟩ := hq
    have hw := hw hEh2
    have hE := hE.tr hEh2
    refine W.eq (g2 := F0 m 98 ls [.int r3]) rfl ?_
    exact am_Whole_reckonShort_L98 l hfl D A σ MC MS h0 Qr r3 h2 hw p e s m args below meth c hC H locs ls k n hE (lv_sub hl [] rfl) hR hS (by omega) (by omega)
  · have hw := hw.2 hc1
    refine lv_iconst (v := 0) hx hb (xb_d D_Whole_reckonShort 16 rfl) (by decide) ?_
    refine lv_goto (tgt := 98) hx hb (xb_d D_Whole_reckonShort 17 rfl) rfl ?_
    exact am_Whole_reckonShort_L98 l hfl D A σ MC MS h0 Qr 0 h hw p e s m args below meth c hC H locs ls k n hE (lv_sub hl [] rfl) hR hS (by omega) (by omega)

set_option maxHeartbeats 4000000 in
set_option maxRecDepth 100000 in
theorem ok_Whole_reckonShort (l : Launch) (hfl : l.flags = pinnedFlags ++ [noTraceFlag]) (D : va_G) (A : Nat → Prop) (σ : Nat) (x0 : Int32) (x1 : Int32) (x2 : Int32) (h : xb_H) (Qr : Int32 → xb_H → Prop) (hw : w_Whole_reckonShort x0 x1 x2 h Qr) : xb_Met l y_Whole_reckonShort [.code y_Whole_reckonShort b_Whole_reckonShort 3 (some .int)] (xb_rm 3 0 0) (xb_Pc D A σ h [.int x0, .int x1, .int x2]) (xb_Qc D A h 0 0 (fun v h _ _ => ∃ r, v = some (.int r) ∧ Qr r h) (fun _ _ _ _ => False)) A := by
  refine xb_ofAm (cc := b_Whole_reckonShort) (by decide) (Nat.le_of_ble_eq_true rfl) ?_
  unfold w_Whole_reckonShort at hw
  show xb_am l D A σ 3 0 0 h (fun v h _ _ => ∃ r, v = some (.int r) ∧ Qr r h) (fun _ _ _ _ => False) y_Whole_reckonShort.cls y_Whole_reckonShort.name b_Whole_reckonShort 3 ([] : List ExceptionTableEntry) (some .int) 0 [(0, .int x0), (1, .int x1), (2, .int x2)] [] h 0 0
  obtain ⟨MC, hMC⟩ : ∃ x, x = 0 := ⟨_, rfl⟩
  obtain ⟨MS, hMS⟩ : ∃ x, x = 0 := ⟨_, rfl⟩
  rw [show xb_am l D A σ 3 0 0 = xb_am l D A σ 3 MC MS by rw [hMC, hMS]]
  obtain ⟨h0, hh0⟩ : ∃ x, x = h := ⟨_, rfl⟩
  rw [show xb_am l D A σ 3 MC MS h = xb_am l D A σ 3 MC MS h0 by rw [hh0]]
  intro p e s m args below meth c hC H locs ls k n hE hl hR hS hk hn
  obtain ⟨hx, hb, hown, hlocks, htab, hml, hr, hB, hA, hnm⟩ := id hC
  have hts := hB.1.1.at args
  refine lv_iload_n hx hb (xb_d D_Whole_reckonShort 0 rfl) rfl (lv_at hl 0 rfl) ?_
  by_cases hc1 : x0 = 0
  · have hw := hw.1 hc1
    refine xt_numi hc1 ?_
    refine lv_tableIn (off := 71) (tgt := 72) hx hb (xb_d D_Whole_reckonShort 1 rfl) (by decide +kernel) (by decide +kernel) (by decide +kernel) (by decide) ?_
    refine lv_iload_n hx hb (xb_d D_Whole_reckonShort 2 rfl) rfl (lv_at hl 1 rfl) ?_
    refine lv_iload_n hx hb (xb_d D_Whole_reckonShort 3 rfl) rfl (lv_at hl 2 rfl) ?_
    refine lv_iadd hx hb (xb_d D_Whole_reckonShort 4 rfl) ?_
    exact xb_iret 0 0 hx hb hr hlocks (show k + 0 ≤ MC by omega) (show n + 0 ≤ MS by omega) hE hR hS (xb_d D_Whole_reckonShort 5 rfl) hw
  have hw := hw.2
  by_cases hc2 : x0 = 1
  · have hw := hw.1 hc2
    refine xt_numi hc2 ?_
    refine lv_tableIn (off := 75) (tgt := 76) hx hb (xb_d D_Whole_reckonShort 1 rfl) (by decide +kernel) (by decide +kernel) (by decide +kernel) (by decide) ?_
    refine lv_iload_n hx hb (xb_d D_Whole_reckonShort 6 rfl) rfl (lv_at hl 1 rfl) ?_
    refine lv_iload_n hx hb (xb_d D_Whole_reckonShort 7 rfl) rfl (lv_at hl 2 rfl) ?_
    refine lv_isub hx hb (xb_d D_Whole_reckonShort 8 rfl) ?_
    exact xb_iret 0 0 hx hb hr hlocks (show k + 0 ≤ MC by omega) (show n + 0 ≤ MS by omega) hE hR hS (xb_d D_Whole_reckonShort 9 rfl) hw
  have hw := hw.2
  by_cases hc3 : x0 = 2
  · have hw := hw.1 hc3
    refine xt_numi hc3 ?_
    refine lv_tableIn (off := 79) (tgt := 80) hx hb (xb_d D_Whole_reckonShort 1 rfl) (by decide +kernel) (by decide +kernel) (by decide +kernel) (by decide) ?_
    refine lv_iload_n hx hb (xb_d D_Whole_reckonShort 10 rfl) rfl (lv_at hl 1 rfl) ?_
    refine lv_iload_n hx hb (xb_d D_Whole_reckonShort 11 rfl) rfl (lv_at hl 2 rfl) ?_
    refine lv_imul hx hb (xb_d D_Whole_reckonShort 12 rfl) ?_
    exact xb_iret 0 0 hx hb hr hlocks (show k + 0 ≤ MC by omega) (show n + 0 ≤ MS by omega) hE hR hS (xb_d D_Whole_reckonShort 13 rfl) hw
  have hw := hw.2
  by_cases hc4 : x0 = 3
  · have hw := hw.1 hc4
    refine xt_numi hc4 ?_
    refine lv_tableIn (off := 83) (tgt := 84) hx hb (xb_d D_Whole_reckonShort 1 rfl) (by decide +kernel) (by decide +kernel) (by decide +kernel) (by decide) ?_
    exact am_Whole_reckonShort_L84 l hfl D A σ MC MS h0 Qr x0 x1 x2 h hw p e s m args below meth c hC H locs ls k n hE (lv_sub hl [0, 1, 2] rfl) hR hS (by omega) (by omega)
  have hw := hw.2
  by_cases hc5 : x0 = 4
  · have hw := hw.1 hc5
    refine xt_numi hc5 ?_
    refine lv_tableIn (off := 83) (tgt := 84) hx hb (xb_d D_Whole_reckonShort 1 rfl) (by decide +kernel) (by decide +kernel) (by decide +kernel) (by decide) ?_
    exact am_Whole_reckonShort_L84 l hfl D A σ MC MS h0 Qr x0 x1 x2 h hw p e s m args below meth c hC H locs ls k n hE (lv_sub hl [0, 1, 2] rfl) hR hS (by omega) (by omega)
  have hw := hw.2
  by_cases hc6 : x0 = 5
  · have hw := hw.1 hc6
    refine xt_numi hc6 ?_
    refine lv_tableIn (off := 83) (tgt := 84) hx hb (xb_d D_Whole_reckonShort 1 rfl) (by decide +kernel) (by decide +kernel) (by decide +kernel) (by decide) ?_
    exact am_Whole_reckonShort_L84 l hfl D A σ MC MS h0 Qr x0 x1 x2 h hw p e s m args below meth c hC H locs ls k n hE (lv_sub hl [0, 1, 2] rfl) hR hS (by omega) (by omega)
  have hw := hw.2
  by_cases hc7 : x0 = 6
  · have hw := hw.1 hc7
    refine xt_numi hc7 ?_
    refine lv_tableIn (off := 83) (tgt := 84) hx hb (xb_d D_Whole_reckonShort 1 rfl) (by decide +kernel) (by decide +kernel) (by decide +kernel) (by decide) ?_
    exact am_Whole_reckonShort_L84 l hfl D A σ MC MS h0 Qr x0 x1 x2 h hw p e s m args below meth c hC H locs ls k n hE (lv_sub hl [0, 1, 2] rfl) hR hS (by omega) (by omega)
  have hw := hw.2
  by_cases hc8 : x0 = 7
  · have hw := hw.1 hc8
    refine xt_numi hc8 ?_
    refine lv_tableIn (off := 98) (tgt := 99) hx hb (xb_d D_Whole_reckonShort 1 rfl) (by decide +kernel) (by decide +kernel) (by decide +kernel) (by decide) ?_
    refine lv_iload_n hx hb (xb_d D_Whole_reckonShort 23 rfl) rfl (lv_at hl 1 rfl) ?_
    refine lv_iload_n hx hb (xb_d D_Whole_reckonShort 24 rfl) rfl (lv_at hl 2 rfl) ?_
    refine lv_iand hx hb (xb_d D_Whole_reckonShort 25 rfl) ?_
    exact xb_iret 0 0 hx hb hr hlocks (show k + 0 ≤ MC by omega) (show n + 0 ≤ MS by omega) hE hR hS (xb_d D_Whole_reckonShort 26 rfl) hw
  have hw := hw.2
  by_cases hc9 : x0 = 8
  · have hw := hw.1 hc9
    refine xt_numi hc9 ?_
    refine lv_tableIn (off := 102) (tgt := 103) hx hb (xb_d D_Whole_reckonShort 1 rfl) (by decide +kernel) (by decide +kernel) (by decide +kernel) (by decide) ?_
    refine lv_iload_n hx hb (xb_d D_Whole_reckonShort 27 rfl) rfl (lv_at hl 1 rfl) ?_
    refine lv_iload_n hx hb (xb_d D_Whole_reckonShort 28 rfl) rfl (lv_at hl 2 rfl) ?_
    refine lv_ior hx hb (xb_d D_Whole_reckonShort 29 rfl) ?_
    exact xb_iret 0 0 hx hb hr hlocks (show k + 0 ≤ MC by omega) (show n + 0 ≤ MS by omega) hE hR hS (xb_d D_Whole_reckonShort 30 rfl) hw
  have hw := hw.2
  by_cases hc10 : x0 = 9
  · have hw := hw.1 hc10
    refine xt_numi hc10 ?_
    refine lv_tableIn (off := 106) (tgt := 107) hx hb (xb_d D_Whole_reckonShort 1 rfl) (by decide +kernel) (by decide +kernel) (by decide +kernel) (by decide) ?_
    refine lv_iload_n hx hb (xb_d D_Whole_reckonShort 31 rfl) rfl (lv_at hl 1 rfl) ?_
    refine lv_iload_n hx hb (xb_d D_Whole_reckonShort 32 rfl) rfl (lv_at hl 2 rfl) ?_
    refine lv_ixor hx hb (xb_d D_Whole_reckonShort 33 rfl) ?_
    exact xb_iret 0 0 hx hb hr hlocks (show k + 0 ≤ MC by omega) (show n + 0 ≤ MS by omega) hE hR hS (xb_d D_Whole_reckonShort 34 rfl) hw
  have hw := hw.2
  by_cases hc11 : x0 = 10
  · have hw := hw.1 hc11
    refine xt_numi hc11 ?_
    refine lv_tableIn (off := 110) (tgt := 111) hx hb (xb_d D_Whole_reckonShort 1 rfl) (by decide +kernel) (by decide +kernel) (by decide +kernel) (by decide) ?_
    refine lv_iload_n hx hb (xb_d D_Whole_reckonShort 35 rfl) rfl (lv_at hl 1 rfl) ?_
    refine lv_iload_n hx hb (xb_d D_Whole_reckonShort 36 rfl) rfl (lv_at hl 2 rfl) ?_
    refine lv_ishl hx hb (xb_d D_Whole_reckonShort 37 rfl) ?_
    exact xb_iret 0 0 hx hb hr hlocks (show k + 0 ≤ MC by omega) (show n + 0 ≤ MS by omega) hE hR hS (xb_d D_Whole_reckonShort 38 rfl) hw
  have hw := hw.2
  by_cases hc12 : x0 = 11
  · have hw := hw.1 hc12
    refine xt_numi hc12 ?_
    refine lv_tableIn (off := 114) (tgt := 115) hx hb (xb_d D_Whole_reckonShort 1 rfl) (by decide +kernel) (by decide +kernel) (by decide +kernel) (by decide) ?_
    refine lv_iload_n hx hb (xb_d D_Whole_reckonShort 39 rfl) rfl (lv_at hl 1 rfl) ?_
    refine lv_iload_n hx hb (xb_d D_Whole_reckonShort 40 rfl) rfl (lv_at hl 2 rfl) ?_
    refine lv_ishr hx hb (xb_d D_Whole_reckonShort 41 rfl) ?_
    exact xb_iret 0 0 hx hb hr hlocks (show k + 0 ≤ MC by omega) (show n + 0 ≤ MS by omega) hE hR hS (xb_d D_Whole_reckonShort 42 rfl) hw
  have hw := hw.2
  by_cases hc13 : x0 = 12
  · have hw := hw.1 hc13
    refine xt_numi hc13 ?_
    refine lv_tableIn (off := 118) (tgt := 119) hx hb (xb_d D_Whole_reckonShort 1 rfl) (by decide +kernel) (by decide +kernel) (by decide +kernel) (by decide) ?_
    refine lv_iload_n hx hb (xb_d D_Whole_reckonShort 43 rfl) rfl (lv_at hl 1 rfl) ?_
    refine lv_iload_n hx hb (xb_d D_Whole_reckonShort 44 rfl) rfl (lv_at hl 2 rfl) ?_
    refine lv_iushr (v := xb_ushr x1 x2) hx hb (xb_d D_Whole_reckonShort 45 rfl) rfl ?_
    exact xb_iret 0 0 hx hb hr hlocks (show k + 0 ≤ MC by omega) (show n + 0 ≤ MS by omega) hE hR hS (xb_d D_Whole_reckonShort 46 rfl) hw
  have hw := hw.2
  by_cases hc14 : x0 = 13
  · have hw := hw.1 hc14
    refine xt_numi hc14 ?_
    refine lv_tableIn (off := 122) (tgt := 123) hx hb (xb_d D_Whole_reckonShort 1 rfl) (by decide +kernel) (by decide +kernel) (by decide +kernel) (by decide) ?_
    refine lv_iload_n hx hb (xb_d D_Whole_reckonShort 47 rfl) rfl (lv_at hl 1 rfl) ?_
    refine lv_iload_n hx hb (xb_d D_Whole_reckonShort 48 rfl) rfl (lv_at hl 2 rfl) ?_
    refine lv_ishl hx hb (xb_d D_Whole_reckonShort 49 rfl) ?_
    refine lv_iload_n hx hb (xb_d D_Whole_reckonShort 50 rfl) rfl (lv_at hl 1 rfl) ?_
    refine lv_iload_n hx hb (xb_d D_Whole_reckonShort 51 rfl) rfl (lv_at hl 2 rfl) ?_
    refine lv_ineg hx hb (xb_d D_Whole_reckonShort 52 rfl) ?_
    refine lv_iushr (v := xb_ushr x1 (-x2)) hx hb (xb_d D_Whole_reckonShort 53 rfl) rfl ?_
    refine lv_ior hx hb (xb_d D_Whole_reckonShort 54 rfl) ?_
    exact xb_iret 0 0 hx hb hr hlocks (show k + 0 ≤ MC by omega) (show n + 0 ≤ MS by omega) hE hR hS (xb_d D_Whole_reckonShort 55 rfl) hw
  have hw := hw.2
  have hw := hw hc1 hc2 hc3 hc4 hc5 hc6 hc7 hc8 hc9 hc10 hc11 hc12 hc13 hc14
  refine lv_tableOut (tgt := 132) hx hb (xb_d D_Whole_reckonShort 1 rfl) (by have a0 := xb_nl (0) 0 (by decide) hc1; have a1 := xb_nl (1) 1 (by decide) hc2; have a2 := xb_nl (2) 2 (by decide) hc3; have a3 := xb_nl (3) 3 (by decide) hc4; have a4 := xb_nl (4) 4 (by decide) hc5; have a5 := xb_nl (5) 5 (by decide) hc6; have a6 := xb_nl (6) 6 (by decide) hc7; have a7 := xb_nl (7) 7 (by decide) hc8; have a8 := xb_nl (8) 8 (by decide) hc9; have a9 := xb_nl (9) 9 (by decide) hc10; have a10 := xb_nl (10) 10 (by decide) hc11; have a11 := xb_nl (11) 11 (by decide) hc12; have a12 := xb_nl (12) 12 (by decide) hc13; have a13 := xb_nl (13) 13 (by decide) hc14; omega) (by decide) ?_
  refine lv_iload_n hx hb (xb_d D_Whole_reckonShort 56 rfl) rfl (lv_at hl 1 rfl) ?_
  refine lv_iload_n hx hb (xb_d D_Whole_reckonShort 57 rfl) rfl (lv_at hl 2 rfl) ?_
  refine lv_iushr (v := xb_ushr x1 x2) hx hb (xb_d D_Whole_reckonShort 58 rfl) rfl ?_
  refine lv_iload_n hx hb (xb_d D_Whole_reckonShort 59 rfl) rfl (lv_at hl 1 rfl) ?_
  refine lv_iload_n hx hb (xb_d D_Whole_reckonShort 60 rfl) rfl (lv_at hl 2 rfl) ?_
  refine lv_ineg hx hb (xb_d D_Whole_reckonShort 61 rfl) ?_
  refine lv_ishl hx hb (xb_d D_Whole_reckonShort 62 rfl) ?_
  refine lv_ior hx hb (xb_d D_Whole_reckonShort 63 rfl) ?_
  exact xb_iret 0 0 hx hb hr hlocks (show k + 0 ≤ MC by omega) (show n + 0 ≤ MS by omega) hE hR hS (xb_d D_Whole_reckonShort 64 rfl) hw

theorem m_dcca9f4a : (.methodLink "StackHost$World" 3 objectInit : Cond) ∈ xt_tbl := xt_in (xt_t1 (List.mem_of_getElem? (i := 135) (by decide +kernel))) (by decide +kernel)
theorem m_4febb130 : (.classLink "StackHost$World" 9 "StackHost$Instance" : Cond) ∈ xt_tbl := xt_in (xt_t1 (List.mem_of_getElem? (i := 136) (by decide +kernel))) (by decide +kernel)
theorem m_9c6eb8e2 : (.arrayOver (.object "StackHost$Instance") : Cond) ∈ xt_tbl := xt_in (xt_t1 (List.mem_of_getElem? (i := 137) (by decide +kernel))) (by decide +kernel)
theorem m_7dbedc06 : (.fieldLink "StackHost$World" 11 "StackHost$World" "instances" "[LStackHost$Instance;" : Cond) ∈ xt_tbl := xt_in (xt_t1 (List.mem_of_getElem? (i := 164) (by decide +kernel))) (by decide +kernel)
theorem m_8d4a4f67 : (.classLink "StackHost$World" 17 "StackHost$Row" : Cond) ∈ xt_tbl := xt_in (xt_t1 (List.mem_of_getElem? (i := 138) (by decide +kernel))) (by decide +kernel)
theorem m_8928fe01 : (.methodLink "StackHost$World" 19 y_Row_init : Cond) ∈ xt_tbl := xt_in (xt_t1 (List.mem_of_getElem? (i := 140) (by decide +kernel))) (by decide +kernel)
theorem m_2d976539 : (.fieldLink "StackHost$World" 22 "StackHost$World" "owners" "LStackHost$Row;" : Cond) ∈ xt_tbl := xt_in (xt_t1 (List.mem_of_getElem? (i := 169) (by decide +kernel))) (by decide +kernel)
theorem m_61bedde9 : (.fieldLink "StackHost$World" 26 "StackHost$World" "variables" "LStackHost$Row;" : Cond) ∈ xt_tbl := xt_in (xt_t1 (List.mem_of_getElem? (i := 171) (by decide +kernel))) (by decide +kernel)
theorem m_1ef9f414 : (.fieldLink "StackHost$World" 29 "StackHost$World" "elements" "LStackHost$Row;" : Cond) ∈ xt_tbl := xt_in (xt_t1 (List.mem_of_getElem? (i := 175) (by decide +kernel))) (by decide +kernel)
theorem m_c974f8d4 : (.fieldLink "StackHost$World" 35 "StackHost$World" "out" "LStackHost$Row;" : Cond) ∈ xt_tbl := xt_in (xt_t1 (List.mem_of_getElem? (i := 179) (by decide +kernel))) (by decide +kernel)
theorem m_99b823f6 : (.fieldLink "StackHost$World" 38 "StackHost$World" "names" "LStackHost$Row;" : Cond) ∈ xt_tbl := xt_in (xt_t1 (List.mem_of_getElem? (i := 186) (by decide +kernel))) (by decide +kernel)
theorem m_fb6c2688 : (.fieldLink "StackHost$World" 41 "StackHost$World" "nameBytes" "[B" : Cond) ∈ xt_tbl := xt_in (xt_t1 (List.mem_of_getElem? (i := 187) (by decide +kernel))) (by decide +kernel)
theorem m_62e44650 : (.fieldLink "StackHost$World" 45 "StackHost$World" "foundFunctions" "LStackHost$Row;" : Cond) ∈ xt_tbl := xt_in (xt_t1 (List.mem_of_getElem? (i := 190) (by decide +kernel))) (by decide +kernel)
theorem m_808dc970 : (.fieldLink "StackHost$World" 48 "StackHost$World" "foundVariables" "LStackHost$Row;" : Cond) ∈ xt_tbl := xt_in (xt_t1 (List.mem_of_getElem? (i := 192) (by decide +kernel))) (by decide +kernel)
set_option maxRecDepth 100000 in
def T_World_init : List (Nat × Instr × Nat) := [(0, .aload_n 0, 1), (1, .invokespecial 3, 3), (4, .aload_n 0, 1), (5, .bipush 24, 2), (7, .anewarray 9, 3), (10, .putfield 11, 3), (13, .aload_n 0, 1), (14, .new 17, 3), (17, .dup, 1), (18, .iconst 1, 1), (19, .invokespecial 19, 3), (22, .putfield 22, 3), (25, .aload_n 0, 1), (26, .new 17, 3), (29, .dup, 1), (30, .iconst 1, 1), (31, .invokespecial 19, 3), (34, .putfield 26, 3), (37, .aload_n 0, 1), (38, .new 17, 3), (41, .dup, 1), (42, .iconst 1, 1), (43, .invokespecial 19, 3), (46, .putfield 29, 3), (49, .aload_n 0, 1), (50, .new 17, 3), (53, .dup, 1), (54, .iconst 1, 1), (55, .invokespecial 19, 3), (58, .putfield 32, 3), (61, .aload_n 0, 1), (62, .new 17, 3), (65, .dup, 1), (66, .iconst 1, 1), (67, .invokespecial 19, 3), (70, .putfield 35, 3), (73, .aload_n 0, 1), (74, .new 17, 3), (77, .dup, 1), (78, .iconst 3, 1), (79, .invokespecial 19, 3), (82, .putfield 38, 3), (85, .aload_n 0, 1), (86, .bipush 16, 2), (88, .newarray .byte, 2), (90, .putfield 41, 3), (93, .aload_n 0, 1), (94, .new 17, 3), (97, .dup, 1), (98, .iconst 1, 1), (99, .invokespecial 19, 3), (102, .putfield 45, 3), (105, .aload_n 0, 1), (106, .new 17, 3), (109, .dup, 1), (110, .iconst 1, 1), (111, .invokespecial 19, 3), (114, .putfield 48, 3), (117, .return_, 1)]
theorem D_World_init : ∀ q ∈ T_World_init, decode b_World_init q.1 = .ok (q.2.1, q.2.2) := by decide +kernel

set_option maxHeartbeats 4000000 in
set_option maxRecDepth 100000 in
theorem ok_World_init (l : Launch) (hfl : l.flags = pinnedFlags ++ [noTraceFlag]) (D : va_G) (A : Nat → Prop) (σ : Nat) (x0 : Nat) (h : xb_H) (bc : Nat) (bs : Nat) (Qr : xb_H → Nat → Nat → Prop) (hw : w_World_init x0 h bc bs Qr) : xb_Met l y_World_init [.code y_World_init b_World_init 1 none] (xb_rm 3 bc bs) (xb_Pc D A σ h [.ref x0]) (xb_Qc D A h bc bs (fun v h bc bs => v = none ∧ Qr h bc bs) (fun _ _ _ _ => False)) A := by
  refine xb_ofAm (cc := b_World_init) (by decide) (Nat.le_of_ble_eq_true rfl) ?_
  unfold w_World_init at hw
  show xb_am l D A σ 3 bc bs h (fun v h bc bs => v = none ∧ Qr h bc bs) (fun _ _ _ _ => False) y_World_init.cls y_World_init.name b_World_init 1 ([] : List ExceptionTableEntry) none 0 [(0, .ref x0)] [] h bc bs
  obtain ⟨MC, hMC⟩ : ∃ x, x = bc := ⟨_, rfl⟩
  obtain ⟨MS, hMS⟩ : ∃ x, x = bs := ⟨_, rfl⟩
  rw [show xb_am l D A σ 3 bc bs = xb_am l D A σ 3 MC MS by rw [hMC, hMS]]
  obtain ⟨h0, hh0⟩ : ∃ x, x = h := ⟨_, rfl⟩
  rw [show xb_am l D A σ 3 MC MS h = xb_am l D A σ 3 MC MS h0 by rw [hh0]]
  intro p e s m args below meth c hC H locs ls k n hE hl hR hS hk hn
  obtain ⟨hx, hb, hown, hlocks, htab, hml, hr, hB, hA, hnm⟩ := id hC
  have hts := hB.1.1.at args
  refine lv_aload_n hx hb (xb_d D_World_init 0 rfl) rfl (lv_at hl 0 rfl) ?_
  refine W.objInit hx hb hown (hts _ m_dcca9f4a) (hts _ m_fba9d542) (hts _ m_9febdb7e) rfl (hml.trans hl.1.symm).symm rfl (xb_d D_World_init 1 rfl) (by show 1 ≤ 8 + _; omega) (Nat.le_trans (Nat.le_of_ble_eq_true rfl : _ ≤ 40) (by show 40 ≤ 120 + _; omega)) ?_
  refine W.eq (g2 := F0 m 4 ls []) rfl ?_
  refine lv_aload_n hx hb (xb_d D_World_init 2 rfl) rfl (lv_at hl 0 rfl) ?_
  refine lv_bipush (v := 24) hx hb (xb_d D_World_init 3 rfl) (by decide) ?_
  obtain ⟨hcq1, hsq1, hw⟩ := hw
  have enq1 : (24 : Int32).toNatClampNeg = 24 := by decide
  refine xb_newq105 hx hb hown (hts _ m_4febb130) (va_AO.of (hts _ m_9c6eb8e2)) hR hS hA (by decide) (by decide +kernel) (show k + 1 ≤ MC by omega) (show n + _ ≤ MS by rw [enq1]; omega) (xb_d D_World_init 4 rfl) (fun q1 H hqq1 hR hS => ?_)
  rw [enq1] at hR ⊢
  have hw := hw q1 hqq1
  obtain ⟨h2, eh2⟩ : ∃ x : xb_H, x = xb_new h q1 105 24 := ⟨_, rfl⟩
  rw [← eh2] at hR
  have hw := hw h2 eh2
  have hE : xb_ext h0 h2 := by rw [eh2]; exact hE.new _ _ hqq1
  have hk3 : xb_k h2 q1 = 105 := by rw [eh2]; exact xb_new_k _ _ _ _
  obtain ⟨hk4, hw⟩ := hw
  refine xb_putPF (C := R_World) (T := F_World) (N := 16) (ty := .array (.object "StackHost$Instance")) (x := (some q1)) hx hb 6 0 hts fin_World t_World t_World_ok n_World hown hR hS hk4 (by decide) rfl (by decide) rfl (hts _ m_7dbedc06) (fun _ h9 => h9) rfl hnm rfl (by decide +kernel) (xb_pnA _ _).1 (xb_pnA _ _).2 (xb_d D_World_init 5 rfl) (fun H locs hR hS => ?_)
  obtain ⟨h5, eh5⟩ : ∃ x : xb_H, x = xb_P h2 x0 0 (some q1) := ⟨_, rfl⟩
  rw [← eh5] at hR
  have hw := hw h5 eh5
  have hE : xb_ext h0 h5 := by rw [eh5]; exact hE
  refine lv_aload_n hx hb (xb_d D_World_init 6 rfl) rfl (lv_at hl 0 rfl) ?_
  obtain ⟨hcq6, hsq6, hw⟩ := hw
  refine xb_newo (C := R_Row) (T := F_Row) (N := 3) hx hb 1 hts fin_Row t_Row t_Row_ok hown (hts _ m_8d4a4f67) (hts _ m_decbd935) (hts _ m_c1bef504) hR hS hA (by decide) rfl dg_Row (show (k + 1) + 1 ≤ MC by omega) (show (n + 24) + 3 ≤ MS by omega) (xb_d D_World_init 7 rfl) (fun q6 H hqq6 hR hS => ?_)
  have hw := hw q6 hqq6
  obtain ⟨h7, eh7⟩ : ∃ x : xb_H, x = xb_new h5 q6 2 0 := ⟨_, rfl⟩
  rw [← eh7] at hR
  have hw := hw h7 eh7
  have hE : xb_ext h0 h7 := by rw [eh7]; exact hE.new _ _ hqq6
  have hk8 : xb_k h7 q6 = 2 := by rw [eh7]; exact xb_new_k _ _ _ _
  refine lv_dup hx hb (xb_d D_World_init 8 rfl) rfl ?_
  refine lv_iconst (v := 1) hx hb (xb_d D_World_init 9 rfl) (by decide) ?_
  refine xb_call (D := D) (A := A) (σ := σ) (h := h7) (d := 2) (mc := ((bc - 1) - 1)) (ms := ((bs - 24) - 3)) (maxL := 2) (rest := [.ref q6, .ref x0]) (av := [.ref q6, .int 1]) (fun T hT X => xt_invI X hx hown rfl (hts _ m_8928fe01) (hts _ m_16ca0e9f) (hts _ m_3d9e18a6) nm_Row_init (g := F0 m 19 ls [.int 1, .ref q6, .ref q6, .ref x0]) rfl (b := q6) (argsL := [.int 1]) (rest := [.ref q6, .ref x0]) rfl rfl (by rw [hb]; exact (xb_d D_World_init 10 rfl))) (ok_Row_init l hfl D A σ q6 1 h7 ((bc - 1) - 1) ((bs - 24) - 3) _ hw) (hml.trans hl.1.symm) (by rw [hb]; exact (xb_d D_World_init 10 rfl)) (Nat.le_of_ble_eq_true rfl) (Nat.le_of_ble_eq_true rfl) (Nat.le_of_ble_eq_true rfl) (show ((k + 1) + 1) + ((bc - 1) - 1) ≤ MC by omega) (show ((n + 24) + 3) + ((bs - 24) - 3) ≤ MS by omega) (xt_w1 hB.1 m_3d9e18a6) (xt_cdOf hB.1 m_3d9e18a6) (hts _ m_c1bef504) hB hR hS hA (fun vv h9 bc10 bs10 kk10 nn10 H locs hk10 hn10 hq hEh9 hR hS => ?_) (fun XX ax h9 bc10 bs10 kk10 nn10 H locs hk10 hn10 hq hEh9 hex hR hS => ?_)
  · obtain ⟨rfl, hw⟩ := hq
    have hw := hw hEh9
    have hE := hE.tr hEh9
    refine W.eq (g2 := F0 m 22 ls [.ref q6, .ref x0]) rfl ?_
    have hk4 : xb_k h5 x0 = 7 := by rw [eh5]; exact hk4
    have hk4 : xb_k h7 x0 = 7 := by rw [eh7]; exact xb_nk hqq6 hk4
    have hk4 : xb_k h9 x0 = 7 := hEh9.k hk4
    refine xb_putPF (C := R_World) (T := F_World) (N := 16) (ty := .object "StackHost$Row") (x := (some q6)) hx hb 6 2 hts fin_World t_World t_World_ok n_World hown hR hS hk4 (by decide) rfl (by decide) rfl (hts _ m_2d976539) (fun _ h9 => h9) rfl hnm rfl (by decide +kernel) (xb_pnO _ _).1 (xb_pnO _ _).2 (xb_d D_World_init 11 rfl) (fun H locs hR hS => ?_)
    obtain ⟨h11, eh11⟩ : ∃ x : xb_H, x = xb_P h9 x0 2 (some q6) := ⟨_, rfl⟩
    rw [← eh11] at hR
    have hw := hw h11 eh11
    have hE : xb_ext h0 h11 := by rw [eh11]; exact hE
    refine lv_aload_n hx hb (xb_d D_World_init 12 rfl) rfl (lv_at hl 0 rfl) ?_
    obtain ⟨hcq12, hsq12, hw⟩ := hw
    refine xb_newo (C := R_Row) (T := F_Row) (N := 3) hx hb 1 hts fin_Row t_Row t_Row_ok hown (hts _ m_8d4a4f67) (hts _ m_decbd935) (hts _ m_c1bef504) hR hS hA (by decide) rfl dg_Row (show (((k + 1) + 1) + kk10) + 1 ≤ MC by omega) (show (((n + 24) + 3) + nn10) + 3 ≤ MS by omega) (xb_d D_World_init 13 rfl) (fun q12 H hqq12 hR hS => ?_)
    have hw := hw q12 hqq12
    obtain ⟨h13, eh13⟩ : ∃ x : xb_H, x = xb_new h11 q12 2 0 := ⟨_, rfl⟩
    rw [← eh13] at hR
    have hw := hw h13 eh13
    have hE : xb_ext h0 h13 := by rw [eh13]; exact hE.new _ _ hqq12
    have hk14 : xb_k h13 q12 = 2 := by rw [eh13]; exact xb_new_k _ _ _ _
    refine lv_dup hx hb (xb_d D_World_init 14 rfl) rfl ?_
    refine lv_iconst (v := 1) hx hb (xb_d D_World_init 15 rfl) (by decide) ?_
    refine xb_call (D := D) (A := A) (σ := σ) (h := h13) (d := 2) (mc := (bc10 - 1)) (ms := (bs10 - 3)) (maxL := 2) (rest := [.ref q12, .ref x0]) (av := [.ref q12, .int 1]) (fun T hT X => xt_invI X hx hown rfl (hts _ m_8928fe01) (hts _ m_16ca0e9f) (hts _ m_3d9e18a6) nm_Row_init (g := F0 m 31 ls [.int 1, .ref q12, .ref q12, .ref x0]) rfl (b := q12) (argsL := [.int 1]) (rest := [.ref q12, .ref x0]) rfl rfl (by rw [hb]; exact (xb_d D_World_init 16 rfl))) (ok_Row_init l hfl D A σ q12 1 h13 (bc10 - 1) (bs10 - 3) _ hw) (hml.trans hl.1.symm) (by rw [hb]; exact (xb_d D_World_init 16 rfl)) (Nat.le_of_ble_eq_true rfl) (Nat.le_of_ble_eq_true rfl) (Nat.le_of_ble_eq_true rfl) (show ((((k + 1) + 1) + kk10) + 1) + (bc10 - 1) ≤ MC by omega) (show ((((n + 24) + 3) + nn10) + 3) + (bs10 - 3) ≤ MS by omega) (xt_w1 hB.1 m_3d9e18a6) (xt_cdOf hB.1 m_3d9e18a6) (hts _ m_c1bef504) hB hR hS hA (fun vv h15 bc16 bs16 kk16 nn16 H locs hk16 hn16 hq hEh15 hR hS => ?_) (fun XX ax h15 bc16 bs16 kk16 nn16 H locs hk16 hn16 hq hEh15 hex hR hS => ?_)
    · obtain ⟨rfl, hw⟩ := hq
      have hw := hw hEh15
      have hE := hE.tr hEh15
      refine W.eq (g2 := F0 m 34 ls [.ref q12, .ref x0]) rfl ?_
      have hk4 : xb_k h11 x0 = 7 := by rw [eh11]; exact hk4
      have hk4 : xb_k h13 x0 = 7 := by rw [eh13]; exact xb_nk hqq12 hk4
      have hk4 : xb_k h15 x0 = 7 := hEh15.k hk4
      refine xb_putPF (C := R_World) (T := F_World) (N := 16) (ty := .object "StackHost$Row") (x := (some q12)) hx hb 6 3 hts fin_World t_World t_World_ok n_World hown hR hS hk4 (by decide) rfl (by decide) rfl (hts _ m_61bedde9) (fun _ h9 => h9) rfl hnm rfl (by decide +kernel) (xb_pnO _ _).1 (xb_pnO _ _).2 (xb_d D_World_init 17 rfl) (fun H locs hR hS => ?_)
      obtain ⟨h17, eh17⟩ : ∃ x : xb_H, x = xb_P h15 x0 3 (some q12) := ⟨_, rfl⟩
      rw [← eh17] at hR
      have hw := hw h17 eh17
      have hE : xb_ext h0 h17 := by rw [eh17]; exact hE
      refine lv_aload_n hx hb (xb_d D_World_init 18 rfl) rfl (lv_at hl 0 rfl) ?_
      obtain ⟨hcq18, hsq18, hw⟩ := hw
      refine xb_newo (C := R_Row) (T := F_Row) (N := 3) hx hb 1 hts fin_Row t_Row t_Row_ok hown (hts _ m_8d4a4f67) (hts _ m_decbd935) (hts _ m_c1bef504) hR hS hA (by decide) rfl dg_Row (show (((((k + 1) + 1) + kk10) + 1) + kk16) + 1 ≤ MC by omega) (show (((((n + 24) + 3) + nn10) + 3) + nn16) + 3 ≤ MS by omega) (xb_d D_World_init 19 rfl) (fun q18 H hqq18 hR hS => ?_)
      have hw := hw q18 hqq18
      obtain ⟨h19, eh19⟩ : ∃ x : xb_H, x = xb_new h17 q18 2 0 := ⟨_, rfl⟩
      rw [← eh19] at hR
      have hw := hw h19 eh19
      have hE : xb_ext h0 h19 := by rw [eh19]; exact hE.new _ _ hqq18
      have hk20 : xb_k h19 q18 = 2 := by rw [eh19]; exact xb_new_k _ _ _ _
      refine lv_dup hx hb (xb_d D_World_init 20 rfl) rfl ?_
      refine lv_iconst (v := 1) hx hb (xb_d D_World_init 21 rfl) (by decide) ?_
      refine xb_call (D := D) (A := A) (σ := σ) (h := h19) (d := 2) (mc := (bc16 - 1)) (ms := (bs16 - 3)) (maxL := 2) (rest := [.ref q18, .ref x0]) (av := [.ref q18, .int 1]) (fun T hT X => xt_invI X hx hown rfl (hts _ m_8928fe01) (hts _ m_16ca0e9f) (hts _ m_3d9e18a6) nm_Row_init (g := F0 m 43 ls [.int 1, .ref q18, .ref q18, .ref x0]) rfl (b := q18) (argsL := [.int 1]) (rest := [.ref q18, .ref x0]) rfl rfl (by rw [hb]; exact (xb_d D_World_init 22 rfl))) (ok_Row_init l hfl D A σ q18 1 h19 (bc16 - 1) (bs16 - 3) _ hw) (hml.trans hl.1.symm) (by rw [hb]; exact (xb_d D_World_init 22 rfl)) (Nat.le_of_ble_eq_true rfl) (Nat.le_of_ble_eq_true rfl) (Nat.le_of_ble_eq_true rfl) (show ((((((k + 1) + 1) + kk10) + 1) + kk16) + 1) + (bc16 - 1) ≤ MC by omega) (show ((((((n + 24) + 3) + nn10) + 3) + nn16) + 3) + (bs16 - 3) ≤ MS by omega) (xt_w1 hB.1 m_3d9e18a6) (xt_cdOf hB.1 m_3d9e18a6) (hts _ m_c1bef504) hB hR hS hA (fun vv h21 bc22 bs22 kk22 nn22 H locs hk22 hn22 hq hEh21 hR hS => ?_) (fun XX ax h21 bc22 bs22 kk22 nn22 H locs hk22 hn22 hq hEh21 hex hR hS => ?_)
      · obtain ⟨rfl, hw⟩ := hq
        have hw := hw hEh21
        have hE := hE.tr hEh21
        refine W.eq (g2 := F0 m 46 ls [.ref q18, .ref x0]) rfl ?_
        have hk4 : xb_k h17 x0 = 7 := by rw [eh17]; exact hk4
        have hk4 : xb_k h19 x0 = 7 := by rw [eh19]; exact xb_nk hqq18 hk4
        have hk4 : xb_k h21 x0 = 7 := hEh21.k hk4
        refine xb_putPF (C := R_World) (T := F_World) (N := 16) (ty := .object "StackHost$Row") (x := (some q18)) hx hb 6 4 hts fin_World t_World t_World_ok n_World hown hR hS hk4 (by decide) rfl (by decide) rfl (hts _ m_1ef9f414) (fun _ h9 => h9) rfl hnm rfl (by decide +kernel) (xb_pnO _ _).1 (xb_pnO _ _).2 (xb_d D_World_init 23 rfl) (fun H locs hR hS => ?_)
        obtain ⟨h23, eh23⟩ : ∃ x : xb_H, x = xb_P h21 x0 4 (some q18) := ⟨_, rfl⟩
        rw [← eh23] at hR
        have hw := hw h23 eh23
        have hE : xb_ext h0 h23 := by rw [eh23]; exact hE
        refine lv_aload_n hx hb (xb_d D_World_init 24 rfl) rfl (lv_at hl 0 rfl) ?_
        obtain ⟨hcq24, hsq24, hw⟩ := hw
        refine xb_newo (C := R_Row) (T := F_Row) (N := 3) hx hb 1 hts fin_Row t_Row t_Row_ok hown (hts _ m_8d4a4f67) (hts _ m_decbd935) (hts _ m_c1bef504) hR hS hA (by decide) rfl dg_Row (show (((((((k + 1) + 1) + kk10) + 1) + kk16) + 1) + kk22) + 1 ≤ MC by omega) (show (((((((n + 24) + 3) + nn10) + 3) + nn16) + 3) + nn22) + 3 ≤ MS by omega) (xb_d D_World_init 25 rfl) (fun q24 H hqq24 hR hS => ?_)
        have hw := hw q24 hqq24
        obtain ⟨h25, eh25⟩ : ∃ x : xb_H, x = xb_new h23 q24 2 0 := ⟨_, rfl⟩
        rw [← eh25] at hR
        have hw := hw h25 eh25
        have hE : xb_ext h0 h25 := by rw [eh25]; exact hE.new _ _ hqq24
        have hk26 : xb_k h25 q24 = 2 := by rw [eh25]; exact xb_new_k _ _ _ _
        refine lv_dup hx hb (xb_d D_World_init 26 rfl) rfl ?_
        refine lv_iconst (v := 1) hx hb (xb_d D_World_init 27 rfl) (by decide) ?_
        refine xb_call (D := D) (A := A) (σ := σ) (h := h25) (d := 2) (mc := (bc22 - 1)) (ms := (bs22 - 3)) (maxL := 2) (rest := [.ref q24, .ref x0]) (av := [.ref q24, .int 1]) (fun T hT X => xt_invI X hx hown rfl (hts _ m_8928fe01) (hts _ m_16ca0e9f) (hts _ m_3d9e18a6) nm_Row_init (g := F0 m 55 ls [.int 1, .ref q24, .ref q24, .ref x0]) rfl (b := q24) (argsL := [.int 1]) (rest := [.ref q24, .ref x0]) rfl rfl (by rw [hb]; exact (xb_d D_World_init 28 rfl))) (ok_Row_init l hfl D A σ q24 1 h25 (bc22 - 1) (bs22 - 3) _ hw) (hml.trans hl.1.symm) (by rw [hb]; exact (xb_d D_World_init 28 rfl)) (Nat.le_of_ble_eq_true rfl) (Nat.le_of_ble_eq_true rfl) (Nat.le_of_ble_eq_true rfl) (show ((((((((k + 1) + 1) + kk10) + 1) + kk16) + 1) + kk22) + 1) + (bc22 - 1) ≤ MC by omega) (show ((((((((n + 24) + 3) + nn10) + 3) + nn16) + 3) + nn22) + 3) + (bs22 - 3) ≤ MS by omega) (xt_w1 hB.1 m_3d9e18a6) (xt_cdOf hB.1 m_3d9e18a6) (hts _ m_c1bef504) hB hR hS hA (fun vv h27 bc28 bs28 kk28 nn28 H locs hk28 hn28 hq hEh27 hR hS => ?_) (fun XX ax h27 bc28 bs28 kk28 nn28 H locs hk28 hn28 hq hEh27 hex hR hS => ?_)
        · obtain ⟨rfl, hw⟩ := hq
          have hw := hw hEh27
          have hE := hE.tr hEh27
          refine W.eq (g2 := F0 m 58 ls [.ref q24, .ref x0]) rfl ?_
          have hk4 : xb_k h23 x0 = 7 := by rw [eh23]; exact hk4
          have hk4 : xb_k h25 x0 = 7 := by rw [eh25]; exact xb_nk hqq24 hk4
          have hk4 : xb_k h27 x0 = 7 := hEh27.k hk4
          refine xb_putPF (C := R_World) (T := F_World) (N := 16) (ty := .object "StackHost$Row") (x := (some q24)) hx hb 6 5 hts fin_World t_World t_World_ok n_World hown hR hS hk4 (by decide) rfl (by decide) rfl (hts _ m_fb5d2326) (fun _ h9 => h9) rfl hnm rfl (by decide +kernel) (xb_pnO _ _).1 (xb_pnO _ _).2 (xb_d D_World_init 29 rfl) (fun H locs hR hS => ?_)
          obtain ⟨h29, eh29⟩ : ∃ x : xb_H, x = xb_P h27 x0 5 (some q24) := ⟨_, rfl⟩
          rw [← eh29] at hR
          have hw := hw h29 eh29
          have hE : xb_ext h0 h29 := by rw [eh29]; exact hE
          refine lv_aload_n hx hb (xb_d D_World_init 30 rfl) rfl (lv_at hl 0 rfl) ?_
          obtain ⟨hcq30, hsq30, hw⟩ := hw
          refine xb_newo (C := R_Row) (T := F_Row) (N := 3) hx hb 1 hts fin_Row t_Row t_Row_ok hown (hts _ m_8d4a4f67) (hts _ m_decbd935) (hts _ m_c1bef504) hR hS hA (by decide) rfl dg_Row (show (((((((((k + 1) + 1) + kk10) + 1) + kk16) + 1) + kk22) + 1) + kk28) + 1 ≤ MC by omega) (show (((((((((n + 24) + 3) + nn10) + 3) + nn16) + 3) + nn22) + 3) + nn28) + 3 ≤ MS by omega) (xb_d D_World_init 31 rfl) (fun q30 H hqq30 hR hS => ?_)
          have hw := hw q30 hqq30
          obtain ⟨h31, eh31⟩ : ∃ x : xb_H, x = xb_new h29 q30 2 0 := ⟨_, rfl⟩
          rw [← eh31] at hR
          have hw := hw h31 eh31
          have hE : xb_ext h0 h31 := by rw [eh31]; exact hE.new _ _ hqq30
          have hk32 : xb_k h31 q30 = 2 := by rw [eh31]; exact xb_new_k _ _ _ _
          refine lv_dup hx hb (xb_d D_World_init 32 rfl) rfl ?_
          refine lv_iconst (v := 1) hx hb (xb_d D_World_init 33 rfl) (by decide) ?_
          refine xb_call (D := D) (A := A) (σ := σ) (h := h31) (d := 2) (mc := (bc28 - 1)) (ms := (bs28 - 3)) (maxL := 2) (rest := [.ref q30, .ref x0]) (av := [.ref q30, .int 1]) (fun T hT X => xt_invI X hx hown rfl (hts _ m_8928fe01) (hts _ m_16ca0e9f) (hts _ m_3d9e18a6) nm_Row_init (g := F0 m 67 ls [.int 1, .ref q30, .ref q30, .ref x0]) rfl (b := q30) (argsL := [.int 1]) (rest := [.ref q30, .ref x0]) rfl rfl (by rw [hb]; exact (xb_d D_World_init 34 rfl))) (ok_Row_init l hfl D A σ q30 1 h31 (bc28 - 1) (bs28 - 3) _ hw) (hml.trans hl.1.symm) (by rw [hb]; exact (xb_d D_World_init 34 rfl)) (Nat.le_of_ble_eq_true rfl) (Nat.le_of_ble_eq_true rfl) (Nat.le_of_ble_eq_true rfl) (show ((((((((((k + 1) + 1) + kk10) + 1) + kk16) + 1) + kk22) + 1) + kk28) + 1) + (bc28 - 1) ≤ MC by omega) (show ((((((((((n + 24) + 3) + nn10) + 3) + nn16) + 3) + nn22) + 3) + nn28) + 3) + (bs28 - 3) ≤ MS by omega) (xt_w1 hB.1 m_3d9e18a6) (xt_cdOf hB.1 m_3d9e18a6) (hts _ m_c1bef504) hB hR hS hA (fun vv h33 bc34 bs34 kk34 nn34 H locs hk34 hn34 hq hEh33 hR hS => ?_) (fun XX ax h33 bc34 bs34 kk34 nn34 H locs hk34 hn34 hq hEh33 hex hR hS => ?_)
          · obtain ⟨rfl, hw⟩ := hq
            have hw := hw hEh33
            have hE := hE.tr hEh33
            refine W.eq (g2 := F0 m 70 ls [.ref q30, .ref x0]) rfl ?_
            have hk4 : xb_k h29 x0 = 7 := by rw [eh29]; exact hk4
            have hk4 : xb_k h31 x0 = 7 := by rw [eh31]; exact xb_nk hqq30 hk4
            have hk4 : xb_k h33 x0 = 7 := hEh33.k hk4
            refine xb_putPF (C := R_World) (T := F_World) (N := 16) (ty := .object "StackHost$Row") (x := (some q30)) hx hb 6 6 hts fin_World t_World t_World_ok n_World hown hR hS hk4 (by decide) rfl (by decide) rfl (hts _ m_c974f8d4) (fun _ h9 => h9) rfl hnm rfl (by decide +kernel) (xb_pnO _ _).1 (xb_pnO _ _).2 (xb_d D_World_init 35 rfl) (fun H locs hR hS => ?_)
            obtain ⟨h35, eh35⟩ : ∃ x : xb_H, x = xb_P h33 x0 6 (some q30) := ⟨_, rfl⟩
            rw [← eh35] at hR
            have hw := hw h35 eh35
            have hE : xb_ext h0 h35 := by rw [eh35]; exact hE
            refine lv_aload_n hx hb (xb_d D_World_init 36 rfl) rfl (lv_at hl 0 rfl) ?_
            obtain ⟨hcq36, hsq36, hw⟩ := hw
            refine xb_newo (C := R_Row) (T := F_Row) (N := 3) hx hb 1 hts fin_Row t_Row t_Row_ok hown (hts _ m_8d4a4f67) (hts _ m_decbd935) (hts _ m_c1bef504) hR hS hA (by decide) rfl dg_Row (show (((((((((((k + 1) + 1) + kk10) + 1) + kk16) + 1) + kk22) + 1) + kk28) + 1) + kk34) + 1 ≤ MC by omega) (show (((((((((((n + 24) + 3) + nn10) + 3) + nn16) + 3) + nn22) + 3) + nn28) + 3) + nn34) + 3 ≤ MS by omega) (xb_d D_World_init 37 rfl) (fun q36 H hqq36 hR hS => ?_)
            have hw := hw q36 hqq36
            obtain ⟨h37, eh37⟩ : ∃ x : xb_H, x = xb_new h35 q36 2 0 := ⟨_, rfl⟩
            rw [← eh37] at hR
            have hw := hw h37 eh37
            have hE : xb_ext h0 h37 := by rw [eh37]; exact hE.new _ _ hqq36
            have hk38 : xb_k h37 q36 = 2 := by rw [eh37]; exact xb_new_k _ _ _ _
            refine lv_dup hx hb (xb_d D_World_init 38 rfl) rfl ?_
            refine lv_iconst (v := 3) hx hb (xb_d D_World_init 39 rfl) (by decide) ?_
            refine xb_call (D := D) (A := A) (σ := σ) (h := h37) (d := 2) (mc := (bc34 - 1)) (ms := (bs34 - 3)) (maxL := 2) (rest := [.ref q36, .ref x0]) (av := [.ref q36, .int 3]) (fun T hT X => xt_invI X hx hown rfl (hts _ m_8928fe01) (hts _ m_16ca0e9f) (hts _ m_3d9e18a6) nm_Row_init (g := F0 m 79 ls [.int 3, .ref q36, .ref q36, .ref x0]) rfl (b := q36) (argsL := [.int 3]) (rest := [.ref q36, .ref x0]) rfl rfl (by rw [hb]; exact (xb_d D_World_init 40 rfl))) (ok_Row_init l hfl D A σ q36 3 h37 (bc34 - 1) (bs34 - 3) _ hw) (hml.trans hl.1.symm) (by rw [hb]; exact (xb_d D_World_init 40 rfl)) (Nat.le_of_ble_eq_true rfl) (Nat.le_of_ble_eq_true rfl) (Nat.le_of_ble_eq_true rfl) (show ((((((((((((k + 1) + 1) + kk10) + 1) + kk16) + 1) + kk22) + 1) + kk28) + 1) + kk34) + 1) + (bc34 - 1) ≤ MC by omega) (show ((((((((((((n + 24) + 3) + nn10) + 3) + nn16) + 3) + nn22) + 3) + nn28) + 3) + nn34) + 3) + (bs34 - 3) ≤ MS by omega) (xt_w1 hB.1 m_3d9e18a6) (xt_cdOf hB.1 m_3d9e18a6) (hts _ m_c1bef504) hB hR hS hA (fun vv h39 bc40 bs40 kk40 nn40 H locs hk40 hn40 hq hEh39 hR hS => ?_) (fun XX ax h39 bc40 bs40 kk40 nn40 H locs hk40 hn40 hq hEh39 hex hR hS => ?_)
            · obtain ⟨rfl, hw⟩ := hq
              have hw := hw hEh39
              have hE := hE.tr hEh39
              refine W.eq (g2 := F0 m 82 ls [.ref q36, .ref x0]) rfl ?_
              have hk4 : xb_k h35 x0 = 7 := by rw [eh35]; exact hk4
              have hk4 : xb_k h37 x0 = 7 := by rw [eh37]; exact xb_nk hqq36 hk4
              have hk4 : xb_k h39 x0 = 7 := hEh39.k hk4
              refine xb_putPF (C := R_World) (T := F_World) (N := 16) (ty := .object "StackHost$Row") (x := (some q36)) hx hb 6 9 hts fin_World t_World t_World_ok n_World hown hR hS hk4 (by decide) rfl (by decide) rfl (hts _ m_99b823f6) (fun _ h9 => h9) rfl hnm rfl (by decide +kernel) (xb_pnO _ _).1 (xb_pnO _ _).2 (xb_d D_World_init 41 rfl) (fun H locs hR hS => ?_)
              obtain ⟨h41, eh41⟩ : ∃ x : xb_H, x = xb_P h39 x0 9 (some q36) := ⟨_, rfl⟩
              rw [← eh41] at hR
              have hw := hw h41 eh41
              have hE : xb_ext h0 h41 := by rw [eh41]; exact hE
              refine lv_aload_n hx hb (xb_d D_World_init 42 rfl) rfl (lv_at hl 0 rfl) ?_
              refine lv_bipush (v := 16) hx hb (xb_d D_World_init 43 rfl) (by decide) ?_
              obtain ⟨hcq42, hsq42, hw⟩ := hw
              have enq42 : (16 : Int32).toNatClampNeg = 16 := by decide
              refine xb_newa_b hx hb (hts _ m_2503b19f) hR hS hA (by decide) (by decide +kernel) (show (((((((((((((k + 1) + 1) + kk10) + 1) + kk16) + 1) + kk22) + 1) + kk28) + 1) + kk34) + 1) + kk40) + 1 ≤ MC by omega) (show (((((((((((((n + 24) + 3) + nn10) + 3) + nn16) + 3) + nn22) + 3) + nn28) + 3) + nn34) + 3) + nn40) + _ ≤ MS by rw [enq42]; omega) (xb_d D_World_init 44 rfl) (fun q42 H hqq42 hR hS => ?_)
              rw [enq42] at hR ⊢
              have hw := hw q42 hqq42
              obtain ⟨h43, eh43⟩ : ∃ x : xb_H, x = xb_new h41 q42 100 16 := ⟨_, rfl⟩
              rw [← eh43] at hR
              have hw := hw h43 eh43
              have hE : xb_ext h0 h43 := by rw [eh43]; exact hE.new _ _ hqq42
              have hk44 : xb_k h43 q42 = 100 := by rw [eh43]; exact xb_new_k _ _ _ _
              have hk4 : xb_k h41 x0 = 7 := by rw [eh41]; exact hk4
              have hk4 : xb_k h43 x0 = 7 := by rw [eh43]; exact xb_nk hqq42 hk4
              refine xb_putP (C := R_World) (T := F_World) (N := 16) (ty := .array .byte) (x := (some q42)) hx hb 6 10 hts fin_World t_World t_World_ok n_World hown hR hS hk4 (by decide) rfl (by decide) rfl (hts _ m_fb6c2688) (fun _ h9 => h9) rfl (by decide +kernel) (xb_pnA _ _).1 (xb_pnA _ _).2 (xb_d D_World_init 45 rfl) (fun H locs hR hS => ?_)
              obtain ⟨h45, eh45⟩ : ∃ x : xb_H, x = xb_P h43 x0 10 (some q42) := ⟨_, rfl⟩
              rw [← eh45] at hR
              have hw := hw h45 eh45
              have hE : xb_ext h0 h45 := by rw [eh45]; exact hE
              refine lv_aload_n hx hb (xb_d D_World_init 46 rfl) rfl (lv_at hl 0 rfl) ?_
              obtain ⟨hcq46, hsq46, hw⟩ := hw
              refine xb_newo (C := R_Row) (T := F_Row) (N := 3) hx hb 1 hts fin_Row t_Row t_Row_ok hown (hts _ m_8d4a4f67) (hts _ m_decbd935) (hts _ m_c1bef504) hR hS hA (by decide) rfl dg_Row (show ((((((((((((((k + 1) + 1) + kk10) + 1) + kk16) + 1) + kk22) + 1) + kk28) + 1) + kk34) + 1) + kk40) + 1) + 1 ≤ MC by omega) (show ((((((((((((((n + 24) + 3) + nn10) + 3) + nn16) + 3) + nn22) + 3) + nn28) + 3) + nn34) + 3) + nn40) + 16) + 3 ≤ MS by omega) (xb_d D_World_init 47 rfl) (fun q46 H hqq46 hR hS => ?_)
              have hw := hw q46 hqq46
              obtain ⟨h47, eh47⟩ : ∃ x : xb_H, x = xb_new h45 q46 2 0 := ⟨_, rfl⟩
              rw [← eh47] at hR
              have hw := hw h47 eh47
              have hE : xb_ext h0 h47 := by rw [eh47]; exact hE.new _ _ hqq46
              have hk48 : xb_k h47 q46 = 2 := by rw [eh47]; exact xb_new_k _ _ _ _
              refine lv_dup hx hb (xb_d D_World_init 48 rfl) rfl ?_
              refine lv_iconst (v := 1) hx hb (xb_d D_World_init 49 rfl) (by decide) ?_
              refine xb_call (D := D) (A := A) (σ := σ) (h := h47) (d := 2) (mc := ((bc40 - 1) - 1)) (ms := ((bs40 - 16) - 3)) (maxL := 2) (rest := [.ref q46, .ref x0]) (av := [.ref q46, .int 1]) (fun T hT X => xt_invI X hx hown rfl (hts _ m_8928fe01) (hts _ m_16ca0e9f) (hts _ m_3d9e18a6) nm_Row_init (g := F0 m 99 ls [.int 1, .ref q46, .ref q46, .ref x0]) rfl (b := q46) (argsL := [.int 1]) (rest := [.ref q46, .ref x0]) rfl rfl (by rw [hb]; exact (xb_d D_World_init 50 rfl))) (ok_Row_init l hfl D A σ q46 1 h47 ((bc40 - 1) - 1) ((bs40 - 16) - 3) _ hw) (hml.trans hl.1.symm) (by rw [hb]; exact (xb_d D_World_init 50 rfl)) (Nat.le_of_ble_eq_true rfl) (Nat.le_of_ble_eq_true rfl) (Nat.le_of_ble_eq_true rfl) (show (((((((((((((((k + 1) + 1) + kk10) + 1) + kk16) + 1) + kk22) + 1) + kk28) + 1) + kk34) + 1) + kk40) + 1) + 1) + ((bc40 - 1) - 1) ≤ MC by omega) (show (((((((((((((((n + 24) + 3) + nn10) + 3) + nn16) + 3) + nn22) + 3) + nn28) + 3) + nn34) + 3) + nn40) + 16) + 3) + ((bs40 - 16) - 3) ≤ MS by omega) (xt_w1 hB.1 m_3d9e18a6) (xt_cdOf hB.1 m_3d9e18a6) (hts _ m_c1bef504) hB hR hS hA (fun vv h49 bc50 bs50 kk50 nn50 H locs hk50 hn50 hq hEh49 hR hS => ?_) (fun XX ax h49 bc50 bs50 kk50 nn50 H locs hk50 hn50 hq hEh49 hex hR hS => ?_)
              · obtain ⟨rfl, hw⟩ := hq
                have hw := hw hEh49
                have hE := hE.tr hEh49
                refine W.eq (g2 := F0 m 102 ls [.ref q46, .ref x0]) rfl ?_
                have hk4 : xb_k h45 x0 = 7 := by rw [eh45]; exact hk4
                have hk4 : xb_k h47 x0 = 7 := by rw [eh47]; exact xb_nk hqq46 hk4
                have hk4 : xb_k h49 x0 = 7 := hEh49.k hk4
                refine xb_putPF (C := R_World) (T := F_World) (N := 16) (ty := .object "StackHost$Row") (x := (some q46)) hx hb 6 12 hts fin_World t_World t_World_ok n_World hown hR hS hk4 (by decide) rfl (by decide) rfl (hts _ m_62e44650) (fun _ h9 => h9) rfl hnm rfl (by decide +kernel) (xb_pnO _ _).1 (xb_pnO _ _).2 (xb_d D_World_init 51 rfl) (fun H locs hR hS => ?_)
                obtain ⟨h51, eh51⟩ : ∃ x : xb_H, x = xb_P h49 x0 12 (some q46) := ⟨_, rfl⟩
                rw [← eh51] at hR
                have hw := hw h51 eh51
                have hE : xb_ext h0 h51 := by rw [eh51]; exact hE
                refine lv_aload_n hx hb (xb_d D_World_init 52 rfl) rfl (lv_at hl 0 rfl) ?_
                obtain ⟨hcq52, hsq52, hw⟩ := hw
                refine xb_newo (C := R_Row) (T := F_Row) (N := 3) hx hb 1 hts fin_Row t_Row t_Row_ok hown (hts _ m_8d4a4f67) (hts _ m_decbd935) (hts _ m_c1bef504) hR hS hA (by decide) rfl dg_Row (show ((((((((((((((((k + 1) + 1) + kk10) + 1) + kk16) + 1) + kk22) + 1) + kk28) + 1) + kk34) + 1) + kk40) + 1) + 1) + kk50) + 1 ≤ MC by omega) (show ((((((((((((((((n + 24) + 3) + nn10) + 3) + nn16) + 3) + nn22) + 3) + nn28) + 3) + nn34) + 3) + nn40) + 16) + 3) + nn50) + 3 ≤ MS by omega) (xb_d D_World_init 53 rfl) (fun q52 H hqq52 hR hS => ?_)
                have hw := hw q52 hqq52
                obtain ⟨h53, eh53⟩ : ∃ x : xb_H, x = xb_new h51 q52 2 0 := ⟨_, rfl⟩
                rw [← eh53] at hR
                have hw := hw h53 eh53
                have hE : xb_ext h0 h53 := by rw [eh53]; exact hE.new _ _ hqq52
                have hk54 : xb_k h53 q52 = 2 := by rw [eh53]; exact xb_new_k _ _ _ _
                refine lv_dup hx hb (xb_d D_World_init 54 rfl) rfl ?_
                refine lv_iconst (v := 1) hx hb (xb_d D_World_init 55 rfl) (by decide) ?_
                refine xb_call (D := D) (A := A) (σ := σ) (h := h53) (d := 2) (mc := (bc50 - 1)) (ms := (bs50 - 3)) (maxL := 2) (rest := [.ref q52, .ref x0]) (av := [.ref q52, .int 1]) (fun T hT X => xt_invI X hx hown rfl (hts _ m_8928fe01) (hts _ m_16ca0e9f) (hts _ m_3d9e18a6) nm_Row_init (g := F0 m 111 ls [.int 1, .ref q52, .ref q52, .ref x0]) rfl (b := q52) (argsL := [.int 1]) (rest := [.ref q52, .ref x0]) rfl rfl (by rw [hb]; exact (xb_d D_World_init 56 rfl))) (ok_Row_init l hfl D A σ q52 1 h53 (bc50 - 1) (bs50 - 3) _ hw) (hml.trans hl.1.symm) (by rw [hb]; exact (xb_d D_World_init 56 rfl)) (Nat.le_of_ble_eq_true rfl) (Nat.le_of_ble_eq_true rfl) (Nat.le_of_ble_eq_true rfl) (show (((((((((((((((((k + 1) + 1) + kk10) + 1) + kk16) + 1) + kk22) + 1) + kk28) + 1) + kk34) + 1) + kk40) + 1) + 1) + kk50) + 1) + (bc50 - 1) ≤ MC by omega) (show (((((((((((((((((n + 24) + 3) + nn10) + 3) + nn16) + 3) + nn22) + 3) + nn28) + 3) + nn34) + 3) + nn40) + 16) + 3) + nn50) + 3) + (bs50 - 3) ≤ MS by omega) (xt_w1 hB.1 m_3d9e18a6) (xt_cdOf hB.1 m_3d9e18a6) (hts _ m_c1bef504) hB hR hS hA (fun vv h55 bc56 bs56 kk56 nn56 H locs hk56 hn56 hq hEh55 hR hS => ?_) (fun XX ax h55 bc56 bs56 kk56 nn56 H locs hk56 hn56 hq hEh55 hex hR hS => ?_)
                · obtain ⟨rfl, hw⟩ := hq
                  have hw := hw hEh55
                  have hE := hE.tr hEh55
                  refine W.eq (g2 := F0 m 114 ls [.ref q52, .ref x0]) rfl ?_
                  have hk4 : xb_k h51 x0 = 7 := by rw [eh51]; exact hk4
                  have hk4 : xb_k h53 x0 = 7 := by rw [eh53]; exact xb_nk hqq52 hk4
                  have hk4 : xb_k h55 x0 = 7 := hEh55.k hk4
                  refine xb_putPF (C := R_World) (T := F_World) (N := 16) (ty := .object "StackHost$Row") (x := (some q52)) hx hb 6 13 hts fin_World t_World t_World_ok n_World hown hR hS hk4 (by decide) rfl (by decide) rfl (hts _ m_808dc970) (fun _ h9 => h9) rfl hnm rfl (by decide +kernel) (xb_pnO _ _).1 (xb_pnO _ _).2 (xb_d D_World_init 57 rfl) (fun H locs hR hS => ?_)
                  obtain ⟨h57, eh57⟩ : ∃ x : xb_H, x = xb_P h55 x0 13 (some q52) := ⟨_, rfl⟩
                  rw [← eh57] at hR
                  have hw := hw h57 eh57
                  have hE : xb_ext h0 h57 := by rw [eh57]; exact hE
                  exact xb_vret bc56 bs56 hx hb hr hlocks (show ((((((((((((((((((k + 1) + 1) + kk10) + 1) + kk16) + 1) + kk22) + 1) + kk28) + 1) + kk34) + 1) + kk40) + 1) + 1) + kk50) + 1) + kk56) + bc56 ≤ MC by omega) (show ((((((((((((((((((n + 24) + 3) + nn10) + 3) + nn16) + 3) + nn22) + 3) + nn28) + 3) + nn34) + 3) + nn40) + 16) + 3) + nn50) + 3) + nn56) + bs56 ≤ MS by omega) hE hR hS (xb_d D_World_init 58 rfl) hw
                · exact False.elim hq
              · exact False.elim hq
            · exact False.elim hq
          · exact False.elim hq
        · exact False.elim hq
      · exact False.elim hq
    · exact False.elim hq
  · exact False.elim hq

theorem m_ad29ee25 : (.methodLink "StackHost$World" 51 y_Row_at : Cond) ∈ xt_tbl := xt_in (xt_t6 (List.mem_of_getElem? (i := 121) (by decide +kernel))) (by decide +kernel)
theorem m_1dd644e2 : (.methodLink "StackHost$World" 79 y_StackModule_sameBytes : Cond) ∈ xt_tbl := xt_in (xt_t6 (List.mem_of_getElem? (i := 124) (by decide +kernel))) (by decide +kernel)
theorem m_5b8308b9 : (.methodLink "StackHost$World" 75 y_Row_lines : Cond) ∈ xt_tbl := xt_in (xt_t6 (List.mem_of_getElem? (i := 116) (by decide +kernel))) (by decide +kernel)
set_option maxRecDepth 100000 in
def T_World_instanceNamed : List (Nat × Instr × Nat) := [(0, .aload_n 0, 1), (1, .getfield 38, 3), (4, .invokevirtual 75, 3), (7, .iconst 1, 1), (8, .isub, 1), (9, .istore 4, 2), (11, .iload 4, 2), (13, .ifCond .lt 57, 3), (16, .aload_n 0, 1), (17, .getfield 38, 3), (20, .iload 4, 2), (22, .iconst 1, 1), (23, .invokevirtual 51, 3), (26, .iload_n 3, 1), (27, .if_icmp .ne 37, 3), (30, .aload_n 0, 1), (31, .getfield 41, 3), (34, .aload_n 0, 1), (35, .getfield 38, 3), (38, .iload 4, 2), (40, .iconst 0, 1), (41, .invokevirtual 51, 3), (44, .aload_n 1, 1), (45, .iload_n 2, 1), (46, .iload_n 3, 1), (47, .invokestatic 79, 3), (50, .ifCond .eq 14, 3), (53, .aload_n 0, 1), (54, .getfield 38, 3), (57, .iload 4, 2), (59, .iconst 2, 1), (60, .invokevirtual 51, 3), (63, .ireturn, 1), (64, .iinc 4 (-1), 3), (67, .goto (-56), 3), (70, .iconst (-1), 1), (71, .ireturn, 1)]
theorem D_World_instanceNamed : ∀ q ∈ T_World_instanceNamed, decode b_World_instanceNamed q.1 = .ok (q.2.1, q.2.2) := by decide +kernel

set_option maxHeartbeats 4000000 in
set_option maxRecDepth 100000 in
theorem am_World_instanceNamed_L64 (l : Launch) (hfl : l.flags = pinnedFlags ++ [noTraceFlag]) (D : va_G) (A : Nat → Prop) (σ MC MS : Nat) (h0 : xb_H) (Qr : Int32 → xb_H → Prop) (K11 : Nat → Nat → Int32 → Int32 → Int32 → xb_H → Prop) (hK11 : ∀ (x0 : Nat) (x1 : Nat) (x2 : Int32) (x3 : Int32) (x4 : Int32) (h : xb_H), K11 x0 x1 x2 x3 x4 h → xb_am l D A σ 3 MC MS h0 (fun v h _ _ => ∃ r, v = some (.int r) ∧ Qr r h) (fun _ _ _ _ => False) y_World_instanceNamed.cls y_World_instanceNamed.name b_World_instanceNamed 5 ([] : List ExceptionTableEntry) (some .int) 11 [(0, .ref x0), (1, .ref x1), (2, .int x2), (3, .int x3), (4, .int x4)] [] h 0 0) (x0 : Nat) (x1 : Nat) (x2 : Int32) (x3 : Int32) (x4 : Int32) (h : xb_H) (hw : w_World_instanceNamed_L64 K11 Qr x0 x1 x2 x3 x4 h) : xb_am l D A σ 3 MC MS h0 (fun v h _ _ => ∃ r, v = some (.int r) ∧ Qr r h) (fun _ _ _ _ => False) y_World_instanceNamed.cls y_World_instanceNamed.name b_World_instanceNamed 5 ([] : List ExceptionTableEntry) (some .int) 64 [(0, .ref x0), (1, .ref x1), (2, .int x2), (3, .int x3), (4, .int x4)] [] h 0 0 := by
  unfold w_World_instanceNamed_L64 at hw
  intro p e s m args below meth c hC H locs ls k n hE hl hR hS hk hn
  obtain ⟨hx, hb, hown, hlocks, htab, hml, hr, hB, hA, hnm⟩ := id hC
  have hts := hB.1.1.at args
  refine lv_iinc (v := (x4 + (-1))) (k := 4) hx hb (xb_d D_World_instanceNamed 33 rfl) hl rfl (by first | rfl | decide) (by decide) rfl (fun ls hl => ?_)
  have hl : lv_has ls 5 [(4, .int (x4 + (-1))), (0, .ref x0), (1, .ref x1), (2, .int x2), (3, .int x3)] := hl
  refine lv_goto (tgt := 11) hx hb (xb_d D_World_instanceNamed 34 rfl) rfl ?_
  exact hK11 x0 x1 x2 x3 (x4 + (-1)) h hw p e s m args below meth c hC H locs ls k n hE (lv_sub hl [1, 2, 3, 4, 0] rfl) hR hS (by omega) (by omega)

set_option maxHeartbeats 4000000 in
set_option maxRecDepth 100000 in
theorem am_World_instanceNamed_L11 (l : Launch) (hfl : l.flags = pinnedFlags ++ [noTraceFlag]) (D : va_G) (A : Nat → Prop) (σ MC MS : Nat) (h0 : xb_H) (Qr : Int32 → xb_H → Prop) (n9 : Nat) : ∀ (x0 : Nat) (x1 : Nat) (x2 : Int32) (x3 : Int32) (x4 : Int32) (h : xb_H), w_World_instanceNamed_L11 Qr n9 x0 x1 x2 x3 x4 h → xb_am l D A σ 3 MC MS h0 (fun v h _ _ => ∃ r, v = some (.int r) ∧ Qr r h) (fun _ _ _ _ => False) y_World_instanceNamed.cls y_World_instanceNamed.name b_World_instanceNamed 5 ([] : List ExceptionTableEntry) (some .int) 11 [(0, .ref x0), (1, .ref x1), (2, .int x2), (3, .int x3), (4, .int x4)] [] h 0 0 := by
  induction n9 with
  | zero => intro x0 x1 x2 x3 x4 h hw; exact False.elim hw
  | succ n9 ih =>
    intro x0 x1 x2 x3 x4 h hw
    unfold w_World_instanceNamed_L11 at hw
    intro p e s m args below meth c hC H locs ls k n hE hl hR hS hk hn
    obtain ⟨hx, hb, hown, hlocks, htab, hml, hr, hB, hA, hnm⟩ := id hC
    have hts := hB.1.1.at args
    refine lv_iload hx hb (xb_d D_World_instanceNamed 6 rfl) (lv_at hl 4 rfl) ?_
    refine lv_if_lt (tgt := 70) hx hb (xb_d D_World_instanceNamed 7 rfl) rfl (fun hc1 => ?_) (fun hc1 => ?_)
    · have hw := hw.1 hc1
      refine lv_iconst (v := (-1)) hx hb (xb_d D_World_instanceNamed 35 rfl) (by decide) ?_
      exact xb_iret 0 0 hx hb hr hlocks (show k + 0 ≤ MC by omega) (show n + 0 ≤ MS by omega) hE hR hS (xb_d D_World_instanceNamed 36 rfl) hw
    · have hw := hw.2 hc1
      refine lv_aload_n hx hb (xb_d D_World_instanceNamed 8 rfl) rfl (lv_at hl 0 rfl) ?_
      obtain ⟨hk2, hw⟩ := hw
      refine xb_getP (C := R_World) (T := F_World) (N := 16) hx hb 6 9 hts fin_World hown hR hk2 (by decide) rfl (by decide) rfl (hts _ m_99b823f6) (fun _ h9 => h9) (xb_d D_World_instanceNamed 9 rfl) ?_
      obtain ⟨b3, eb3, hw⟩ := hw
      refine xb_some eb3 ?_
      refine lv_iload hx hb (xb_d D_World_instanceNamed 10 rfl) (lv_at hl 4 rfl) ?_
      refine lv_iconst (v := 1) hx hb (xb_d D_World_instanceNamed 11 rfl) (by decide) ?_
      obtain ⟨hk4, hw⟩ := hw
      refine xb_call0 (D := D) (A := A) (σ := σ) (h := h) (d := 2) (maxL := 3) (rest := []) (av := [.ref b3, .int x4, .int 1]) (fun T hT X => by obtain ⟨cb9, ra9, rb9, rc9⟩ := xb_recv (ci := 1) hR rfl hk4 (by decide); exact xt_invV X hx hown (hts _ m_ad29ee25) (hts _ m_8e233096) (hts _ m_27eed10c) (xt_sigOf (hts _ m_ff1c70ae)) nm_Row_at (by rw [hT]; exact ra9) rb9 rc9 (g := F0 m 23 ls [.int 1, .int x4, .ref b3]) rfl (argsL := [.int x4, .int 1]) (rest := []) rfl rfl (by rw [hb]; exact (xb_d D_World_instanceNamed 12 rfl))) (ok_Row_at l hfl D A σ b3 x4 1 h _ hw) (hml.trans hl.1.symm) (by rw [hb]; exact (xb_d D_World_instanceNamed 12 rfl)) (Nat.le_of_ble_eq_true rfl) (Nat.le_of_ble_eq_true rfl) (Nat.le_of_ble_eq_true rfl) (show k ≤ MC by omega) (show n ≤ MS by omega) (xt_w1 hB.1 m_ff1c70ae) (xt_cdOf hB.1 m_ff1c70ae) (hts _ m_c1bef504) hB hR hS hA (fun vv h5 H locs hq hEh5 hR hS => ?_)
      obtain ⟨r6, rfl, hw⟩ := hq
      have hw := hw hEh5
      have hE := hE.tr hEh5
      refine W.eq (g2 := F0 m 26 ls [.int r6]) rfl ?_
      refine lv_iload_n hx hb (xb_d D_World_instanceNamed 13 rfl) rfl (lv_at hl 3 rfl) ?_
      refine lv_icmp_ne (tgt := 64) hx hb (xb_d D_World_instanceNamed 14 rfl) rfl (fun hc7 => ?_) (fun hc7 => ?_)
      · have hw := hw.1 hc7
        exact am_World_instanceNamed_L64 l hfl D A σ MC MS h0 Qr (w_World_instanceNamed_L11 Qr n9) ih x0 x1 x2 x3 x4 h5 hw p e s m args below meth c hC H locs ls k n hE (lv_sub hl [0, 1, 2, 3, 4] rfl) hR hS (by omega) (by omega)
      · have hw := hw.2 hc7
        refine lv_aload_n hx hb (xb_d D_World_instanceNamed 15 rfl) rfl (lv_at hl 0 rfl) ?_
        have hk2 : xb_k h5 x0 = 7 := hEh5.k hk2
        refine xb_getP (C := R_World) (T := F_World) (N := 16) hx hb 6 10 hts fin_World hown hR hk2 (by decide) rfl (by decide) rfl (hts _ m_fb6c2688) (fun _ h9 => h9) (xb_d D_World_instanceNamed 16 rfl) ?_
        obtain ⟨b8, eb8, hw⟩ := hw
        refine xb_some eb8 ?_
        refine lv_aload_n hx hb (xb_d D_World_instanceNamed 17 rfl) rfl (lv_at hl 0 rfl) ?_
        refine xb_getP (C := R_World) (T := F_World) (N := 16) hx hb 6 9 hts fin_World hown hR hk2 (by decide) rfl (by decide) rfl (hts _ m_99b823f6) (fun _ h9 => h9) (xb_d D_World_instanceNamed 18 rfl) ?_
        obtain ⟨b9, eb9, hw⟩ := hw
        refine xb_some eb9 ?_
        refine lv_iload hx hb (xb_d D_World_instanceNamed 19 rfl) (lv_at hl 4 rfl) ?_
        refine lv_iconst (v := 0) hx hb (xb_d D_World_instanceNamed 20 rfl) (by decide) ?_
        obtain ⟨hk10, hw⟩ := hw
        refine xb_call0 (D := D) (A := A) (σ := σ) (h := h5) (d := 2) (maxL := 3) (rest := [.ref b8]) (av := [.ref b9, .int x4, .int 0]) (fun T hT X => by obtain ⟨cb9, ra9, rb9, rc9⟩ := xb_recv (ci := 1) hR rfl hk10 (by decide); exact xt_invV X hx hown (hts _ m_ad29ee25) (hts _ m_8e233096) (hts _ m_27eed10c) (xt_sigOf (hts _ m_ff1c70ae)) nm_Row_at (by rw [hT]; exact ra9) rb9 rc9 (g := F0 m 41 ls [.int 0, .int x4, .ref b9, .ref b8]) rfl (argsL := [.int x4, .int 0]) (rest := [.ref b8]) rfl rfl (by rw [hb]; exact (xb_d D_World_instanceNamed 21 rfl))) (ok_Row_at l hfl D A σ b9 x4 0 h5 _ hw) (hml.trans hl.1.symm) (by rw [hb]; exact (xb_d D_World_instanceNamed 21 rfl)) (Nat.le_of_ble_eq_true rfl) (Nat.le_of_ble_eq_true rfl) (Nat.le_of_ble_eq_true rfl) (show k ≤ MC by omega) (show n ≤ MS by omega) (xt_w1 hB.1 m_ff1c70ae) (xt_cdOf hB.1 m_ff1c70ae) (hts _ m_c1bef504) hB hR hS hA (fun vv h11 H locs hq hEh11 hR hS => ?_)
        obtain ⟨r12, rfl, hw⟩ := hq
        have hw := hw hEh11
        have hE := hE.tr hEh11
        refine W.eq (g2 := F0 m 44 ls [.int r12, .ref b8]) rfl ?_
        refine lv_aload_n hx hb (xb_d D_World_instanceNamed 22 rfl) rfl (lv_at hl 1 rfl) ?_
        refine lv_iload_n hx hb (xb_d D_World_instanceNamed 23 rfl) rfl (lv_at hl 2 rfl) ?_
        refine lv_iload_n hx hb (xb_d D_World_instanceNamed 24 rfl) rfl (lv_at hl 3 rfl) ?_
        refine xb_call0 (D := D) (A := A) (σ := σ) (h := h11) (d := 2) (maxL := 6) (rest := []) (av := [.ref b8, .int r12, .ref x1, .int x2, .int x3]) (fun T hT X => xt_invS X hx hown (hts _ m_1dd644e2) (hts _ m_60db31ff) (hts _ m_9c375545) (xt_sgS (hts _ m_e49b5738)).1 (xt_sgS (hts _ m_e49b5738)).2 nm_StackModule_sameBytes (g := F0 m 47 ls [.int x3, .int x2, .ref x1, .int r12, .ref b8]) rfl (argsL := [.ref b8, .int r12, .ref x1, .int x2, .int x3]) (rest := []) rfl rfl (by rw [hb]; exact (xb_d D_World_instanceNamed 25 rfl))) (ok_StackModule_sameBytes l hfl D A σ b8 r12 x1 x2 x3 h11 _ hw) (hml.trans hl.1.symm) (by rw [hb]; exact (xb_d D_World_instanceNamed 25 rfl)) (Nat.le_of_ble_eq_true rfl) (Nat.le_of_ble_eq_true rfl) (Nat.le_of_ble_eq_true rfl) (show k ≤ MC by omega) (show n ≤ MS by omega) (xt_w1 hB.1 m_e49b5738) (xt_cdOf hB.1 m_e49b5738) (hts _ m_9c375545) hB hR hS hA (fun vv h13 H locs hq hEh13 hR hS => ?_)
        obtain ⟨r14, rfl, hw⟩ := hq
        have hw := hw hEh13
        have hE := hE.tr hEh13
        refine W.eq (g2 := F0 m 50 ls [.int r14]) rfl ?_
        refine lv_if_eq (tgt := 64) hx hb (xb_d D_World_instanceNamed 26 rfl) rfl (fun hc15 => ?_) (fun hc15 => ?_)
        · have hw := hw.1 hc15
          exact am_World_instanceNamed_L64 l hfl D A σ MC MS h0 Qr (w_World_instanceNamed_L11 Qr n9) ih x0 x1 x2 x3 x4 h13 hw p e s m args below meth c hC H locs ls k n hE (lv_sub hl [0, 1, 2, 3, 4] rfl) hR hS (by omega) (by omega)
        · have hw := hw.2 hc15
          refine lv_aload_n hx hb (xb_d D_World_instanceNamed 27 rfl) rfl (lv_at hl 0 rfl) ?_
          have hk2 : xb_k h11 x0 = 7 := hEh11.k hk2
          have hk2 : xb_k h13 x0 = 7 := hEh13.k hk2
          refine xb_getP (C := R_World) (T := F_World) (N := 16) hx hb 6 9 hts fin_World hown hR hk2 (by decide) rfl (by decide) rfl (hts _ m_99b823f6) (fun _ h9 => h9) (xb_d D_World_instanceNamed 28 rfl) ?_
          obtain ⟨b16, eb16, hw⟩ := hw
          refine xb_some eb16 ?_
          refine lv_iload hx hb (xb_d D_World_instanceNamed 29 rfl) (lv_at hl 4 rfl) ?_
          refine lv_iconst (v := 2) hx hb (xb_d D_World_instanceNamed 30 rfl) (by decide) ?_
          obtain ⟨hk17, hw⟩ := hw
          refine xb_call0 (D := D) (A := A) (σ := σ) (h := h13) (d := 2) (maxL := 3) (rest := []) (av := [.ref b16, .int x4, .int 2]) (fun T hT X => by obtain ⟨cb9, ra9, rb9, rc9⟩ := xb_recv (ci := 1) hR rfl hk17 (by decide); exact xt_invV X hx hown (hts _ m_ad29ee25) (hts _ m_8e233096) (hts _ m_27eed10c) (xt_sigOf (hts _ m_ff1c70ae)) nm_Row_at (by rw [hT]; exact ra9) rb9 rc9 (g := F0 m 60 ls [.int 2, .int x4, .ref b16]) rfl (argsL := [.int x4, .int 2]) (rest := []) rfl rfl (by rw [hb]; exact (xb_d D_World_instanceNamed 31 rfl))) (ok_Row_at l hfl D A σ b16 x4 2 h13 _ hw) (hml.trans hl.1.symm) (by rw [hb]; exact (xb_d D_World_instanceNamed 31 rfl)) (Nat.le_of_ble_eq_true rfl) (Nat.le_of_ble_eq_true rfl) (Nat.le_of_ble_eq_true rfl) (show k ≤ MC by omega) (show n ≤ MS by omega) (xt_w1 hB.1 m_ff1c70ae) (xt_cdOf hB.1 m_ff1c70ae) (hts _ m_c1bef504) hB hR hS hA (fun vv h18 H locs hq hEh18 hR hS => ?_)
          obtain ⟨r19, rfl, hw⟩ := hq
          have hw := hw hEh18
          have hE := hE.tr hEh18
          refine W.eq (g2 := F0 m 63 ls [.int r19]) rfl ?_
          exact xb_iret 0 0 hx hb hr hlocks (show k + 0 ≤ MC by omega) (show n + 0 ≤ MS by omega) hE hR hS (xb_d D_World_instanceNamed 32 rfl) hw

set_option maxHeartbeats 4000000 in
set_option maxRecDepth 100000 in
theorem ok_World_instanceNamed (l : Launch) (hfl : l.flags = pinnedFlags ++ [noTraceFlag]) (D : va_G) (A : Nat → Prop) (σ : Nat) (x0 : Nat) (x1 : Nat) (x2 : Int32) (x3 : Int32) (h : xb_H) (Qr : Int32 → xb_H → Prop) (hw : w_World_instanceNamed x0 x1 x2 x3 h Qr) : xb_Met l y_World_instanceNamed [.code y_World_instanceNamed b_World_instanceNamed 5 (some .int)] (xb_rm 3 0 0) (xb_Pc D A σ h [.ref x0, .ref x1, .int x2, .int x3]) (xb_Qc D A h 0 0 (fun v h _ _ => ∃ r, v = some (.int r) ∧ Qr r h) (fun _ _ _ _ => False)) A := by
  refine xb_ofAm (cc := b_World_instanceNamed) (by decide) (Nat.le_of_ble_eq_true rfl) ?_
  unfold w_World_instanceNamed at hw
  show xb_am l D A σ 3 0 0 h (fun v h _ _ => ∃ r, v = some (.int r) ∧ Qr r h) (fun _ _ _ _ => False) y_World_instanceNamed.cls y_World_instanceNamed.name b_World_instanceNamed 5 ([] : List ExceptionTableEntry) (some .int) 0 [(0, .ref x0), (1, .ref x1), (2, .int x2), (3, .int x3)] [] h 0 0
  obtain ⟨MC, hMC⟩ : ∃ x, x = 0 := ⟨_, rfl⟩
  obtain ⟨MS, hMS⟩ : ∃ x, x = 0 := ⟨_, rfl⟩
  rw [show xb_am l D A σ 3 0 0 = xb_am l D A σ 3 MC MS by rw [hMC, hMS]]
  obtain ⟨h0, hh0⟩ : ∃ x, x = h := ⟨_, rfl⟩
  rw [show xb_am l D A σ 3 MC MS h = xb_am l D A σ 3 MC MS h0 by rw [hh0]]
  intro p e s m args below meth c hC H locs ls k n hE hl hR hS hk hn
  obtain ⟨hx, hb, hown, hlocks, htab, hml, hr, hB, hA, hnm⟩ := id hC
  have hts := hB.1.1.at args
  refine lv_aload_n hx hb (xb_d D_World_instanceNamed 0 rfl) rfl (lv_at hl 0 rfl) ?_
  obtain ⟨hk1, hw⟩ := hw
  refine xb_getP (C := R_World) (T := F_World) (N := 16) hx hb 6 9 hts fin_World hown hR hk1 (by decide) rfl (by decide) rfl (hts _ m_99b823f6) (fun _ h9 => h9) (xb_d D_World_instanceNamed 1 rfl) ?_
  obtain ⟨b2, eb2, hw⟩ := hw
  refine xb_some eb2 ?_
  obtain ⟨hk3, hw⟩ := hw
  refine xb_call0 (D := D) (A := A) (σ := σ) (h := h) (d := 2) (maxL := 1) (rest := []) (av := [.ref b2]) (fun T hT X => by obtain ⟨cb9, ra9, rb9, rc9⟩ := xb_recv (ci := 1) hR rfl hk3 (by decide); exact xt_invV X hx hown (hts _ m_5b8308b9) (hts _ m_ded65609) (hts _ m_a4161156) (xt_sigOf (hts _ m_83ba3721)) nm_Row_lines (by rw [hT]; exact ra9) rb9 rc9 (g := F0 m 4 ls [.ref b2]) rfl (argsL := []) (rest := []) rfl rfl (by rw [hb]; exact (xb_d D_World_instanceNamed 2 rfl))) (ok_Row_lines l hfl D A σ b2 h _ hw) (hml.trans hl.1.symm) (by rw [hb]; exact (xb_d D_World_instanceNamed 2 rfl)) (Nat.le_of_ble_eq_true rfl) (Nat.le_of_ble_eq_true rfl) (Nat.le_of_ble_eq_true rfl) (show k ≤ MC by omega) (show n ≤ MS by omega) (xt_w1 hB.1 m_83ba3721) (xt_cdOf hB.1 m_83ba3721) (hts _ m_c1bef504) hB hR hS hA (fun vv h4 H locs hq hEh4 hR hS => ?_)
  obtain ⟨r5, rfl, hw⟩ := hq
  have hw := hw hEh4
  have hE := hE.tr hEh4
  refine W.eq (g2 := F0 m 7 ls [.int r5]) rfl ?_
  refine lv_iconst (v := 1) hx hb (xb_d D_World_instanceNamed 3 rfl) (by decide) ?_
  refine lv_isub hx hb (xb_d D_World_instanceNamed 4 rfl) ?_
  obtain ⟨v6, ev6⟩ : ∃ x : Int32, x = (r5 - 1) := ⟨_, rfl⟩
  have hw := hw v6 ev6
  refine xt_numi (y := v6) ev6.symm ?_
  refine lv_istore hx hb (xb_d D_World_instanceNamed 5 rfl) hl (by decide) rfl (fun ls hl => ?_)
  have hl : lv_has ls 5 [(4, .int v6), (0, .ref x0), (1, .ref x1), (2, .int x2), (3, .int x3)] := hl
  obtain ⟨n8, hw⟩ := hw
  exact am_World_instanceNamed_L11 l hfl D A σ MC MS h0 Qr n8 x0 x1 x2 x3 v6 h4 hw p e s m args below meth c hC H locs ls k n hE (lv_sub hl [1, 2, 3, 4, 0] rfl) hR hS (by omega) (by omega)

theorem m_25314627 : (.methodLink "StackHost$World" 232 y_Row_longAt : Cond) ∈ xt_tbl := xt_in (xt_t6 (List.mem_of_getElem? (i := 173) (by decide +kernel))) (by decide +kernel)
theorem m_c3be9c29 : (.constantLong "StackHost$World" 236 (-1) : Cond) ∈ xt_tbl := xt_in (xt_t6 (List.mem_of_getElem? (i := 174) (by decide +kernel))) (by decide +kernel)
set_option maxRecDepth 100000 in
def T_World_isWithin : List (Nat × Instr × Nat) := [(0, .aload_n 0, 1), (1, .iload_n 1, 1), (2, .iconst 2, 1), (3, .invokevirtual 232, 3), (6, .lstore 5, 2), (8, .iload_n 2, 1), (9, .i2l, 1), (10, .aload_n 0, 1), (11, .iload_n 1, 1), (12, .iconst 1, 1), (13, .invokevirtual 232, 3), (16, .lcmp, 1), (17, .ifCond .lt 31, 3), (20, .lload 5, 2), (22, .ldc2_w 236, 3), (25, .lcmp, 1), (26, .ifCond .eq 18, 3), (29, .lload_n 3, 1), (30, .ldc2_w 236, 3), (33, .lcmp, 1), (34, .ifCond .eq 14, 3), (37, .lload_n 3, 1), (38, .lload 5, 2), (40, .lcmp, 1), (41, .ifCond .gt 7, 3), (44, .iconst 1, 1), (45, .goto 4, 3), (48, .iconst 0, 1), (49, .ireturn, 1)]
theorem D_World_isWithin : ∀ q ∈ T_World_isWithin, decode b_World_isWithin q.1 = .ok (q.2.1, q.2.2) := by decide +kernel

set_option maxHeartbeats 4000000 in
set_option maxRecDepth 100000 in
theorem am_World_isWithin_L49 (l : Launch) (hfl : l.flags = pinnedFlags ++ [noTraceFlag]) (D : va_G) (A : Nat → Prop) (σ MC MS : Nat) (h0 : xb_H) (Qr : Int32 → xb_H → Prop) (y0 : Int32) (h : xb_H) (hw : w_World_isWithin_L49 Qr y0 h) : xb_am l D A σ 3 MC MS h0 (fun v h _ _ => ∃ r, v = some (.int r) ∧ Qr r h) (fun _ _ _ _ => False) y_World_isWithin.cls y_World_isWithin.name b_World_isWithin 7 ([] : List ExceptionTableEntry) (some .boolean) 49 [] [.int y0] h 0 0 := by
  unfold w_World_isWithin_L49 at hw
  intro p e s m args below meth c hC H locs ls k n hE hl hR hS hk hn
  obtain ⟨hx, hb, hown, hlocks, htab, hml, hr, hB, hA, hnm⟩ := id hC
  have hts := hB.1.1.at args
  exact xb_zret 0 0 hx hb hr hlocks (show k + 0 ≤ MC by omega) (show n + 0 ≤ MS by omega) hw.1 hE hR hS (xb_d D_World_isWithin 28 rfl) hw.2

set_option maxHeartbeats 4000000 in
set_option maxRecDepth 100000 in
theorem am_World_isWithin_L48 (l : Launch) (hfl : l.flags = pinnedFlags ++ [noTraceFlag]) (D : va_G) (A : Nat → Prop) (σ MC MS : Nat) (h0 : xb_H) (Qr : Int32 → xb_H → Prop) (h : xb_H) (hw : w_World_isWithin_L48 Qr h) : xb_am l D A σ 3 MC MS h0 (fun v h _ _ => ∃ r, v = some (.int r) ∧ Qr r h) (fun _ _ _ _ => False) y_World_isWithin.cls y_World_isWithin.name b_World_isWithin 7 ([] : List ExceptionTableEntry) (some .boolean) 48 [] [] h 0 0 := by
  unfold w_World_isWithin_L48 at hw
  intro p e s m args below meth c hC H locs ls k n hE hl hR hS hk hn
  obtain ⟨hx, hb, hown, hlocks, htab, hml, hr, hB, hA, hnm⟩ := id hC
  have hts := hB.1.1.at args
  refine lv_iconst (v := 0) hx hb (xb_d D_World_isWithin 27 rfl) (by decide) ?_
  exact am_World_isWithin_L49 l hfl D A σ MC MS h0 Qr 0 h hw p e s m args below meth c hC H locs ls k n hE (lv_sub hl [] rfl) hR hS (by omega) (by omega)

set_option maxHeartbeats 4000000 in
set_option maxRecDepth 100000 in
theorem am_World_isWithin_L44 (l : Launch) (hfl : l.flags = pinnedFlags ++ [noTraceFlag]) (D : va_G) (A : Nat → Prop) (σ MC MS : Nat) (h0 : xb_H) (Qr : Int32 → xb_H → Prop) (h : xb_H) (hw : w_World_isWithin_L44 Qr h) : xb_am l D A σ 3 MC MS h0 (fun v h _ _ => ∃ r, v = some (.int r) ∧ Qr r h) (fun _ _ _ _ => False) y_World_isWithin.cls y_World_isWithin.name b_World_isWithin 7 ([] : List ExceptionTableEntry) (some .boolean) 44 [] [] h 0 0 := by
  unfold w_World_isWithin_L44 at hw
  intro p e s m args below meth c hC H locs ls k n hE hl hR hS hk hn
  obtain ⟨hx, hb, hown, hlocks, htab, hml, hr, hB, hA, hnm⟩ := id hC
  have hts := hB.1.1.at args
  refine lv_iconst (v := 1) hx hb (xb_d D_World_isWithin 25 rfl) (by decide) ?_
  refine lv_goto (tgt := 49) hx hb (xb_d D_World_isWithin 26 rfl) rfl ?_
  exact am_World_isWithin_L49 l hfl D A σ MC MS h0 Qr 1 h hw p e s m args below meth c hC H locs ls k n hE (lv_sub hl [] rfl) hR hS (by omega) (by omega)

set_option maxHeartbeats 4000000 in
set_option maxRecDepth 100000 in
theorem ok_World_isWithin (l : Launch) (hfl : l.flags = pinnedFlags ++ [noTraceFlag]) (D : va_G) (A : Nat → Prop) (σ : Nat) (x0 : Nat) (x1 : Int32) (x2 : Int32) (x3 : Int64) (h : xb_H) (Qr : Int32 → xb_H → Prop) (hw : w_World_isWithin x0 x1 x2 x3 h Qr) : xb_Met l y_World_isWithin [.code y_World_isWithin b_World_isWithin 7 (some .boolean)] (xb_rm 3 0 0) (xb_Pc D A σ h [.ref x0, .int x1, .int x2, .long x3]) (xb_Qc D A h 0 0 (fun v h _ _ => ∃ r, v = some (.int r) ∧ Qr r h) (fun _ _ _ _ => False)) A := by
  refine xb_ofAm (cc := b_World_isWithin) (by decide) (Nat.le_of_ble_eq_true rfl) ?_
  unfold w_World_isWithin at hw
  show xb_am l D A σ 3 0 0 h (fun v h _ _ => ∃ r, v = some (.int r) ∧ Qr r h) (fun _ _ _ _ => False) y_World_isWithin.cls y_World_isWithin.name b_World_isWithin 7 ([] : List ExceptionTableEntry) (some .boolean) 0 [(0, .ref x0), (1, .int x1), (2, .int x2), (3, .long x3)] [] h 0 0
  obtain ⟨MC, hMC⟩ : ∃ x, x = 0 := ⟨_, rfl⟩
  obtain ⟨MS, hMS⟩ : ∃ x, x = 0 := ⟨_, rfl⟩
  rw [show xb_am l D A σ 3 0 0 = xb_am l D A σ 3 MC MS by rw [hMC, hMS]]
  obtain ⟨h0, hh0⟩ : ∃ x, x = h := ⟨_, rfl⟩
  rw [show xb_am l D A σ 3 MC MS h = xb_am l D A σ 3 MC MS h0 by rw [hh0]]
  intro p e s m args below meth c hC H locs ls k n hE hl hR hS hk hn
  obtain ⟨hx, hb, hown, hlocks, htab, hml, hr, hB, hA, hnm⟩ := id hC
  have hts := hB.1.1.at args
  refine lv_aload_n hx hb (xb_d D_World_isWithin 0 rfl) rfl (lv_at hl 0 rfl) ?_
  refine lv_iload_n hx hb (xb_d D_World_isWithin 1 rfl) rfl (lv_at hl 1 rfl) ?_
  refine lv_iconst (v := 2) hx hb (xb_d D_World_isWithin 2 rfl) (by decide) ?_
  obtain ⟨hk1, hw⟩ := hw
  refine xb_call0 (D := D) (A := A) (σ := σ) (h := h) (d := 2) (maxL := 3) (rest := []) (av := [.ref x0, .int x1, .int 2]) (fun T hT X => by obtain ⟨cb9, ra9, rb9, rc9⟩ := xb_recv (ci := 1) hR rfl hk1 (by decide); exact xt_invV X hx hown (hts _ m_25314627) (hts _ m_8db3b24f) (hts _ m_78dc30a4) (xt_sigOf (hts _ m_a4177401)) nm_Row_longAt (by rw [hT]; exact ra9) rb9 rc9 (g := F0 m 3 ls [.int 2, .int x1, .ref x0]) rfl (argsL := [.int x1, .int 2]) (rest := []) rfl rfl (by rw [hb]; exact (xb_d D_World_isWithin 3 rfl))) (ok_Row_longAt l hfl D A σ x0 x1 2 h _ hw) (hml.trans hl.1.symm) (by rw [hb]; exact (xb_d D_World_isWithin 3 rfl)) (Nat.le_of_ble_eq_true rfl) (Nat.le_of_ble_eq_true rfl) (Nat.le_of_ble_eq_true rfl) (show k ≤ MC by omega) (show n ≤ MS by omega) (xt_w1 hB.1 m_a4177401) (xt_cdOf hB.1 m_a4177401) (hts _ m_c1bef504) hB hR hS hA (fun vv h2 H locs hq hEh2 hR hS => ?_)
  obtain ⟨r3, rfl, hw⟩ := hq
  have hw := hw hEh2
  have hE := hE.tr hEh2
  refine W.eq (g2 := F0 m 6 ls [.long r3]) rfl ?_
  refine lv_lstore hx hb (xb_d D_World_isWithin 4 rfl) hl (by decide) rfl (fun ls hl => ?_)
  have hl : lv_has ls 7 [(5, .long r3), (0, .ref x0), (1, .int x1), (2, .int x2), (3, .long x3)] := hl
  refine lv_iload_n hx hb (xb_d D_World_isWithin 5 rfl) rfl (lv_at hl 3 rfl) ?_
  refine lv_i2l hx hb (xb_d D_World_isWithin 6 rfl) rfl ?_
  refine lv_aload_n hx hb (xb_d D_World_isWithin 7 rfl) rfl (lv_at hl 1 rfl) ?_
  refine lv_iload_n hx hb (xb_d D_World_isWithin 8 rfl) rfl (lv_at hl 2 rfl) ?_
  refine lv_iconst (v := 1) hx hb (xb_d D_World_isWithin 9 rfl) (by decide) ?_
  have hk1 : xb_k h2 x0 = 2 := hEh2.k hk1
  refine xb_call0 (D := D) (A := A) (σ := σ) (h := h2) (d := 2) (maxL := 3) (rest := [.long (Int32.toInt64 x2)]) (av := [.ref x0, .int x1, .int 1]) (fun T hT X => by obtain ⟨cb9, ra9, rb9, rc9⟩ := xb_recv (ci := 1) hR rfl hk1 (by decide); exact xt_invV X hx hown (hts _ m_25314627) (hts _ m_8db3b24f) (hts _ m_78dc30a4) (xt_sigOf (hts _ m_a4177401)) nm_Row_longAt (by rw [hT]; exact ra9) rb9 rc9 (g := F0 m 13 ls [.int 1, .int x1, .ref x0, .long (Int32.toInt64 x2)]) rfl (argsL := [.int x1, .int 1]) (rest := [.long (Int32.toInt64 x2)]) rfl rfl (by rw [hb]; exact (xb_d D_World_isWithin 10 rfl))) (ok_Row_longAt l hfl D A σ x0 x1 1 h2 _ hw) (hml.trans hl.1.symm) (by rw [hb]; exact (xb_d D_World_isWithin 10 rfl)) (Nat.le_of_ble_eq_true rfl) (Nat.le_of_ble_eq_true rfl) (Nat.le_of_ble_eq_true rfl) (show k ≤ MC by omega) (show n ≤ MS by omega) (xt_w1 hB.1 m_a4177401) (xt_cdOf hB.1 m_a4177401) (hts _ m_c1bef504) hB hR hS hA (fun vv h4 H locs hq hEh4 hR hS => ?_)
  obtain ⟨r5, rfl, hw⟩ := hq
  have hw := hw hEh4
  have hE := hE.tr hEh4
  refine W.eq (g2 := F0 m 16 ls [.long r5, .long (Int32.toInt64 x2)]) rfl ?_
  refine xb_lc_lt (tgt := 48) hx hb (xb_d D_World_isWithin 11 rfl) (xb_d D_World_isWithin 12 rfl) rfl (fun hc6 => ?_) (fun hc6 => ?_)
  · have hw := hw.1 hc6
    exact am_World_isWithin_L48 l hfl D A σ MC MS h0 Qr h4 hw p e s m args below meth c hC H locs ls k n hE (lv_sub hl [] rfl) hR hS (by omega) (by omega)
  · have hw := hw.2 hc6
    refine lv_lload hx hb (xb_d D_World_isWithin 13 rfl) (lv_at hl 0 rfl) ?_
    refine lv_ldc2 (v := (-1)) hx hb hown (hts _ m_c3be9c29) (xb_d D_World_isWithin 14 rfl) ?_
    refine xb_lc_eq (tgt := 44) hx hb (xb_d D_World_isWithin 15 rfl) (xb_d D_World_isWithin 16 rfl) rfl (fun hc7 => ?_) (fun hc7 => ?_)
    · have hw := hw.1 hc7
      exact am_World_isWithin_L44 l hfl D A σ MC MS h0 Qr h4 hw p e s m args below meth c hC H locs ls k n hE (lv_sub hl [] rfl) hR hS (by omega) (by omega)
    · have hw := hw.2 hc7
      refine lv_lload_n hx hb (xb_d D_World_isWithin 17 rfl) rfl (lv_at hl 4 rfl) ?_
      refine lv_ldc2 (v := (-1)) hx hb hown (hts _ m_c3be9c29) (xb_d D_World_isWithin 18 rfl) ?_
      refine xb_lc_eq (tgt := 48) hx hb (xb_d D_World_isWithin 19 rfl) (xb_d D_World_isWithin 20 rfl) rfl (fun hc8 => ?_) (fun hc8 => ?_)
      · have hw := hw.1 hc8
        exact am_World_isWithin_L48 l hfl D A σ MC MS h0 Qr h4 hw p e s m args below meth c hC H locs ls k n hE (lv_sub hl [] rfl) hR hS (by omega) (by omega)
      · have hw := hw.2 hc8
        refine lv_lload_n hx hb (xb_d D_World_isWithin 21 rfl) rfl (lv_at hl 4 rfl) ?_
        refine lv_lload hx hb (xb_d D_World_isWithin 22 rfl) (lv_at hl 0 rfl) ?_
        refine xb_lc_gt (tgt := 48) hx hb (xb_d D_World_isWithin 23 rfl) (xb_d D_World_isWithin 24 rfl) rfl (fun hc9 => ?_) (fun hc9 => ?_)
        · have hw := hw.1 hc9
          exact am_World_isWithin_L48 l hfl D A σ MC MS h0 Qr h4 hw p e s m args below meth c hC H locs ls k n hE (lv_sub hl [] rfl) hR hS (by omega) (by omega)
        · have hw := hw.2 hc9
          exact am_World_isWithin_L44 l hfl D A σ MC MS h0 Qr h4 hw p e s m args below meth c hC H locs ls k n hE (lv_sub hl [] rfl) hR hS (by omega) (by omega)

theorem m_64a182b7 : (.fieldLink "StackHost$World" 239 "StackHost$StackModule" "imported" "[I" : Cond) ∈ xt_tbl := xt_in (xt_t3 (List.mem_of_getElem? (i := 116) (by decide +kernel))) (by decide +kernel)
set_option maxRecDepth 100000 in
def T_World_ownLeast : List (Nat × Instr × Nat) := [(0, .aload_n 1, 1), (1, .invokevirtual 75, 3), (4, .aload_n 0, 1), (5, .getfield 239, 3), (8, .iload_n 2, 1), (9, .iaload, 1), (10, .if_icmp .le 17, 3), (13, .aload_n 1, 1), (14, .aload_n 0, 1), (15, .getfield 239, 3), (18, .iload_n 2, 1), (19, .iaload, 1), (20, .iconst 1, 1), (21, .invokevirtual 232, 3), (24, .goto 4, 3), (27, .lconst 0, 1), (28, .lreturn, 1)]
theorem D_World_ownLeast : ∀ q ∈ T_World_ownLeast, decode b_World_ownLeast q.1 = .ok (q.2.1, q.2.2) := by decide +kernel

set_option maxHeartbeats 4000000 in
set_option maxRecDepth 100000 in
theorem am_World_ownLeast_L28 (l : Launch) (hfl : l.flags = pinnedFlags ++ [noTraceFlag]) (D : va_G) (A : Nat → Prop) (σ MC MS : Nat) (h0 : xb_H) (Qr : Int64 → xb_H → Prop) (y0 : Int64) (h : xb_H) (hw : w_World_ownLeast_L28 Qr y0 h) : xb_am l D A σ 3 MC MS h0 (fun v h _ _ => ∃ r, v = some (.long r) ∧ Qr r h) (fun _ _ _ _ => False) y_World_ownLeast.cls y_World_ownLeast.name b_World_ownLeast 3 ([] : List ExceptionTableEntry) (some .long) 28 [] [.long y0] h 0 0 := by
  unfold w_World_ownLeast_L28 at hw
  intro p e s m args below meth c hC H locs ls k n hE hl hR hS hk hn
  obtain ⟨hx, hb, hown, hlocks, htab, hml, hr, hB, hA, hnm⟩ := id hC
  have hts := hB.1.1.at args
  exact xb_lret 0 0 hx hb hr hlocks (show k + 0 ≤ MC by omega) (show n + 0 ≤ MS by omega) hE hR hS (xb_d D_World_ownLeast 16 rfl) hw

set_option maxHeartbeats 4000000 in
set_option maxRecDepth 100000 in
theorem ok_World_ownLeast (l : Launch) (hfl : l.flags = pinnedFlags ++ [noTraceFlag]) (D : va_G) (A : Nat → Prop) (σ : Nat) (x0 : Nat) (x1 : Nat) (x2 : Int32) (h : xb_H) (Qr : Int64 → xb_H → Prop) (hw : w_World_ownLeast x0 x1 x2 h Qr) : xb_Met l y_World_ownLeast [.code y_World_ownLeast b_World_ownLeast 3 (some .long)] (xb_rm 3 0 0) (xb_Pc D A σ h [.ref x0, .ref x1, .int x2]) (xb_Qc D A h 0 0 (fun v h _ _ => ∃ r, v = some (.long r) ∧ Qr r h) (fun _ _ _ _ => False)) A := by
  refine xb_ofAm (cc := b_World_ownLeast) (by decide) (Nat.le_of_ble_eq_true rfl) ?_
  unfold w_World_ownLeast at hw
  show xb_am l D A σ 3 0 0 h (fun v h _ _ => ∃ r, v = some (.long r) ∧ Qr r h) (fun _ _ _ _ => False) y_World_ownLeast.cls y_World_ownLeast.name b_World_ownLeast 3 ([] : List ExceptionTableEntry) (some .long) 0 [(0, .ref x0), (1, .ref x1), (2, .int x2)] [] h 0 0
  obtain ⟨MC, hMC⟩ : ∃ x, x = 0 := ⟨_, rfl⟩
  obtain ⟨MS, hMS⟩ : ∃ x, x = 0 := ⟨_, rfl⟩
  rw [show xb_am l D A σ 3 0 0 = xb_am l D A σ 3 MC MS by rw [hMC, hMS]]
  obtain ⟨h0, hh0⟩ : ∃ x, x = h := ⟨_, rfl⟩
  rw [show xb_am l D A σ 3 MC MS h = xb_am l D A σ 3 MC MS h0 by rw [hh0]]
  intro p e s m args below meth c hC H locs ls k n hE hl hR hS hk hn
  obtain ⟨hx, hb, hown, hlocks, htab, hml, hr, hB, hA, hnm⟩ := id hC
  have hts := hB.1.1.at args
  refine lv_aload_n hx hb (xb_d D_World_ownLeast 0 rfl) rfl (lv_at hl 1 rfl) ?_
  obtain ⟨hk1, hw⟩ := hw
  refine xb_call0 (D := D) (A := A) (σ := σ) (h := h) (d := 2) (maxL := 1) (rest := []) (av := [.ref x1]) (fun T hT X => by obtain ⟨cb9, ra9, rb9, rc9⟩ := xb_recv (ci := 1) hR rfl hk1 (by decide); exact xt_invV X hx hown (hts _ m_5b8308b9) (hts _ m_ded65609) (hts _ m_a4161156) (xt_sigOf (hts _ m_83ba3721)) nm_Row_lines (by rw [hT]; exact ra9) rb9 rc9 (g := F0 m 1 ls [.ref x1]) rfl (argsL := []) (rest := []) rfl rfl (by rw [hb]; exact (xb_d D_World_ownLeast 1 rfl))) (ok_Row_lines l hfl D A σ x1 h _ hw) (hml.trans hl.1.symm) (by rw [hb]; exact (xb_d D_World_ownLeast 1 rfl)) (Nat.le_of_ble_eq_true rfl) (Nat.le_of_ble_eq_true rfl) (Nat.le_of_ble_eq_true rfl) (show k ≤ MC by omega) (show n ≤ MS by omega) (xt_w1 hB.1 m_83ba3721) (xt_cdOf hB.1 m_83ba3721) (hts _ m_c1bef504) hB hR hS hA (fun vv h2 H locs hq hEh2 hR hS => ?_)
  obtain ⟨r3, rfl, hw⟩ := hq
  have hw := hw hEh2
  have hE := hE.tr hEh2
  refine W.eq (g2 := F0 m 4 ls [.int r3]) rfl ?_
  refine lv_aload_n hx hb (xb_d D_World_ownLeast 2 rfl) rfl (lv_at hl 0 rfl) ?_
  obtain ⟨hk4, hw⟩ := hw
  refine xb_getP (C := R_StackModule) (T := F_StackModule) (N := 19) hx hb 2 14 hts fin_StackModule hown hR hk4 (by decide) rfl (by decide) rfl (hts _ m_64a182b7) (fun _ h9 => h9) (xb_d D_World_ownLeast 3 rfl) ?_
  obtain ⟨b5, eb5, hw⟩ := hw
  refine xb_some eb5 ?_
  refine lv_iload_n hx hb (xb_d D_World_ownLeast 4 rfl) rfl (lv_at hl 2 rfl) ?_
  obtain ⟨hk7, hw⟩ := hw
  obtain ⟨hi6, hw⟩ := hw
  refine xb_iald hx hb hR hk7 hi6 (xb_d D_World_ownLeast 5 rfl) ?_
  refine lv_icmp_le (tgt := 27) hx hb (xb_d D_World_ownLeast 6 rfl) rfl (fun hc8 => ?_) (fun hc8 => ?_)
  · have hw := hw.1 hc8
    refine lv_lconst (v := 0) hx hb (xb_d D_World_ownLeast 15 rfl) (by decide) ?_
    exact am_World_ownLeast_L28 l hfl D A σ MC MS h0 Qr 0 h2 hw p e s m args below meth c hC H locs ls k n hE (lv_sub hl [] rfl) hR hS (by omega) (by omega)
  · have hw := hw.2 hc8
    refine lv_aload_n hx hb (xb_d D_World_ownLeast 7 rfl) rfl (lv_at hl 1 rfl) ?_
    refine lv_aload_n hx hb (xb_d D_World_ownLeast 8 rfl) rfl (lv_at hl 0 rfl) ?_
    refine xb_getP (C := R_StackModule) (T := F_StackModule) (N := 19) hx hb 2 14 hts fin_StackModule hown hR hk4 (by decide) rfl (by decide) rfl (hts _ m_64a182b7) (fun _ h9 => h9) (xb_d D_World_ownLeast 9 rfl) ?_
    obtain ⟨b9, eb9, hw⟩ := hw
    refine xb_some eb9 ?_
    refine lv_iload_n hx hb (xb_d D_World_ownLeast 10 rfl) rfl (lv_at hl 2 rfl) ?_
    obtain ⟨hk11, hw⟩ := hw
    obtain ⟨hi10, hw⟩ := hw
    refine xb_iald hx hb hR hk11 hi10 (xb_d D_World_ownLeast 11 rfl) ?_
    refine lv_iconst (v := 1) hx hb (xb_d D_World_ownLeast 12 rfl) (by decide) ?_
    have hk1 : xb_k h2 x1 = 2 := hEh2.k hk1
    refine xb_call0 (D := D) (A := A) (σ := σ) (h := h2) (d := 2) (maxL := 3) (rest := []) (av := [.ref x1, .int (xb_i h2 b9 (Int32.toNatClampNeg x2)), .int 1]) (fun T hT X => by obtain ⟨cb9, ra9, rb9, rc9⟩ := xb_recv (ci := 1) hR rfl hk1 (by decide); exact xt_invV X hx hown (hts _ m_25314627) (hts _ m_8db3b24f) (hts _ m_78dc30a4) (xt_sigOf (hts _ m_a4177401)) nm_Row_longAt (by rw [hT]; exact ra9) rb9 rc9 (g := F0 m 21 ls [.int 1, .int (xb_i h2 b9 (Int32.toNatClampNeg x2)), .ref x1]) rfl (argsL := [.int (xb_i h2 b9 (Int32.toNatClampNeg x2)), .int 1]) (rest := []) rfl rfl (by rw [hb]; exact (xb_d D_World_ownLeast 13 rfl))) (ok_Row_longAt l hfl D A σ x1 (xb_i h2 b9 (Int32.toNatClampNeg x2)) 1 h2 _ hw) (hml.trans hl.1.symm) (by rw [hb]; exact (xb_d D_World_ownLeast 13 rfl)) (Nat.le_of_ble_eq_true rfl) (Nat.le_of_ble_eq_true rfl) (Nat.le_of_ble_eq_true rfl) (show k ≤ MC by omega) (show n ≤ MS by omega) (xt_w1 hB.1 m_a4177401) (xt_cdOf hB.1 m_a4177401) (hts _ m_c1bef504) hB hR hS hA (fun vv h12 H locs hq hEh12 hR hS => ?_)
    obtain ⟨r13, rfl, hw⟩ := hq
    have hw := hw hEh12
    have hE := hE.tr hEh12
    refine W.eq (g2 := F0 m 24 ls [.long r13]) rfl ?_
    refine lv_goto (tgt := 28) hx hb (xb_d D_World_ownLeast 14 rfl) rfl ?_
    exact am_World_ownLeast_L28 l hfl D A σ MC MS h0 Qr r13 h12 hw p e s m args below meth c hC H locs ls k n hE (lv_sub hl [] rfl) hR hS (by omega) (by omega)

set_option maxRecDepth 100000 in
def T_World_ownerOf : List (Nat × Instr × Nat) := [(0, .aload_n 0, 1), (1, .getfield 11, 3), (4, .aload_n 0, 1), (5, .getfield 22, 3), (8, .iload_n 1, 1), (9, .iconst 0, 1), (10, .invokevirtual 51, 3), (13, .aaload, 1), (14, .areturn, 1)]
theorem D_World_ownerOf : ∀ q ∈ T_World_ownerOf, decode b_World_ownerOf q.1 = .ok (q.2.1, q.2.2) := by decide +kernel

set_option maxHeartbeats 4000000 in
set_option maxRecDepth 100000 in
theorem ok_World_ownerOf (l : Launch) (hfl : l.flags = pinnedFlags ++ [noTraceFlag]) (D : va_G) (A : Nat → Prop) (σ : Nat) (x0 : Nat) (x1 : Int32) (h : xb_H) (Qr : Nat → xb_H → Prop) (hw : w_World_ownerOf x0 x1 h Qr) : xb_Met l y_World_ownerOf [.code y_World_ownerOf b_World_ownerOf 2 (some (.object "StackHost$Instance"))] (xb_rm 3 0 0) (xb_Pc D A σ h [.ref x0, .int x1]) (xb_Qc D A h 0 0 (fun v h _ _ => ∃ r, v = some (.ref r) ∧ Qr r h) (fun _ _ _ _ => False)) A := by
  refine xb_ofAm (cc := b_World_ownerOf) (by decide) (Nat.le_of_ble_eq_true rfl) ?_
  unfold w_World_ownerOf at hw
  show xb_am l D A σ 3 0 0 h (fun v h _ _ => ∃ r, v = some (.ref r) ∧ Qr r h) (fun _ _ _ _ => False) y_World_ownerOf.cls y_World_ownerOf.name b_World_ownerOf 2 ([] : List ExceptionTableEntry) (some (.object "StackHost$Instance")) 0 [(0, .ref x0), (1, .int x1)] [] h 0 0
  obtain ⟨MC, hMC⟩ : ∃ x, x = 0 := ⟨_, rfl⟩
  obtain ⟨MS, hMS⟩ : ∃ x, x = 0 := ⟨_, rfl⟩
  rw [show xb_am l D A σ 3 0 0 = xb_am l D A σ 3 MC MS by rw [hMC, hMS]]
  obtain ⟨h0, hh0⟩ : ∃ x, x = h := ⟨_, rfl⟩
  rw [show xb_am l D A σ 3 MC MS h = xb_am l D A σ 3 MC MS h0 by rw [hh0]]
  intro p e s m args below meth c hC H locs ls k n hE hl hR hS hk hn
  obtain ⟨hx, hb, hown, hlocks, htab, hml, hr, hB, hA, hnm⟩ := id hC
  have hts := hB.1.1.at args
  refine lv_aload_n hx hb (xb_d D_World_ownerOf 0 rfl) rfl (lv_at hl 0 rfl) ?_
  obtain ⟨hk1, hw⟩ := hw
  refine xb_getP (C := R_World) (T := F_World) (N := 16) hx hb 6 0 hts fin_World hown hR hk1 (by decide) rfl (by decide) rfl (hts _ m_7dbedc06) (fun _ h9 => h9) (xb_d D_World_ownerOf 1 rfl) ?_
  obtain ⟨b2, eb2, hw⟩ := hw
  refine xb_some eb2 ?_
  refine lv_aload_n hx hb (xb_d D_World_ownerOf 2 rfl) rfl (lv_at hl 0 rfl) ?_
  refine xb_getP (C := R_World) (T := F_World) (N := 16) hx hb 6 2 hts fin_World hown hR hk1 (by decide) rfl (by decide) rfl (hts _ m_2d976539) (fun _ h9 => h9) (xb_d D_World_ownerOf 3 rfl) ?_
  obtain ⟨b3, eb3, hw⟩ := hw
  refine xb_some eb3 ?_
  refine lv_iload_n hx hb (xb_d D_World_ownerOf 4 rfl) rfl (lv_at hl 1 rfl) ?_
  refine lv_iconst (v := 0) hx hb (xb_d D_World_ownerOf 5 rfl) (by decide) ?_
  obtain ⟨hk4, hw⟩ := hw
  refine xb_call0 (D := D) (A := A) (σ := σ) (h := h) (d := 2) (maxL := 3) (rest := [.ref b2]) (av := [.ref b3, .int x1, .int 0]) (fun T hT X => by obtain ⟨cb9, ra9, rb9, rc9⟩ := xb_recv (ci := 1) hR rfl hk4 (by decide); exact xt_invV X hx hown (hts _ m_ad29ee25) (hts _ m_8e233096) (hts _ m_27eed10c) (xt_sigOf (hts _ m_ff1c70ae)) nm_Row_at (by rw [hT]; exact ra9) rb9 rc9 (g := F0 m 10 ls [.int 0, .int x1, .ref b3, .ref b2]) rfl (argsL := [.int x1, .int 0]) (rest := [.ref b2]) rfl rfl (by rw [hb]; exact (xb_d D_World_ownerOf 6 rfl))) (ok_Row_at l hfl D A σ b3 x1 0 h _ hw) (hml.trans hl.1.symm) (by rw [hb]; exact (xb_d D_World_ownerOf 6 rfl)) (Nat.le_of_ble_eq_true rfl) (Nat.le_of_ble_eq_true rfl) (Nat.le_of_ble_eq_true rfl) (show k ≤ MC by omega) (show n ≤ MS by omega) (xt_w1 hB.1 m_ff1c70ae) (xt_cdOf hB.1 m_ff1c70ae) (hts _ m_c1bef504) hB hR hS hA (fun vv h5 H locs hq hEh5 hR hS => ?_)
  obtain ⟨r6, rfl, hw⟩ := hq
  have hw := hw hEh5
  have hE := hE.tr hEh5
  refine W.eq (g2 := F0 m 13 ls [.int r6, .ref b2]) rfl ?_
  obtain ⟨hk8, hw⟩ := hw
  obtain ⟨hi7, hw⟩ := hw
  refine xb_aald105 hx hb hR hk8 hi7 (xb_d D_World_ownerOf 7 rfl) ?_
  obtain ⟨b9, eb9, hw⟩ := hw
  refine xb_some eb9 ?_
  exact xb_aret 0 0 hx hb hr (by first | exact Or.inl ⟨_, rfl⟩ | exact Or.inr ⟨_, rfl⟩) hlocks (show k + 0 ≤ MC by omega) (show n + 0 ≤ MS by omega) hE hR hS (xb_d D_World_ownerOf 8 rfl) hw

