theorem m_30582602 : (.fieldLink "StackHost$World" 125 "StackHost$StackModule" "data" "LStackHost$Row;" : Cond) ∈ xt_tbl := xt_in (xt_t3 (List.mem_of_getElem? (i := 108) (by decide +kernel))) (by decide +kernel)
theorem m_544a4066 : (.methodLink "StackHost$World" 322 y_Memory_setByte : Cond) ∈ xt_tbl := xt_in (xt_t7 (List.mem_of_getElem? (i := 104) (by decide +kernel))) (by decide +kernel)
set_option maxRecDepth 100000 in
def T_World_writeData : List (Nat × Instr × Nat) := [(0, .aload_n 1, 1), (1, .getfield 148, 3), (4, .astore_n 2, 1), (5, .iconst 0, 1), (6, .istore_n 3, 1), (7, .iload_n 3, 1), (8, .aload_n 2, 1), (9, .getfield 125, 3), (12, .invokevirtual 75, 3), (15, .if_icmp .ge 78, 3), (18, .aload_n 0, 1), (19, .aload_n 2, 1), (20, .aload_n 2, 1), (21, .getfield 125, 3), (24, .iload_n 3, 1), (25, .invokevirtual 265, 3), (28, .l2i, 1), (29, .istore 4, 2), (31, .aload_n 2, 1), (32, .getfield 125, 3), (35, .iload_n 3, 1), (36, .iconst 3, 1), (37, .invokevirtual 51, 3), (40, .istore 5, 2), (42, .iconst 0, 1), (43, .istore 6, 2), (45, .iload 6, 2), (47, .aload_n 2, 1), (48, .getfield 125, 3), (51, .iload_n 3, 1), (52, .iconst 4, 1), (53, .invokevirtual 51, 3), (56, .if_icmp .ge 31, 3), (59, .aload_n 1, 1), (60, .getfield 213, 3), (63, .iload 4, 2), (65, .iload 6, 2), (67, .iadd, 1), (68, .aload_n 2, 1), (69, .getfield 138, 3), (72, .iload 5, 2), (74, .iload 6, 2), (76, .iadd, 1), (77, .baload, 1), (78, .invokevirtual 322, 3), (81, .iinc 6 1, 3), (84, .goto (-39), 3), (87, .iinc 3 1, 3), (90, .goto (-83), 3), (93, .return_, 1)]
theorem D_World_writeData : ∀ q ∈ T_World_writeData, decode b_World_writeData q.1 = .ok (q.2.1, q.2.2) := by decide +kernel

set_option maxHeartbeats 4000000 in
set_option maxRecDepth 100000 in
theorem am_World_writeData_L45 (l : Launch) (hfl : l.flags = pinnedFlags ++ [noTraceFlag]) (D : va_G) (A : Nat → Prop) (σ MC MS : Nat) (h0 : xb_H) (Qr : xb_H → Prop) (K7 : Nat → Nat → Nat → Int32 → xb_H → Prop) (hK7 : ∀ (x0 : Nat) (x1 : Nat) (x2 : Nat) (x3 : Int32) (h : xb_H), K7 x0 x1 x2 x3 h → xb_am l D A σ 5 MC MS h0 (fun v h _ _ => v = none ∧ Qr h) (fun _ _ _ _ => False) y_World_writeData.cls y_World_writeData.name b_World_writeData 7 ([] : List ExceptionTableEntry) none 7 [(0, .ref x0), (1, .ref x1), (2, .ref x2), (3, .int x3)] [] h 0 0) (n9 : Nat) : ∀ (x0 : Nat) (x1 : Nat) (x2 : Nat) (x3 : Int32) (x4 : Int32) (x5 : Int32) (x6 : Int32) (h : xb_H), w_World_writeData_L45 K7 Qr n9 x0 x1 x2 x3 x4 x5 x6 h → xb_am l D A σ 5 MC MS h0 (fun v h _ _ => v = none ∧ Qr h) (fun _ _ _ _ => False) y_World_writeData.cls y_World_writeData.name b_World_writeData 7 ([] : List ExceptionTableEntry) none 45 [(0, .ref x0), (1, .ref x1), (2, .ref x2), (3, .int x3), (4, .int x4), (5, .int x5), (6, .int x6)] [] h 0 0 := by
  induction n9 with
  | zero => intro x0 x1 x2 x3 x4 x5 x6 h hw; exact False.elim hw
  | succ n9 ih =>
    intro x0 x1 x2 x3 x4 x5 x6 h hw
    unfold w_World_writeData_L45 at hw
    intro p e s m args below meth c hC H locs ls k n hE hl hR hS hk hn
    obtain ⟨hx, hb, hown, hlocks, htab, hml, hr, hB, hA, hnm⟩ := id hC
    have hts := hB.1.1.at args
    refine lv_iload hx hb (xb_d D_World_writeData 26 rfl) (lv_at hl 6 rfl) ?_
    refine lv_aload_n hx hb (xb_d D_World_writeData 27 rfl) rfl (lv_at hl 2 rfl) ?_
    obtain ⟨hk1, hw⟩ := hw
    refine xb_getP (C := R_StackModule) (T := F_StackModule) (N := 19) hx hb 2 13 hts fin_StackModule hown hR hk1 (by decide) rfl (by decide) rfl (hts _ m_30582602) (fun _ h9 => h9) (xb_d D_World_writeData 28 rfl) ?_
    obtain ⟨b2, eb2, hw⟩ := hw
    refine xb_some eb2 ?_
    refine lv_iload_n hx hb (xb_d D_World_writeData 29 rfl) rfl (lv_at hl 3 rfl) ?_
    refine lv_iconst (v := 4) hx hb (xb_d D_World_writeData 30 rfl) (by decide) ?_
    obtain ⟨hk3, hw⟩ := hw
    refine xb_call0 (D := D) (A := A) (σ := σ) (h := h) (d := 2) (maxL := 3) (rest := [.int x6]) (av := [.ref b2, .int x3, .int 4]) (fun T hT X => by obtain ⟨cb9, ra9, rb9, rc9⟩ := xb_recv (ci := 1) hR rfl hk3 (by decide); exact xt_invV X hx hown (hts _ m_ad29ee25) (hts _ m_8e233096) (hts _ m_27eed10c) (xt_sigOf (hts _ m_ff1c70ae)) nm_Row_at (by rw [hT]; exact ra9) rb9 rc9 (g := F0 m 53 ls [.int 4, .int x3, .ref b2, .int x6]) rfl (argsL := [.int x3, .int 4]) (rest := [.int x6]) rfl rfl (by rw [hb]; exact (xb_d D_World_writeData 31 rfl))) (ok_Row_at l hfl D A σ b2 x3 4 h _ hw) (hml.trans hl.1.symm) (by rw [hb]; exact (xb_d D_World_writeData 31 rfl)) (Nat.le_of_ble_eq_true rfl) (Nat.le_of_ble_eq_true rfl) (Nat.le_of_ble_eq_true rfl) (show k ≤ MC by omega) (show n ≤ MS by omega) (xt_w1 hB.1 m_ff1c70ae) (xt_cdOf hB.1 m_ff1c70ae) (hts _ m_c1bef504) hB hR hS hA (fun vv h4 H locs hq hEh4 hR hS => ?_)
    obtain ⟨r5, rfl, hw⟩ := hq
    have hw := hw hEh4
    have hE := hE.tr hEh4
    refine W.eq (g2 := F0 m 56 ls [.int r5, .int x6]) rfl ?_
    refine lv_icmp_ge (tgt := 87) hx hb (xb_d D_World_writeData 32 rfl) rfl (fun hc6 => ?_) (fun hc6 => ?_)
    · have hw := hw.1 hc6
      refine lv_iinc (v := (x3 + 1)) (k := 3) hx hb (xb_d D_World_writeData 47 rfl) hl rfl (by first | rfl | decide) (by decide) rfl (fun ls hl => ?_)
      have hl : lv_has ls 7 [(3, .int (x3 + 1)), (0, .ref x0), (1, .ref x1), (2, .ref x2), (4, .int x4), (5, .int x5), (6, .int x6)] := hl
      refine lv_goto (tgt := 7) hx hb (xb_d D_World_writeData 48 rfl) rfl ?_
      exact hK7 x0 x1 x2 (x3 + 1) h4 hw p e s m args below meth c hC H locs ls k n hE (lv_sub hl [1, 2, 3, 0] rfl) hR hS (by omega) (by omega)
    · have hw := hw.2 hc6
      refine lv_aload_n hx hb (xb_d D_World_writeData 33 rfl) rfl (lv_at hl 1 rfl) ?_
      obtain ⟨hk7, hw⟩ := hw
      refine xb_getP (C := R_Instance) (T := F_Instance) (N := 8) hx hb 10 7 hts fin_Instance hown hR hk7 (by decide) rfl (by decide) rfl (hts _ m_1fb067e2) (fun _ h9 => h9) (xb_d D_World_writeData 34 rfl) ?_
      obtain ⟨b8, eb8, hw⟩ := hw
      refine xb_some eb8 ?_
      refine lv_iload hx hb (xb_d D_World_writeData 35 rfl) (lv_at hl 4 rfl) ?_
      refine lv_iload hx hb (xb_d D_World_writeData 36 rfl) (lv_at hl 6 rfl) ?_
      refine lv_iadd hx hb (xb_d D_World_writeData 37 rfl) ?_
      refine lv_aload_n hx hb (xb_d D_World_writeData 38 rfl) rfl (lv_at hl 2 rfl) ?_
      have hk1 : xb_k h4 x2 = 3 := hEh4.k hk1
      refine xb_getP (C := R_StackModule) (T := F_StackModule) (N := 19) hx hb 2 0 hts fin_StackModule hown hR hk1 (by decide) rfl (by decide) rfl (hts _ m_7aa5c58a) (fun _ h9 => h9) (xb_d D_World_writeData 39 rfl) ?_
      obtain ⟨b9, eb9, hw⟩ := hw
      refine xb_some eb9 ?_
      refine lv_iload hx hb (xb_d D_World_writeData 40 rfl) (lv_at hl 5 rfl) ?_
      refine lv_iload hx hb (xb_d D_World_writeData 41 rfl) (lv_at hl 6 rfl) ?_
      refine lv_iadd hx hb (xb_d D_World_writeData 42 rfl) ?_
      obtain ⟨hk11, hw⟩ := hw
      obtain ⟨hi10, hw⟩ := hw
      refine xb_bald hx hb hR hk11 hi10 (xb_d D_World_writeData 43 rfl) ?_
      obtain ⟨hk12, hw⟩ := hw
      refine xb_call0 (D := D) (A := A) (σ := σ) (h := h4) (d := 3) (maxL := 5) (rest := []) (av := [.ref b8, .int (x4 + x6), .int (xb_i h4 b9 (Int32.toNatClampNeg (x5 + x6)))]) (fun T hT X => by obtain ⟨cb9, ra9, rb9, rc9⟩ := xb_recv (ci := 12) hR rfl hk12 (by decide); exact xt_invV X hx hown (hts _ m_544a4066) (hts _ m_d015b981) (hts _ m_2cc55bcf) (xt_sigOf (hts _ m_2b9cfcee)) nm_Memory_setByte (by rw [hT]; exact ra9) rb9 rc9 (g := F0 m 78 ls [.int (xb_i h4 b9 (Int32.toNatClampNeg (x5 + x6))), .int (x4 + x6), .ref b8]) rfl (argsL := [.int (x4 + x6), .int (xb_i h4 b9 (Int32.toNatClampNeg (x5 + x6)))]) (rest := []) rfl rfl (by rw [hb]; exact (xb_d D_World_writeData 44 rfl))) (ok_Memory_setByte l hfl D A σ b8 (x4 + x6) (xb_i h4 b9 (Int32.toNatClampNeg (x5 + x6))) h4 _ hw) (hml.trans hl.1.symm) (by rw [hb]; exact (xb_d D_World_writeData 44 rfl)) (Nat.le_of_ble_eq_true rfl) (Nat.le_of_ble_eq_true rfl) (Nat.le_of_ble_eq_true rfl) (show k ≤ MC by omega) (show n ≤ MS by omega) (xt_w1 hB.1 m_2b9cfcee) (xt_cdOf hB.1 m_2b9cfcee) (hts _ m_e7289b5f) hB hR hS hA (fun vv h13 H locs hq hEh13 hR hS => ?_)
      obtain ⟨rfl, hw⟩ := hq
      have hw := hw hEh13
      have hE := hE.tr hEh13
      refine W.eq (g2 := F0 m 81 ls []) rfl ?_
      refine lv_iinc (v := (x6 + 1)) (k := 6) hx hb (xb_d D_World_writeData 45 rfl) hl rfl (by first | rfl | decide) (by decide) rfl (fun ls hl => ?_)
      have hl : lv_has ls 7 [(6, .int (x6 + 1)), (0, .ref x0), (1, .ref x1), (2, .ref x2), (3, .int x3), (4, .int x4), (5, .int x5)] := hl
      refine lv_goto (tgt := 45) hx hb (xb_d D_World_writeData 46 rfl) rfl ?_
      exact ih x0 x1 x2 x3 x4 x5 (x6 + 1) h13 hw p e s m args below meth c hC H locs ls k n hE (lv_sub hl [1, 2, 3, 4, 5, 6, 0] rfl) hR hS (by omega) (by omega)

set_option maxHeartbeats 4000000 in
set_option maxRecDepth 100000 in
theorem am_World_writeData_L7 (l : Launch) (hfl : l.flags = pinnedFlags ++ [noTraceFlag]) (D : va_G) (A : Nat → Prop) (σ MC MS : Nat) (h0 : xb_H) (Qr : xb_H → Prop) (n9 : Nat) : ∀ (x0 : Nat) (x1 : Nat) (x2 : Nat) (x3 : Int32) (h : xb_H), w_World_writeData_L7 Qr n9 x0 x1 x2 x3 h → xb_am l D A σ 5 MC MS h0 (fun v h _ _ => v = none ∧ Qr h) (fun _ _ _ _ => False) y_World_writeData.cls y_World_writeData.name b_World_writeData 7 ([] : List ExceptionTableEntry) none 7 [(0, .ref x0), (1, .ref x1), (2, .ref x2), (3, .int x3)] [] h 0 0 := by
  induction n9 with
  | zero => intro x0 x1 x2 x3 h hw; exact False.elim hw
  | succ n9 ih =>
    intro x0 x1 x2 x3 h hw
    unfold w_World_writeData_L7 at hw
    intro p e s m args below meth c hC H locs ls k n hE hl hR hS hk hn
    obtain ⟨hx, hb, hown, hlocks, htab, hml, hr, hB, hA, hnm⟩ := id hC
    have hts := hB.1.1.at args
    refine lv_iload_n hx hb (xb_d D_World_writeData 5 rfl) rfl (lv_at hl 3 rfl) ?_
    refine lv_aload_n hx hb (xb_d D_World_writeData 6 rfl) rfl (lv_at hl 2 rfl) ?_
    obtain ⟨hk1, hw⟩ := hw
    refine xb_getP (C := R_StackModule) (T := F_StackModule) (N := 19) hx hb 2 13 hts fin_StackModule hown hR hk1 (by decide) rfl (by decide) rfl (hts _ m_30582602) (fun _ h9 => h9) (xb_d D_World_writeData 7 rfl) ?_
    obtain ⟨b2, eb2, hw⟩ := hw
    refine xb_some eb2 ?_
    obtain ⟨hk3, hw⟩ := hw
    refine xb_call0 (D := D) (A := A) (σ := σ) (h := h) (d := 2) (maxL := 1) (rest := [.int x3]) (av := [.ref b2]) (fun T hT X => by obtain ⟨cb9, ra9, rb9, rc9⟩ := xb_recv (ci := 1) hR rfl hk3 (by decide); exact xt_invV X hx hown (hts _ m_5b8308b9) (hts _ m_ded65609) (hts _ m_a4161156) (xt_sigOf (hts _ m_83ba3721)) nm_Row_lines (by rw [hT]; exact ra9) rb9 rc9 (g := F0 m 12 ls [.ref b2, .int x3]) rfl (argsL := []) (rest := [.int x3]) rfl rfl (by rw [hb]; exact (xb_d D_World_writeData 8 rfl))) (ok_Row_lines l hfl D A σ b2 h _ hw) (hml.trans hl.1.symm) (by rw [hb]; exact (xb_d D_World_writeData 8 rfl)) (Nat.le_of_ble_eq_true rfl) (Nat.le_of_ble_eq_true rfl) (Nat.le_of_ble_eq_true rfl) (show k ≤ MC by omega) (show n ≤ MS by omega) (xt_w1 hB.1 m_83ba3721) (xt_cdOf hB.1 m_83ba3721) (hts _ m_c1bef504) hB hR hS hA (fun vv h4 H locs hq hEh4 hR hS => ?_)
    obtain ⟨r5, rfl, hw⟩ := hq
    have hw := hw hEh4
    have hE := hE.tr hEh4
    refine W.eq (g2 := F0 m 15 ls [.int r5, .int x3]) rfl ?_
    refine lv_icmp_ge (tgt := 93) hx hb (xb_d D_World_writeData 9 rfl) rfl (fun hc6 => ?_) (fun hc6 => ?_)
    · have hw := hw.1 hc6
      exact xb_vret 0 0 hx hb hr hlocks (show k + 0 ≤ MC by omega) (show n + 0 ≤ MS by omega) hE hR hS (xb_d D_World_writeData 49 rfl) hw
    · have hw := hw.2 hc6
      refine lv_aload_n hx hb (xb_d D_World_writeData 10 rfl) rfl (lv_at hl 0 rfl) ?_
      refine lv_aload_n hx hb (xb_d D_World_writeData 11 rfl) rfl (lv_at hl 2 rfl) ?_
      refine lv_aload_n hx hb (xb_d D_World_writeData 12 rfl) rfl (lv_at hl 2 rfl) ?_
      have hk1 : xb_k h4 x2 = 3 := hEh4.k hk1
      refine xb_getP (C := R_StackModule) (T := F_StackModule) (N := 19) hx hb 2 13 hts fin_StackModule hown hR hk1 (by decide) rfl (by decide) rfl (hts _ m_30582602) (fun _ h9 => h9) (xb_d D_World_writeData 13 rfl) ?_
      obtain ⟨b7, eb7, hw⟩ := hw
      refine xb_some eb7 ?_
      refine lv_iload_n hx hb (xb_d D_World_writeData 14 rfl) rfl (lv_at hl 3 rfl) ?_
      obtain ⟨hk8, hw⟩ := hw
      refine xb_call0 (D := D) (A := A) (σ := σ) (h := h4) (d := 4) (maxL := 4) (rest := []) (av := [.ref x0, .ref x2, .ref b7, .int x3]) (fun T hT X => by obtain ⟨cb9, ra9, rb9, rc9⟩ := xb_recv (ci := 6) hR rfl hk8 (by decide); exact xt_invV X hx hown (hts _ m_113858b2) (hts _ m_6a03bf5b) (hts _ m_1294c057) (xt_sigOf (hts _ m_fed04452)) nm_World_offsetOf (by rw [hT]; exact ra9) rb9 rc9 (g := F0 m 25 ls [.int x3, .ref b7, .ref x2, .ref x0]) rfl (argsL := [.ref x2, .ref b7, .int x3]) (rest := []) rfl rfl (by rw [hb]; exact (xb_d D_World_writeData 15 rfl))) (ok_World_offsetOf l hfl D A σ x0 x2 b7 x3 h4 _ hw) (hml.trans hl.1.symm) (by rw [hb]; exact (xb_d D_World_writeData 15 rfl)) (Nat.le_of_ble_eq_true rfl) (Nat.le_of_ble_eq_true rfl) (Nat.le_of_ble_eq_true rfl) (show k ≤ MC by omega) (show n ≤ MS by omega) (xt_w1 hB.1 m_fed04452) (xt_cdOf hB.1 m_fed04452) (hts _ m_4534b440) hB hR hS hA (fun vv h9 H locs hq hEh9 hR hS => ?_)
      obtain ⟨r10, rfl, hw⟩ := hq
      have hw := hw hEh9
      have hE := hE.tr hEh9
      refine W.eq (g2 := F0 m 28 ls [.long r10]) rfl ?_
      refine lv_l2i hx hb (xb_d D_World_writeData 16 rfl) rfl ?_
      obtain ⟨v11, ev11⟩ : ∃ x : Int32, x = (Int64.toInt32 r10) := ⟨_, rfl⟩
      have hw := hw v11 ev11
      refine xt_numi (y := v11) ev11.symm ?_
      refine lv_istore hx hb (xb_d D_World_writeData 17 rfl) hl (by decide) rfl (fun ls hl => ?_)
      have hl : lv_has ls 7 [(4, .int v11), (0, .ref x0), (1, .ref x1), (2, .ref x2), (3, .int x3)] := hl
      refine lv_aload_n hx hb (xb_d D_World_writeData 18 rfl) rfl (lv_at hl 3 rfl) ?_
      have hk1 : xb_k h9 x2 = 3 := hEh9.k hk1
      refine xb_getP (C := R_StackModule) (T := F_StackModule) (N := 19) hx hb 2 13 hts fin_StackModule hown hR hk1 (by decide) rfl (by decide) rfl (hts _ m_30582602) (fun _ h9 => h9) (xb_d D_World_writeData 19 rfl) ?_
      obtain ⟨b12, eb12, hw⟩ := hw
      refine xb_some eb12 ?_
      refine lv_iload_n hx hb (xb_d D_World_writeData 20 rfl) rfl (lv_at hl 4 rfl) ?_
      refine lv_iconst (v := 3) hx hb (xb_d D_World_writeData 21 rfl) (by decide) ?_
      obtain ⟨hk13, hw⟩ := hw
      refine xb_call0 (D := D) (A := A) (σ := σ) (h := h9) (d := 2) (maxL := 3) (rest := []) (av := [.ref b12, .int x3, .int 3]) (fun T hT X => by obtain ⟨cb9, ra9, rb9, rc9⟩ := xb_recv (ci := 1) hR rfl hk13 (by decide); exact xt_invV X hx hown (hts _ m_ad29ee25) (hts _ m_8e233096) (hts _ m_27eed10c) (xt_sigOf (hts _ m_ff1c70ae)) nm_Row_at (by rw [hT]; exact ra9) rb9 rc9 (g := F0 m 37 ls [.int 3, .int x3, .ref b12]) rfl (argsL := [.int x3, .int 3]) (rest := []) rfl rfl (by rw [hb]; exact (xb_d D_World_writeData 22 rfl))) (ok_Row_at l hfl D A σ b12 x3 3 h9 _ hw) (hml.trans hl.1.symm) (by rw [hb]; exact (xb_d D_World_writeData 22 rfl)) (Nat.le_of_ble_eq_true rfl) (Nat.le_of_ble_eq_true rfl) (Nat.le_of_ble_eq_true rfl) (show k ≤ MC by omega) (show n ≤ MS by omega) (xt_w1 hB.1 m_ff1c70ae) (xt_cdOf hB.1 m_ff1c70ae) (hts _ m_c1bef504) hB hR hS hA (fun vv h14 H locs hq hEh14 hR hS => ?_)
      obtain ⟨r15, rfl, hw⟩ := hq
      have hw := hw hEh14
      have hE := hE.tr hEh14
      refine W.eq (g2 := F0 m 40 ls [.int r15]) rfl ?_
      refine lv_istore hx hb (xb_d D_World_writeData 23 rfl) hl (by decide) rfl (fun ls hl => ?_)
      have hl : lv_has ls 7 [(5, .int r15), (4, .int v11), (0, .ref x0), (1, .ref x1), (2, .ref x2), (3, .int x3)] := hl
      refine lv_iconst (v := 0) hx hb (xb_d D_World_writeData 24 rfl) (by decide) ?_
      refine lv_istore hx hb (xb_d D_World_writeData 25 rfl) hl (by decide) rfl (fun ls hl => ?_)
      have hl : lv_has ls 7 [(6, .int 0), (5, .int r15), (4, .int v11), (0, .ref x0), (1, .ref x1), (2, .ref x2), (3, .int x3)] := hl
      obtain ⟨n8, hw⟩ := hw
      exact am_World_writeData_L45 l hfl D A σ MC MS h0 Qr (w_World_writeData_L7 Qr n9) ih n8 x0 x1 x2 x3 v11 r15 0 h14 hw p e s m args below meth c hC H locs ls k n hE (lv_sub hl [3, 4, 5, 6, 2, 1, 0] rfl) hR hS (by omega) (by omega)

set_option maxHeartbeats 4000000 in
set_option maxRecDepth 100000 in
theorem ok_World_writeData (l : Launch) (hfl : l.flags = pinnedFlags ++ [noTraceFlag]) (D : va_G) (A : Nat → Prop) (σ : Nat) (x0 : Nat) (x1 : Nat) (h : xb_H) (Qr : xb_H → Prop) (hw : w_World_writeData x0 x1 h Qr) : xb_Met l y_World_writeData [.code y_World_writeData b_World_writeData 7 none] (xb_rm 5 0 0) (xb_Pc D A σ h [.ref x0, .ref x1]) (xb_Qc D A h 0 0 (fun v h _ _ => v = none ∧ Qr h) (fun _ _ _ _ => False)) A := by
  refine xb_ofAm (cc := b_World_writeData) (by decide) (Nat.le_of_ble_eq_true rfl) ?_
  unfold w_World_writeData at hw
  show xb_am l D A σ 5 0 0 h (fun v h _ _ => v = none ∧ Qr h) (fun _ _ _ _ => False) y_World_writeData.cls y_World_writeData.name b_World_writeData 7 ([] : List ExceptionTableEntry) none 0 [(0, .ref x0), (1, .ref x1)] [] h 0 0
  obtain ⟨MC, hMC⟩ : ∃ x, x = 0 := ⟨_, rfl⟩
  obtain ⟨MS, hMS⟩ : ∃ x, x = 0 := ⟨_, rfl⟩
  rw [show xb_am l D A σ 5 0 0 = xb_am l D A σ 5 MC MS by rw [hMC, hMS]]
  obtain ⟨h0, hh0⟩ : ∃ x, x = h := ⟨_, rfl⟩
  rw [show xb_am l D A σ 5 MC MS h = xb_am l D A σ 5 MC MS h0 by rw [hh0]]
  intro p e s m args below meth c hC H locs ls k n hE hl hR hS hk hn
  obtain ⟨hx, hb, hown, hlocks, htab, hml, hr, hB, hA, hnm⟩ := id hC
  have hts := hB.1.1.at args
  refine lv_aload_n hx hb (xb_d D_World_writeData 0 rfl) rfl (lv_at hl 1 rfl) ?_
  obtain ⟨hk1, hw⟩ := hw
  refine xb_getP (C := R_Instance) (T := F_Instance) (N := 8) hx hb 10 1 hts fin_Instance hown hR hk1 (by decide) rfl (by decide) rfl (hts _ m_22811004) (fun _ h9 => h9) (xb_d D_World_writeData 1 rfl) ?_
  obtain ⟨b2, eb2, hw⟩ := hw
  refine xb_some eb2 ?_
  refine lv_astore_n hx hb (xb_d D_World_writeData 2 rfl) rfl hl (by decide) rfl (fun ls hl => ?_)
  have hl : lv_has ls 7 [(2, .ref b2), (0, .ref x0), (1, .ref x1)] := hl
  refine lv_iconst (v := 0) hx hb (xb_d D_World_writeData 3 rfl) (by decide) ?_
  refine lv_istore_n hx hb (xb_d D_World_writeData 4 rfl) rfl hl (by decide) rfl (fun ls hl => ?_)
  have hl : lv_has ls 7 [(3, .int 0), (2, .ref b2), (0, .ref x0), (1, .ref x1)] := hl
  obtain ⟨n8, hw⟩ := hw
  exact am_World_writeData_L7 l hfl D A σ MC MS h0 Qr n8 x0 x1 b2 0 h hw p e s m args below meth c hC H locs ls k n hE (lv_sub hl [2, 3, 1, 0] rfl) hR hS (by omega) (by omega)

theorem m_6b906570 : (.fieldLink "StackHost$World" 116 "StackHost$StackModule" "elements" "LStackHost$Row;" : Cond) ∈ xt_tbl := xt_in (xt_t3 (List.mem_of_getElem? (i := 91) (by decide +kernel))) (by decide +kernel)
theorem m_e773a004 : (.fieldLink "StackHost$World" 319 "StackHost$StackModule" "listed" "LStackHost$Row;" : Cond) ∈ xt_tbl := xt_in (xt_t3 (List.mem_of_getElem? (i := 97) (by decide +kernel))) (by decide +kernel)
theorem m_e0656074 : (.fieldLink "StackHost$World" 316 "StackHost$Table" "from" "I" : Cond) ∈ xt_tbl := xt_in (xt_t7 (List.mem_of_getElem? (i := 52) (by decide +kernel))) (by decide +kernel)
set_option maxRecDepth 100000 in
def T_World_writeElements : List (Nat × Instr × Nat) := [(0, .aload_n 1, 1), (1, .getfield 148, 3), (4, .astore_n 2, 1), (5, .iconst 0, 1), (6, .istore_n 3, 1), (7, .iload_n 3, 1), (8, .aload_n 2, 1), (9, .getfield 116, 3), (12, .invokevirtual 75, 3), (15, .if_icmp .ge 99, 3), (18, .aload_n 1, 1), (19, .getfield 196, 3), (22, .getfield 316, 3), (25, .aload_n 0, 1), (26, .aload_n 2, 1), (27, .aload_n 2, 1), (28, .getfield 116, 3), (31, .iload_n 3, 1), (32, .invokevirtual 265, 3), (35, .l2i, 1), (36, .iadd, 1), (37, .istore 4, 2), (39, .aload_n 2, 1), (40, .getfield 116, 3), (43, .iload_n 3, 1), (44, .iconst 3, 1), (45, .invokevirtual 51, 3), (48, .istore 5, 2), (50, .iconst 0, 1), (51, .istore 6, 2), (53, .iload 6, 2), (55, .aload_n 2, 1), (56, .getfield 116, 3), (59, .iload_n 3, 1), (60, .iconst 4, 1), (61, .invokevirtual 51, 3), (64, .if_icmp .ge 44, 3), (67, .aload_n 2, 1), (68, .getfield 319, 3), (71, .iload 5, 2), (73, .iload 6, 2), (75, .iadd, 1), (76, .iconst 1, 1), (77, .invokevirtual 51, 3), (80, .istore 7, 2), (82, .aload_n 0, 1), (83, .getfield 29, 3), (86, .getfield 272, 3), (89, .iload 4, 2), (91, .iload 6, 2), (93, .iadd, 1), (94, .aload_n 1, 1), (95, .iload 7, 2), (97, .invokevirtual 193, 3), (100, .i2l, 1), (101, .lastore, 1), (102, .iinc 6 1, 3), (105, .goto (-52), 3), (108, .iinc 3 1, 3), (111, .goto (-104), 3), (114, .return_, 1)]
theorem D_World_writeElements : ∀ q ∈ T_World_writeElements, decode b_World_writeElements q.1 = .ok (q.2.1, q.2.2) := by decide +kernel

set_option maxHeartbeats 4000000 in
set_option maxRecDepth 100000 in
theorem am_World_writeElements_L53 (l : Launch) (hfl : l.flags = pinnedFlags ++ [noTraceFlag]) (D : va_G) (A : Nat → Prop) (σ MC MS : Nat) (h0 : xb_H) (Qr : xb_H → Prop) (K7 : Nat → Nat → Nat → Int32 → xb_H → Prop) (hK7 : ∀ (x0 : Nat) (x1 : Nat) (x2 : Nat) (x3 : Int32) (h : xb_H), K7 x0 x1 x2 x3 h → xb_am l D A σ 5 MC MS h0 (fun v h _ _ => v = none ∧ Qr h) (fun _ _ _ _ => False) y_World_writeElements.cls y_World_writeElements.name b_World_writeElements 8 ([] : List ExceptionTableEntry) none 7 [(0, .ref x0), (1, .ref x1), (2, .ref x2), (3, .int x3)] [] h 0 0) (n9 : Nat) : ∀ (x0 : Nat) (x1 : Nat) (x2 : Nat) (x3 : Int32) (x4 : Int32) (x5 : Int32) (x6 : Int32) (h : xb_H), w_World_writeElements_L53 K7 Qr n9 x0 x1 x2 x3 x4 x5 x6 h → xb_am l D A σ 5 MC MS h0 (fun v h _ _ => v = none ∧ Qr h) (fun _ _ _ _ => False) y_World_writeElements.cls y_World_writeElements.name b_World_writeElements 8 ([] : List ExceptionTableEntry) none 53 [(0, .ref x0), (1, .ref x1), (2, .ref x2), (3, .int x3), (4, .int x4), (5, .int x5), (6, .int x6)] [] h 0 0 := by
  induction n9 with
  | zero => intro x0 x1 x2 x3 x4 x5 x6 h hw; exact False.elim hw
  | succ n9 ih =>
    intro x0 x1 x2 x3 x4 x5 x6 h hw
    unfold w_World_writeElements_L53 at hw
    intro p e s m args below meth c hC H locs ls k n hE hl hR hS hk hn
    obtain ⟨hx, hb, hown, hlocks, htab, hml, hr, hB, hA, hnm⟩ := id hC
    have hts := hB.1.1.at args
    refine lv_iload hx hb (xb_d D_World_writeElements 30 rfl) (lv_at hl 6 rfl) ?_
    refine lv_aload_n hx hb (xb_d D_World_writeElements 31 rfl) rfl (lv_at hl 2 rfl) ?_
    obtain ⟨hk1, hw⟩ := hw
    refine xb_getP (C := R_StackModule) (T := F_StackModule) (N := 19) hx hb 2 9 hts fin_StackModule hown hR hk1 (by decide) rfl (by decide) rfl (hts _ m_6b906570) (fun _ h9 => h9) (xb_d D_World_writeElements 32 rfl) ?_
    obtain ⟨b2, eb2, hw⟩ := hw
    refine xb_some eb2 ?_
    refine lv_iload_n hx hb (xb_d D_World_writeElements 33 rfl) rfl (lv_at hl 3 rfl) ?_
    refine lv_iconst (v := 4) hx hb (xb_d D_World_writeElements 34 rfl) (by decide) ?_
    obtain ⟨hk3, hw⟩ := hw
    refine xb_call0 (D := D) (A := A) (σ := σ) (h := h) (d := 2) (maxL := 3) (rest := [.int x6]) (av := [.ref b2, .int x3, .int 4]) (fun T hT X => by obtain ⟨cb9, ra9, rb9, rc9⟩ := xb_recv (ci := 1) hR rfl hk3 (by decide); exact xt_invV X hx hown (hts _ m_ad29ee25) (hts _ m_8e233096) (hts _ m_27eed10c) (xt_sigOf (hts _ m_ff1c70ae)) nm_Row_at (by rw [hT]; exact ra9) rb9 rc9 (g := F0 m 61 ls [.int 4, .int x3, .ref b2, .int x6]) rfl (argsL := [.int x3, .int 4]) (rest := [.int x6]) rfl rfl (by rw [hb]; exact (xb_d D_World_writeElements 35 rfl))) (ok_Row_at l hfl D A σ b2 x3 4 h _ hw) (hml.trans hl.1.symm) (by rw [hb]; exact (xb_d D_World_writeElements 35 rfl)) (Nat.le_of_ble_eq_true rfl) (Nat.le_of_ble_eq_true rfl) (Nat.le_of_ble_eq_true rfl) (show k ≤ MC by omega) (show n ≤ MS by omega) (xt_w1 hB.1 m_ff1c70ae) (xt_cdOf hB.1 m_ff1c70ae) (hts _ m_c1bef504) hB hR hS hA (fun vv h4 H locs hq hEh4 hR hS => ?_)
    obtain ⟨r5, rfl, hw⟩ := hq
    have hw := hw hEh4
    have hE := hE.tr hEh4
    refine W.eq (g2 := F0 m 64 ls [.int r5, .int x6]) rfl ?_
    refine lv_icmp_ge (tgt := 108) hx hb (xb_d D_World_writeElements 36 rfl) rfl (fun hc6 => ?_) (fun hc6 => ?_)
    · have hw := hw.1 hc6
      refine lv_iinc (v := (x3 + 1)) (k := 3) hx hb (xb_d D_World_writeElements 58 rfl) hl rfl (by first | rfl | decide) (by decide) rfl (fun ls hl => ?_)
      have hl : lv_has ls 8 [(3, .int (x3 + 1)), (0, .ref x0), (1, .ref x1), (2, .ref x2), (4, .int x4), (5, .int x5), (6, .int x6)] := hl
      refine lv_goto (tgt := 7) hx hb (xb_d D_World_writeElements 59 rfl) rfl ?_
      exact hK7 x0 x1 x2 (x3 + 1) h4 hw p e s m args below meth c hC H locs ls k n hE (lv_sub hl [1, 2, 3, 0] rfl) hR hS (by omega) (by omega)
    · have hw := hw.2 hc6
      refine lv_aload_n hx hb (xb_d D_World_writeElements 37 rfl) rfl (lv_at hl 2 rfl) ?_
      have hk1 : xb_k h4 x2 = 3 := hEh4.k hk1
      refine xb_getP (C := R_StackModule) (T := F_StackModule) (N := 19) hx hb 2 10 hts fin_StackModule hown hR hk1 (by decide) rfl (by decide) rfl (hts _ m_e773a004) (fun _ h9 => h9) (xb_d D_World_writeElements 38 rfl) ?_
      obtain ⟨b7, eb7, hw⟩ := hw
      refine xb_some eb7 ?_
      refine lv_iload hx hb (xb_d D_World_writeElements 39 rfl) (lv_at hl 5 rfl) ?_
      refine lv_iload hx hb (xb_d D_World_writeElements 40 rfl) (lv_at hl 6 rfl) ?_
      refine lv_iadd hx hb (xb_d D_World_writeElements 41 rfl) ?_
      refine lv_iconst (v := 1) hx hb (xb_d D_World_writeElements 42 rfl) (by decide) ?_
      obtain ⟨hk8, hw⟩ := hw
      refine xb_call0 (D := D) (A := A) (σ := σ) (h := h4) (d := 2) (maxL := 3) (rest := []) (av := [.ref b7, .int (x5 + x6), .int 1]) (fun T hT X => by obtain ⟨cb9, ra9, rb9, rc9⟩ := xb_recv (ci := 1) hR rfl hk8 (by decide); exact xt_invV X hx hown (hts _ m_ad29ee25) (hts _ m_8e233096) (hts _ m_27eed10c) (xt_sigOf (hts _ m_ff1c70ae)) nm_Row_at (by rw [hT]; exact ra9) rb9 rc9 (g := F0 m 77 ls [.int 1, .int (x5 + x6), .ref b7]) rfl (argsL := [.int (x5 + x6), .int 1]) (rest := []) rfl rfl (by rw [hb]; exact (xb_d D_World_writeElements 43 rfl))) (ok_Row_at l hfl D A σ b7 (x5 + x6) 1 h4 _ hw) (hml.trans hl.1.symm) (by rw [hb]; exact (xb_d D_World_writeElements 43 rfl)) (Nat.le_of_ble_eq_true rfl) (Nat.le_of_ble_eq_true rfl) (Nat.le_of_ble_eq_true rfl) (show k ≤ MC by omega) (show n ≤ MS by omega) (xt_w1 hB.1 m_ff1c70ae) (xt_cdOf hB.1 m_ff1c70ae) (hts _ m_c1bef504) hB hR hS hA (fun vv h9 H locs hq hEh9 hR hS => ?_)
      obtain ⟨r10, rfl, hw⟩ := hq
      have hw := hw hEh9
      have hE := hE.tr hEh9
      refine W.eq (g2 := F0 m 80 ls [.int r10]) rfl ?_
      refine lv_istore hx hb (xb_d D_World_writeElements 44 rfl) hl (by decide) rfl (fun ls hl => ?_)
      have hl : lv_has ls 8 [(7, .int r10), (0, .ref x0), (1, .ref x1), (2, .ref x2), (3, .int x3), (4, .int x4), (5, .int x5), (6, .int x6)] := hl
      refine lv_aload_n hx hb (xb_d D_World_writeElements 45 rfl) rfl (lv_at hl 1 rfl) ?_
      obtain ⟨hk11, hw⟩ := hw
      refine xb_getP (C := R_World) (T := F_World) (N := 16) hx hb 6 4 hts fin_World hown hR hk11 (by decide) rfl (by decide) rfl (hts _ m_1ef9f414) (fun _ h9 => h9) (xb_d D_World_writeElements 46 rfl) ?_
      obtain ⟨b12, eb12, hw⟩ := hw
      refine xb_some eb12 ?_
      obtain ⟨hk13, hw⟩ := hw
      refine xb_getP (C := R_Row) (T := F_Row) (N := 3) hx hb 1 0 hts fin_Row hown hR hk13 (by decide) rfl (by decide) rfl (hts _ m_e12aacbe) (fun _ h9 => h9) (xb_d D_World_writeElements 47 rfl) ?_
      obtain ⟨b14, eb14, hw⟩ := hw
      refine xb_some eb14 ?_
      refine lv_iload hx hb (xb_d D_World_writeElements 48 rfl) (lv_at hl 5 rfl) ?_
      refine lv_iload hx hb (xb_d D_World_writeElements 49 rfl) (lv_at hl 7 rfl) ?_
      refine lv_iadd hx hb (xb_d D_World_writeElements 50 rfl) ?_
      refine lv_aload_n hx hb (xb_d D_World_writeElements 51 rfl) rfl (lv_at hl 2 rfl) ?_
      refine lv_iload hx hb (xb_d D_World_writeElements 52 rfl) (lv_at hl 0 rfl) ?_
      obtain ⟨hk15, hw⟩ := hw
      refine xb_call0 (D := D) (A := A) (σ := σ) (h := h9) (d := 2) (maxL := 3) (rest := [.int (x4 + x6), .ref b14]) (av := [.ref x1, .int r10]) (fun T hT X => by obtain ⟨cb9, ra9, rb9, rc9⟩ := xb_recv (ci := 10) hR rfl hk15 (by decide); exact xt_invV X hx hown (hts _ m_263e7717) (hts _ m_3dbccea2) (hts _ m_6ce97918) (xt_sigOf (hts _ m_0d2452ce)) nm_Instance_functionId (by rw [hT]; exact ra9) rb9 rc9 (g := F0 m 97 ls [.int r10, .ref x1, .int (x4 + x6), .ref b14]) rfl (argsL := [.int r10]) (rest := [.int (x4 + x6), .ref b14]) rfl rfl (by rw [hb]; exact (xb_d D_World_writeElements 53 rfl))) (ok_Instance_functionId l hfl D A σ x1 r10 h9 _ hw) (hml.trans hl.1.symm) (by rw [hb]; exact (xb_d D_World_writeElements 53 rfl)) (Nat.le_of_ble_eq_true rfl) (Nat.le_of_ble_eq_true rfl) (Nat.le_of_ble_eq_true rfl) (show k ≤ MC by omega) (show n ≤ MS by omega) (xt_w1 hB.1 m_0d2452ce) (xt_cdOf hB.1 m_0d2452ce) (hts _ m_7a4e907b) hB hR hS hA (fun vv h16 H locs hq hEh16 hR hS => ?_)
      obtain ⟨r17, rfl, hw⟩ := hq
      have hw := hw hEh16
      have hE := hE.tr hEh16
      refine W.eq (g2 := F0 m 100 ls [.int r17, .int (x4 + x6), .ref b14]) rfl ?_
      refine lv_i2l hx hb (xb_d D_World_writeElements 54 rfl) rfl ?_
      obtain ⟨hk18, hw⟩ := hw
      obtain ⟨hi19, hw⟩ := hw
      refine xb_last hx hb hR hS hk18 hi19 (xb_d D_World_writeElements 55 rfl) (fun H locs hR hS => ?_)
      obtain ⟨h20, eh20⟩ : ∃ x : xb_H, x = xb_L h16 b14 (Int32.toNatClampNeg (x4 + x6)) (Int32.toInt64 r17) := ⟨_, rfl⟩
      rw [← eh20] at hR
      have hw := hw h20 eh20
      have hE : xb_ext h0 h20 := by rw [eh20]; exact hE
      refine lv_iinc (v := (x6 + 1)) (k := 7) hx hb (xb_d D_World_writeElements 56 rfl) hl rfl (by first | rfl | decide) (by decide) rfl (fun ls hl => ?_)
      have hl : lv_has ls 8 [(6, .int (x6 + 1)), (7, .int r10), (0, .ref x0), (1, .ref x1), (2, .ref x2), (3, .int x3), (4, .int x4), (5, .int x5)] := hl
      refine lv_goto (tgt := 53) hx hb (xb_d D_World_writeElements 57 rfl) rfl ?_
      exact ih x0 x1 x2 x3 x4 x5 (x6 + 1) h20 hw p e s m args below meth c hC H locs ls k n hE (lv_sub hl [2, 3, 4, 5, 6, 7, 0] rfl) hR hS (by omega) (by omega)

set_option maxHeartbeats 4000000 in
set_option maxRecDepth 100000 in
theorem am_World_writeElements_L7 (l : Launch) (hfl : l.flags = pinnedFlags ++ [noTraceFlag]) (D : va_G) (A : Nat → Prop) (σ MC MS : Nat) (h0 : xb_H) (Qr : xb_H → Prop) (n9 : Nat) : ∀ (x0 : Nat) (x1 : Nat) (x2 : Nat) (x3 : Int32) (h : xb_H), w_World_writeElements_L7 Qr n9 x0 x1 x2 x3 h → xb_am l D A σ 5 MC MS h0 (fun v h _ _ => v = none ∧ Qr h) (fun _ _ _ _ => False) y_World_writeElements.cls y_World_writeElements.name b_World_writeElements 8 ([] : List ExceptionTableEntry) none 7 [(0, .ref x0), (1, .ref x1), (2, .ref x2), (3, .int x3)] [] h 0 0 := by
  induction n9 with
  | zero => intro x0 x1 x2 x3 h hw; exact False.elim hw
  | succ n9 ih =>
    intro x0 x1 x2 x3 h hw
    unfold w_World_writeElements_L7 at hw
    intro p e s m args below meth c hC H locs ls k n hE hl hR hS hk hn
    obtain ⟨hx, hb, hown, hlocks, htab, hml, hr, hB, hA, hnm⟩ := id hC
    have hts := hB.1.1.at args
    refine lv_iload_n hx hb (xb_d D_World_writeElements 5 rfl) rfl (lv_at hl 3 rfl) ?_
    refine lv_aload_n hx hb (xb_d D_World_writeElements 6 rfl) rfl (lv_at hl 2 rfl) ?_
    obtain ⟨hk1, hw⟩ := hw
    refine xb_getP (C := R_StackModule) (T := F_StackModule) (N := 19) hx hb 2 9 hts fin_StackModule hown hR hk1 (by decide) rfl (by decide) rfl (hts _ m_6b906570) (fun _ h9 => h9) (xb_d D_World_writeElements 7 rfl) ?_
    obtain ⟨b2, eb2, hw⟩ := hw
    refine xb_some eb2 ?_
    obtain ⟨hk3, hw⟩ := hw
    refine xb_call0 (D := D) (A := A) (σ := σ) (h := h) (d := 2) (maxL := 1) (rest := [.int x3]) (av := [.ref b2]) (fun T hT X => by obtain ⟨cb9, ra9, rb9, rc9⟩ := xb_recv (ci := 1) hR rfl hk3 (by decide); exact xt_invV X hx hown (hts _ m_5b8308b9) (hts _ m_ded65609) (hts _ m_a4161156) (xt_sigOf (hts _ m_83ba3721)) nm_Row_lines (by rw [hT]; exact ra9) rb9 rc9 (g := F0 m 12 ls [.ref b2, .int x3]) rfl (argsL := []) (rest := [.int x3]) rfl rfl (by rw [hb]; exact (xb_d D_World_writeElements 8 rfl))) (ok_Row_lines l hfl D A σ b2 h _ hw) (hml.trans hl.1.symm) (by rw [hb]; exact (xb_d D_World_writeElements 8 rfl)) (Nat.le_of_ble_eq_true rfl) (Nat.le_of_ble_eq_true rfl) (Nat.le_of_ble_eq_true rfl) (show k ≤ MC by omega) (show n ≤ MS by omega) (xt_w1 hB.1 m_83ba3721) (xt_cdOf hB.1 m_83ba3721) (hts _ m_c1bef504) hB hR hS hA (fun vv h4 H locs hq hEh4 hR hS => ?_)
    obtain ⟨r5, rfl, hw⟩ := hq
    have hw := hw hEh4
    have hE := hE.tr hEh4
    refine W.eq (g2 := F0 m 15 ls [.int r5, .int x3]) rfl ?_
    refine lv_icmp_ge (tgt := 114) hx hb (xb_d D_World_writeElements 9 rfl) rfl (fun hc6 => ?_) (fun hc6 => ?_)
    · have hw := hw.1 hc6
      exact xb_vret 0 0 hx hb hr hlocks (show k + 0 ≤ MC by omega) (show n + 0 ≤ MS by omega) hE hR hS (xb_d D_World_writeElements 60 rfl) hw
    · have hw := hw.2 hc6
      refine lv_aload_n hx hb (xb_d D_World_writeElements 10 rfl) rfl (lv_at hl 1 rfl) ?_
      obtain ⟨hk7, hw⟩ := hw
      refine xb_getP (C := R_Instance) (T := F_Instance) (N := 8) hx hb 10 6 hts fin_Instance hown hR hk7 (by decide) rfl (by decide) rfl (hts _ m_89519114) (fun _ h9 => h9) (xb_d D_World_writeElements 11 rfl) ?_
      obtain ⟨b8, eb8, hw⟩ := hw
      refine xb_some eb8 ?_
      obtain ⟨hk9, hw⟩ := hw
      refine xb_getI (C := R_Table) (T := F_Table) (N := 3) hx hb 11 0 hts fin_Table hown hR hk9 (by decide) rfl (by decide) rfl (hts _ m_e0656074) (fun _ h9 => h9) (xb_d D_World_writeElements 12 rfl) ?_
      refine lv_aload_n hx hb (xb_d D_World_writeElements 13 rfl) rfl (lv_at hl 0 rfl) ?_
      refine lv_aload_n hx hb (xb_d D_World_writeElements 14 rfl) rfl (lv_at hl 2 rfl) ?_
      refine lv_aload_n hx hb (xb_d D_World_writeElements 15 rfl) rfl (lv_at hl 2 rfl) ?_
      have hk1 : xb_k h4 x2 = 3 := hEh4.k hk1
      refine xb_getP (C := R_StackModule) (T := F_StackModule) (N := 19) hx hb 2 9 hts fin_StackModule hown hR hk1 (by decide) rfl (by decide) rfl (hts _ m_6b906570) (fun _ h9 => h9) (xb_d D_World_writeElements 16 rfl) ?_
      obtain ⟨b10, eb10, hw⟩ := hw
      refine xb_some eb10 ?_
      refine lv_iload_n hx hb (xb_d D_World_writeElements 17 rfl) rfl (lv_at hl 3 rfl) ?_
      obtain ⟨hk11, hw⟩ := hw
      refine xb_call0 (D := D) (A := A) (σ := σ) (h := h4) (d := 4) (maxL := 4) (rest := [.int (xb_i h4 b8 0)]) (av := [.ref x0, .ref x2, .ref b10, .int x3]) (fun T hT X => by obtain ⟨cb9, ra9, rb9, rc9⟩ := xb_recv (ci := 6) hR rfl hk11 (by decide); exact xt_invV X hx hown (hts _ m_113858b2) (hts _ m_6a03bf5b) (hts _ m_1294c057) (xt_sigOf (hts _ m_fed04452)) nm_World_offsetOf (by rw [hT]; exact ra9) rb9 rc9 (g := F0 m 32 ls [.int x3, .ref b10, .ref x2, .ref x0, .int (xb_i h4 b8 0)]) rfl (argsL := [.ref x2, .ref b10, .int x3]) (rest := [.int (xb_i h4 b8 0)]) rfl rfl (by rw [hb]; exact (xb_d D_World_writeElements 18 rfl))) (ok_World_offsetOf l hfl D A σ x0 x2 b10 x3 h4 _ hw) (hml.trans hl.1.symm) (by rw [hb]; exact (xb_d D_World_writeElements 18 rfl)) (Nat.le_of_ble_eq_true rfl) (Nat.le_of_ble_eq_true rfl) (Nat.le_of_ble_eq_true rfl) (show k ≤ MC by omega) (show n ≤ MS by omega) (xt_w1 hB.1 m_fed04452) (xt_cdOf hB.1 m_fed04452) (hts _ m_4534b440) hB hR hS hA (fun vv h12 H locs hq hEh12 hR hS => ?_)
      obtain ⟨r13, rfl, hw⟩ := hq
      have hw := hw hEh12
      have hE := hE.tr hEh12
      refine W.eq (g2 := F0 m 35 ls [.long r13, .int (xb_i h4 b8 0)]) rfl ?_
      refine lv_l2i hx hb (xb_d D_World_writeElements 19 rfl) rfl ?_
      refine lv_iadd hx hb (xb_d D_World_writeElements 20 rfl) ?_
      obtain ⟨v14, ev14⟩ : ∃ x : Int32, x = ((xb_i h4 b8 0) + (Int64.toInt32 r13)) := ⟨_, rfl⟩
      have hw := hw v14 ev14
      refine xt_numi (y := v14) ev14.symm ?_
      refine lv_istore hx hb (xb_d D_World_writeElements 21 rfl) hl (by decide) rfl (fun ls hl => ?_)
      have hl : lv_has ls 8 [(4, .int v14), (0, .ref x0), (1, .ref x1), (2, .ref x2), (3, .int x3)] := hl
      refine lv_aload_n hx hb (xb_d D_World_writeElements 22 rfl) rfl (lv_at hl 3 rfl) ?_
      have hk1 : xb_k h12 x2 = 3 := hEh12.k hk1
      refine xb_getP (C := R_StackModule) (T := F_StackModule) (N := 19) hx hb 2 9 hts fin_StackModule hown hR hk1 (by decide) rfl (by decide) rfl (hts _ m_6b906570) (fun _ h9 => h9) (xb_d D_World_writeElements 23 rfl) ?_
      obtain ⟨b15, eb15, hw⟩ := hw
      refine xb_some eb15 ?_
      refine lv_iload_n hx hb (xb_d D_World_writeElements 24 rfl) rfl (lv_at hl 4 rfl) ?_
      refine lv_iconst (v := 3) hx hb (xb_d D_World_writeElements 25 rfl) (by decide) ?_
      obtain ⟨hk16, hw⟩ := hw
      refine xb_call0 (D := D) (A := A) (σ := σ) (h := h12) (d := 2) (maxL := 3) (rest := []) (av := [.ref b15, .int x3, .int 3]) (fun T hT X => by obtain ⟨cb9, ra9, rb9, rc9⟩ := xb_recv (ci := 1) hR rfl hk16 (by decide); exact xt_invV X hx hown (hts _ m_ad29ee25) (hts _ m_8e233096) (hts _ m_27eed10c) (xt_sigOf (hts _ m_ff1c70ae)) nm_Row_at (by rw [hT]; exact ra9) rb9 rc9 (g := F0 m 45 ls [.int 3, .int x3, .ref b15]) rfl (argsL := [.int x3, .int 3]) (rest := []) rfl rfl (by rw [hb]; exact (xb_d D_World_writeElements 26 rfl))) (ok_Row_at l hfl D A σ b15 x3 3 h12 _ hw) (hml.trans hl.1.symm) (by rw [hb]; exact (xb_d D_World_writeElements 26 rfl)) (Nat.le_of_ble_eq_true rfl) (Nat.le_of_ble_eq_true rfl) (Nat.le_of_ble_eq_true rfl) (show k ≤ MC by omega) (show n ≤ MS by omega) (xt_w1 hB.1 m_ff1c70ae) (xt_cdOf hB.1 m_ff1c70ae) (hts _ m_c1bef504) hB hR hS hA (fun vv h17 H locs hq hEh17 hR hS => ?_)
      obtain ⟨r18, rfl, hw⟩ := hq
      have hw := hw hEh17
      have hE := hE.tr hEh17
      refine W.eq (g2 := F0 m 48 ls [.int r18]) rfl ?_
      refine lv_istore hx hb (xb_d D_World_writeElements 27 rfl) hl (by decide) rfl (fun ls hl => ?_)
      have hl : lv_has ls 8 [(5, .int r18), (4, .int v14), (0, .ref x0), (1, .ref x1), (2, .ref x2), (3, .int x3)] := hl
      refine lv_iconst (v := 0) hx hb (xb_d D_World_writeElements 28 rfl) (by decide) ?_
      refine lv_istore hx hb (xb_d D_World_writeElements 29 rfl) hl (by decide) rfl (fun ls hl => ?_)
      have hl : lv_has ls 8 [(6, .int 0), (5, .int r18), (4, .int v14), (0, .ref x0), (1, .ref x1), (2, .ref x2), (3, .int x3)] := hl
      obtain ⟨n8, hw⟩ := hw
      exact am_World_writeElements_L53 l hfl D A σ MC MS h0 Qr (w_World_writeElements_L7 Qr n9) ih n8 x0 x1 x2 x3 v14 r18 0 h17 hw p e s m args below meth c hC H locs ls k n hE (lv_sub hl [3, 4, 5, 6, 2, 1, 0] rfl) hR hS (by omega) (by omega)

set_option maxHeartbeats 4000000 in
set_option maxRecDepth 100000 in
theorem ok_World_writeElements (l : Launch) (hfl : l.flags = pinnedFlags ++ [noTraceFlag]) (D : va_G) (A : Nat → Prop) (σ : Nat) (x0 : Nat) (x1 : Nat) (h : xb_H) (Qr : xb_H → Prop) (hw : w_World_writeElements x0 x1 h Qr) : xb_Met l y_World_writeElements [.code y_World_writeElements b_World_writeElements 8 none] (xb_rm 5 0 0) (xb_Pc D A σ h [.ref x0, .ref x1]) (xb_Qc D A h 0 0 (fun v h _ _ => v = none ∧ Qr h) (fun _ _ _ _ => False)) A := by
  refine xb_ofAm (cc := b_World_writeElements) (by decide) (Nat.le_of_ble_eq_true rfl) ?_
  unfold w_World_writeElements at hw
  show xb_am l D A σ 5 0 0 h (fun v h _ _ => v = none ∧ Qr h) (fun _ _ _ _ => False) y_World_writeElements.cls y_World_writeElements.name b_World_writeElements 8 ([] : List ExceptionTableEntry) none 0 [(0, .ref x0), (1, .ref x1)] [] h 0 0
  obtain ⟨MC, hMC⟩ : ∃ x, x = 0 := ⟨_, rfl⟩
  obtain ⟨MS, hMS⟩ : ∃ x, x = 0 := ⟨_, rfl⟩
  rw [show xb_am l D A σ 5 0 0 = xb_am l D A σ 5 MC MS by rw [hMC, hMS]]
  obtain ⟨h0, hh0⟩ : ∃ x, x = h := ⟨_, rfl⟩
  rw [show xb_am l D A σ 5 MC MS h = xb_am l D A σ 5 MC MS h0 by rw [hh0]]
  intro p e s m args below meth c hC H locs ls k n hE hl hR hS hk hn
  obtain ⟨hx, hb, hown, hlocks, htab, hml, hr, hB, hA, hnm⟩ := id hC
  have hts := hB.1.1.at args
  refine lv_aload_n hx hb (xb_d D_World_writeElements 0 rfl) rfl (lv_at hl 1 rfl) ?_
  obtain ⟨hk1, hw⟩ := hw
  refine xb_getP (C := R_Instance) (T := F_Instance) (N := 8) hx hb 10 1 hts fin_Instance hown hR hk1 (by decide) rfl (by decide) rfl (hts _ m_22811004) (fun _ h9 => h9) (xb_d D_World_writeElements 1 rfl) ?_
  obtain ⟨b2, eb2, hw⟩ := hw
  refine xb_some eb2 ?_
  refine lv_astore_n hx hb (xb_d D_World_writeElements 2 rfl) rfl hl (by decide) rfl (fun ls hl => ?_)
  have hl : lv_has ls 8 [(2, .ref b2), (0, .ref x0), (1, .ref x1)] := hl
  refine lv_iconst (v := 0) hx hb (xb_d D_World_writeElements 3 rfl) (by decide) ?_
  refine lv_istore_n hx hb (xb_d D_World_writeElements 4 rfl) rfl hl (by decide) rfl (fun ls hl => ?_)
  have hl : lv_has ls 8 [(3, .int 0), (2, .ref b2), (0, .ref x0), (1, .ref x1)] := hl
  obtain ⟨n8, hw⟩ := hw
  exact am_World_writeElements_L7 l hfl D A σ MC MS h0 Qr n8 x0 x1 b2 0 h hw p e s m args below meth c hC H locs ls k n hE (lv_sub hl [2, 3, 1, 0] rfl) hR hS (by omega) (by omega)

theorem m_b73c4e92 : (.methodLink "StackHostLaw" 79 y_H_element : Cond) ∈ xt_tbl := xt_in (xt_t9 (List.mem_of_getElem? (i := 72) (by decide +kernel))) (by decide +kernel)
theorem m_53c2b95d : (.instanceMethod y_H_element : Cond) ∈ xt_tbl := xt_in (xt_t9 (List.mem_of_getElem? (i := 73) (by decide +kernel))) (by decide +kernel)
theorem m_ac24d22f : (.selects "StackHost" y_H_element y_H_element : Cond) ∈ xt_tbl := xt_in (xt_t9 (List.mem_of_getElem? (i := 74) (by decide +kernel))) (by decide +kernel)
theorem m_bd5661cb : (.code y_H_element b_H_element 6 (some .int) : Cond) ∈ xt_tbl := xt_in (xt_t9 (List.mem_of_getElem? (i := 75) (by decide +kernel))) (by decide +kernel)
theorem nm_H_element : xt_nm y_H_element 2 := ⟨by decide +kernel, by decide +kernel⟩
set_option maxRecDepth 100000 in
def T_Law_element : List (Nat × Instr × Nat) := [(0, .aload_n 3, 1), (1, .iconst 0, 1), (2, .aload_n 0, 1), (3, .iload_n 1, 1), (4, .iload_n 2, 1), (5, .invokevirtual 79, 3), (8, .i2l, 1), (9, .lastore, 1), (10, .goto 7, 3), (13, .astore 4, 2), (15, .iconst 1, 1), (16, .ireturn, 1), (17, .iconst 0, 1), (18, .ireturn, 1)]
theorem D_Law_element : ∀ q ∈ T_Law_element, decode b_Law_element q.1 = .ok (q.2.1, q.2.2) := by decide +kernel

set_option maxHeartbeats 4000000 in
set_option maxRecDepth 100000 in
theorem ok_Law_element (l : Launch) (hfl : l.flags = pinnedFlags ++ [noTraceFlag]) (D : va_G) (A : Nat → Prop) (σ : Nat) (x0 : Nat) (x1 : Int32) (x2 : Int32) (x3 : Nat) (h : xb_H) (bc : Nat) (bs : Nat) (Qr : Int32 → xb_H → Nat → Nat → Prop) (hw : w_Law_element x0 x1 x2 x3 h bc bs Qr) : xb_Met l y_Law_element [.codeWith y_Law_element b_Law_element 5 (some .int) [(0, 10, 13, 29)]] (xb_rm 5 bc bs) (xb_Pc D A σ h [.ref x0, .int x1, .int x2, .ref x3]) (xb_Qc D A h bc bs (fun v h bc bs => ∃ r, v = some (.int r) ∧ Qr r h bc bs) (fun _ _ _ _ => False)) A := by
  refine xb_ofAmH (cc := b_Law_element) (by decide) (Nat.le_of_ble_eq_true rfl) ?_
  unfold w_Law_element at hw
  show xb_am l D A σ 5 bc bs h (fun v h bc bs => ∃ r, v = some (.int r) ∧ Qr r h bc bs) (fun _ _ _ _ => False) y_Law_element.cls y_Law_element.name b_Law_element 5 (tableOf [(0, 10, 13, 29)]) (some .int) 0 [(0, .ref x0), (1, .int x1), (2, .int x2), (3, .ref x3)] [] h bc bs
  obtain ⟨MC, hMC⟩ : ∃ x, x = bc := ⟨_, rfl⟩
  obtain ⟨MS, hMS⟩ : ∃ x, x = bs := ⟨_, rfl⟩
  rw [show xb_am l D A σ 5 bc bs = xb_am l D A σ 5 MC MS by rw [hMC, hMS]]
  obtain ⟨h0, hh0⟩ : ∃ x, x = h := ⟨_, rfl⟩
  rw [show xb_am l D A σ 5 MC MS h = xb_am l D A σ 5 MC MS h0 by rw [hh0]]
  intro p e s m args below meth c hC H locs ls k n hE hl hR hS hk hn
  obtain ⟨hx, hb, hown, hlocks, htab, hml, hr, hB, hA, hnm⟩ := id hC
  have hts := hB.1.1.at args
  refine lv_aload_n hx hb (xb_d D_Law_element 0 rfl) rfl (lv_at hl 3 rfl) ?_
  refine lv_iconst (v := 0) hx hb (xb_d D_Law_element 1 rfl) (by decide) ?_
  refine lv_aload_n hx hb (xb_d D_Law_element 2 rfl) rfl (lv_at hl 0 rfl) ?_
  refine lv_iload_n hx hb (xb_d D_Law_element 3 rfl) rfl (lv_at hl 1 rfl) ?_
  refine lv_iload_n hx hb (xb_d D_Law_element 4 rfl) rfl (lv_at hl 2 rfl) ?_
  obtain ⟨hk1, hw⟩ := hw
  refine xb_call (D := D) (A := A) (σ := σ) (h := h) (d := 4) (mc := bc) (ms := bs) (maxL := 6) (rest := [.int 0, .ref x3]) (av := [.ref x0, .int x1, .int x2]) (fun T hT X => by obtain ⟨cb9, ra9, rb9, rc9⟩ := xb_recv (ci := 0) hR rfl hk1 (by decide); exact xt_invV X hx hown (hts _ m_b73c4e92) (hts _ m_53c2b95d) (hts _ m_ac24d22f) (xt_sigOf (hts _ m_bd5661cb)) nm_H_element (by rw [hT]; exact ra9) rb9 rc9 (g := F0 m 5 ls [.int x2, .int x1, .ref x0, .int 0, .ref x3]) rfl (argsL := [.int x1, .int x2]) (rest := [.int 0, .ref x3]) rfl rfl (by rw [hb]; exact (xb_d D_Law_element 5 rfl))) (ok_H_element l hfl D A σ x0 x1 x2 h bc bs _ _ hw) (hml.trans hl.1.symm) (by rw [hb]; exact (xb_d D_Law_element 5 rfl)) (Nat.le_of_ble_eq_true rfl) (Nat.le_of_ble_eq_true rfl) (Nat.le_of_ble_eq_true rfl) (show k + bc ≤ MC by omega) (show n + bs ≤ MS by omega) (xt_w1 hB.1 m_bd5661cb) (xt_cdOf hB.1 m_bd5661cb) (hts _ m_ba0734f5) hB hR hS hA (fun vv h2 bc3 bs3 kk3 nn3 H locs hk3 hn3 hq hEh2 hR hS => ?_) (fun XX ax h2 bc3 bs3 kk3 nn3 H locs hk3 hn3 hq hEh2 hex hR hS => ?_)
  · obtain ⟨r3, rfl, hw⟩ := hq
    have hw := hw hEh2
    have hE := hE.tr hEh2
    refine W.eq (g2 := F0 m 8 ls [.int r3, .int 0, .ref x3]) rfl ?_
    refine lv_i2l hx hb (xb_d D_Law_element 6 rfl) rfl ?_
    obtain ⟨hk4, hw⟩ := hw
    obtain ⟨hi5, hw⟩ := hw
    refine xb_last hx hb hR hS hk4 hi5 (xb_d D_Law_element 7 rfl) (fun H locs hR hS => ?_)
    obtain ⟨h6, eh6⟩ : ∃ x : xb_H, x = xb_L h2 x3 (Int32.toNatClampNeg 0) (Int32.toInt64 r3) := ⟨_, rfl⟩
    rw [← eh6] at hR
    have hw := hw h6 eh6
    have hE : xb_ext h0 h6 := by rw [eh6]; exact hE
    refine lv_goto (tgt := 17) hx hb (xb_d D_Law_element 8 rfl) rfl ?_
    refine lv_iconst (v := 0) hx hb (xb_d D_Law_element 12 rfl) (by decide) ?_
    exact xb_iret bc3 bs3 hx hb hr hlocks (show (k + kk3) + bc3 ≤ MC by omega) (show (n + nn3) + bs3 ≤ MS by omega) hE hR hS (xb_d D_Law_element 13 rfl) hw
  · have hw := hq hEh2 ax
    have hE := hE.tr hEh2
    obtain ⟨rfl, hw⟩ := hw
    refine xt_catch (own := "StackHostLaw") (name := "java/lang/IndexOutOfBoundsException") (Xn := "java/lang/IndexOutOfBoundsException") hown ⟨0, 10, 13, 29⟩ [] htab (by decide) (by decide) (hts _ m_17a0b3c6) (hts _ m_b0d3d118) hex ?_
    refine W.eq (g2 := F0 m 13 ls [.ref ax]) rfl ?_
    refine lv_astore hx hb (xb_d D_Law_element 9 rfl) hl (by decide) rfl (fun ls hl => ?_)
    have hl : lv_has ls 5 [(4, .ref ax), (0, .ref x0), (1, .int x1), (2, .int x2), (3, .ref x3)] := hl
    refine lv_iconst (v := 1) hx hb (xb_d D_Law_element 10 rfl) (by decide) ?_
    exact xb_iret bc3 bs3 hx hb hr hlocks (show (k + kk3) + bc3 ≤ MC by omega) (show (n + nn3) + bs3 ≤ MS by omega) hE hR hS (xb_d D_Law_element 11 rfl) hw

theorem m_373df2c7 : (.methodLink "StackHostLaw" 47 y_H_exported : Cond) ∈ xt_tbl := xt_in (xt_t7 (List.mem_of_getElem? (i := 149) (by decide +kernel))) (by decide +kernel)
theorem m_529c5ecf : (.instanceMethod y_H_exported : Cond) ∈ xt_tbl := xt_in (xt_t7 (List.mem_of_getElem? (i := 150) (by decide +kernel))) (by decide +kernel)
theorem m_12c6bf6e : (.selects "StackHost" y_H_exported y_H_exported : Cond) ∈ xt_tbl := xt_in (xt_t7 (List.mem_of_getElem? (i := 151) (by decide +kernel))) (by decide +kernel)
theorem m_25daae94 : (.code y_H_exported b_H_exported 7 (some .int) : Cond) ∈ xt_tbl := xt_in (xt_t7 (List.mem_of_getElem? (i := 152) (by decide +kernel))) (by decide +kernel)
theorem nm_H_exported : xt_nm y_H_exported 3 := ⟨by decide +kernel, by decide +kernel⟩
set_option maxRecDepth 100000 in
def T_Law_exported : List (Nat × Instr × Nat) := [(0, .aload 4, 2), (2, .iconst 0, 1), (3, .aload_n 0, 1), (4, .iload_n 1, 1), (5, .iload_n 2, 1), (6, .iload_n 3, 1), (7, .invokevirtual 47, 3), (10, .i2l, 1), (11, .lastore, 1), (12, .goto 7, 3), (15, .astore 5, 2), (17, .iconst 1, 1), (18, .ireturn, 1), (19, .iconst 0, 1), (20, .ireturn, 1)]
theorem D_Law_exported : ∀ q ∈ T_Law_exported, decode b_Law_exported q.1 = .ok (q.2.1, q.2.2) := by decide +kernel

set_option maxHeartbeats 4000000 in
set_option maxRecDepth 100000 in
theorem ok_Law_exported (l : Launch) (hfl : l.flags = pinnedFlags ++ [noTraceFlag]) (D : va_G) (A : Nat → Prop) (σ : Nat) (x0 : Nat) (x1 : Int32) (x2 : Int32) (x3 : Int32) (x4 : Nat) (h : xb_H) (bc : Nat) (bs : Nat) (Qr : Int32 → xb_H → Nat → Nat → Prop) (hw : w_Law_exported x0 x1 x2 x3 x4 h bc bs Qr) : xb_Met l y_Law_exported [.codeWith y_Law_exported b_Law_exported 6 (some .int) [(0, 12, 15, 29)]] (xb_rm 5 bc bs) (xb_Pc D A σ h [.ref x0, .int x1, .int x2, .int x3, .ref x4]) (xb_Qc D A h bc bs (fun v h bc bs => ∃ r, v = some (.int r) ∧ Qr r h bc bs) (fun _ _ _ _ => False)) A := by
  refine xb_ofAmH (cc := b_Law_exported) (by decide) (Nat.le_of_ble_eq_true rfl) ?_
  unfold w_Law_exported at hw
  show xb_am l D A σ 5 bc bs h (fun v h bc bs => ∃ r, v = some (.int r) ∧ Qr r h bc bs) (fun _ _ _ _ => False) y_Law_exported.cls y_Law_exported.name b_Law_exported 6 (tableOf [(0, 12, 15, 29)]) (some .int) 0 [(0, .ref x0), (1, .int x1), (2, .int x2), (3, .int x3), (4, .ref x4)] [] h bc bs
  obtain ⟨MC, hMC⟩ : ∃ x, x = bc := ⟨_, rfl⟩
  obtain ⟨MS, hMS⟩ : ∃ x, x = bs := ⟨_, rfl⟩
  rw [show xb_am l D A σ 5 bc bs = xb_am l D A σ 5 MC MS by rw [hMC, hMS]]
  obtain ⟨h0, hh0⟩ : ∃ x, x = h := ⟨_, rfl⟩
  rw [show xb_am l D A σ 5 MC MS h = xb_am l D A σ 5 MC MS h0 by rw [hh0]]
  intro p e s m args below meth c hC H locs ls k n hE hl hR hS hk hn
  obtain ⟨hx, hb, hown, hlocks, htab, hml, hr, hB, hA, hnm⟩ := id hC
  have hts := hB.1.1.at args
  refine lv_aload hx hb (xb_d D_Law_exported 0 rfl) (lv_at hl 4 rfl) ?_
  refine lv_iconst (v := 0) hx hb (xb_d D_Law_exported 1 rfl) (by decide) ?_
  refine lv_aload_n hx hb (xb_d D_Law_exported 2 rfl) rfl (lv_at hl 0 rfl) ?_
  refine lv_iload_n hx hb (xb_d D_Law_exported 3 rfl) rfl (lv_at hl 1 rfl) ?_
  refine lv_iload_n hx hb (xb_d D_Law_exported 4 rfl) rfl (lv_at hl 2 rfl) ?_
  refine lv_iload_n hx hb (xb_d D_Law_exported 5 rfl) rfl (lv_at hl 3 rfl) ?_
  obtain ⟨hk1, hw⟩ := hw
  refine xb_call (D := D) (A := A) (σ := σ) (h := h) (d := 4) (mc := bc) (ms := bs) (maxL := 7) (rest := [.int 0, .ref x4]) (av := [.ref x0, .int x1, .int x2, .int x3]) (fun T hT X => by obtain ⟨cb9, ra9, rb9, rc9⟩ := xb_recv (ci := 0) hR rfl hk1 (by decide); exact xt_invV X hx hown (hts _ m_373df2c7) (hts _ m_529c5ecf) (hts _ m_12c6bf6e) (xt_sigOf (hts _ m_25daae94)) nm_H_exported (by rw [hT]; exact ra9) rb9 rc9 (g := F0 m 7 ls [.int x3, .int x2, .int x1, .ref x0, .int 0, .ref x4]) rfl (argsL := [.int x1, .int x2, .int x3]) (rest := [.int 0, .ref x4]) rfl rfl (by rw [hb]; exact (xb_d D_Law_exported 6 rfl))) (ok_H_exported l hfl D A σ x0 x1 x2 x3 h bc bs _ _ hw) (hml.trans hl.1.symm) (by rw [hb]; exact (xb_d D_Law_exported 6 rfl)) (Nat.le_of_ble_eq_true rfl) (Nat.le_of_ble_eq_true rfl) (Nat.le_of_ble_eq_true rfl) (show k + bc ≤ MC by omega) (show n + bs ≤ MS by omega) (xt_w1 hB.1 m_25daae94) (xt_cdOf hB.1 m_25daae94) (hts _ m_ba0734f5) hB hR hS hA (fun vv h2 bc3 bs3 kk3 nn3 H locs hk3 hn3 hq hEh2 hR hS => ?_) (fun XX ax h2 bc3 bs3 kk3 nn3 H locs hk3 hn3 hq hEh2 hex hR hS => ?_)
  · obtain ⟨r3, rfl, hw⟩ := hq
    have hw := hw hEh2
    have hE := hE.tr hEh2
    refine W.eq (g2 := F0 m 10 ls [.int r3, .int 0, .ref x4]) rfl ?_
    refine lv_i2l hx hb (xb_d D_Law_exported 7 rfl) rfl ?_
    obtain ⟨hk4, hw⟩ := hw
    obtain ⟨hi5, hw⟩ := hw
    refine xb_last hx hb hR hS hk4 hi5 (xb_d D_Law_exported 8 rfl) (fun H locs hR hS => ?_)
    obtain ⟨h6, eh6⟩ : ∃ x : xb_H, x = xb_L h2 x4 (Int32.toNatClampNeg 0) (Int32.toInt64 r3) := ⟨_, rfl⟩
    rw [← eh6] at hR
    have hw := hw h6 eh6
    have hE : xb_ext h0 h6 := by rw [eh6]; exact hE
    refine lv_goto (tgt := 19) hx hb (xb_d D_Law_exported 9 rfl) rfl ?_
    refine lv_iconst (v := 0) hx hb (xb_d D_Law_exported 13 rfl) (by decide) ?_
    exact xb_iret bc3 bs3 hx hb hr hlocks (show (k + kk3) + bc3 ≤ MC by omega) (show (n + nn3) + bs3 ≤ MS by omega) hE hR hS (xb_d D_Law_exported 14 rfl) hw
  · have hw := hq hEh2 ax
    have hE := hE.tr hEh2
    obtain ⟨rfl, hw⟩ := hw
    refine xt_catch (own := "StackHostLaw") (name := "java/lang/IndexOutOfBoundsException") (Xn := "java/lang/IndexOutOfBoundsException") hown ⟨0, 12, 15, 29⟩ [] htab (by decide) (by decide) (hts _ m_17a0b3c6) (hts _ m_b0d3d118) hex ?_
    refine W.eq (g2 := F0 m 15 ls [.ref ax]) rfl ?_
    refine lv_astore hx hb (xb_d D_Law_exported 10 rfl) hl (by decide) rfl (fun ls hl => ?_)
    have hl : lv_has ls 6 [(5, .ref ax), (0, .ref x0), (1, .int x1), (2, .int x2), (3, .int x3), (4, .ref x4)] := hl
    refine lv_iconst (v := 1) hx hb (xb_d D_Law_exported 11 rfl) (by decide) ?_
    exact xb_iret bc3 bs3 hx hb hr hlocks (show (k + kk3) + bc3 ≤ MC by omega) (show (n + nn3) + bs3 ≤ MS by omega) hE hR hS (xb_d D_Law_exported 12 rfl) hw

theorem m_34399e87 : (.methodLink "StackHostLaw" 68 y_H_peek : Cond) ∈ xt_tbl := xt_in (xt_t9 (List.mem_of_getElem? (i := 41) (by decide +kernel))) (by decide +kernel)
theorem m_05c78914 : (.instanceMethod y_H_peek : Cond) ∈ xt_tbl := xt_in (xt_t9 (List.mem_of_getElem? (i := 42) (by decide +kernel))) (by decide +kernel)
theorem m_d3034874 : (.selects "StackHost" y_H_peek y_H_peek : Cond) ∈ xt_tbl := xt_in (xt_t9 (List.mem_of_getElem? (i := 43) (by decide +kernel))) (by decide +kernel)
theorem m_713dd2fb : (.code y_H_peek b_H_peek 4 (some .int) : Cond) ∈ xt_tbl := xt_in (xt_t9 (List.mem_of_getElem? (i := 44) (by decide +kernel))) (by decide +kernel)
theorem nm_H_peek : xt_nm y_H_peek 2 := ⟨by decide +kernel, by decide +kernel⟩
set_option maxRecDepth 100000 in
def T_Law_peek : List (Nat × Instr × Nat) := [(0, .aload_n 3, 1), (1, .iconst 0, 1), (2, .aload_n 0, 1), (3, .iload_n 1, 1), (4, .iload_n 2, 1), (5, .invokevirtual 68, 3), (8, .i2l, 1), (9, .lastore, 1), (10, .goto 7, 3), (13, .astore 4, 2), (15, .iconst 1, 1), (16, .ireturn, 1), (17, .iconst 0, 1), (18, .ireturn, 1)]
theorem D_Law_peek : ∀ q ∈ T_Law_peek, decode b_Law_peek q.1 = .ok (q.2.1, q.2.2) := by decide +kernel

set_option maxHeartbeats 4000000 in
set_option maxRecDepth 100000 in
theorem ok_Law_peek (l : Launch) (hfl : l.flags = pinnedFlags ++ [noTraceFlag]) (D : va_G) (A : Nat → Prop) (σ : Nat) (x0 : Nat) (x1 : Int32) (x2 : Int32) (x3 : Nat) (h : xb_H) (bc : Nat) (bs : Nat) (Qr : Int32 → xb_H → Nat → Nat → Prop) (hw : w_Law_peek x0 x1 x2 x3 h bc bs Qr) : xb_Met l y_Law_peek [.codeWith y_Law_peek b_Law_peek 5 (some .int) [(0, 10, 13, 29)]] (xb_rm 5 bc bs) (xb_Pc D A σ h [.ref x0, .int x1, .int x2, .ref x3]) (xb_Qc D A h bc bs (fun v h bc bs => ∃ r, v = some (.int r) ∧ Qr r h bc bs) (fun _ _ _ _ => False)) A := by
  refine xb_ofAmH (cc := b_Law_peek) (by decide) (Nat.le_of_ble_eq_true rfl) ?_
  unfold w_Law_peek at hw
  show xb_am l D A σ 5 bc bs h (fun v h bc bs => ∃ r, v = some (.int r) ∧ Qr r h bc bs) (fun _ _ _ _ => False) y_Law_peek.cls y_Law_peek.name b_Law_peek 5 (tableOf [(0, 10, 13, 29)]) (some .int) 0 [(0, .ref x0), (1, .int x1), (2, .int x2), (3, .ref x3)] [] h bc bs
  obtain ⟨MC, hMC⟩ : ∃ x, x = bc := ⟨_, rfl⟩
  obtain ⟨MS, hMS⟩ : ∃ x, x = bs := ⟨_, rfl⟩
  rw [show xb_am l D A σ 5 bc bs = xb_am l D A σ 5 MC MS by rw [hMC, hMS]]
  obtain ⟨h0, hh0⟩ : ∃ x, x = h := ⟨_, rfl⟩
  rw [show xb_am l D A σ 5 MC MS h = xb_am l D A σ 5 MC MS h0 by rw [hh0]]
  intro p e s m args below meth c hC H locs ls k n hE hl hR hS hk hn
  obtain ⟨hx, hb, hown, hlocks, htab, hml, hr, hB, hA, hnm⟩ := id hC
  have hts := hB.1.1.at args
  refine lv_aload_n hx hb (xb_d D_Law_peek 0 rfl) rfl (lv_at hl 3 rfl) ?_
  refine lv_iconst (v := 0) hx hb (xb_d D_Law_peek 1 rfl) (by decide) ?_
  refine lv_aload_n hx hb (xb_d D_Law_peek 2 rfl) rfl (lv_at hl 0 rfl) ?_
  refine lv_iload_n hx hb (xb_d D_Law_peek 3 rfl) rfl (lv_at hl 1 rfl) ?_
  refine lv_iload_n hx hb (xb_d D_Law_peek 4 rfl) rfl (lv_at hl 2 rfl) ?_
  obtain ⟨hk1, hw⟩ := hw
  refine xb_call (D := D) (A := A) (σ := σ) (h := h) (d := 4) (mc := bc) (ms := bs) (maxL := 4) (rest := [.int 0, .ref x3]) (av := [.ref x0, .int x1, .int x2]) (fun T hT X => by obtain ⟨cb9, ra9, rb9, rc9⟩ := xb_recv (ci := 0) hR rfl hk1 (by decide); exact xt_invV X hx hown (hts _ m_34399e87) (hts _ m_05c78914) (hts _ m_d3034874) (xt_sigOf (hts _ m_713dd2fb)) nm_H_peek (by rw [hT]; exact ra9) rb9 rc9 (g := F0 m 5 ls [.int x2, .int x1, .ref x0, .int 0, .ref x3]) rfl (argsL := [.int x1, .int x2]) (rest := [.int 0, .ref x3]) rfl rfl (by rw [hb]; exact (xb_d D_Law_peek 5 rfl))) (ok_H_peek l hfl D A σ x0 x1 x2 h bc bs _ _ hw) (hml.trans hl.1.symm) (by rw [hb]; exact (xb_d D_Law_peek 5 rfl)) (Nat.le_of_ble_eq_true rfl) (Nat.le_of_ble_eq_true rfl) (Nat.le_of_ble_eq_true rfl) (show k + bc ≤ MC by omega) (show n + bs ≤ MS by omega) (xt_w1 hB.1 m_713dd2fb) (xt_cdOf hB.1 m_713dd2fb) (hts _ m_ba0734f5) hB hR hS hA (fun vv h2 bc3 bs3 kk3 nn3 H locs hk3 hn3 hq hEh2 hR hS => ?_) (fun XX ax h2 bc3 bs3 kk3 nn3 H locs hk3 hn3 hq hEh2 hex hR hS => ?_)
  · obtain ⟨r3, rfl, hw⟩ := hq
    have hw := hw hEh2
    have hE := hE.tr hEh2
    refine W.eq (g2 := F0 m 8 ls [.int r3, .int 0, .ref x3]) rfl ?_
    refine lv_i2l hx hb (xb_d D_Law_peek 6 rfl) rfl ?_
    obtain ⟨hk4, hw⟩ := hw
    obtain ⟨hi5, hw⟩ := hw
    refine xb_last hx hb hR hS hk4 hi5 (xb_d D_Law_peek 7 rfl) (fun H locs hR hS => ?_)
    obtain ⟨h6, eh6⟩ : ∃ x : xb_H, x = xb_L h2 x3 (Int32.toNatClampNeg 0) (Int32.toInt64 r3) := ⟨_, rfl⟩
    rw [← eh6] at hR
    have hw := hw h6 eh6
    have hE : xb_ext h0 h6 := by rw [eh6]; exact hE
    refine lv_goto (tgt := 17) hx hb (xb_d D_Law_peek 8 rfl) rfl ?_
    refine lv_iconst (v := 0) hx hb (xb_d D_Law_peek 12 rfl) (by decide) ?_
    exact xb_iret bc3 bs3 hx hb hr hlocks (show (k + kk3) + bc3 ≤ MC by omega) (show (n + nn3) + bs3 ≤ MS by omega) hE hR hS (xb_d D_Law_peek 13 rfl) hw
  · have hw := hq hEh2 ax
    have hE := hE.tr hEh2
    obtain ⟨rfl, hw⟩ := hw
    refine xt_catch (own := "StackHostLaw") (name := "java/lang/IndexOutOfBoundsException") (Xn := "java/lang/IndexOutOfBoundsException") hown ⟨0, 10, 13, 29⟩ [] htab (by decide) (by decide) (hts _ m_17a0b3c6) (hts _ m_b0d3d118) hex ?_
    refine W.eq (g2 := F0 m 13 ls [.ref ax]) rfl ?_
    refine lv_astore hx hb (xb_d D_Law_peek 9 rfl) hl (by decide) rfl (fun ls hl => ?_)
    have hl : lv_has ls 5 [(4, .ref ax), (0, .ref x0), (1, .int x1), (2, .int x2), (3, .ref x3)] := hl
    refine lv_iconst (v := 1) hx hb (xb_d D_Law_peek 10 rfl) (by decide) ?_
    exact xb_iret bc3 bs3 hx hb hr hlocks (show (k + kk3) + bc3 ≤ MC by omega) (show (n + nn3) + bs3 ≤ MS by omega) hE hR hS (xb_d D_Law_peek 11 rfl) hw

theorem m_ef70ac1e : (.methodLink "StackHostLaw" 71 y_H_poke : Cond) ∈ xt_tbl := xt_in (xt_t9 (List.mem_of_getElem? (i := 55) (by decide +kernel))) (by decide +kernel)
theorem m_b4e69a1f : (.instanceMethod y_H_poke : Cond) ∈ xt_tbl := xt_in (xt_t9 (List.mem_of_getElem? (i := 56) (by decide +kernel))) (by decide +kernel)
theorem m_bbfe7c7c : (.selects "StackHost" y_H_poke y_H_poke : Cond) ∈ xt_tbl := xt_in (xt_t9 (List.mem_of_getElem? (i := 57) (by decide +kernel))) (by decide +kernel)
theorem m_6cbce5f0 : (.code y_H_poke b_H_poke 5 none : Cond) ∈ xt_tbl := xt_in (xt_t9 (List.mem_of_getElem? (i := 58) (by decide +kernel))) (by decide +kernel)
theorem nm_H_poke : xt_nm y_H_poke 3 := ⟨by decide +kernel, by decide +kernel⟩
set_option maxRecDepth 100000 in
def T_Law_poke : List (Nat × Instr × Nat) := [(0, .aload_n 0, 1), (1, .iload_n 1, 1), (2, .iload_n 2, 1), (3, .iload_n 3, 1), (4, .invokevirtual 71, 3), (7, .goto 7, 3), (10, .astore 4, 2), (12, .iconst 1, 1), (13, .ireturn, 1), (14, .iconst 0, 1), (15, .ireturn, 1)]
theorem D_Law_poke : ∀ q ∈ T_Law_poke, decode b_Law_poke q.1 = .ok (q.2.1, q.2.2) := by decide +kernel

set_option maxHeartbeats 4000000 in
set_option maxRecDepth 100000 in
theorem ok_Law_poke (l : Launch) (hfl : l.flags = pinnedFlags ++ [noTraceFlag]) (D : va_G) (A : Nat → Prop) (σ : Nat) (x0 : Nat) (x1 : Int32) (x2 : Int32) (x3 : Int32) (h : xb_H) (bc : Nat) (bs : Nat) (Qr : Int32 → xb_H → Nat → Nat → Prop) (hw : w_Law_poke x0 x1 x2 x3 h bc bs Qr) : xb_Met l y_Law_poke [.codeWith y_Law_poke b_Law_poke 5 (some .int) [(0, 7, 10, 29)]] (xb_rm 5 bc bs) (xb_Pc D A σ h [.ref x0, .int x1, .int x2, .int x3]) (xb_Qc D A h bc bs (fun v h bc bs => ∃ r, v = some (.int r) ∧ Qr r h bc bs) (fun _ _ _ _ => False)) A := by
  refine xb_ofAmH (cc := b_Law_poke) (by decide) (Nat.le_of_ble_eq_true rfl) ?_
  unfold w_Law_poke at hw
  show xb_am l D A σ 5 bc bs h (fun v h bc bs => ∃ r, v = some (.int r) ∧ Qr r h bc bs) (fun _ _ _ _ => False) y_Law_poke.cls y_Law_poke.name b_Law_poke 5 (tableOf [(0, 7, 10, 29)]) (some .int) 0 [(0, .ref x0), (1, .int x1), (2, .int x2), (3, .int x3)] [] h bc bs
  obtain ⟨MC, hMC⟩ : ∃ x, x = bc := ⟨_, rfl⟩
  obtain ⟨MS, hMS⟩ : ∃ x, x = bs := ⟨_, rfl⟩
  rw [show xb_am l D A σ 5 bc bs = xb_am l D A σ 5 MC MS by rw [hMC, hMS]]
  obtain ⟨h0, hh0⟩ : ∃ x, x = h := ⟨_, rfl⟩
  rw [show xb_am l D A σ 5 MC MS h = xb_am l D A σ 5 MC MS h0 by rw [hh0]]
  intro p e s m args below meth c hC H locs ls k n hE hl hR hS hk hn
  obtain ⟨hx, hb, hown, hlocks, htab, hml, hr, hB, hA, hnm⟩ := id hC
  have hts := hB.1.1.at args
  refine lv_aload_n hx hb (xb_d D_Law_poke 0 rfl) rfl (lv_at hl 0 rfl) ?_
  refine lv_iload_n hx hb (xb_d D_Law_poke 1 rfl) rfl (lv_at hl 1 rfl) ?_
  refine lv_iload_n hx hb (xb_d D_Law_poke 2 rfl) rfl (lv_at hl 2 rfl) ?_
  refine lv_iload_n hx hb (xb_d D_Law_poke 3 rfl) rfl (lv_at hl 3 rfl) ?_
  obtain ⟨hk1, hw⟩ := hw
  refine xb_call (D := D) (A := A) (σ := σ) (h := h) (d := 4) (mc := bc) (ms := bs) (maxL := 5) (rest := []) (av := [.ref x0, .int x1, .int x2, .int x3]) (fun T hT X => by obtain ⟨cb9, ra9, rb9, rc9⟩ := xb_recv (ci := 0) hR rfl hk1 (by decide); exact xt_invV X hx hown (hts _ m_ef70ac1e) (hts _ m_b4e69a1f) (hts _ m_bbfe7c7c) (xt_sigOf (hts _ m_6cbce5f0)) nm_H_poke (by rw [hT]; exact ra9) rb9 rc9 (g := F0 m 4 ls [.int x3, .int x2, .int x1, .ref x0]) rfl (argsL := [.int x1, .int x2, .int x3]) (rest := []) rfl rfl (by rw [hb]; exact (xb_d D_Law_poke 4 rfl))) (ok_H_poke l hfl D A σ x0 x1 x2 x3 h bc bs _ _ hw) (hml.trans hl.1.symm) (by rw [hb]; exact (xb_d D_Law_poke 4 rfl)) (Nat.le_of_ble_eq_true rfl) (Nat.le_of_ble_eq_true rfl) (Nat.le_of_ble_eq_true rfl) (show k + bc ≤ MC by omega) (show n + bs ≤ MS by omega) (xt_w1 hB.1 m_6cbce5f0) (xt_cdOf hB.1 m_6cbce5f0) (hts _ m_ba0734f5) hB hR hS hA (fun vv h2 bc3 bs3 kk3 nn3 H locs hk3 hn3 hq hEh2 hR hS => ?_) (fun XX ax h2 bc3 bs3 kk3 nn3 H locs hk3 hn3 hq hEh2 hex hR hS => ?_)
  · obtain ⟨rfl, hw⟩ := hq
    have hw := hw hEh2
    have hE := hE.tr hEh2
    refine W.eq (g2 := F0 m 7 ls []) rfl ?_
    refine lv_goto (tgt := 14) hx hb (xb_d D_Law_poke 5 rfl) rfl ?_
    refine lv_iconst (v := 0) hx hb (xb_d D_Law_poke 9 rfl) (by decide) ?_
    exact xb_iret bc3 bs3 hx hb hr hlocks (show (k + kk3) + bc3 ≤ MC by omega) (show (n + nn3) + bs3 ≤ MS by omega) hE hR hS (xb_d D_Law_poke 10 rfl) hw
  · have hw := hq hEh2 ax
    have hE := hE.tr hEh2
    obtain ⟨rfl, hw⟩ := hw
    refine xt_catch (own := "StackHostLaw") (name := "java/lang/IndexOutOfBoundsException") (Xn := "java/lang/IndexOutOfBoundsException") hown ⟨0, 7, 10, 29⟩ [] htab (by decide) (by decide) (hts _ m_17a0b3c6) (hts _ m_b0d3d118) hex ?_
    refine W.eq (g2 := F0 m 10 ls [.ref ax]) rfl ?_
    refine lv_astore hx hb (xb_d D_Law_poke 6 rfl) hl (by decide) rfl (fun ls hl => ?_)
    have hl : lv_has ls 5 [(4, .ref ax), (0, .ref x0), (1, .int x1), (2, .int x2), (3, .int x3)] := hl
    refine lv_iconst (v := 1) hx hb (xb_d D_Law_poke 7 rfl) (by decide) ?_
    exact xb_iret bc3 bs3 hx hb hr hlocks (show (k + kk3) + bc3 ≤ MC by omega) (show (n + nn3) + bs3 ≤ MS by omega) hE hR hS (xb_d D_Law_poke 8 rfl) hw

theorem m_d78a8c8d : (.methodLink "StackHostModel" 448 y_M_accessType : Cond) ∈ xt_tbl := xt_in (xt_t11 (List.mem_of_getElem? (i := 194) (by decide +kernel))) (by decide +kernel)
theorem m_85263add : (.static y_M_accessType : Cond) ∈ xt_tbl := xt_in (xt_t11 (List.mem_of_getElem? (i := 195) (by decide +kernel))) (by decide +kernel)
theorem m_fe1b6fac : (.code y_M_accessType b_M_accessType 1 (some .int) : Cond) ∈ xt_tbl := xt_in (xt_t11 (List.mem_of_getElem? (i := 196) (by decide +kernel))) (by decide +kernel)
theorem m_24298691 : (.constantLong "StackHostModel" 251 4 : Cond) ∈ xt_tbl := xt_in (xt_t11 (List.mem_of_getElem? (i := 49) (by decide +kernel))) (by decide +kernel)
theorem m_b1b0175f : (.methodLink "StackHostModel" 445 y_M_accessBytes : Cond) ∈ xt_tbl := xt_in (xt_t11 (List.mem_of_getElem? (i := 191) (by decide +kernel))) (by decide +kernel)
theorem m_e7cc7e3c : (.static y_M_accessBytes : Cond) ∈ xt_tbl := xt_in (xt_t11 (List.mem_of_getElem? (i := 192) (by decide +kernel))) (by decide +kernel)
theorem m_06c53581 : (.code y_M_accessBytes b_M_accessBytes 1 (some .int) : Cond) ∈ xt_tbl := xt_in (xt_t11 (List.mem_of_getElem? (i := 193) (by decide +kernel))) (by decide +kernel)
theorem m_e991293f : (.methodLink "StackHostModel" 218 y_M_count : Cond) ∈ xt_tbl := xt_in (xt_t10 (List.mem_of_getElem? (i := 218) (by decide +kernel))) (by decide +kernel)
theorem m_385a74b3 : (.instanceMethod y_M_count : Cond) ∈ xt_tbl := xt_in (xt_t10 (List.mem_of_getElem? (i := 220) (by decide +kernel))) (by decide +kernel)
theorem m_c9fbcd02 : (.selects "StackHostModel" y_M_count y_M_count : Cond) ∈ xt_tbl := xt_in (xt_v9 (q := (⟨"StackHostModel", "count", "()J"⟩, 97)) (List.mem_of_getElem? (i := 5) (by decide +kernel))) (by decide +kernel)
theorem m_1f53f210 : (.code y_M_count b_M_count 5 (some .long) : Cond) ∈ xt_tbl := xt_in (xt_t10 (List.mem_of_getElem? (i := 221) (by decide +kernel))) (by decide +kernel)
theorem nm_M_accessType : xt_nm y_M_accessType 1 := ⟨by decide +kernel, by decide +kernel⟩
theorem nm_M_accessBytes : xt_nm y_M_accessBytes 1 := ⟨by decide +kernel, by decide +kernel⟩
theorem nm_M_count : xt_nm y_M_count 0 := ⟨by decide +kernel, by decide +kernel⟩
set_option maxRecDepth 100000 in
def T_M_checkMemory : List (Nat × Instr × Nat) := [(0, .iload_n 1, 1), (1, .bipush 63, 2), (3, .if_icmp .lt 23, 3), (6, .iload_n 1, 1), (7, .bipush 64, 2), (9, .if_icmp .ne 10, 3), (12, .aload_n 0, 1), (13, .bipush 127, 2), (15, .invokevirtual 402, 3), (18, .pop, 1), (19, .aload_n 0, 1), (20, .bipush 127, 2), (22, .invokevirtual 405, 3), (25, .return_, 1), (26, .aload_n 0, 1), (27, .getfield 193, 3), (30, .ifCond .ne 10, 3), (33, .aload_n 0, 1), (34, .invokevirtual 218, 3), (37, .goto 4, 3), (40, .lconst 0, 1), (41, .lstore_n 2, 1), (42, .aload_n 0, 1), (43, .lload_n 2, 1), (44, .ldc2_w 251, 3), (47, .lcmp, 1), (48, .ifCond .ge 18, 3), (51, .iconst 1, 1), (52, .lload_n 2, 1), (53, .l2i, 1), (54, .ishl, 1), (55, .iload_n 1, 1), (56, .invokestatic 445, 3), (59, .if_icmp .gt 7, 3), (62, .iconst 1, 1), (63, .goto 4, 3), (66, .iconst 0, 1), (67, .bipush 22, 2), (69, .invokevirtual 408, 3), (72, .iload_n 1, 1), (73, .bipush 54, 2), (75, .if_icmp .lt 12, 3), (78, .aload_n 0, 1), (79, .iload_n 1, 1), (80, .invokestatic 448, 3), (83, .invokevirtual 402, 3), (86, .pop, 1), (87, .aload_n 0, 1), (88, .bipush 127, 2), (90, .invokevirtual 402, 3), (93, .pop, 1), (94, .iload_n 1, 1), (95, .bipush 54, 2), (97, .if_icmp .ge 11, 3), (100, .aload_n 0, 1), (101, .iload_n 1, 1), (102, .invokestatic 448, 3), (105, .invokevirtual 405, 3), (108, .return_, 1)]
theorem D_M_checkMemory : ∀ q ∈ T_M_checkMemory, decode b_M_checkMemory q.1 = .ok (q.2.1, q.2.2) := by decide +kernel

set_option maxHeartbeats 4000000 in
set_option maxRecDepth 100000 in
theorem am_M_checkMemory_L108 (l : Launch) (hfl : l.flags = pinnedFlags ++ [noTraceFlag]) (D : va_G) (A : Nat → Prop) (σ MC MS : Nat) (h0 : xb_H) (Qr : xb_H → Prop) (h : xb_H) (hw : w_M_checkMemory_L108 Qr h) : xb_am l D A σ 5 MC MS h0 (fun v h _ _ => v = none ∧ Qr h) (fun _ _ _ _ => False) y_M_checkMemory.cls y_M_checkMemory.name b_M_checkMemory 4 ([] : List ExceptionTableEntry) none 108 [] [] h 0 0 := by
  unfold w_M_checkMemory_L108 at hw
  intro p e s m args below meth c hC H locs ls k n hE hl hR hS hk hn
  obtain ⟨hx, hb, hown, hlocks, htab, hml, hr, hB, hA, hnm⟩ := id hC
  have hts := hB.1.1.at args
  exact xb_vret 0 0 hx hb hr hlocks (show k + 0 ≤ MC by omega) (show n + 0 ≤ MS by omega) hE hR hS (xb_d D_M_checkMemory 58 rfl) hw

set_option maxHeartbeats 4000000 in
set_option maxRecDepth 100000 in
theorem am_M_checkMemory_L87 (l : Launch) (hfl : l.flags = pinnedFlags ++ [noTraceFlag]) (D : va_G) (A : Nat → Prop) (σ MC MS : Nat) (h0 : xb_H) (Qr : xb_H → Prop) (x0 : Nat) (x1 : Int32) (h : xb_H) (hw : w_M_checkMemory_L87 Qr x0 x1 h) : xb_am l D A σ 5 MC MS h0 (fun v h _ _ => v = none ∧ Qr h) (fun _ _ _ _ => False) y_M_checkMemory.cls y_M_checkMemory.name b_M_checkMemory 4 ([] : List ExceptionTableEntry) none 87 [(0, .ref x0), (1, .int x1)] [] h 0 0 := by
  unfold w_M_checkMemory_L87 at hw
  intro p e s m args below meth c hC H locs ls k n hE hl hR hS hk hn
  obtain ⟨hx, hb, hown, hlocks, htab, hml, hr, hB, hA, hnm⟩ := id hC
  have hts := hB.1.1.at args
  refine lv_aload_n hx hb (xb_d D_M_checkMemory 47 rfl) rfl (lv_at hl 0 rfl) ?_
  refine lv_bipush (v := 127) hx hb (xb_d D_M_checkMemory 48 rfl) (by decide) ?_
  obtain ⟨hk1, hw⟩ := hw
  refine xb_call0 (D := D) (A := A) (σ := σ) (h := h) (d := 3) (maxL := 3) (rest := []) (av := [.ref x0, .int 127]) (fun T hT X => by obtain ⟨cb9, ra9, rb9, rc9⟩ := xb_recv (ci := 8) hR rfl hk1 (by decide); exact xt_invV X hx hown (hts _ m_4290bf91) (hts _ m_641dba55) (hts _ m_286bb193) (xt_sigOf (hts _ m_8ef3c792)) nm_M_take (by rw [hT]; exact ra9) rb9 rc9 (g := F0 m 90 ls [.int 127, .ref x0]) rfl (argsL := [.int 127]) (rest := []) rfl rfl (by rw [hb]; exact (xb_d D_M_checkMemory 49 rfl))) (ok_M_take l hfl D A σ x0 127 h _ hw) (hml.trans hl.1.symm) (by rw [hb]; exact (xb_d D_M_checkMemory 49 rfl)) (Nat.le_of_ble_eq_true rfl) (Nat.le_of_ble_eq_true rfl) (Nat.le_of_ble_eq_true rfl) (show k ≤ MC by omega) (show n ≤ MS by omega) (xt_w1 hB.1 m_8ef3c792) (xt_cdOf hB.1 m_8ef3c792) (hts _ m_d5ed7bed) hB hR hS hA (fun vv h2 H locs hq hEh2 hR hS => ?_)
  obtain ⟨r3, rfl, hw⟩ := hq
  have hw := hw hEh2
  have hE := hE.tr hEh2
  refine W.eq (g2 := F0 m 93 ls [.int r3]) rfl ?_
  refine lv_pop hx hb (xb_d D_M_checkMemory 50 rfl) rfl ?_
  refine lv_iload_n hx hb (xb_d D_M_checkMemory 51 rfl) rfl (lv_at hl 1 rfl) ?_
  refine lv_bipush (v := 54) hx hb (xb_d D_M_checkMemory 52 rfl) (by decide) ?_
  refine lv_icmp_ge (tgt := 108) hx hb (xb_d D_M_checkMemory 53 rfl) rfl (fun hc4 => ?_) (fun hc4 => ?_)
  · have hw := hw.1 hc4
    exact am_M_checkMemory_L108 l hfl D A σ MC MS h0 Qr h2 hw p e s m args below meth c hC H locs ls k n hE (lv_sub hl [] rfl) hR hS (by omega) (by omega)
  · have hw := hw.2 hc4
    refine lv_aload_n hx hb (xb_d D_M_checkMemory 54 rfl) rfl (lv_at hl 0 rfl) ?_
    refine lv_iload_n hx hb (xb_d D_M_checkMemory 55 rfl) rfl (lv_at hl 1 rfl) ?_
    refine xb_call0 (D := D) (A := A) (σ := σ) (h := h2) (d := 2) (maxL := 1) (rest := [.ref x0]) (av := [.int x1]) (fun T hT X => xt_invS X hx hown (hts _ m_d78a8c8d) (hts _ m_85263add) (hts _ m_d5ed7bed) (xt_sgS (hts _ m_fe1b6fac)).1 (xt_sgS (hts _ m_fe1b6fac)).2 nm_M_accessType (g := F0 m 102 ls [.int x1, .ref x0]) rfl (argsL := [.int x1]) (rest := [.ref x0]) rfl rfl (by rw [hb]; exact (xb_d D_M_checkMemory 56 rfl))) (ok_M_accessType l hfl D A σ x1 h2 _ hw) (hml.trans hl.1.symm) (by rw [hb]; exact (xb_d D_M_checkMemory 56 rfl)) (Nat.le_of_ble_eq_true rfl) (Nat.le_of_ble_eq_true rfl) (Nat.le_of_ble_eq_true rfl) (show k ≤ MC by omega) (show n ≤ MS by omega) (xt_w1 hB.1 m_fe1b6fac) (xt_cdOf hB.1 m_fe1b6fac) (hts _ m_d5ed7bed) hB hR hS hA (fun vv h5 H locs hq hEh5 hR hS => ?_)
    obtain ⟨r6, rfl, hw⟩ := hq
    have hw := hw hEh5
    have hE := hE.tr hEh5
    refine W.eq (g2 := F0 m 105 ls [.int r6, .ref x0]) rfl ?_
    have hk1 : xb_k h2 x0 = 9 := hEh2.k hk1
    have hk1 : xb_k h5 x0 = 9 := hEh5.k hk1
    refine xb_call0 (D := D) (A := A) (σ := σ) (h := h5) (d := 2) (maxL := 2) (rest := []) (av := [.ref x0, .int r6]) (fun T hT X => by obtain ⟨cb9, ra9, rb9, rc9⟩ := xb_recv (ci := 8) hR rfl hk1 (by decide); exact xt_invV X hx hown (hts _ m_3308f884) (hts _ m_052429f9) (hts _ m_8c0b8095) (xt_sigOf (hts _ m_98c8d9b3)) nm_M_put (by rw [hT]; exact ra9) rb9 rc9 (g := F0 m 105 ls [.int r6, .ref x0]) rfl (argsL := [.int r6]) (rest := []) rfl rfl (by rw [hb]; exact (xb_d D_M_checkMemory 57 rfl))) (ok_M_put l hfl D A σ x0 r6 h5 _ hw) (hml.trans hl.1.symm) (by rw [hb]; exact (xb_d D_M_checkMemory 57 rfl)) (Nat.le_of_ble_eq_true rfl) (Nat.le_of_ble_eq_true rfl) (Nat.le_of_ble_eq_true rfl) (show k ≤ MC by omega) (show n ≤ MS by omega) (xt_w1 hB.1 m_98c8d9b3) (xt_cdOf hB.1 m_98c8d9b3) (hts _ m_d5ed7bed) hB hR hS hA (fun vv h7 H locs hq hEh7 hR hS => ?_)
    obtain ⟨rfl, hw⟩ := hq
    have hw := hw hEh7
    have hE := hE.tr hEh7
    refine W.eq (g2 := F0 m 108 ls []) rfl ?_
    exact am_M_checkMemory_L108 l hfl D A σ MC MS h0 Qr h7 hw p e s m args below meth c hC H locs ls k n hE (lv_sub hl [] rfl) hR hS (by omega) (by omega)

set_option maxHeartbeats 4000000 in
set_option maxRecDepth 100000 in
theorem am_M_checkMemory_L67 (l : Launch) (hfl : l.flags = pinnedFlags ++ [noTraceFlag]) (D : va_G) (A : Nat → Prop) (σ MC MS : Nat) (h0 : xb_H) (Qr : xb_H → Prop) (x0 : Nat) (x1 : Int32) (y0 : Int32) (y1 : Nat) (h : xb_H) (hw : w_M_checkMemory_L67 Qr x0 x1 y0 y1 h) : xb_am l D A σ 5 MC MS h0 (fun v h _ _ => v = none ∧ Qr h) (fun _ _ _ _ => False) y_M_checkMemory.cls y_M_checkMemory.name b_M_checkMemory 4 ([] : List ExceptionTableEntry) none 67 [(0, .ref x0), (1, .int x1)] [.int y0, .ref y1] h 0 0 := by
  unfold w_M_checkMemory_L67 at hw
  intro p e s m args below meth c hC H locs ls k n hE hl hR hS hk hn
  obtain ⟨hx, hb, hown, hlocks, htab, hml, hr, hB, hA, hnm⟩ := id hC
  have hts := hB.1.1.at args
  refine lv_bipush (v := 22) hx hb (xb_d D_M_checkMemory 37 rfl) (by decide) ?_
  obtain ⟨hk1, hw⟩ := hw
  refine xb_call0 (D := D) (A := A) (σ := σ) (h := h) (d := 3) (maxL := 3) (rest := []) (av := [.ref y1, .int y0, .int 22]) (fun T hT X => by obtain ⟨cb9, ra9, rb9, rc9⟩ := xb_recv (ci := 8) hR rfl hk1 (by decide); exact xt_invV X hx hown (hts _ m_3b351fe6) (hts _ m_c9ff1909) (hts _ m_4d34701a) (xt_sigOf (hts _ m_c5aab6b8)) nm_M_need (by rw [hT]; exact ra9) rb9 rc9 (g := F0 m 69 ls [.int 22, .int y0, .ref y1]) rfl (argsL := [.int y0, .int 22]) (rest := []) rfl rfl (by rw [hb]; exact (xb_d D_M_checkMemory 38 rfl))) (ok_M_need l hfl D A σ y1 y0 22 h _ hw) (hml.trans hl.1.symm) (by rw [hb]; exact (xb_d D_M_checkMemory 38 rfl)) (Nat.le_of_ble_eq_true rfl) (Nat.le_of_ble_eq_true rfl) (Nat.le_of_ble_eq_true rfl) (show k ≤ MC by omega) (show n ≤ MS by omega) (xt_w1 hB.1 m_c5aab6b8) (xt_cdOf hB.1 m_c5aab6b8) (hts _ m_d5ed7bed) hB hR hS hA (fun vv h2 H locs hq hEh2 hR hS => ?_)
  obtain ⟨rfl, hw⟩ := hq
  have hw := hw hEh2
  have hE := hE.tr hEh2
  refine W.eq (g2 := F0 m 72 ls []) rfl ?_
  refine lv_iload_n hx hb (xb_d D_M_checkMemory 39 rfl) rfl (lv_at hl 1 rfl) ?_
  refine lv_bipush (v := 54) hx hb (xb_d D_M_checkMemory 40 rfl) (by decide) ?_
  refine lv_icmp_lt (tgt := 87) hx hb (xb_d D_M_checkMemory 41 rfl) rfl (fun hc4 => ?_) (fun hc4 => ?_)
  · have hw := hw.1 hc4
    exact am_M_checkMemory_L87 l hfl D A σ MC MS h0 Qr x0 x1 h2 hw p e s m args below meth c hC H locs ls k n hE (lv_sub hl [0, 1] rfl) hR hS (by omega) (by omega)
  · have hw := hw.2 hc4
    refine lv_aload_n hx hb (xb_d D_M_checkMemory 42 rfl) rfl (lv_at hl 0 rfl) ?_
    refine lv_iload_n hx hb (xb_d D_M_checkMemory 43 rfl) rfl (lv_at hl 1 rfl) ?_
    refine xb_call0 (D := D) (A := A) (σ := σ) (h := h2) (d := 2) (maxL := 1) (rest := [.ref x0]) (av := [.int x1]) (fun T hT X => xt_invS X hx hown (hts _ m_d78a8c8d) (hts _ m_85263add) (hts _ m_d5ed7bed) (xt_sgS (hts _ m_fe1b6fac)).1 (xt_sgS (hts _ m_fe1b6fac)).2 nm_M_accessType (g := F0 m 80 ls [.int x1, .ref x0]) rfl (argsL := [.int x1]) (rest := [.ref x0]) rfl rfl (by rw [hb]; exact (xb_d D_M_checkMemory 44 rfl))) (ok_M_accessType l hfl D A σ x1 h2 _ hw) (hml.trans hl.1.symm) (by rw [hb]; exact (xb_d D_M_checkMemory 44 rfl)) (Nat.le_of_ble_eq_true rfl) (Nat.le_of_ble_eq_true rfl) (Nat.le_of_ble_eq_true rfl) (show k ≤ MC by omega) (show n ≤ MS by omega) (xt_w1 hB.1 m_fe1b6fac) (xt_cdOf hB.1 m_fe1b6fac) (hts _ m_d5ed7bed) hB hR hS hA (fun vv h5 H locs hq hEh5 hR hS => ?_)
    obtain ⟨r6, rfl, hw⟩ := hq
    have hw := hw hEh5
    have hE := hE.tr hEh5
    refine W.eq (g2 := F0 m 83 ls [.int r6, .ref x0]) rfl ?_
    obtain ⟨hk7, hw⟩ := hw
    refine xb_call0 (D := D) (A := A) (σ := σ) (h := h5) (d := 3) (maxL := 3) (rest := []) (av := [.ref x0, .int r6]) (fun T hT X => by obtain ⟨cb9, ra9, rb9, rc9⟩ := xb_recv (ci := 8) hR rfl hk7 (by decide); exact xt_invV X hx hown (hts _ m_4290bf91) (hts _ m_641dba55) (hts _ m_286bb193) (xt_sigOf (hts _ m_8ef3c792)) nm_M_take (by rw [hT]; exact ra9) rb9 rc9 (g := F0 m 83 ls [.int r6, .ref x0]) rfl (argsL := [.int r6]) (rest := []) rfl rfl (by rw [hb]; exact (xb_d D_M_checkMemory 45 rfl))) (ok_M_take l hfl D A σ x0 r6 h5 _ hw) (hml.trans hl.1.symm) (by rw [hb]; exact (xb_d D_M_checkMemory 45 rfl)) (Nat.le_of_ble_eq_true rfl) (Nat.le_of_ble_eq_true rfl) (Nat.le_of_ble_eq_true rfl) (show k ≤ MC by omega) (show n ≤ MS by omega) (xt_w1 hB.1 m_8ef3c792) (xt_cdOf hB.1 m_8ef3c792) (hts _ m_d5ed7bed) hB hR hS hA (fun vv h8 H locs hq hEh8 hR hS => ?_)
    obtain ⟨r9, rfl, hw⟩ := hq
    have hw := hw hEh8
    have hE := hE.tr hEh8
    refine W.eq (g2 := F0 m 86 ls [.int r9]) rfl ?_
    refine lv_pop hx hb (xb_d D_M_checkMemory 46 rfl) rfl ?_
    exact am_M_checkMemory_L87 l hfl D A σ MC MS h0 Qr x0 x1 h8 hw p e s m args below meth c hC H locs ls k n hE (lv_sub hl [0, 1] rfl) hR hS (by omega) (by omega)

set_option maxHeartbeats 4000000 in
set_option maxRecDepth 100000 in
theorem am_M_checkMemory_L66 (l : Launch) (hfl : l.flags = pinnedFlags ++ [noTraceFlag]) (D : va_G) (A : Nat → Prop) (σ MC MS : Nat) (h0 : xb_H) (Qr : xb_H → Prop) (x0 : Nat) (x1 : Int32) (y0 : Nat) (h : xb_H) (hw : w_M_checkMemory_L66 Qr x0 x1 y0 h) : xb_am l D A σ 5 MC MS h0 (fun v h _ _ => v = none ∧ Qr h) (fun _ _ _ _ => False) y_M_checkMemory.cls y_M_checkMemory.name b_M_checkMemory 4 ([] : List ExceptionTableEntry) none 66 [(0, .ref x0), (1, .int x1)] [.ref y0] h 0 0 := by
  unfold w_M_checkMemory_L66 at hw
  intro p e s m args below meth c hC H locs ls k n hE hl hR hS hk hn
  obtain ⟨hx, hb, hown, hlocks, htab, hml, hr, hB, hA, hnm⟩ := id hC
  have hts := hB.1.1.at args
  refine lv_iconst (v := 0) hx hb (xb_d D_M_checkMemory 36 rfl) (by decide) ?_
  exact am_M_checkMemory_L67 l hfl D A σ MC MS h0 Qr x0 x1 0 y0 h hw p e s m args below meth c hC H locs ls k n hE (lv_sub hl [0, 1] rfl) hR hS (by omega) (by omega)

set_option maxHeartbeats 4000000 in
set_option maxRecDepth 100000 in
theorem am_M_checkMemory_L41 (l : Launch) (hfl : l.flags = pinnedFlags ++ [noTraceFlag]) (D : va_G) (A : Nat → Prop) (σ MC MS : Nat) (h0 : xb_H) (Qr : xb_H → Prop) (x0 : Nat) (x1 : Int32) (y0 : Int64) (h : xb_H) (hw : w_M_checkMemory_L41 Qr x0 x1 y0 h) : xb_am l D A σ 5 MC MS h0 (fun v h _ _ => v = none ∧ Qr h) (fun _ _ _ _ => False) y_M_checkMemory.cls y_M_checkMemory.name b_M_checkMemory 4 ([] : List ExceptionTableEntry) none 41 [(0, .ref x0), (1, .int x1)] [.long y0] h 0 0 := by
  unfold w_M_checkMemory_L41 at hw
  intro p e s m args below meth c hC H locs ls k n hE hl hR hS hk hn
  obtain ⟨hx, hb, hown, hlocks, htab, hml, hr, hB, hA, hnm⟩ := id hC
  have hts := hB.1.1.at args
  refine lv_lstore_n hx hb (xb_d D_M_checkMemory 21 rfl) rfl hl (by decide) rfl (fun ls hl => ?_)
  have hl : lv_has ls 4 [(2, .long y0), (0, .ref x0), (1, .int x1)] := hl
  refine lv_aload_n hx hb (xb_d D_M_checkMemory 22 rfl) rfl (lv_at hl 1 rfl) ?_
  refine lv_lload_n hx hb (xb_d D_M_checkMemory 23 rfl) rfl (lv_at hl 0 rfl) ?_
  refine lv_ldc2 (v := 4) hx hb hown (hts _ m_24298691) (xb_d D_M_checkMemory 24 rfl) ?_
  refine xb_lc_ge (tgt := 66) hx hb (xb_d D_M_checkMemory 25 rfl) (xb_d D_M_checkMemory 26 rfl) rfl (fun hc1 => ?_) (fun hc1 => ?_)
  · have hw := hw.1 hc1
    exact am_M_checkMemory_L66 l hfl D A σ MC MS h0 Qr x0 x1 x0 h hw p e s m args below meth c hC H locs ls k n hE (lv_sub hl [1, 2] rfl) hR hS (by omega) (by omega)
  · have hw := hw.2 hc1
    refine lv_iconst (v := 1) hx hb (xb_d D_M_checkMemory 27 rfl) (by decide) ?_
    refine lv_lload_n hx hb (xb_d D_M_checkMemory 28 rfl) rfl (lv_at hl 0 rfl) ?_
    refine lv_l2i hx hb (xb_d D_M_checkMemory 29 rfl) rfl ?_
    refine lv_ishl hx hb (xb_d D_M_checkMemory 30 rfl) ?_
    refine lv_iload_n hx hb (xb_d D_M_checkMemory 31 rfl) rfl (lv_at hl 2 rfl) ?_
    refine xb_call0 (D := D) (A := A) (σ := σ) (h := h) (d := 2) (maxL := 1) (rest := [.int (1 <<< ((Int64.toInt32 y0) &&& 31)), .ref x0]) (av := [.int x1]) (fun T hT X => xt_invS X hx hown (hts _ m_b1b0175f) (hts _ m_e7cc7e3c) (hts _ m_d5ed7bed) (xt_sgS (hts _ m_06c53581)).1 (xt_sgS (hts _ m_06c53581)).2 nm_M_accessBytes (g := F0 m 56 ls [.int x1, .int (1 <<< ((Int64.toInt32 y0) &&& 31)), .ref x0]) rfl (argsL := [.int x1]) (rest := [.int (1 <<< ((Int64.toInt32 y0) &&& 31)), .ref x0]) rfl rfl (by rw [hb]; exact (xb_d D_M_checkMemory 32 rfl))) (ok_M_accessBytes l hfl D A σ x1 h _ hw) (hml.trans hl.1.symm) (by rw [hb]; exact (xb_d D_M_checkMemory 32 rfl)) (Nat.le_of_ble_eq_true rfl) (Nat.le_of_ble_eq_true rfl) (Nat.le_of_ble_eq_true rfl) (show k ≤ MC by omega) (show n ≤ MS by omega) (xt_w1 hB.1 m_06c53581) (xt_cdOf hB.1 m_06c53581) (hts _ m_d5ed7bed) hB hR hS hA (fun vv h2 H locs hq hEh2 hR hS => ?_)
    obtain ⟨r3, rfl, hw⟩ := hq
    have hw := hw hEh2
    have hE := hE.tr hEh2
    refine W.eq (g2 := F0 m 59 ls [.int r3, .int (1 <<< ((Int64.toInt32 y0) &&& 31)), .ref x0]) rfl ?_
    refine lv_icmp_gt (tgt := 66) hx hb (xb_d D_M_checkMemory 33 rfl) rfl (fun hc4 => ?_) (fun hc4 => ?_)
    · have hw := hw.1 hc4
      exact am_M_checkMemory_L66 l hfl D A σ MC MS h0 Qr x0 x1 x0 h2 hw p e s m args below meth c hC H locs ls k n hE (lv_sub hl [1, 2] rfl) hR hS (by omega) (by omega)
    · have hw := hw.2 hc4
      refine lv_iconst (v := 1) hx hb (xb_d D_M_checkMemory 34 rfl) (by decide) ?_
      refine lv_goto (tgt := 67) hx hb (xb_d D_M_checkMemory 35 rfl) rfl ?_
      exact am_M_checkMemory_L67 l hfl D A σ MC MS h0 Qr x0 x1 1 x0 h2 hw p e s m args below meth c hC H locs ls k n hE (lv_sub hl [1, 2] rfl) hR hS (by omega) (by omega)

set_option maxHeartbeats 4000000 in
set_option maxRecDepth 100000 in
theorem am_M_checkMemory_L19 (l : Launch) (hfl : l.flags = pinnedFlags ++ [noTraceFlag]) (D : va_G) (A : Nat → Prop) (σ MC MS : Nat) (h0 : xb_H) (Qr : xb_H → Prop) (x0 : Nat) (h : xb_H) (hw : w_M_checkMemory_L19 Qr x0 h) : xb_am l D A σ 5 MC MS h0 (fun v h _ _ => v = none ∧ Qr h) (fun _ _ _ _ => False) y_M_checkMemory.cls y_M_checkMemory.name b_M_checkMemory 4 ([] : List ExceptionTableEntry) none 19 [(0, .ref x0)] [] h 0 0 := by
  unfold w_M_checkMemory_L19 at hw
  intro p e s m args below meth c hC H locs ls k n hE hl hR hS hk hn
  obtain ⟨hx, hb, hown, hlocks, htab, hml, hr, hB, hA, hnm⟩ := id hC
  have hts := hB.1.1.at args
  refine lv_aload_n hx hb (xb_d D_M_checkMemory 10 rfl) rfl (lv_at hl 0 rfl) ?_
  refine lv_bipush (v := 127) hx hb (xb_d D_M_checkMemory 11 rfl) (by decide) ?_
  obtain ⟨hk1, hw⟩ := hw
  refine xb_call0 (D := D) (A := A) (σ := σ) (h := h) (d := 2) (maxL := 2) (rest := []) (av := [.ref x0, .int 127]) (fun T hT X => by obtain ⟨cb9, ra9, rb9, rc9⟩ := xb_recv (ci := 8) hR rfl hk1 (by decide); exact xt_invV X hx hown (hts _ m_3308f884) (hts _ m_052429f9) (hts _ m_8c0b8095) (xt_sigOf (hts _ m_98c8d9b3)) nm_M_put (by rw [hT]; exact ra9) rb9 rc9 (g := F0 m 22 ls [.int 127, .ref x0]) rfl (argsL := [.int 127]) (rest := []) rfl rfl (by rw [hb]; exact (xb_d D_M_checkMemory 12 rfl))) (ok_M_put l hfl D A σ x0 127 h _ hw) (hml.trans hl.1.symm) (by rw [hb]; exact (xb_d D_M_checkMemory 12 rfl)) (Nat.le_of_ble_eq_true rfl) (Nat.le_of_ble_eq_true rfl) (Nat.le_of_ble_eq_true rfl) (show k ≤ MC by omega) (show n ≤ MS by omega) (xt_w1 hB.1 m_98c8d9b3) (xt_cdOf hB.1 m_98c8d9b3) (hts _ m_d5ed7bed) hB hR hS hA (fun vv h2 H locs hq hEh2 hR hS => ?_)
  obtain ⟨rfl, hw⟩ := hq
  have hw := hw hEh2
  have hE := hE.tr hEh2
  refine W.eq (g2 := F0 m 25 ls []) rfl ?_
  exact xb_vret 0 0 hx hb hr hlocks (show k + 0 ≤ MC by omega) (show n + 0 ≤ MS by omega) hE hR hS (xb_d D_M_checkMemory 13 rfl) hw

set_option maxHeartbeats 4000000 in
set_option maxRecDepth 100000 in
theorem ok_M_checkMemory (l : Launch) (hfl : l.flags = pinnedFlags ++ [noTraceFlag]) (D : va_G) (A : Nat → Prop) (σ : Nat) (x0 : Nat) (x1 : Int32) (h : xb_H) (Qr : xb_H → Prop) (hw : w_M_checkMemory x0 x1 h Qr) : xb_Met l y_M_checkMemory [.code y_M_checkMemory b_M_checkMemory 4 none] (xb_rm 5 0 0) (xb_Pc D A σ h [.ref x0, .int x1]) (xb_Qc D A h 0 0 (fun v h _ _ => v = none ∧ Qr h) (fun _ _ _ _ => False)) A := by
  refine xb_ofAm (cc := b_M_checkMemory) (by decide) (Nat.le_of_ble_eq_true rfl) ?_
  unfold w_M_checkMemory at hw
  show xb_am l D A σ 5 0 0 h (fun v h _ _ => v = none ∧ Qr h) (fun _ _ _ _ => False) y_M_checkMemory.cls y_M_checkMemory.name b_M_checkMemory 4 ([] : List ExceptionTableEntry) none 0 [(0, .ref x0), (1, .int x1)] [] h 0 0
  obtain ⟨MC, hMC⟩ : ∃ x, x = 0 := ⟨_, rfl⟩
  obtain ⟨MS, hMS⟩ : ∃ x, x = 0 := ⟨_, rfl⟩
  rw [show xb_am l D A σ 5 0 0 = xb_am l D A σ 5 MC MS by rw [hMC, hMS]]
  obtain ⟨h0, hh0⟩ : ∃ x, x = h := ⟨_, rfl⟩
  rw [show xb_am l D A σ 5 MC MS h = xb_am l D A σ 5 MC MS h0 by rw [hh0]]
  intro p e s m args below meth c hC H locs ls k n hE hl hR hS hk hn
  obtain ⟨hx, hb, hown, hlocks, htab, hml, hr, hB, hA, hnm⟩ := id hC
  have hts := hB.1.1.at args
  refine lv_iload_n hx hb (xb_d D_M_checkMemory 0 rfl) rfl (lv_at hl 1 rfl) ?_
  refine lv_bipush (v := 63) hx hb (xb_d D_M_checkMemory 1 rfl) (by decide) ?_
  refine lv_icmp_lt (tgt := 26) hx hb (xb_d D_M_checkMemory 2 rfl) rfl (fun hc1 => ?_) (fun hc1 => ?_)
  · have hw := hw.1 hc1
    refine lv_aload_n hx hb (xb_d D_M_checkMemory 14 rfl) rfl (lv_at hl 0 rfl) ?_
    obtain ⟨hk2, hw⟩ := hw
    refine xb_getI (C := R_M) (T := F_M) (N := 97) hx hb 8 17 hts fin_M hown hR hk2 (by decide) rfl (by decide) rfl (hts _ m_ff69da61) (fun _ h9 => h9) (xb_d D_M_checkMemory 15 rfl) ?_
    refine lv_if_ne (tgt := 40) hx hb (xb_d D_M_checkMemory 16 rfl) rfl (fun hc3 => ?_) (fun hc3 => ?_)
    · have hw := hw.1 hc3
      refine lv_lconst (v := 0) hx hb (xb_d D_M_checkMemory 20 rfl) (by decide) ?_
      exact am_M_checkMemory_L41 l hfl D A σ MC MS h0 Qr x0 x1 0 h hw p e s m args below meth c hC H locs ls k n hE (lv_sub hl [0, 1] rfl) hR hS (by omega) (by omega)
    · have hw := hw.2 hc3
      refine lv_aload_n hx hb (xb_d D_M_checkMemory 17 rfl) rfl (lv_at hl 0 rfl) ?_
      refine xb_call0 (D := D) (A := A) (σ := σ) (h := h) (d := 4) (maxL := 5) (rest := []) (av := [.ref x0]) (fun T hT X => by obtain ⟨cb9, ra9, rb9, rc9⟩ := xb_recv (ci := 8) hR rfl hk2 (by decide); exact xt_invV X hx hown (hts _ m_e991293f) (hts _ m_385a74b3) (hts _ m_c9fbcd02) (xt_sigOf (hts _ m_1f53f210)) nm_M_count (by rw [hT]; exact ra9) rb9 rc9 (g := F0 m 34 ls [.ref x0]) rfl (argsL := []) (rest := []) rfl rfl (by rw [hb]; exact (xb_d D_M_checkMemory 18 rfl))) (ok_M_count l hfl D A σ x0 h _ hw) (hml.trans hl.1.symm) (by rw [hb]; exact (xb_d D_M_checkMemory 18 rfl)) (Nat.le_of_ble_eq_true rfl) (Nat.le_of_ble_eq_true rfl) (Nat.le_of_ble_eq_true rfl) (show k ≤ MC by omega) (show n ≤ MS by omega) (xt_w1 hB.1 m_1f53f210) (xt_cdOf hB.1 m_1f53f210) (hts _ m_d5ed7bed) hB hR hS hA (fun vv h4 H locs hq hEh4 hR hS => ?_)
      obtain ⟨r5, rfl, hw⟩ := hq
      have hw := hw hEh4
      have hE := hE.tr hEh4
      refine W.eq (g2 := F0 m 37 ls [.long r5]) rfl ?_
      refine lv_goto (tgt := 41) hx hb (xb_d D_M_checkMemory 19 rfl) rfl ?_
      exact am_M_checkMemory_L41 l hfl D A σ MC MS h0 Qr x0 x1 r5 h4 hw p e s m args below meth c hC H locs ls k n hE (lv_sub hl [0, 1] rfl) hR hS (by omega) (by omega)
  · have hw := hw.2 hc1
    refine lv_iload_n hx hb (xb_d D_M_checkMemory 3 rfl) rfl (lv_at hl 1 rfl) ?_
    refine lv_bipush (v := 64) hx hb (xb_d D_M_checkMemory 4 rfl) (by decide) ?_
    refine lv_icmp_ne (tgt := 19) hx hb (xb_d D_M_checkMemory 5 rfl) rfl (fun hc6 => ?_) (fun hc6 => ?_)
    · have hw := hw.1 hc6
      exact am_M_checkMemory_L19 l hfl D A σ MC MS h0 Qr x0 h hw p e s m args below meth c hC H locs ls k n hE (lv_sub hl [0] rfl) hR hS (by omega) (by omega)
    · have hw := hw.2 hc6
      refine lv_aload_n hx hb (xb_d D_M_checkMemory 6 rfl) rfl (lv_at hl 0 rfl) ?_
      refine lv_bipush (v := 127) hx hb (xb_d D_M_checkMemory 7 rfl) (by decide) ?_
      obtain ⟨hk7, hw⟩ := hw
      refine xb_call0 (D := D) (A := A) (σ := σ) (h := h) (d := 3) (maxL := 3) (rest := []) (av := [.ref x0, .int 127]) (fun T hT X => by obtain ⟨cb9, ra9, rb9, rc9⟩ := xb_recv (ci := 8) hR rfl hk7 (by decide); exact xt_invV X hx hown (hts _ m_4290bf91) (hts _ m_641dba55) (hts _ m_286bb193) (xt_sigOf (hts _ m_8ef3c792)) nm_M_take (by rw [hT]; exact ra9) rb9 rc9 (g := F0 m 15 ls [.int 127, .ref x0]) rfl (argsL := [.int 127]) (rest := []) rfl rfl (by rw [hb]; exact (xb_d D_M_checkMemory 8 rfl))) (ok_M_take l hfl D A σ x0 127 h _ hw) (hml.trans hl.1.symm) (by rw [hb]; exact (xb_d D_M_checkMemory 8 rfl)) (Nat.le_of_ble_eq_true rfl) (Nat.le_of_ble_eq_true rfl) (Nat.le_of_ble_eq_true rfl) (show k ≤ MC by omega) (show n ≤ MS by omega) (xt_w1 hB.1 m_8ef3c792) (xt_cdOf hB.1 m_8ef3c792) (hts _ m_d5ed7bed) hB hR hS hA (fun vv h8 H locs hq hEh8 hR hS => ?_)
      obtain ⟨r9, rfl, hw⟩ := hq
      have hw := hw hEh8
      have hE := hE.tr hEh8
      refine W.eq (g2 := F0 m 18 ls [.int r9]) rfl ?_
      refine lv_pop hx hb (xb_d D_M_checkMemory 9 rfl) rfl ?_
      exact am_M_checkMemory_L19 l hfl D A σ MC MS h0 Qr x0 h8 hw p e s m args below meth c hC H locs ls k n hE (lv_sub hl [0] rfl) hR hS (by omega) (by omega)

theorem m_a3ac02d9 : (.methodLink "StackHostModel" 467 y_M_takeResult : Cond) ∈ xt_tbl := xt_in (xt_t11 (List.mem_of_getElem? (i := 225) (by decide +kernel))) (by decide +kernel)
theorem m_a1be1a1a : (.instanceMethod y_M_takeResult : Cond) ∈ xt_tbl := xt_in (xt_t11 (List.mem_of_getElem? (i := 227) (by decide +kernel))) (by decide +kernel)
theorem m_fd259a5b : (.selects "StackHostModel" y_M_takeResult y_M_takeResult : Cond) ∈ xt_tbl := xt_in (xt_v12 (q := (⟨"StackHostModel", "takeResult", "(I)V"⟩, 97)) (List.mem_of_getElem? (i := 11) (by decide +kernel))) (by decide +kernel)
theorem m_f2cfd56a : (.code y_M_takeResult b_M_takeResult 2 none : Cond) ∈ xt_tbl := xt_in (xt_t11 (List.mem_of_getElem? (i := 228) (by decide +kernel))) (by decide +kernel)
theorem m_3f9bfaa5 : (.methodLink "StackHostModel" 457 y_M_dead : Cond) ∈ xt_tbl := xt_in (xt_t11 (List.mem_of_getElem? (i := 217) (by decide +kernel))) (by decide +kernel)
theorem m_825f0c22 : (.instanceMethod y_M_dead : Cond) ∈ xt_tbl := xt_in (xt_t11 (List.mem_of_getElem? (i := 219) (by decide +kernel))) (by decide +kernel)
theorem m_e55d52e9 : (.selects "StackHostModel" y_M_dead y_M_dead : Cond) ∈ xt_tbl := xt_in (xt_v12 (q := (⟨"StackHostModel", "dead", "()V"⟩, 97)) (List.mem_of_getElem? (i := 9) (by decide +kernel))) (by decide +kernel)
theorem m_e7fd7be8 : (.code y_M_dead b_M_dead 1 none : Cond) ∈ xt_tbl := xt_in (xt_t11 (List.mem_of_getElem? (i := 220) (by decide +kernel))) (by decide +kernel)
theorem m_c6d30415 : (.methodLink "StackHostModel" 463 y_M_label : Cond) ∈ xt_tbl := xt_in (xt_t11 (List.mem_of_getElem? (i := 229) (by decide +kernel))) (by decide +kernel)
theorem m_54d56332 : (.instanceMethod y_M_label : Cond) ∈ xt_tbl := xt_in (xt_t11 (List.mem_of_getElem? (i := 231) (by decide +kernel))) (by decide +kernel)
theorem m_47c4a841 : (.selects "StackHostModel" y_M_label y_M_label : Cond) ∈ xt_tbl := xt_in (xt_v12 (q := (⟨"StackHostModel", "label", "(J)I"⟩, 97)) (List.mem_of_getElem? (i := 12) (by decide +kernel))) (by decide +kernel)
theorem m_088f6d43 : (.code y_M_label b_M_label 3 (some .int) : Cond) ∈ xt_tbl := xt_in (xt_t11 (List.mem_of_getElem? (i := 232) (by decide +kernel))) (by decide +kernel)
theorem nm_M_takeResult : xt_nm y_M_takeResult 1 := ⟨by decide +kernel, by decide +kernel⟩
theorem nm_M_dead : xt_nm y_M_dead 0 := ⟨by decide +kernel, by decide +kernel⟩
theorem nm_M_label : xt_nm y_M_label 1 := ⟨by decide +kernel, by decide +kernel⟩
set_option maxRecDepth 100000 in
def T_M_checkTable : List (Nat × Instr × Nat) := [(0, .aload_n 0, 1), (1, .getfield 202, 3), (4, .istore_n 1, 1), (5, .aload_n 0, 1), (6, .invokevirtual 218, 3), (9, .lstore_n 2, 1), (10, .lconst 0, 1), (11, .lstore 4, 2), (13, .lload 4, 2), (15, .lload_n 2, 1), (16, .lcmp, 1), (17, .ifCond .gt 44, 3), (20, .aload_n 0, 1), (21, .aload_n 0, 1), (22, .invokevirtual 218, 3), (25, .aload_n 0, 1), (26, .getfield 396, 3), (29, .i2l, 1), (30, .lcmp, 1), (31, .ifCond .ge 7, 3), (34, .iconst 1, 1), (35, .goto 4, 3), (38, .iconst 0, 1), (39, .bipush 20, 2), (41, .invokevirtual 408, 3), (44, .aload_n 0, 1), (45, .getfield 193, 3), (48, .ifCond .eq 4, 3), (51, .return_, 1), (52, .lload 4, 2), (54, .lconst 1, 1), (55, .ladd, 1), (56, .lstore 4, 2), (58, .goto (-45), 3), (61, .aload_n 0, 1), (62, .iload_n 1, 1), (63, .putfield 202, 3), (66, .aload_n 0, 1), (67, .invokevirtual 218, 3), (70, .lstore_n 2, 1), (71, .aload_n 0, 1), (72, .aload_n 0, 1), (73, .invokevirtual 218, 3), (76, .invokevirtual 463, 3), (79, .istore 4, 2), (81, .iconst 1, 1), (82, .istore 5, 2), (84, .lconst 1, 1), (85, .lstore 6, 2), (87, .lload 6, 2), (89, .lload_n 2, 1), (90, .lcmp, 1), (91, .ifCond .gt 37, 3), (94, .aload_n 0, 1), (95, .aload_n 0, 1), (96, .invokevirtual 218, 3), (99, .invokevirtual 463, 3), (102, .iload 4, 2), (104, .if_icmp .ne 12, 3), (107, .iload 5, 2), (109, .ifCond .eq 7, 3), (112, .iconst 1, 1), (113, .goto 4, 3), (116, .iconst 0, 1), (117, .istore 5, 2), (119, .lload 6, 2), (121, .lconst 1, 1), (122, .ladd, 1), (123, .lstore 6, 2), (125, .goto (-38), 3), (128, .aload_n 0, 1), (129, .iload 5, 2), (131, .bipush 21, 2), (133, .invokevirtual 408, 3), (136, .aload_n 0, 1), (137, .bipush 127, 2), (139, .invokevirtual 402, 3), (142, .pop, 1), (143, .aload_n 0, 1), (144, .iload 4, 2), (146, .invokevirtual 467, 3), (149, .aload_n 0, 1), (150, .invokevirtual 457, 3), (153, .return_, 1)]
theorem D_M_checkTable : ∀ q ∈ T_M_checkTable, decode b_M_checkTable q.1 = .ok (q.2.1, q.2.2) := by decide +kernel

set_option maxHeartbeats 4000000 in
set_option maxRecDepth 100000 in
theorem am_M_checkTable_L117 (l : Launch) (hfl : l.flags = pinnedFlags ++ [noTraceFlag]) (D : va_G) (A : Nat → Prop) (σ MC MS : Nat) (h0 : xb_H) (Qr : xb_H → Prop) (K87 : Nat → Int64 → Int32 → Int32 → Int64 → xb_H → Prop) (hK87 : ∀ (x0 : Nat) (x2 : Int64) (x4 : Int32) (x5 : Int32) (x6 : Int64) (h : xb_H), K87 x0 x2 x4 x5 x6 h → xb_am l D A σ 5 MC MS h0 (fun v h _ _ => v = none ∧ Qr h) (fun _ _ _ _ => False) y_M_checkTable.cls y_M_checkTable.name b_M_checkTable 8 ([] : List ExceptionTableEntry) none 87 [(0, .ref x0), (2, .long x2), (4, .int x4), (5, .int x5), (6, .long x6)] [] h 0 0) (x0 : Nat) (x2 : Int64) (x4 : Int32) (x6 : Int64) (y0 : Int32) (h : xb_H) (hw : w_M_checkTable_L117 K87 Qr x0 x2 x4 x6 y0 h) : xb_am l D A σ 5 MC MS h0 (fun v h _ _ => v = none ∧ Qr h) (fun _ _ _ _ => False) y_M_checkTable.cls y_M_checkTable.name b_M_checkTable 8 ([] : List ExceptionTableEntry) none 117 [(0, .ref x0), (2, .long x2), (4, .int x4), (6, .long x6)] [.int y0] h 0 0 := by
  unfold w_M_checkTable_L117 at hw
  intro p e s m args below meth c hC H locs ls k n hE hl hR hS hk hn
  obtain ⟨hx, hb, hown, hlocks, htab, hml, hr, hB, hA, hnm⟩ := id hC
  have hts := hB.1.1.at args
  refine lv_istore hx hb (xb_d D_M_checkTable 64 rfl) hl (by decide) rfl (fun ls hl => ?_)
  have hl : lv_has ls 8 [(5, .int y0), (0, .ref x0), (2, .long x2), (4, .int x4), (6, .long x6)] := hl
  refine lv_lload hx hb (xb_d D_M_checkTable 65 rfl) (lv_at hl 4 rfl) ?_
  refine lv_lconst (v := 1) hx hb (xb_d D_M_checkTable 66 rfl) (by decide) ?_
  refine lv_ladd hx hb (xb_d D_M_checkTable 67 rfl) ?_
  obtain ⟨v1, ev1⟩ : ∃ x : Int64, x = (x6 + 1) := ⟨_, rfl⟩
  have hw := hw v1 ev1
  refine xt_numl (y := v1) ev1.symm ?_
  refine lv_lstore hx hb (xb_d D_M_checkTable 68 rfl) hl (by decide) rfl (fun ls hl => ?_)
  have hl : lv_has ls 8 [(6, .long v1), (5, .int y0), (0, .ref x0), (2, .long x2), (4, .int x4)] := hl
  refine lv_goto (tgt := 87) hx hb (xb_d D_M_checkTable 69 rfl) rfl ?_
  exact hK87 x0 x2 x4 y0 v1 h hw p e s m args below meth c hC H locs ls k n hE (lv_sub hl [2, 3, 4, 1, 0] rfl) hR hS (by omega) (by omega)

set_option maxHeartbeats 4000000 in
set_option maxRecDepth 100000 in
theorem am_M_checkTable_L116 (l : Launch) (hfl : l.flags = pinnedFlags ++ [noTraceFlag]) (D : va_G) (A : Nat → Prop) (σ MC MS : Nat) (h0 : xb_H) (Qr : xb_H → Prop) (K87 : Nat → Int64 → Int32 → Int32 → Int64 → xb_H → Prop) (hK87 : ∀ (x0 : Nat) (x2 : Int64) (x4 : Int32) (x5 : Int32) (x6 : Int64) (h : xb_H), K87 x0 x2 x4 x5 x6 h → xb_am l D A σ 5 MC MS h0 (fun v h _ _ => v = none ∧ Qr h) (fun _ _ _ _ => False) y_M_checkTable.cls y_M_checkTable.name b_M_checkTable 8 ([] : List ExceptionTableEntry) none 87 [(0, .ref x0), (2, .long x2), (4, .int x4), (5, .int x5), (6, .long x6)] [] h 0 0) (x0 : Nat) (x2 : Int64) (x4 : Int32) (x6 : Int64) (h : xb_H) (hw : w_M_checkTable_L116 K87 Qr x0 x2 x4 x6 h) : xb_am l D A σ 5 MC MS h0 (fun v h _ _ => v = none ∧ Qr h) (fun _ _ _ _ => False) y_M_checkTable.cls y_M_checkTable.name b_M_checkTable 8 ([] : List ExceptionTableEntry) none 116 [(0, .ref x0), (2, .long x2), (4, .int x4), (6, .long x6)] [] h 0 0 := by
  unfold w_M_checkTable_L116 at hw
  intro p e s m args below meth c hC H locs ls k n hE hl hR hS hk hn
  obtain ⟨hx, hb, hown, hlocks, htab, hml, hr, hB, hA, hnm⟩ := id hC
  have hts := hB.1.1.at args
  refine lv_iconst (v := 0) hx hb (xb_d D_M_checkTable 63 rfl) (by decide) ?_
  exact am_M_checkTable_L117 l hfl D A σ MC MS h0 Qr K87 hK87 x0 x2 x4 x6 0 h hw p e s m args below meth c hC H locs ls k n hE (lv_sub hl [0, 1, 2, 3] rfl) hR hS (by omega) (by omega)

set_option maxHeartbeats 4000000 in
set_option maxRecDepth 100000 in
theorem am_M_checkTable_L87 (l : Launch) (hfl : l.flags = pinnedFlags ++ [noTraceFlag]) (D : va_G) (A : Nat → Prop) (σ MC MS : Nat) (h0 : xb_H) (Qr : xb_H → Prop) (n9 : Nat) : ∀ (x0 : Nat) (x2 : Int64) (x4 : Int32) (x5 : Int32) (x6 : Int64) (h : xb_H), w_M_checkTable_L87 Qr n9 x0 x2 x4 x5 x6 h → xb_am l D A σ 5 MC MS h0 (fun v h _ _ => v = none ∧ Qr h) (fun _ _ _ _ => False) y_M_checkTable.cls y_M_checkTable.name b_M_checkTable 8 ([] : List ExceptionTableEntry) none 87 [(0, .ref x0), (2, .long x2), (4, .int x4), (5, .int x5), (6, .long x6)] [] h 0 0 := by
  induction n9 with
  | zero => intro x0 x2 x4 x5 x6 h hw; exact False.elim hw
  | succ n9 ih =>
    intro x0 x2 x4 x5 x6 h hw
    unfold w_M_checkTable_L87 at hw
    intro p e s m args below meth c hC H locs ls k n hE hl hR hS hk hn
    obtain ⟨hx, hb, hown, hlocks, htab, hml, hr, hB, hA, hnm⟩ := id hC
    have hts := hB.1.1.at args
    refine lv_lload hx hb (xb_d D_M_checkTable 49 rfl) (lv_at hl 4 rfl) ?_
    refine lv_lload_n hx hb (xb_d D_M_checkTable 50 rfl) rfl (lv_at hl 1 rfl) ?_
    refine xb_lc_gt (tgt := 128) hx hb (xb_d D_M_checkTable 51 rfl) (xb_d D_M_checkTable 52 rfl) rfl (fun hc1 => ?_) (fun hc1 => ?_)
    · have hw := hw.1 hc1
      refine lv_aload_n hx hb (xb_d D_M_checkTable 70 rfl) rfl (lv_at hl 0 rfl) ?_
      refine lv_iload hx hb (xb_d D_M_checkTable 71 rfl) (lv_at hl 3 rfl) ?_
      refine lv_bipush (v := 21) hx hb (xb_d D_M_checkTable 72 rfl) (by decide) ?_
      obtain ⟨hk2, hw⟩ := hw
      refine xb_call0 (D := D) (A := A) (σ := σ) (h := h) (d := 3) (maxL := 3) (rest := []) (av := [.ref x0, .int x5, .int 21]) (fun T hT X => by obtain ⟨cb9, ra9, rb9, rc9⟩ := xb_recv (ci := 8) hR rfl hk2 (by decide); exact xt_invV X hx hown (hts _ m_3b351fe6) (hts _ m_c9ff1909) (hts _ m_4d34701a) (xt_sigOf (hts _ m_c5aab6b8)) nm_M_need (by rw [hT]; exact ra9) rb9 rc9 (g := F0 m 133 ls [.int 21, .int x5, .ref x0]) rfl (argsL := [.int x5, .int 21]) (rest := []) rfl rfl (by rw [hb]; exact (xb_d D_M_checkTable 73 rfl))) (ok_M_need l hfl D A σ x0 x5 21 h _ hw) (hml.trans hl.1.symm) (by rw [hb]; exact (xb_d D_M_checkTable 73 rfl)) (Nat.le_of_ble_eq_true rfl) (Nat.le_of_ble_eq_true rfl) (Nat.le_of_ble_eq_true rfl) (show k ≤ MC by omega) (show n ≤ MS by omega) (xt_w1 hB.1 m_c5aab6b8) (xt_cdOf hB.1 m_c5aab6b8) (hts _ m_d5ed7bed) hB hR hS hA (fun vv h3 H locs hq hEh3 hR hS => ?_)
      obtain ⟨rfl, hw⟩ := hq
      have hw := hw hEh3
      have hE := hE.tr hEh3
      refine W.eq (g2 := F0 m 136 ls []) rfl ?_
      refine lv_aload_n hx hb (xb_d D_M_checkTable 74 rfl) rfl (lv_at hl 0 rfl) ?_
      refine lv_bipush (v := 127) hx hb (xb_d D_M_checkTable 75 rfl) (by decide) ?_
      have hk2 : xb_k h3 x0 = 9 := hEh3.k hk2
      refine xb_call0 (D := D) (A := A) (σ := σ) (h := h3) (d := 3) (maxL := 3) (rest := []) (av := [.ref x0, .int 127]) (fun T hT X => by obtain ⟨cb9, ra9, rb9, rc9⟩ := xb_recv (ci := 8) hR rfl hk2 (by decide); exact xt_invV X hx hown (hts _ m_4290bf91) (hts _ m_641dba55) (hts _ m_286bb193) (xt_sigOf (hts _ m_8ef3c792)) nm_M_take (by rw [hT]; exact ra9) rb9 rc9 (g := F0 m 139 ls [.int 127, .ref x0]) rfl (argsL := [.int 127]) (rest := []) rfl rfl (by rw [hb]; exact (xb_d D_M_checkTable 76 rfl))) (ok_M_take l hfl D A σ x0 127 h3 _ hw) (hml.trans hl.1.symm) (by rw [hb]; exact (xb_d D_M_checkTable 76 rfl)) (Nat.le_of_ble_eq_true rfl) (Nat.le_of_ble_eq_true rfl) (Nat.le_of_ble_eq_true rfl) (show k ≤ MC by omega) (show n ≤ MS by omega) (xt_w1 hB.1 m_8ef3c792) (xt_cdOf hB.1 m_8ef3c792) (hts _ m_d5ed7bed) hB hR hS hA (fun vv h5 H locs hq hEh5 hR hS => ?_)
      obtain ⟨r6, rfl, hw⟩ := hq
      have hw := hw hEh5
      have hE := hE.tr hEh5
      refine W.eq (g2 := F0 m 142 ls [.int r6]) rfl ?_
      refine lv_pop hx hb (xb_d D_M_checkTable 77 rfl) rfl ?_
      refine lv_aload_n hx hb (xb_d D_M_checkTable 78 rfl) rfl (lv_at hl 0 rfl) ?_
      refine lv_iload hx hb (xb_d D_M_checkTable 79 rfl) (lv_at hl 2 rfl) ?_
      have hk2 : xb_k h5 x0 = 9 := hEh5.k hk2
      refine xb_call0 (D := D) (A := A) (σ := σ) (h := h5) (d := 4) (maxL := 2) (rest := []) (av := [.ref x0, .int x4]) (fun T hT X => by obtain ⟨cb9, ra9, rb9, rc9⟩ := xb_recv (ci := 8) hR rfl hk2 (by decide); exact xt_invV X hx hown (hts _ m_a3ac02d9) (hts _ m_a1be1a1a) (hts _ m_fd259a5b) (xt_sigOf (hts _ m_f2cfd56a)) nm_M_takeResult (by rw [hT]; exact ra9) rb9 rc9 (g := F0 m 146 ls [.int x4, .ref x0]) rfl (argsL := [.int x4]) (rest := []) rfl rfl (by rw [hb]; exact (xb_d D_M_checkTable 80 rfl))) (ok_M_takeResult l hfl D A σ x0 x4 h5 _ hw) (hml.trans hl.1.symm) (by rw [hb]; exact (xb_d D_M_checkTable 80 rfl)) (Nat.le_of_ble_eq_true rfl) (Nat.le_of_ble_eq_true rfl) (Nat.le_of_ble_eq_true rfl) (show k ≤ MC by omega) (show n ≤ MS by omega) (xt_w1 hB.1 m_f2cfd56a) (xt_cdOf hB.1 m_f2cfd56a) (hts _ m_d5ed7bed) hB hR hS hA (fun vv h7 H locs hq hEh7 hR hS => ?_)
      obtain ⟨rfl, hw⟩ := hq
      have hw := hw hEh7
      have hE := hE.tr hEh7
      refine W.eq (g2 := F0 m 149 ls []) rfl ?_
      refine lv_aload_n hx hb (xb_d D_M_checkTable 81 rfl) rfl (lv_at hl 0 rfl) ?_
      have hk2 : xb_k h7 x0 = 9 := hEh7.k hk2
      refine xb_call0 (D := D) (A := A) (σ := σ) (h := h7) (d := 2) (maxL := 1) (rest := []) (av := [.ref x0]) (fun T hT X => by obtain ⟨cb9, ra9, rb9, rc9⟩ := xb_recv (ci := 8) hR rfl hk2 (by decide); exact xt_invV X hx hown (hts _ m_3f9bfaa5) (hts _ m_825f0c22) (hts _ m_e55d52e9) (xt_sigOf (hts _ m_e7fd7be8)) nm_M_dead (by rw [hT]; exact ra9) rb9 rc9 (g := F0 m 150 ls [.ref x0]) rfl (argsL := []) (rest := []) rfl rfl (by rw [hb]; exact (xb_d D_M_checkTable 82 rfl))) (ok_M_dead l hfl D A σ x0 h7 _ hw) (hml.trans hl.1.symm) (by rw [hb]; exact (xb_d D_M_checkTable 82 rfl)) (Nat.le_of_ble_eq_true rfl) (Nat.le_of_ble_eq_true rfl) (Nat.le_of_ble_eq_true rfl) (show k ≤ MC by omega) (show n ≤ MS by omega) (xt_w1 hB.1 m_e7fd7be8) (xt_cdOf hB.1 m_e7fd7be8) (hts _ m_d5ed7bed) hB hR hS hA (fun vv h9 H locs hq hEh9 hR hS => ?_)
      obtain ⟨rfl, hw⟩ := hq
      have hw := hw hEh9
      have hE := hE.tr hEh9
      refine W.eq (g2 := F0 m 153 ls []) rfl ?_
      exact xb_vret 0 0 hx hb hr hlocks (show k + 0 ≤ MC by omega) (show n + 0 ≤ MS by omega) hE hR hS (xb_d D_M_checkTable 83 rfl) hw
    · have hw := hw.2 hc1
      refine lv_aload_n hx hb (xb_d D_M_checkTable 53 rfl) rfl (lv_at hl 0 rfl) ?_
      refine lv_aload_n hx hb (xb_d D_M_checkTable 54 rfl) rfl (lv_at hl 0 rfl) ?_
      obtain ⟨hk11, hw⟩ := hw
      refine xb_call0 (D := D) (A := A) (σ := σ) (h := h) (d := 4) (maxL := 5) (rest := [.ref x0]) (av := [.ref x0]) (fun T hT X => by obtain ⟨cb9, ra9, rb9, rc9⟩ := xb_recv (ci := 8) hR rfl hk11 (by decide); exact xt_invV X hx hown (hts _ m_e991293f) (hts _ m_385a74b3) (hts _ m_c9fbcd02) (xt_sigOf (hts _ m_1f53f210)) nm_M_count (by rw [hT]; exact ra9) rb9 rc9 (g := F0 m 96 ls [.ref x0, .ref x0]) rfl (argsL := []) (rest := [.ref x0]) rfl rfl (by rw [hb]; exact (xb_d D_M_checkTable 55 rfl))) (ok_M_count l hfl D A σ x0 h _ hw) (hml.trans hl.1.symm) (by rw [hb]; exact (xb_d D_M_checkTable 55 rfl)) (Nat.le_of_ble_eq_true rfl) (Nat.le_of_ble_eq_true rfl) (Nat.le_of_ble_eq_true rfl) (show k ≤ MC by omega) (show n ≤ MS by omega) (xt_w1 hB.1 m_1f53f210) (xt_cdOf hB.1 m_1f53f210) (hts _ m_d5ed7bed) hB hR hS hA (fun vv h12 H locs hq hEh12 hR hS => ?_)
      obtain ⟨r13, rfl, hw⟩ := hq
      have hw := hw hEh12
      have hE := hE.tr hEh12
      refine W.eq (g2 := F0 m 99 ls [.long r13, .ref x0]) rfl ?_
      have hk11 : xb_k h12 x0 = 9 := hEh12.k hk11
      refine xb_call0 (D := D) (A := A) (σ := σ) (h := h12) (d := 4) (maxL := 3) (rest := []) (av := [.ref x0, .long r13]) (fun T hT X => by obtain ⟨cb9, ra9, rb9, rc9⟩ := xb_recv (ci := 8) hR rfl hk11 (by decide); exact xt_invV X hx hown (hts _ m_c6d30415) (hts _ m_54d56332) (hts _ m_47c4a841) (xt_sigOf (hts _ m_088f6d43)) nm_M_label (by rw [hT]; exact ra9) rb9 rc9 (g := F0 m 99 ls [.long r13, .ref x0]) rfl (argsL := [.long r13]) (rest := []) rfl rfl (by rw [hb]; exact (xb_d D_M_checkTable 56 rfl))) (ok_M_label l hfl D A σ x0 r13 h12 _ hw) (hml.trans hl.1.symm) (by rw [hb]; exact (xb_d D_M_checkTable 56 rfl)) (Nat.le_of_ble_eq_true rfl) (Nat.le_of_ble_eq_true rfl) (Nat.le_of_ble_eq_true rfl) (show k ≤ MC by omega) (show n ≤ MS by omega) (xt_w1 hB.1 m_088f6d43) (xt_cdOf hB.1 m_088f6d43) (hts _ m_d5ed7bed) hB hR hS hA (fun vv h14 H locs hq hEh14 hR hS => ?_)
      obtain ⟨r15, rfl, hw⟩ := hq
      have hw := hw hEh14
      have hE := hE.tr hEh14
      refine W.eq (g2 := F0 m 102 ls [.int r15]) rfl ?_
      refine lv_iload hx hb (xb_d D_M_checkTable 57 rfl) (lv_at hl 2 rfl) ?_
      refine lv_icmp_ne (tgt := 116) hx hb (xb_d D_M_checkTable 58 rfl) rfl (fun hc16 => ?_) (fun hc16 => ?_)
      · have hw := hw.1 hc16
        exact am_M_checkTable_L116 l hfl D A σ MC MS h0 Qr (w_M_checkTable_L87 Qr n9) ih x0 x2 x4 x6 h14 hw p e s m args below meth c hC H locs ls k n hE (lv_sub hl [0, 1, 2, 4] rfl) hR hS (by omega) (by omega)
      · have hw := hw.2 hc16
        refine lv_iload hx hb (xb_d D_M_checkTable 59 rfl) (lv_at hl 3 rfl) ?_
        refine lv_if_eq (tgt := 116) hx hb (xb_d D_M_checkTable 60 rfl) rfl (fun hc17 => ?_) (fun hc17 => ?_)
        · have hw := hw.1 hc17
          exact am_M_checkTable_L116 l hfl D A σ MC MS h0 Qr (w_M_checkTable_L87 Qr n9) ih x0 x2 x4 x6 h14 hw p e s m args below meth c hC H locs ls k n hE (lv_sub hl [0, 1, 2, 4] rfl) hR hS (by omega) (by omega)
        · have hw := hw.2 hc17
          refine lv_iconst (v := 1) hx hb (xb_d D_M_checkTable 61 rfl) (by decide) ?_
          refine lv_goto (tgt := 117) hx hb (xb_d D_M_checkTable 62 rfl) rfl ?_
          exact am_M_checkTable_L117 l hfl D A σ MC MS h0 Qr (w_M_checkTable_L87 Qr n9) ih x0 x2 x4 x6 1 h14 hw p e s m args below meth c hC H locs ls k n hE (lv_sub hl [0, 1, 2, 4] rfl) hR hS (by omega) (by omega)

set_option maxHeartbeats 4000000 in
set_option maxRecDepth 100000 in
theorem am_M_checkTable_L39 (l : Launch) (hfl : l.flags = pinnedFlags ++ [noTraceFlag]) (D : va_G) (A : Nat → Prop) (σ MC MS : Nat) (h0 : xb_H) (Qr : xb_H → Prop) (K13 : Nat → Int32 → Int64 → Int64 → xb_H → Prop) (hK13 : ∀ (x0 : Nat) (x1 : Int32) (x2 : Int64) (x4 : Int64) (h : xb_H), K13 x0 x1 x2 x4 h → xb_am l D A σ 5 MC MS h0 (fun v h _ _ => v = none ∧ Qr h) (fun _ _ _ _ => False) y_M_checkTable.cls y_M_checkTable.name b_M_checkTable 8 ([] : List ExceptionTableEntry) none 13 [(0, .ref x0), (1, .int x1), (2, .long x2), (4, .long x4)] [] h 0 0) (x0 : Nat) (x1 : Int32) (x2 : Int64) (x4 : Int64) (y0 : Int32) (y1 : Nat) (h : xb_H) (hw : w_M_checkTable_L39 K13 Qr x0 x1 x2 x4 y0 y1 h) : xb_am l D A σ 5 MC MS h0 (fun v h _ _ => v = none ∧ Qr h) (fun _ _ _ _ => False) y_M_checkTable.cls y_M_checkTable.name b_M_checkTable 8 ([] : List ExceptionTableEntry) none 39 [(0, .ref x0), (1, .int x1), (2, .long x2), (4, .long x4)] [.int y0, .ref y1] h 0 0 := by
  unfold w_M_checkTable_L39 at hw
  intro p e s m args below meth c hC H locs ls k n hE hl hR hS hk hn
  obtain ⟨hx, hb, hown, hlocks, htab, hml, hr, hB, hA, hnm⟩ := id hC
  have hts := hB.1.1.at args
  refine lv_bipush (v := 20) hx hb (xb_d D_M_checkTable 23 rfl) (by decide) ?_
  obtain ⟨hk1, hw⟩ := hw
  refine xb_call0 (D := D) (A := A) (σ := σ) (h := h) (d := 3) (maxL := 3) (rest := []) (av := [.ref y1, .int y0, .int 20]) (fun T hT X => by obtain ⟨cb9, ra9, rb9, rc9⟩ := xb_recv (ci := 8) hR rfl hk1 (by decide); exact xt_invV X hx hown (hts _ m_3b351fe6) (hts _ m_c9ff1909) (hts _ m_4d34701a) (xt_sigOf (hts _ m_c5aab6b8)) nm_M_need (by rw [hT]; exact ra9) rb9 rc9 (g := F0 m 41 ls [.int 20, .int y0, .ref y1]) rfl (argsL := [.int y0, .int 20]) (rest := []) rfl rfl (by rw [hb]; exact (xb_d D_M_checkTable 24 rfl))) (ok_M_need l hfl D A σ y1 y0 20 h _ hw) (hml.trans hl.1.symm) (by rw [hb]; exact (xb_d D_M_checkTable 24 rfl)) (Nat.le_of_ble_eq_true rfl) (Nat.le_of_ble_eq_true rfl) (Nat.le_of_ble_eq_true rfl) (show k ≤ MC by omega) (show n ≤ MS by omega) (xt_w1 hB.1 m_c5aab6b8) (xt_cdOf hB.1 m_c5aab6b8) (hts _ m_d5ed7bed) hB hR hS hA (fun vv h2 H locs hq hEh2 hR hS => ?_)
  obtain ⟨rfl, hw⟩ := hq
  have hw := hw hEh2
  have hE := hE.tr hEh2
  refine W.eq (g2 := F0 m 44 ls []) rfl ?_
  refine lv_aload_n hx hb (xb_d D_M_checkTable 25 rfl) rfl (lv_at hl 0 rfl) ?_
  obtain ⟨hk4, hw⟩ := hw
  refine xb_getI (C := R_M) (T := F_M) (N := 97) hx hb 8 17 hts fin_M hown hR hk4 (by decide) rfl (by decide) rfl (hts _ m_ff69da61) (fun _ h9 => h9) (xb_d D_M_checkTable 26 rfl) ?_
  refine lv_if_eq (tgt := 52) hx hb (xb_d D_M_checkTable 27 rfl) rfl (fun hc5 => ?_) (fun hc5 => ?_)
  · have hw := hw.1 hc5
    refine lv_lload hx hb (xb_d D_M_checkTable 29 rfl) (lv_at hl 3 rfl) ?_
    refine lv_lconst (v := 1) hx hb (xb_d D_M_checkTable 30 rfl) (by decide) ?_
    refine lv_ladd hx hb (xb_d D_M_checkTable 31 rfl) ?_
    obtain ⟨v6, ev6⟩ : ∃ x : Int64, x = (x4 + 1) := ⟨_, rfl⟩
    have hw := hw v6 ev6
    refine xt_numl (y := v6) ev6.symm ?_
    refine lv_lstore hx hb (xb_d D_M_checkTable 32 rfl) hl (by decide) rfl (fun ls hl => ?_)
    have hl : lv_has ls 8 [(4, .long v6), (0, .ref x0), (1, .int x1), (2, .long x2)] := hl
    refine lv_goto (tgt := 13) hx hb (xb_d D_M_checkTable 33 rfl) rfl ?_
    exact hK13 x0 x1 x2 v6 h2 hw p e s m args below meth c hC H locs ls k n hE (lv_sub hl [1, 2, 3, 0] rfl) hR hS (by omega) (by omega)
  · have hw := hw.2 hc5
    exact xb_vret 0 0 hx hb hr hlocks (show k + 0 ≤ MC by omega) (show n + 0 ≤ MS by omega) hE hR hS (xb_d D_M_checkTable 28 rfl) hw

set_option maxHeartbeats 4000000 in
set_option maxRecDepth 100000 in
theorem am_M_checkTable_L13 (l : Launch) (hfl : l.flags = pinnedFlags ++ [noTraceFlag]) (D : va_G) (A : Nat → Prop) (σ MC MS : Nat) (h0 : xb_H) (Qr : xb_H → Prop) (n9 : Nat) : ∀ (x0 : Nat) (x1 : Int32) (x2 : Int64) (x4 : Int64) (h : xb_H), w_M_checkTable_L13 Qr n9 x0 x1 x2 x4 h → xb_am l D A σ 5 MC MS h0 (fun v h _ _ => v = none ∧ Qr h) (fun _ _ _ _ => False) y_M_checkTable.cls y_M_checkTable.name b_M_checkTable 8 ([] : List ExceptionTableEntry) none 13 [(0, .ref x0), (1, .int x1), (2, .long x2), (4, .long x4)] [] h 0 0 := by
  induction n9 with
  | zero => intro x0 x1 x2 x4 h hw; exact False.elim hw
  | succ n9 ih =>
    intro x0 x1 x2 x4 h hw
    unfold w_M_checkTable_L13 at hw
    intro p e s m args below meth c hC H locs ls k n hE hl hR hS hk hn
    obtain ⟨hx, hb, hown, hlocks, htab, hml, hr, hB, hA, hnm⟩ := id hC
    have hts := hB.1.1.at args
    refine lv_lload hx hb (xb_d D_M_checkTable 8 rfl) (lv_at hl 3 rfl) ?_
    refine lv_lload_n hx hb (xb_d D_M_checkTable 9 rfl) rfl (lv_at hl 2 rfl) ?_
    refine xb_lc_gt (tgt := 61) hx hb (xb_d D_M_checkTable 10 rfl) (xb_d D_M_checkTable 11 rfl) rfl (fun hc1 => ?_) (fun hc1 => ?_)
    · have hw := hw.1 hc1
      refine lv_aload_n hx hb (xb_d D_M_checkTable 34 rfl) rfl (lv_at hl 0 rfl) ?_
      refine lv_iload_n hx hb (xb_d D_M_checkTable 35 rfl) rfl (lv_at hl 1 rfl) ?_
      obtain ⟨hk2, hw⟩ := hw
      refine xb_putI (C := R_M) (T := F_M) (N := 97) (ty := .int) (x := x1) hx hb 8 15 hts fin_M t_M t_M_ok n_M hown hR hS hk2 (by decide) rfl (by decide) rfl (hts _ m_6c2d27ad) (fun _ h9 => h9) rfl (by decide +kernel) rfl rfl (xb_d D_M_checkTable 36 rfl) (fun H locs hR hS => ?_)
      obtain ⟨h3, eh3⟩ : ∃ x : xb_H, x = xb_I h x0 15 x1 := ⟨_, rfl⟩
      rw [← eh3] at hR
      have hw := hw h3 eh3
      have hE : xb_ext h0 h3 := by rw [eh3]; exact hE
      refine lv_aload_n hx hb (xb_d D_M_checkTable 37 rfl) rfl (lv_at hl 0 rfl) ?_
      have hk2 : xb_k h3 x0 = 9 := by rw [eh3]; exact hk2
      refine xb_call0 (D := D) (A := A) (σ := σ) (h := h3) (d := 4) (maxL := 5) (rest := []) (av := [.ref x0]) (fun T hT X => by obtain ⟨cb9, ra9, rb9, rc9⟩ := xb_recv (ci := 8) hR rfl hk2 (by decide); exact xt_invV X hx hown (hts _ m_e991293f) (hts _ m_385a74b3) (hts _ m_c9fbcd02) (xt_sigOf (hts _ m_1f53f210)) nm_M_count (by rw [hT]; exact ra9) rb9 rc9 (g := F0 m 67 ls [.ref x0]) rfl (argsL := []) (rest := []) rfl rfl (by rw [hb]; exact (xb_d D_M_checkTable 38 rfl))) (ok_M_count l hfl D A σ x0 h3 _ hw) (hml.trans hl.1.symm) (by rw [hb]; exact (xb_d D_M_checkTable 38 rfl)) (Nat.le_of_ble_eq_true rfl) (Nat.le_of_ble_eq_true rfl) (Nat.le_of_ble_eq_true rfl) (show k ≤ MC by omega) (show n ≤ MS by omega) (xt_w1 hB.1 m_1f53f210) (xt_cdOf hB.1 m_1f53f210) (hts _ m_d5ed7bed) hB hR hS hA (fun vv h4 H locs hq hEh4 hR hS => ?_)
      obtain ⟨r5, rfl, hw⟩ := hq
      have hw := hw hEh4
      have hE := hE.tr hEh4
      refine W.eq (g2 := F0 m 70 ls [.long r5]) rfl ?_
      refine lv_lstore_n hx hb (xb_d D_M_checkTable 39 rfl) rfl hl (by decide) rfl (fun ls hl => ?_)
      have hl : lv_has ls 8 [(2, .long r5), (0, .ref x0), (1, .int x1), (4, .long x4)] := hl
      refine lv_aload_n hx hb (xb_d D_M_checkTable 40 rfl) rfl (lv_at hl 1 rfl) ?_
      refine lv_aload_n hx hb (xb_d D_M_checkTable 41 rfl) rfl (lv_at hl 1 rfl) ?_
      have hk2 : xb_k h4 x0 = 9 := hEh4.k hk2
      refine xb_call0 (D := D) (A := A) (σ := σ) (h := h4) (d := 4) (maxL := 5) (rest := [.ref x0]) (av := [.ref x0]) (fun T hT X => by obtain ⟨cb9, ra9, rb9, rc9⟩ := xb_recv (ci := 8) hR rfl hk2 (by decide); exact xt_invV X hx hown (hts _ m_e991293f) (hts _ m_385a74b3) (hts _ m_c9fbcd02) (xt_sigOf (hts _ m_1f53f210)) nm_M_count (by rw [hT]; exact ra9) rb9 rc9 (g := F0 m 73 ls [.ref x0, .ref x0]) rfl (argsL := []) (rest := [.ref x0]) rfl rfl (by rw [hb]; exact (xb_d D_M_checkTable 42 rfl))) (ok_M_count l hfl D A σ x0 h4 _ hw) (hml.trans hl.1.symm) (by rw [hb]; exact (xb_d D_M_checkTable 42 rfl)) (Nat.le_of_ble_eq_true rfl) (Nat.le_of_ble_eq_true rfl) (Nat.le_of_ble_eq_true rfl) (show k ≤ MC by omega) (show n ≤ MS by omega) (xt_w1 hB.1 m_1f53f210) (xt_cdOf hB.1 m_1f53f210) (hts _ m_d5ed7bed) hB hR hS hA (fun vv h6 H locs hq hEh6 hR hS => ?_)
      obtain ⟨r7, rfl, hw⟩ := hq
      have hw := hw hEh6
      have hE := hE.tr hEh6
      refine W.eq (g2 := F0 m 76 ls [.long r7, .ref x0]) rfl ?_
      have hk2 : xb_k h6 x0 = 9 := hEh6.k hk2
      refine xb_call0 (D := D) (A := A) (σ := σ) (h := h6) (d := 4) (maxL := 3) (rest := []) (av := [.ref x0, .long r7]) (fun T hT X => by obtain ⟨cb9, ra9, rb9, rc9⟩ := xb_recv (ci := 8) hR rfl hk2 (by decide); exact xt_invV X hx hown (hts _ m_c6d30415) (hts _ m_54d56332) (hts _ m_47c4a841) (xt_sigOf (hts _ m_088f6d43)) nm_M_label (by rw [hT]; exact ra9) rb9 rc9 (g := F0 m 76 ls [.long r7, .ref x0]) rfl (argsL := [.long r7]) (rest := []) rfl rfl (by rw [hb]; exact (xb_d D_M_checkTable 43 rfl))) (ok_M_label l hfl D A σ x0 r7 h6 _ hw) (hml.trans hl.1.symm) (by rw [hb]; exact (xb_d D_M_checkTable 43 rfl)) (Nat.le_of_ble_eq_true rfl) (Nat.le_of_ble_eq_true rfl) (Nat.le_of_ble_eq_true rfl) (show k ≤ MC by omega) (show n ≤ MS by omega) (xt_w1 hB.1 m_088f6d43) (xt_cdOf hB.1 m_088f6d43) (hts _ m_d5ed7bed) hB hR hS hA (fun vv h8 H locs hq hEh8 hR hS => ?_)
      obtain ⟨r9, rfl, hw⟩ := hq
      have hw := hw hEh8
      have hE := hE.tr hEh8
      refine W.eq (g2 := F0 m 79 ls [.int r9]) rfl ?_
      refine lv_istore hx hb (xb_d D_M_checkTable 44 rfl) hl (by decide) rfl (fun ls hl => ?_)
      have hl : lv_has ls 8 [(4, .int r9), (2, .long r5), (0, .ref x0), (1, .int x1)] := hl
      refine lv_iconst (v := 1) hx hb (xb_d D_M_checkTable 45 rfl) (by decide) ?_
      refine lv_istore hx hb (xb_d D_M_checkTable 46 rfl) hl (by decide) rfl (fun ls hl => ?_)
      have hl : lv_has ls 8 [(5, .int 1), (4, .int r9), (2, .long r5), (0, .ref x0), (1, .int x1)] := hl
      refine lv_lconst (v := 1) hx hb (xb_d D_M_checkTable 47 rfl) (by decide) ?_
      refine lv_lstore hx hb (xb_d D_M_checkTable 48 rfl) hl (by decide) rfl (fun ls hl => ?_)
      have hl : lv_has ls 8 [(6, .long 1), (5, .int 1), (4, .int r9), (2, .long r5), (0, .ref x0), (1, .int x1)] := hl
      obtain ⟨n8, hw⟩ := hw
      exact am_M_checkTable_L87 l hfl D A σ MC MS h0 Qr n8 x0 r5 r9 1 1 h8 hw p e s m args below meth c hC H locs ls k n hE (lv_sub hl [4, 3, 2, 1, 0] rfl) hR hS (by omega) (by omega)
    · have hw := hw.2 hc1
      refine lv_aload_n hx hb (xb_d D_M_checkTable 12 rfl) rfl (lv_at hl 0 rfl) ?_
      refine lv_aload_n hx hb (xb_d D_M_checkTable 13 rfl) rfl (lv_at hl 0 rfl) ?_
      obtain ⟨hk10, hw⟩ := hw
      refine xb_call0 (D := D) (A := A) (σ := σ) (h := h) (d := 4) (maxL := 5) (rest := [.ref x0]) (av := [.ref x0]) (fun T hT X => by obtain ⟨cb9, ra9, rb9, rc9⟩ := xb_recv (ci := 8) hR rfl hk10 (by decide); exact xt_invV X hx hown (hts _ m_e991293f) (hts _ m_385a74b3) (hts _ m_c9fbcd02) (xt_sigOf (hts _ m_1f53f210)) nm_M_count (by rw [hT]; exact ra9) rb9 rc9 (g := F0 m 22 ls [.ref x0, .ref x0]) rfl (argsL := []) (rest := [.ref x0]) rfl rfl (by rw [hb]; exact (xb_d D_M_checkTable 14 rfl))) (ok_M_count l hfl D A σ x0 h _ hw) (hml.trans hl.1.symm) (by rw [hb]; exact (xb_d D_M_checkTable 14 rfl)) (Nat.le_of_ble_eq_true rfl) (Nat.le_of_ble_eq_true rfl) (Nat.le_of_ble_eq_true rfl) (show k ≤ MC by omega) (show n ≤ MS by omega) (xt_w1 hB.1 m_1f53f210) (xt_cdOf hB.1 m_1f53f210) (hts _ m_d5ed7bed) hB hR hS hA (fun vv h11 H locs hq hEh11 hR hS => ?_)
      obtain ⟨r12, rfl, hw⟩ := hq
      have hw := hw hEh11
      have hE := hE.tr hEh11
      refine W.eq (g2 := F0 m 25 ls [.long r12, .ref x0]) rfl ?_
      refine lv_aload_n hx hb (xb_d D_M_checkTable 15 rfl) rfl (lv_at hl 0 rfl) ?_
      have hk10 : xb_k h11 x0 = 9 := hEh11.k hk10
      refine xb_getI (C := R_M) (T := F_M) (N := 97) hx hb 8 29 hts fin_M hown hR hk10 (by decide) rfl (by decide) rfl (hts _ m_1024c20b) (fun _ h9 => h9) (xb_d D_M_checkTable 16 rfl) ?_
      refine lv_i2l hx hb (xb_d D_M_checkTable 17 rfl) rfl ?_
      refine xb_lc_ge (tgt := 38) hx hb (xb_d D_M_checkTable 18 rfl) (xb_d D_M_checkTable 19 rfl) rfl (fun hc13 => ?_) (fun hc13 => ?_)
      · have hw := hw.1 hc13
        refine lv_iconst (v := 0) hx hb (xb_d D_M_checkTable 22 rfl) (by decide) ?_
        exact am_M_checkTable_L39 l hfl D A σ MC MS h0 Qr (w_M_checkTable_L13 Qr n9) ih x0 x1 x2 x4 0 x0 h11 hw p e s m args below meth c hC H locs ls k n hE (lv_sub hl [0, 1, 2, 3] rfl) hR hS (by omega) (by omega)
      · have hw := hw.2 hc13
        refine lv_iconst (v := 1) hx hb (xb_d D_M_checkTable 20 rfl) (by decide) ?_
        refine lv_goto (tgt := 39) hx hb (xb_d D_M_checkTable 21 rfl) rfl ?_
        exact am_M_checkTable_L39 l hfl D A σ MC MS h0 Qr (w_M_checkTable_L13 Qr n9) ih x0 x1 x2 x4 1 x0 h11 hw p e s m args below meth c hC H locs ls k n hE (lv_sub hl [0, 1, 2, 3] rfl) hR hS (by omega) (by omega)

set_option maxHeartbeats 4000000 in
set_option maxRecDepth 100000 in
theorem ok_M_checkTable (l : Launch) (hfl : l.flags = pinnedFlags ++ [noTraceFlag]) (D : va_G) (A : Nat → Prop) (σ : Nat) (x0 : Nat) (h : xb_H) (Qr : xb_H → Prop) (hw : w_M_checkTable x0 h Qr) : xb_Met l y_M_checkTable [.code y_M_checkTable b_M_checkTable 8 none] (xb_rm 5 0 0) (xb_Pc D A σ h [.ref x0]) (xb_Qc D A h 0 0 (fun v h _ _ => v = none ∧ Qr h) (fun _ _ _ _ => False)) A := by
  refine xb_ofAm (cc := b_M_checkTable) (by decide) (Nat.le_of_ble_eq_true rfl) ?_
  unfold w_M_checkTable at hw
  show xb_am l D A σ 5 0 0 h (fun v h _ _ => v = none ∧ Qr h) (fun _ _ _ _ => False) y_M_checkTable.cls y_M_checkTable.name b_M_checkTable 8 ([] : List ExceptionTableEntry) none 0 [(0, .ref x0)] [] h 0 0
  obtain ⟨MC, hMC⟩ : ∃ x, x = 0 := ⟨_, rfl⟩
  obtain ⟨MS, hMS⟩ : ∃ x, x = 0 := ⟨_, rfl⟩
  rw [show xb_am l D A σ 5 0 0 = xb_am l D A σ 5 MC MS by rw [hMC, hMS]]
  obtain ⟨h0, hh0⟩ : ∃ x, x = h := ⟨_, rfl⟩
  rw [show xb_am l D A σ 5 MC MS h = xb_am l D A σ 5 MC MS h0 by rw [hh0]]
  intro p e s m args below meth c hC H locs ls k n hE hl hR hS hk hn
  obtain ⟨hx, hb, hown, hlocks, htab, hml, hr, hB, hA, hnm⟩ := id hC
  have hts := hB.1.1.at args
  refine lv_aload_n hx hb (xb_d D_M_checkTable 0 rfl) rfl (lv_at hl 0 rfl) ?_
  obtain ⟨hk1, hw⟩ := hw
  refine xb_getI (C := R_M) (T := F_M) (N := 97) hx hb 8 15 hts fin_M hown hR hk1 (by decide) rfl (by decide) rfl (hts _ m_6c2d27ad) (fun _ h9 => h9) (xb_d D_M_checkTable 1 rfl) ?_
  obtain ⟨v2, ev2⟩ : ∃ x : Int32, x = (xb_i h x0 15) := ⟨_, rfl⟩
  have hw := hw v2 ev2
  refine xt_numi (y := v2) ev2.symm ?_
  refine lv_istore_n hx hb (xb_d D_M_checkTable 2 rfl) rfl hl (by decide) rfl (fun ls hl => ?_)
  have hl : lv_has ls 8 [(1, .int v2), (0, .ref x0)] := hl
  refine lv_aload_n hx hb (xb_d D_M_checkTable 3 rfl) rfl (lv_at hl 1 rfl) ?_
  refine xb_call0 (D := D) (A := A) (σ := σ) (h := h) (d := 4) (maxL := 5) (rest := []) (av := [.ref x0]) (fun T hT X => by obtain ⟨cb9, ra9, rb9, rc9⟩ := xb_recv (ci := 8) hR rfl hk1 (by decide); exact xt_invV X hx hown (hts _ m_e991293f) (hts _ m_385a74b3) (hts _ m_c9fbcd02) (xt_sigOf (hts _ m_1f53f210)) nm_M_count (by rw [hT]; exact ra9) rb9 rc9 (g := F0 m 6 ls [.ref x0]) rfl (argsL := []) (rest := []) rfl rfl (by rw [hb]; exact (xb_d D_M_checkTable 4 rfl))) (ok_M_count l hfl D A σ x0 h _ hw) (hml.trans hl.1.symm) (by rw [hb]; exact (xb_d D_M_checkTable 4 rfl)) (Nat.le_of_ble_eq_true rfl) (Nat.le_of_ble_eq_true rfl) (Nat.le_of_ble_eq_true rfl) (show k ≤ MC by omega) (show n ≤ MS by omega) (xt_w1 hB.1 m_1f53f210) (xt_cdOf hB.1 m_1f53f210) (hts _ m_d5ed7bed) hB hR hS hA (fun vv h3 H locs hq hEh3 hR hS => ?_)
  obtain ⟨r4, rfl, hw⟩ := hq
  have hw := hw hEh3
  have hE := hE.tr hEh3
  refine W.eq (g2 := F0 m 9 ls [.long r4]) rfl ?_
  refine lv_lstore_n hx hb (xb_d D_M_checkTable 5 rfl) rfl hl (by decide) rfl (fun ls hl => ?_)
  have hl : lv_has ls 8 [(2, .long r4), (1, .int v2), (0, .ref x0)] := hl
  refine lv_lconst (v := 0) hx hb (xb_d D_M_checkTable 6 rfl) (by decide) ?_
  refine lv_lstore hx hb (xb_d D_M_checkTable 7 rfl) hl (by decide) rfl (fun ls hl => ?_)
  have hl : lv_has ls 8 [(4, .long 0), (2, .long r4), (1, .int v2), (0, .ref x0)] := hl
  obtain ⟨n8, hw⟩ := hw
  exact am_M_checkTable_L13 l hfl D A σ MC MS h0 Qr n8 x0 v2 r4 0 h3 hw p e s m args below meth c hC H locs ls k n hE (lv_sub hl [3, 2, 1, 0] rfl) hR hS (by omega) (by omega)

set_option maxRecDepth 100000 in
def T_M_closeOne : List (Nat × Instr × Nat) := [(0, .aload_n 0, 1), (1, .aload_n 0, 1), (2, .getfield 52, 3), (5, .aload_n 0, 1), (6, .getfield 396, 3), (9, .iconst 1, 1), (10, .isub, 1), (11, .iaload, 1), (12, .invokevirtual 467, 3), (15, .aload_n 0, 1), (16, .aload_n 0, 1), (17, .getfield 390, 3), (20, .aload_n 0, 1), (21, .getfield 55, 3), (24, .aload_n 0, 1), (25, .getfield 396, 3), (28, .iconst 1, 1), (29, .isub, 1), (30, .iaload, 1), (31, .if_icmp .ne 7, 3), (34, .iconst 1, 1), (35, .goto 4, 3), (38, .iconst 0, 1), (39, .bipush 21, 2), (41, .invokevirtual 408, 3), (44, .aload_n 0, 1), (45, .dup, 1), (46, .getfield 396, 3), (49, .iconst 1, 1), (50, .isub, 1), (51, .putfield 396, 3), (54, .return_, 1)]
theorem D_M_closeOne : ∀ q ∈ T_M_closeOne, decode b_M_closeOne q.1 = .ok (q.2.1, q.2.2) := by decide +kernel

set_option maxHeartbeats 4000000 in
set_option maxRecDepth 100000 in
theorem am_M_closeOne_L39 (l : Launch) (hfl : l.flags = pinnedFlags ++ [noTraceFlag]) (D : va_G) (A : Nat → Prop) (σ MC MS : Nat) (h0 : xb_H) (Qr : xb_H → Prop) (x0 : Nat) (y0 : Int32) (y1 : Nat) (h : xb_H) (hw : w_M_closeOne_L39 Qr x0 y0 y1 h) : xb_am l D A σ 5 MC MS h0 (fun v h _ _ => v = none ∧ Qr h) (fun _ _ _ _ => False) y_M_closeOne.cls y_M_closeOne.name b_M_closeOne 1 ([] : List ExceptionTableEntry) none 39 [(0, .ref x0)] [.int y0, .ref y1] h 0 0 := by
  unfold w_M_closeOne_L39 at hw
  intro p e s m args below meth c hC H locs ls k n hE hl hR hS hk hn
  obtain ⟨hx, hb, hown, hlocks, htab, hml, hr, hB, hA, hnm⟩ := id hC
  have hts := hB.1.1.at args
  refine lv_bipush (v := 21) hx hb (xb_d D_M_closeOne 23 rfl) (by decide) ?_
  obtain ⟨hk1, hw⟩ := hw
  refine xb_call0 (D := D) (A := A) (σ := σ) (h := h) (d := 3) (maxL := 3) (rest := []) (av := [.ref y1, .int y0, .int 21]) (fun T hT X => by obtain ⟨cb9, ra9, rb9, rc9⟩ := xb_recv (ci := 8) hR rfl hk1 (by decide); exact xt_invV X hx hown (hts _ m_3b351fe6) (hts _ m_c9ff1909) (hts _ m_4d34701a) (xt_sigOf (hts _ m_c5aab6b8)) nm_M_need (by rw [hT]; exact ra9) rb9 rc9 (g := F0 m 41 ls [.int 21, .int y0, .ref y1]) rfl (argsL := [.int y0, .int 21]) (rest := []) rfl rfl (by rw [hb]; exact (xb_d D_M_closeOne 24 rfl))) (ok_M_need l hfl D A σ y1 y0 21 h _ hw) (hml.trans hl.1.symm) (by rw [hb]; exact (xb_d D_M_closeOne 24 rfl)) (Nat.le_of_ble_eq_true rfl) (Nat.le_of_ble_eq_true rfl) (Nat.le_of_ble_eq_true rfl) (show k ≤ MC by omega) (show n ≤ MS by omega) (xt_w1 hB.1 m_c5aab6b8) (xt_cdOf hB.1 m_c5aab6b8) (hts _ m_d5ed7bed) hB hR hS hA (fun vv h2 H locs hq hEh2 hR hS => ?_)
  obtain ⟨rfl, hw⟩ := hq
  have hw := hw hEh2
  have hE := hE.tr hEh2
  refine W.eq (g2 := F0 m 44 ls []) rfl ?_
  refine lv_aload_n hx hb (xb_d D_M_closeOne 25 rfl) rfl (lv_at hl 0 rfl) ?_
  refine lv_dup hx hb (xb_d D_M_closeOne 26 rfl) rfl ?_
  obtain ⟨hk4, hw⟩ := hw
  refine xb_getI (C := R_M) (T := F_M) (N := 97) hx hb 8 29 hts fin_M hown hR hk4 (by decide) rfl (by decide) rfl (hts _ m_1024c20b) (fun _ h9 => h9) (xb_d D_M_closeOne 27 rfl) ?_
  refine lv_iconst (v := 1) hx hb (xb_d D_M_closeOne 28 rfl) (by decide) ?_
  refine lv_isub hx hb (xb_d D_M_closeOne 29 rfl) ?_
  refine xb_putI (C := R_M) (T := F_M) (N := 97) (ty := .int) (x := ((xb_i h2 x0 29) - 1)) hx hb 8 29 hts fin_M t_M t_M_ok n_M hown hR hS hk4 (by decide) rfl (by decide) rfl (hts _ m_1024c20b) (fun _ h9 => h9) rfl (by decide +kernel) rfl rfl (xb_d D_M_closeOne 30 rfl) (fun H locs hR hS => ?_)
  obtain ⟨h5, eh5⟩ : ∃ x : xb_H, x = xb_I h2 x0 29 ((xb_i h2 x0 29) - 1) := ⟨_, rfl⟩
  rw [← eh5] at hR
  have hw := hw h5 eh5
  have hE : xb_ext h0 h5 := by rw [eh5]; exact hE
  exact xb_vret 0 0 hx hb hr hlocks (show k + 0 ≤ MC by omega) (show n + 0 ≤ MS by omega) hE hR hS (xb_d D_M_closeOne 31 rfl) hw

set_option maxHeartbeats 4000000 in
set_option maxRecDepth 100000 in
theorem ok_M_closeOne (l : Launch) (hfl : l.flags = pinnedFlags ++ [noTraceFlag]) (D : va_G) (A : Nat → Prop) (σ : Nat) (x0 : Nat) (h : xb_H) (Qr : xb_H → Prop) (hw : w_M_closeOne x0 h Qr) : xb_Met l y_M_closeOne [.code y_M_closeOne b_M_closeOne 1 none] (xb_rm 5 0 0) (xb_Pc D A σ h [.ref x0]) (xb_Qc D A h 0 0 (fun v h _ _ => v = none ∧ Qr h) (fun _ _ _ _ => False)) A := by
  refine xb_ofAm (cc := b_M_closeOne) (by decide) (Nat.le_of_ble_eq_true rfl) ?_
  unfold w_M_closeOne at hw
  show xb_am l D A σ 5 0 0 h (fun v h _ _ => v = none ∧ Qr h) (fun _ _ _ _ => False) y_M_closeOne.cls y_M_closeOne.name b_M_closeOne 1 ([] : List ExceptionTableEntry) none 0 [(0, .ref x0)] [] h 0 0
  obtain ⟨MC, hMC⟩ : ∃ x, x = 0 := ⟨_, rfl⟩
  obtain ⟨MS, hMS⟩ : ∃ x, x = 0 := ⟨_, rfl⟩
  rw [show xb_am l D A σ 5 0 0 = xb_am l D A σ 5 MC MS by rw [hMC, hMS]]
  obtain ⟨h0, hh0⟩ : ∃ x, x = h := ⟨_, rfl⟩
  rw [show xb_am l D A σ 5 MC MS h = xb_am l D A σ 5 MC MS h0 by rw [hh0]]
  intro p e s m args below meth c hC H locs ls k n hE hl hR hS hk hn
  obtain ⟨hx, hb, hown, hlocks, htab, hml, hr, hB, hA, hnm⟩ := id hC
  have hts := hB.1.1.at args
  refine lv_aload_n hx hb (xb_d D_M_closeOne 0 rfl) rfl (lv_at hl 0 rfl) ?_
  refine lv_aload_n hx hb (xb_d D_M_closeOne 1 rfl) rfl (lv_at hl 0 rfl) ?_
  obtain ⟨hk1, hw⟩ := hw
  refine xb_getP (C := R_M) (T := F_M) (N := 97) hx hb 8 26 hts fin_M hown hR hk1 (by decide) rfl (by decide) rfl (hts _ m_b041879a) (fun _ h9 => h9) (xb_d D_M_closeOne 2 rfl) ?_
  obtain ⟨b2, eb2, hw⟩ := hw
  refine xb_some eb2 ?_
  refine lv_aload_n hx hb (xb_d D_M_closeOne 3 rfl) rfl (lv_at hl 0 rfl) ?_
  refine xb_getI (C := R_M) (T := F_M) (N := 97) hx hb 8 29 hts fin_M hown hR hk1 (by decide) rfl (by decide) rfl (hts _ m_1024c20b) (fun _ h9 => h9) (xb_d D_M_closeOne 4 rfl) ?_
  refine lv_iconst (v := 1) hx hb (xb_d D_M_closeOne 5 rfl) (by decide) ?_
  refine lv_isub hx hb (xb_d D_M_closeOne 6 rfl) ?_
  obtain ⟨hk4, hw⟩ := hw
  obtain ⟨hi3, hw⟩ := hw
  refine xb_iald hx hb hR hk4 hi3 (xb_d D_M_closeOne 7 rfl) ?_
  refine xb_call0 (D := D) (A := A) (σ := σ) (h := h) (d := 4) (maxL := 2) (rest := []) (av := [.ref x0, .int (xb_i h b2 (Int32.toNatClampNeg ((xb_i h x0 29) - 1)))]) (fun T hT X => by obtain ⟨cb9, ra9, rb9, rc9⟩ := xb_recv (ci := 8) hR rfl hk1 (by decide); exact xt_invV X hx hown (hts _ m_a3ac02d9) (hts _ m_a1be1a1a) (hts _ m_fd259a5b) (xt_sigOf (hts _ m_f2cfd56a)) nm_M_takeResult (by rw [hT]; exact ra9) rb9 rc9 (g := F0 m 12 ls [.int (xb_i h b2 (Int32.toNatClampNeg ((xb_i h x0 29) - 1))), .ref x0]) rfl (argsL := [.int (xb_i h b2 (Int32.toNatClampNeg ((xb_i h x0 29) - 1)))]) (rest := []) rfl rfl (by rw [hb]; exact (xb_d D_M_closeOne 8 rfl))) (ok_M_takeResult l hfl D A σ x0 (xb_i h b2 (Int32.toNatClampNeg ((xb_i h x0 29) - 1))) h _ hw) (hml.trans hl.1.symm) (by rw [hb]; exact (xb_d D_M_closeOne 8 rfl)) (Nat.le_of_ble_eq_true rfl) (Nat.le_of_ble_eq_true rfl) (Nat.le_of_ble_eq_true rfl) (show k ≤ MC by omega) (show n ≤ MS by omega) (xt_w1 hB.1 m_f2cfd56a) (xt_cdOf hB.1 m_f2cfd56a) (hts _ m_d5ed7bed) hB hR hS hA (fun vv h5 H locs hq hEh5 hR hS => ?_)
  obtain ⟨rfl, hw⟩ := hq
  have hw := hw hEh5
  have hE := hE.tr hEh5
  refine W.eq (g2 := F0 m 15 ls []) rfl ?_
  refine lv_aload_n hx hb (xb_d D_M_closeOne 9 rfl) rfl (lv_at hl 0 rfl) ?_
  refine lv_aload_n hx hb (xb_d D_M_closeOne 10 rfl) rfl (lv_at hl 0 rfl) ?_
  have hk1 : xb_k h5 x0 = 9 := hEh5.k hk1
  refine xb_getI (C := R_M) (T := F_M) (N := 97) hx hb 8 22 hts fin_M hown hR hk1 (by decide) rfl (by decide) rfl (hts _ m_01d0a072) (fun _ h9 => h9) (xb_d D_M_closeOne 11 rfl) ?_
  refine lv_aload_n hx hb (xb_d D_M_closeOne 12 rfl) rfl (lv_at hl 0 rfl) ?_
  refine xb_getP (C := R_M) (T := F_M) (N := 97) hx hb 8 27 hts fin_M hown hR hk1 (by decide) rfl (by decide) rfl (hts _ m_fe4642b7) (fun _ h9 => h9) (xb_d D_M_closeOne 13 rfl) ?_
  obtain ⟨b7, eb7, hw⟩ := hw
  refine xb_some eb7 ?_
  refine lv_aload_n hx hb (xb_d D_M_closeOne 14 rfl) rfl (lv_at hl 0 rfl) ?_
  refine xb_getI (C := R_M) (T := F_M) (N := 97) hx hb 8 29 hts fin_M hown hR hk1 (by decide) rfl (by decide) rfl (hts _ m_1024c20b) (fun _ h9 => h9) (xb_d D_M_closeOne 15 rfl) ?_
  refine lv_iconst (v := 1) hx hb (xb_d D_M_closeOne 16 rfl) (by decide) ?_
  refine lv_isub hx hb (xb_d D_M_closeOne 17 rfl) ?_
  obtain ⟨hk9, hw⟩ := hw
  obtain ⟨hi8, hw⟩ := hw
  refine xb_iald hx hb hR hk9 hi8 (xb_d D_M_closeOne 18 rfl) ?_
  refine lv_icmp_ne (tgt := 38) hx hb (xb_d D_M_closeOne 19 rfl) rfl (fun hc10 => ?_) (fun hc10 => ?_)
  · have hw := hw.1 hc10
    refine lv_iconst (v := 0) hx hb (xb_d D_M_closeOne 22 rfl) (by decide) ?_
    exact am_M_closeOne_L39 l hfl D A σ MC MS h0 Qr x0 0 x0 h5 hw p e s m args below meth c hC H locs ls k n hE (lv_sub hl [0] rfl) hR hS (by omega) (by omega)
  · have hw := hw.2 hc10
    refine lv_iconst (v := 1) hx hb (xb_d D_M_closeOne 20 rfl) (by decide) ?_
    refine lv_goto (tgt := 39) hx hb (xb_d D_M_closeOne 21 rfl) rfl ?_
    exact am_M_closeOne_L39 l hfl D A σ MC MS h0 Qr x0 1 x0 h5 hw p e s m args below meth c hC H locs ls k n hE (lv_sub hl [0] rfl) hR hS (by omega) (by omega)

theorem m_535a6d0d : (.methodLink "StackHostModel" 247 y_M_signed : Cond) ∈ xt_tbl := xt_in (xt_t11 (List.mem_of_getElem? (i := 44) (by decide +kernel))) (by decide +kernel)
theorem m_4743d60a : (.instanceMethod y_M_signed : Cond) ∈ xt_tbl := xt_in (xt_t11 (List.mem_of_getElem? (i := 46) (by decide +kernel))) (by decide +kernel)
theorem m_7572e2cf : (.selects "StackHostModel" y_M_signed y_M_signed : Cond) ∈ xt_tbl := xt_in (xt_v10 (q := (⟨"StackHostModel", "signed", "(I)J"⟩, 97)) (List.mem_of_getElem? (i := 4) (by decide +kernel))) (by decide +kernel)
theorem m_5f545e80 : (.code y_M_signed b_M_signed 9 (some .long) : Cond) ∈ xt_tbl := xt_in (xt_t11 (List.mem_of_getElem? (i := 47) (by decide +kernel))) (by decide +kernel)
theorem nm_M_signed : xt_nm y_M_signed 1 := ⟨by decide +kernel, by decide +kernel⟩
set_option maxRecDepth 100000 in
def T_M_constantOf : List (Nat × Instr × Nat) := [(0, .lconst 0, 1), (1, .lstore_n 2, 1), (2, .iload_n 1, 1), (3, .bipush 66, 2), (5, .if_icmp .gt 24, 3), (8, .aload_n 0, 1), (9, .iload_n 1, 1), (10, .bipush 65, 2), (12, .if_icmp .ne 8, 3), (15, .bipush 32, 2), (17, .goto 5, 3), (20, .bipush 64, 2), (22, .invokevirtual 247, 3), (25, .lstore_n 2, 1), (26, .goto 43, 3), (29, .iconst 0, 1), (30, .istore 4, 2), (32, .iload 4, 2), (34, .iload_n 1, 1), (35, .bipush 67, 2), (37, .if_icmp .ne 7, 3), (40, .iconst 4, 1), (41, .goto 5, 3), (44, .bipush 8, 2), (46, .if_icmp .ge 23, 3), (49, .lload_n 2, 1), (50, .aload_n 0, 1), (51, .invokevirtual 212, 3), (54, .i2l, 1), (55, .bipush 8, 2), (57, .iload 4, 2), (59, .imul, 1), (60, .lshl, 1), (61, .lor, 1), (62, .lstore_n 2, 1), (63, .iinc 4 1, 3), (66, .goto (-34), 3), (69, .aload_n 0, 1), (70, .lload_n 2, 1), (71, .sipush 192, 3), (74, .iload_n 1, 1), (75, .isub, 1), (76, .invokevirtual 628, 3), (79, .return_, 1)]
theorem D_M_constantOf : ∀ q ∈ T_M_constantOf, decode b_M_constantOf q.1 = .ok (q.2.1, q.2.2) := by decide +kernel

set_option maxHeartbeats 4000000 in
set_option maxRecDepth 100000 in
theorem am_M_constantOf_L69 (l : Launch) (hfl : l.flags = pinnedFlags ++ [noTraceFlag]) (D : va_G) (A : Nat → Prop) (σ MC MS : Nat) (h0 : xb_H) (Qr : xb_H → Prop) (x0 : Nat) (x1 : Int32) (x2 : Int64) (h : xb_H) (hw : w_M_constantOf_L69 Qr x0 x1 x2 h) : xb_am l D A σ 5 MC MS h0 (fun v h _ _ => v = none ∧ Qr h) (fun _ _ _ _ => False) y_M_constantOf.cls y_M_constantOf.name b_M_constantOf 5 ([] : List ExceptionTableEntry) none 69 [(0, .ref x0), (1, .int x1), (2, .long x2)] [] h 0 0 := by
  unfold w_M_constantOf_L69 at hw
  intro p e s m args below meth c hC H locs ls k n hE hl hR hS hk hn
  obtain ⟨hx, hb, hown, hlocks, htab, hml, hr, hB, hA, hnm⟩ := id hC
  have hts := hB.1.1.at args
  refine lv_aload_n hx hb (xb_d D_M_constantOf 37 rfl) rfl (lv_at hl 0 rfl) ?_
  refine lv_lload_n hx hb (xb_d D_M_constantOf 38 rfl) rfl (lv_at hl 2 rfl) ?_
  refine lv_sipush (v := 192) hx hb (xb_d D_M_constantOf 39 rfl) (by decide) ?_
  refine lv_iload_n hx hb (xb_d D_M_constantOf 40 rfl) rfl (lv_at hl 1 rfl) ?_
  refine lv_isub hx hb (xb_d D_M_constantOf 41 rfl) ?_
  obtain ⟨hk1, hw⟩ := hw
  refine xb_call0 (D := D) (A := A) (σ := σ) (h := h) (d := 2) (maxL := 4) (rest := []) (av := [.ref x0, .long x2, .int (192 - x1)]) (fun T hT X => by obtain ⟨cb9, ra9, rb9, rc9⟩ := xb_recv (ci := 8) hR rfl hk1 (by decide); exact xt_invV X hx hown (hts _ m_1dd22d11) (hts _ m_e8ae1713) (hts _ m_973b740a) (xt_sigOf (hts _ m_a0d5a63e)) nm_M_add (by rw [hT]; exact ra9) rb9 rc9 (g := F0 m 76 ls [.int (192 - x1), .long x2, .ref x0]) rfl (argsL := [.long x2, .int (192 - x1)]) (rest := []) rfl rfl (by rw [hb]; exact (xb_d D_M_constantOf 42 rfl))) (ok_M_add l hfl D A σ x0 x2 (192 - x1) h _ hw) (hml.trans hl.1.symm) (by rw [hb]; exact (xb_d D_M_constantOf 42 rfl)) (Nat.le_of_ble_eq_true rfl) (Nat.le_of_ble_eq_true rfl) (Nat.le_of_ble_eq_true rfl) (show k ≤ MC by omega) (show n ≤ MS by omega) (xt_w1 hB.1 m_a0d5a63e) (xt_cdOf hB.1 m_a0d5a63e) (hts _ m_d5ed7bed) hB hR hS hA (fun vv h2 H locs hq hEh2 hR hS => ?_)
  obtain ⟨rfl, hw⟩ := hq
  have hw := hw hEh2
  have hE := hE.tr hEh2
  refine W.eq (g2 := F0 m 79 ls []) rfl ?_
  exact xb_vret 0 0 hx hb hr hlocks (show k + 0 ≤ MC by omega) (show n + 0 ≤ MS by omega) hE hR hS (xb_d D_M_constantOf 43 rfl) hw

set_option maxHeartbeats 4000000 in
set_option maxRecDepth 100000 in
theorem am_M_constantOf_L46 (l : Launch) (hfl : l.flags = pinnedFlags ++ [noTraceFlag]) (D : va_G) (A : Nat → Prop) (σ MC MS : Nat) (h0 : xb_H) (Qr : xb_H → Prop) (K32 : Nat → Int32 → Int64 → Int32 → xb_H → Prop) (hK32 : ∀ (x0 : Nat) (x1 : Int32) (x2 : Int64) (x4 : Int32) (h : xb_H), K32 x0 x1 x2 x4 h → xb_am l D A σ 5 MC MS h0 (fun v h _ _ => v = none ∧ Qr h) (fun _ _ _ _ => False) y_M_constantOf.cls y_M_constantOf.name b_M_constantOf 5 ([] : List ExceptionTableEntry) none 32 [(0, .ref x0), (1, .int x1), (2, .long x2), (4, .int x4)] [] h 0 0) (x0 : Nat) (x1 : Int32) (x2 : Int64) (x4 : Int32) (y0 : Int32) (y1 : Int32) (h : xb_H) (hw : w_M_constantOf_L46 K32 Qr x0 x1 x2 x4 y0 y1 h) : xb_am l D A σ 5 MC MS h0 (fun v h _ _ => v = none ∧ Qr h) (fun _ _ _ _ => False) y_M_constantOf.cls y_M_constantOf.name b_M_constantOf 5 ([] : List ExceptionTableEntry) none 46 [(0, .ref x0), (1, .int x1), (2, .long x2), (4, .int x4)] [.int y0, .int y1] h 0 0 := by
  unfold w_M_constantOf_L46 at hw
  intro p e s m args below meth c hC H locs ls k n hE hl hR hS hk hn
  obtain ⟨hx, hb, hown, hlocks, htab, hml, hr, hB, hA, hnm⟩ := id hC
  have hts := hB.1.1.at args
  refine lv_icmp_ge (tgt := 69) hx hb (xb_d D_M_constantOf 24 rfl) rfl (fun hc1 => ?_) (fun hc1 => ?_)
  · have hw := hw.1 hc1
    exact am_M_constantOf_L69 l hfl D A σ MC MS h0 Qr x0 x1 x2 h hw p e s m args below meth c hC H locs ls k n hE (lv_sub hl [0, 1, 2] rfl) hR hS (by omega) (by omega)
  · have hw := hw.2 hc1
    refine lv_lload_n hx hb (xb_d D_M_constantOf 25 rfl) rfl (lv_at hl 2 rfl) ?_
    refine lv_aload_n hx hb (xb_d D_M_constantOf 26 rfl) rfl (lv_at hl 0 rfl) ?_
    obtain ⟨hk2, hw⟩ := hw
    refine xb_call0 (D := D) (A := A) (σ := σ) (h := h) (d := 3) (maxL := 2) (rest := [.long x2]) (av := [.ref x0]) (fun T hT X => by obtain ⟨cb9, ra9, rb9, rc9⟩ := xb_recv (ci := 8) hR rfl hk2 (by decide); exact xt_invV X hx hown (hts _ m_0e978570) (hts _ m_40099f98) (hts _ m_a7dbfd07) (xt_sigOf (hts _ m_0af1ec6a)) nm_M_next (by rw [hT]; exact ra9) rb9 rc9 (g := F0 m 51 ls [.ref x0, .long x2]) rfl (argsL := []) (rest := [.long x2]) rfl rfl (by rw [hb]; exact (xb_d D_M_constantOf 27 rfl))) (ok_M_next l hfl D A σ x0 h _ hw) (hml.trans hl.1.symm) (by rw [hb]; exact (xb_d D_M_constantOf 27 rfl)) (Nat.le_of_ble_eq_true rfl) (Nat.le_of_ble_eq_true rfl) (Nat.le_of_ble_eq_true rfl) (show k ≤ MC by omega) (show n ≤ MS by omega) (xt_w1 hB.1 m_0af1ec6a) (xt_cdOf hB.1 m_0af1ec6a) (hts _ m_d5ed7bed) hB hR hS hA (fun vv h3 H locs hq hEh3 hR hS => ?_)
    obtain ⟨r4, rfl, hw⟩ := hq
    have hw := hw hEh3
    have hE := hE.tr hEh3
    refine W.eq (g2 := F0 m 54 ls [.int r4, .long x2]) rfl ?_
    refine lv_i2l hx hb (xb_d D_M_constantOf 28 rfl) rfl ?_
    refine lv_bipush (v := 8) hx hb (xb_d D_M_constantOf 29 rfl) (by decide) ?_
    refine lv_iload hx hb (xb_d D_M_constantOf 30 rfl) (lv_at hl 3 rfl) ?_
    refine lv_imul hx hb (xb_d D_M_constantOf 31 rfl) ?_
    refine lv_lshl (v := (xb_lshl (Int32.toInt64 r4) (8 * x4))) hx hb (xb_d D_M_constantOf 32 rfl) rfl ?_
    refine lv_lor hx hb (xb_d D_M_constantOf 33 rfl) ?_
    obtain ⟨v5, ev5⟩ : ∃ x : Int64, x = (x2 ||| (xb_lshl (Int32.toInt64 r4) (8 * x4))) := ⟨_, rfl⟩
    have hw := hw v5 ev5
    refine xt_numl (y := v5) ev5.symm ?_
    refine lv_lstore_n hx hb (xb_d D_M_constantOf 34 rfl) rfl hl (by decide) rfl (fun ls hl => ?_)
    have hl : lv_has ls 5 [(2, .long v5), (0, .ref x0), (1, .int x1), (4, .int x4)] := hl
    refine lv_iinc (v := (x4 + 1)) (k := 3) hx hb (xb_d D_M_constantOf 35 rfl) hl rfl (by first | rfl | decide) (by decide) rfl (fun ls hl => ?_)
    have hl : lv_has ls 5 [(4, .int (x4 + 1)), (2, .long v5), (0, .ref x0), (1, .int x1)] := hl
    refine lv_goto (tgt := 32) hx hb (xb_d D_M_constantOf 36 rfl) rfl ?_
    exact hK32 x0 x1 v5 (x4 + 1) h3 hw p e s m args below meth c hC H locs ls k n hE (lv_sub hl [2, 3, 1, 0] rfl) hR hS (by omega) (by omega)

set_option maxHeartbeats 4000000 in
set_option maxRecDepth 100000 in
theorem am_M_constantOf_L32 (l : Launch) (hfl : l.flags = pinnedFlags ++ [noTraceFlag]) (D : va_G) (A : Nat → Prop) (σ MC MS : Nat) (h0 : xb_H) (Qr : xb_H → Prop) (n9 : Nat) : ∀ (x0 : Nat) (x1 : Int32) (x2 : Int64) (x4 : Int32) (h : xb_H), w_M_constantOf_L32 Qr n9 x0 x1 x2 x4 h → xb_am l D A σ 5 MC MS h0 (fun v h _ _ => v = none ∧ Qr h) (fun _ _ _ _ => False) y_M_constantOf.cls y_M_constantOf.name b_M_constantOf 5 ([] : List ExceptionTableEntry) none 32 [(0, .ref x0), (1, .int x1), (2, .long x2), (4, .int x4)] [] h 0 0 := by
  induction n9 with
  | zero => intro x0 x1 x2 x4 h hw; exact False.elim hw
  | succ n9 ih =>
    intro x0 x1 x2 x4 h hw
    unfold w_M_constantOf_L32 at hw
    intro p e s m args below meth c hC H locs ls k n hE hl hR hS hk hn
    obtain ⟨hx, hb, hown, hlocks, htab, hml, hr, hB, hA, hnm⟩ := id hC
    have hts := hB.1.1.at args
    refine lv_iload hx hb (xb_d D_M_constantOf 17 rfl) (lv_at hl 3 rfl) ?_
    refine lv_iload_n hx hb (xb_d D_M_constantOf 18 rfl) rfl (lv_at hl 1 rfl) ?_
    refine lv_bipush (v := 67) hx hb (xb_d D_M_constantOf 19 rfl) (by decide) ?_
    refine lv_icmp_ne (tgt := 44) hx hb (xb_d D_M_constantOf 20 rfl) rfl (fun hc1 => ?_) (fun hc1 => ?_)
    · have hw := hw.1 hc1
      refine lv_bipush (v := 8) hx hb (xb_d D_M_constantOf 23 rfl) (by decide) ?_
      exact am_M_constantOf_L46 l hfl D A σ MC MS h0 Qr (w_M_constantOf_L32 Qr n9) ih x0 x1 x2 x4 8 x4 h hw p e s m args below meth c hC H locs ls k n hE (lv_sub hl [0, 1, 2, 3] rfl) hR hS (by omega) (by omega)
    · have hw := hw.2 hc1
      refine lv_iconst (v := 4) hx hb (xb_d D_M_constantOf 21 rfl) (by decide) ?_
      refine lv_goto (tgt := 46) hx hb (xb_d D_M_constantOf 22 rfl) rfl ?_
      exact am_M_constantOf_L46 l hfl D A σ MC MS h0 Qr (w_M_constantOf_L32 Qr n9) ih x0 x1 x2 x4 4 x4 h hw p e s m args below meth c hC H locs ls k n hE (lv_sub hl [0, 1, 2, 3] rfl) hR hS (by omega) (by omega)

set_option maxHeartbeats 4000000 in
set_option maxRecDepth 100000 in
theorem am_M_constantOf_L22 (l : Launch) (hfl : l.flags = pinnedFlags ++ [noTraceFlag]) (D : va_G) (A : Nat → Prop) (σ MC MS : Nat) (h0 : xb_H) (Qr : xb_H → Prop) (x0 : Nat) (x1 : Int32) (y0 : Int32) (y1 : Nat) (h : xb_H) (hw : w_M_constantOf_L22 Qr x0 x1 y0 y1 h) : xb_am l D A σ 5 MC MS h0 (fun v h _ _ => v = none ∧ Qr h) (fun _ _ _ _ => False) y_M_constantOf.cls y_M_constantOf.name b_M_constantOf 5 ([] : List ExceptionTableEntry) none 22 [(0, .ref x0), (1, .int x1)] [.int y0, .ref y1] h 0 0 := by
  unfold w_M_constantOf_L22 at hw
  intro p e s m args below meth c hC H locs ls k n hE hl hR hS hk hn
  obtain ⟨hx, hb, hown, hlocks, htab, hml, hr, hB, hA, hnm⟩ := id hC
  have hts := hB.1.1.at args
  obtain ⟨hk1, hw⟩ := hw
  refine xb_call0 (D := D) (A := A) (σ := σ) (h := h) (d := 4) (maxL := 9) (rest := []) (av := [.ref y1, .int y0]) (fun T hT X => by obtain ⟨cb9, ra9, rb9, rc9⟩ := xb_recv (ci := 8) hR rfl hk1 (by decide); exact xt_invV X hx hown (hts _ m_535a6d0d) (hts _ m_4743d60a) (hts _ m_7572e2cf) (xt_sigOf (hts _ m_5f545e80)) nm_M_signed (by rw [hT]; exact ra9) rb9 rc9 (g := F0 m 22 ls [.int y0, .ref y1]) rfl (argsL := [.int y0]) (rest := []) rfl rfl (by rw [hb]; exact (xb_d D_M_constantOf 12 rfl))) (ok_M_signed l hfl D A σ y1 y0 h _ hw) (hml.trans hl.1.symm) (by rw [hb]; exact (xb_d D_M_constantOf 12 rfl)) (Nat.le_of_ble_eq_true rfl) (Nat.le_of_ble_eq_true rfl) (Nat.le_of_ble_eq_true rfl) (show k ≤ MC by omega) (show n ≤ MS by omega) (xt_w1 hB.1 m_5f545e80) (xt_cdOf hB.1 m_5f545e80) (hts _ m_d5ed7bed) hB hR hS hA (fun vv h2 H locs hq hEh2 hR hS => ?_)
  obtain ⟨r3, rfl, hw⟩ := hq
  have hw := hw hEh2
  have hE := hE.tr hEh2
  refine W.eq (g2 := F0 m 25 ls [.long r3]) rfl ?_
  refine lv_lstore_n hx hb (xb_d D_M_constantOf 13 rfl) rfl hl (by decide) rfl (fun ls hl => ?_)
  have hl : lv_has ls 5 [(2, .long r3), (0, .ref x0), (1, .int x1)] := hl
  refine lv_goto (tgt := 69) hx hb (xb_d D_M_constantOf 14 rfl) rfl ?_
  exact am_M_constantOf_L69 l hfl D A σ MC MS h0 Qr x0 x1 r3 h2 hw p e s m args below meth c hC H locs ls k n hE (lv_sub hl [1, 2, 0] rfl) hR hS (by omega) (by omega)

set_option maxHeartbeats 4000000 in
set_option maxRecDepth 100000 in
theorem ok_M_constantOf (l : Launch) (hfl : l.flags = pinnedFlags ++ [noTraceFlag]) (D : va_G) (A : Nat → Prop) (σ : Nat) (x0 : Nat) (x1 : Int32) (h : xb_H) (Qr : xb_H → Prop) (hw : w_M_constantOf x0 x1 h Qr) : xb_Met l y_M_constantOf [.code y_M_constantOf b_M_constantOf 5 none] (xb_rm 5 0 0) (xb_Pc D A σ h [.ref x0, .int x1]) (xb_Qc D A h 0 0 (fun v h _ _ => v = none ∧ Qr h) (fun _ _ _ _ => False)) A := by
  refine xb_ofAm (cc := b_M_constantOf) (by decide) (Nat.le_of_ble_eq_true rfl) ?_
  unfold w_M_constantOf at hw
  show xb_am l D A σ 5 0 0 h (fun v h _ _ => v = none ∧ Qr h) (fun _ _ _ _ => False) y_M_constantOf.cls y_M_constantOf.name b_M_constantOf 5 ([] : List ExceptionTableEntry) none 0 [(0, .ref x0), (1, .int x1)] [] h 0 0
  obtain ⟨MC, hMC⟩ : ∃ x, x = 0 := ⟨_, rfl⟩
  obtain ⟨MS, hMS⟩ : ∃ x, x = 0 := ⟨_, rfl⟩
  rw [show xb_am l D A σ 5 0 0 = xb_am l D A σ 5 MC MS by rw [hMC, hMS]]
  obtain ⟨h0, hh0⟩ : ∃ x, x = h := ⟨_, rfl⟩
  rw [show xb_am l D A σ 5 MC MS h = xb_am l D A σ 5 MC MS h0 by rw [hh0]]
  intro p e s m args below meth c hC H locs ls k n hE hl hR hS hk hn
  obtain ⟨hx, hb, hown, hlocks, htab, hml, hr, hB, hA, hnm⟩ := id hC
  have hts := hB.1.1.at args
  refine lv_lconst (v := 0) hx hb (xb_d D_M_constantOf 0 rfl) (by decide) ?_
  refine lv_lstore_n hx hb (xb_d D_M_constantOf 1 rfl) rfl hl (by decide) rfl (fun ls hl => ?_)
  have hl : lv_has ls 5 [(2, .long 0), (0, .ref x0), (1, .int x1)] := hl
  refine lv_iload_n hx hb (xb_d D_M_constantOf 2 rfl) rfl (lv_at hl 2 rfl) ?_
  refine lv_bipush (v := 66) hx hb (xb_d D_M_constantOf 3 rfl) (by decide) ?_
  refine lv_icmp_gt (tgt := 29) hx hb (xb_d D_M_constantOf 4 rfl) rfl (fun hc1 => ?_) (fun hc1 => ?_)
  · have hw := hw.1 hc1
    refine lv_iconst (v := 0) hx hb (xb_d D_M_constantOf 15 rfl) (by decide) ?_
    refine lv_istore hx hb (xb_d D_M_constantOf 16 rfl) hl (by decide) rfl (fun ls hl => ?_)
    have hl : lv_has ls 5 [(4, .int 0), (2, .long 0), (0, .ref x0), (1, .int x1)] := hl
    obtain ⟨n8, hw⟩ := hw
    exact am_M_constantOf_L32 l hfl D A σ MC MS h0 Qr n8 x0 x1 0 0 h hw p e s m args below meth c hC H locs ls k n hE (lv_sub hl [2, 3, 1, 0] rfl) hR hS (by omega) (by omega)
  · have hw := hw.2 hc1
    refine lv_aload_n hx hb (xb_d D_M_constantOf 5 rfl) rfl (lv_at hl 1 rfl) ?_
    refine lv_iload_n hx hb (xb_d D_M_constantOf 6 rfl) rfl (lv_at hl 2 rfl) ?_
    refine lv_bipush (v := 65) hx hb (xb_d D_M_constantOf 7 rfl) (by decide) ?_
    refine lv_icmp_ne (tgt := 20) hx hb (xb_d D_M_constantOf 8 rfl) rfl (fun hc2 => ?_) (fun hc2 => ?_)
    · have hw := hw.1 hc2
      refine lv_bipush (v := 64) hx hb (xb_d D_M_constantOf 11 rfl) (by decide) ?_
      exact am_M_constantOf_L22 l hfl D A σ MC MS h0 Qr x0 x1 64 x0 h hw p e s m args below meth c hC H locs ls k n hE (lv_sub hl [1, 2] rfl) hR hS (by omega) (by omega)
    · have hw := hw.2 hc2
      refine lv_bipush (v := 32) hx hb (xb_d D_M_constantOf 9 rfl) (by decide) ?_
      refine lv_goto (tgt := 22) hx hb (xb_d D_M_constantOf 10 rfl) rfl ?_
      exact am_M_constantOf_L22 l hfl D A σ MC MS h0 Qr x0 x1 32 x0 h hw p e s m args below meth c hC H locs ls k n hE (lv_sub hl [1, 2] rfl) hR hS (by omega) (by omega)

