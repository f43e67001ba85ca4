theorem m_2f4a9320 : (.fieldLink "StackHostModel" 589 "StackHostModel" "passedCount" "I" : Cond) ∈ xt_tbl := xt_in (xt_t9 (List.mem_of_getElem? (i := 231) (by decide +kernel))) (by decide +kernel)
theorem m_df1b4df4 : (.fieldLink "StackHostModel" 583 "StackHostModel" "invoked" "I" : Cond) ∈ xt_tbl := xt_in (xt_t9 (List.mem_of_getElem? (i := 203) (by decide +kernel))) (by decide +kernel)
set_option maxRecDepth 100000 in
def T_M_invoke : List (Nat × Instr × Nat) := [(0, .aload_n 0, 1), (1, .aload_n 0, 1), (2, .iload_n 1, 1), (3, .iload_n 2, 1), (4, .invokevirtual 595, 3), (7, .ifCond .eq 7, 3), (10, .iconst 0, 1), (11, .goto 4, 3), (14, .iconst 1, 1), (15, .putfield 189, 3), (18, .aload_n 0, 1), (19, .getfield 189, 3), (22, .ifCond .le 4, 3), (25, .return_, 1), (26, .aload_n 0, 1), (27, .getfield 62, 3), (30, .iload_n 1, 1), (31, .iaload, 1), (32, .istore_n 3, 1), (33, .aload_n 0, 1), (34, .iload_n 3, 1), (35, .iload_n 2, 1), (36, .invokevirtual 486, 3), (39, .ifCond .ne 7, 3), (42, .iconst 1, 1), (43, .goto 4, 3), (46, .iconst 0, 1), (47, .istore 4, 2), (49, .iload 4, 2), (51, .ifCond .eq 18, 3), (54, .aload_n 0, 1), (55, .iload_n 1, 1), (56, .iconst 0, 1), (57, .aload_n 0, 1), (58, .iload_n 3, 1), (59, .iload_n 2, 1), (60, .invokevirtual 511, 3), (63, .invokevirtual 479, 3), (66, .goto 4, 3), (69, .iconst 0, 1), (70, .istore 5, 2), (72, .aload_n 0, 1), (73, .iload 4, 2), (75, .ifCond .eq 16, 3), (78, .aload_n 0, 1), (79, .iload 5, 2), (81, .invokevirtual 598, 3), (84, .aload_n 0, 1), (85, .getfield 604, 3), (88, .if_icmp .eq 7, 3), (91, .iconst 2, 1), (92, .goto 15, 3), (95, .aload_n 0, 1), (96, .getfield 539, 3), (99, .ifCond .eq 7, 3), (102, .iconst 3, 1), (103, .goto 4, 3), (106, .iconst 0, 1), (107, .putfield 189, 3), (110, .aload_n 0, 1), (111, .getfield 189, 3), (114, .ifCond .le 4, 3), (117, .return_, 1), (118, .iconst 0, 1), (119, .istore 6, 2), (121, .iload 6, 2), (123, .aload_n 0, 1), (124, .getfield 604, 3), (127, .if_icmp .ge 23, 3), (130, .aload_n 0, 1), (131, .getfield 136, 3), (134, .iload 6, 2), (136, .aload_n 0, 1), (137, .getfield 133, 3), (140, .iload 6, 2), (142, .laload, 1), (143, .lastore, 1), (144, .iinc 6 1, 3), (147, .goto (-26), 3), (150, .aload_n 0, 1), (151, .aload_n 0, 1), (152, .getfield 604, 3), (155, .putfield 589, 3), (158, .aload_n 0, 1), (159, .iconst 0, 1), (160, .putfield 604, 3), (163, .aload_n 0, 1), (164, .iload 5, 2), (166, .putfield 583, 3), (169, .aload_n 0, 1), (170, .iconst 1, 1), (171, .putfield 539, 3), (174, .aload_n 0, 1), (175, .iconst 0, 1), (176, .putfield 586, 3), (179, .return_, 1)]
theorem D_M_invoke : ∀ q ∈ T_M_invoke, decode b_M_invoke q.1 = .ok (q.2.1, q.2.2) := by decide +kernel

set_option maxHeartbeats 4000000 in
set_option maxRecDepth 100000 in
theorem am_M_invoke_L121 (l : Launch) (hfl : l.flags = pinnedFlags ++ [noTraceFlag]) (D : va_G) (A : Nat → Prop) (σ MC MS : Nat) (h0 : xb_H) (Qr : xb_H → Prop) (n9 : Nat) : ∀ (x0 : Nat) (x5 : Int32) (x6 : Int32) (h : xb_H), w_M_invoke_L121 Qr n9 x0 x5 x6 h → xb_am l D A σ 10 MC MS h0 (fun v h _ _ => v = none ∧ Qr h) (fun _ _ _ _ => False) y_M_invoke.cls y_M_invoke.name b_M_invoke 7 ([] : List ExceptionTableEntry) none 121 [(0, .ref x0), (5, .int x5), (6, .int x6)] [] h 0 0 := by
  induction n9 with
  | zero => intro x0 x5 x6 h hw; exact False.elim hw
  | succ n9 ih =>
    intro x0 x5 x6 h hw
    unfold w_M_invoke_L121 at hw
    intro p e s m args below meth c hC H locs ls k n hE hl hR hS hk hn
    obtain ⟨hx, hb, hown, hlocks, htab, hml, hr, hB, hA, hnm⟩ := id hC
    have hts := hB.1.1.at args
    refine lv_iload hx hb (xb_d D_M_invoke 65 rfl) (lv_at hl 2 rfl) ?_
    refine lv_aload_n hx hb (xb_d D_M_invoke 66 rfl) rfl (lv_at hl 0 rfl) ?_
    obtain ⟨hk1, hw⟩ := hw
    refine xb_getI (C := R_M) (T := F_M) (N := 97) hx hb 8 66 hts fin_M hown hR hk1 (by decide) rfl (by decide) rfl (hts _ m_d42439d2) (fun _ h9 => h9) (xb_d D_M_invoke 67 rfl) ?_
    refine lv_icmp_ge (tgt := 150) hx hb (xb_d D_M_invoke 68 rfl) rfl (fun hc2 => ?_) (fun hc2 => ?_)
    · have hw := hw.1 hc2
      refine lv_aload_n hx hb (xb_d D_M_invoke 79 rfl) rfl (lv_at hl 0 rfl) ?_
      refine lv_aload_n hx hb (xb_d D_M_invoke 80 rfl) rfl (lv_at hl 0 rfl) ?_
      refine xb_getI (C := R_M) (T := F_M) (N := 97) hx hb 8 66 hts fin_M hown hR hk1 (by decide) rfl (by decide) rfl (hts _ m_d42439d2) (fun _ h9 => h9) (xb_d D_M_invoke 81 rfl) ?_
      refine xb_putI (C := R_M) (T := F_M) (N := 97) (ty := .int) (x := (xb_i h x0 66)) hx hb 8 93 hts fin_M t_M t_M_ok n_M hown hR hS hk1 (by decide) rfl (by decide) rfl (hts _ m_2f4a9320) (fun _ h9 => h9) rfl (by decide +kernel) rfl rfl (xb_d D_M_invoke 82 rfl) (fun H locs hR hS => ?_)
      obtain ⟨h3, eh3⟩ : ∃ x : xb_H, x = xb_I h x0 93 (xb_i h x0 66) := ⟨_, rfl⟩
      rw [← eh3] at hR
      have hw := hw h3 eh3
      have hE : xb_ext h0 h3 := by rw [eh3]; exact hE
      refine lv_aload_n hx hb (xb_d D_M_invoke 83 rfl) rfl (lv_at hl 0 rfl) ?_
      refine lv_iconst (v := 0) hx hb (xb_d D_M_invoke 84 rfl) (by decide) ?_
      have hk1 : xb_k h3 x0 = 9 := by rw [eh3]; exact hk1
      refine xb_putI (C := R_M) (T := F_M) (N := 97) (ty := .int) (x := 0) hx hb 8 66 hts fin_M t_M t_M_ok n_M hown hR hS hk1 (by decide) rfl (by decide) rfl (hts _ m_d42439d2) (fun _ h9 => h9) rfl (by decide +kernel) rfl rfl (xb_d D_M_invoke 85 rfl) (fun H locs hR hS => ?_)
      obtain ⟨h4, eh4⟩ : ∃ x : xb_H, x = xb_I h3 x0 66 0 := ⟨_, rfl⟩
      rw [← eh4] at hR
      have hw := hw h4 eh4
      have hE : xb_ext h0 h4 := by rw [eh4]; exact hE
      refine lv_aload_n hx hb (xb_d D_M_invoke 86 rfl) rfl (lv_at hl 0 rfl) ?_
      refine lv_iload hx hb (xb_d D_M_invoke 87 rfl) (lv_at hl 1 rfl) ?_
      have hk1 : xb_k h4 x0 = 9 := by rw [eh4]; exact hk1
      refine xb_putI (C := R_M) (T := F_M) (N := 97) (ty := .int) (x := x5) hx hb 8 64 hts fin_M t_M t_M_ok n_M hown hR hS hk1 (by decide) rfl (by decide) rfl (hts _ m_df1b4df4) (fun _ h9 => h9) rfl (by decide +kernel) rfl rfl (xb_d D_M_invoke 88 rfl) (fun H locs hR hS => ?_)
      obtain ⟨h5, eh5⟩ : ∃ x : xb_H, x = xb_I h4 x0 64 x5 := ⟨_, rfl⟩
      rw [← eh5] at hR
      have hw := hw h5 eh5
      have hE : xb_ext h0 h5 := by rw [eh5]; exact hE
      refine lv_aload_n hx hb (xb_d D_M_invoke 89 rfl) rfl (lv_at hl 0 rfl) ?_
      refine lv_iconst (v := 1) hx hb (xb_d D_M_invoke 90 rfl) (by decide) ?_
      have hk1 : xb_k h5 x0 = 9 := by rw [eh5]; exact hk1
      refine xb_putI (C := R_M) (T := F_M) (N := 97) (ty := .boolean) (x := 1) hx hb 8 62 hts fin_M t_M t_M_ok n_M hown hR hS hk1 (by decide) rfl (by decide) rfl (hts _ m_71a5ca12) (fun _ h9 => h9) rfl (by decide +kernel) (by decide) (by decide) (xb_d D_M_invoke 91 rfl) (fun H locs hR hS => ?_)
      obtain ⟨h6, eh6⟩ : ∃ x : xb_H, x = xb_I h5 x0 62 1 := ⟨_, rfl⟩
      rw [← eh6] at hR
      have hw := hw h6 eh6
      have hE : xb_ext h0 h6 := by rw [eh6]; exact hE
      refine lv_aload_n hx hb (xb_d D_M_invoke 92 rfl) rfl (lv_at hl 0 rfl) ?_
      refine lv_iconst (v := 0) hx hb (xb_d D_M_invoke 93 rfl) (by decide) ?_
      have hk1 : xb_k h6 x0 = 9 := by rw [eh6]; exact hk1
      refine xb_putI (C := R_M) (T := F_M) (N := 97) (ty := .boolean) (x := 0) hx hb 8 63 hts fin_M t_M t_M_ok n_M hown hR hS hk1 (by decide) rfl (by decide) rfl (hts _ m_f4296656) (fun _ h9 => h9) rfl (by decide +kernel) (by decide) (by decide) (xb_d D_M_invoke 94 rfl) (fun H locs hR hS => ?_)
      obtain ⟨h7, eh7⟩ : ∃ x : xb_H, x = xb_I h6 x0 63 0 := ⟨_, rfl⟩
      rw [← eh7] at hR
      have hw := hw h7 eh7
      have hE : xb_ext h0 h7 := by rw [eh7]; exact hE
      exact xb_vret 0 0 hx hb hr hlocks (show k + 0 ≤ MC by omega) (show n + 0 ≤ MS by omega) hE hR hS (xb_d D_M_invoke 95 rfl) hw
    · have hw := hw.2 hc2
      refine lv_aload_n hx hb (xb_d D_M_invoke 69 rfl) rfl (lv_at hl 0 rfl) ?_
      refine xb_getP (C := R_M) (T := F_M) (N := 97) hx hb 8 67 hts fin_M hown hR hk1 (by decide) rfl (by decide) rfl (hts _ m_8147510a) (fun _ h9 => h9) (xb_d D_M_invoke 70 rfl) ?_
      obtain ⟨b8, eb8, hw⟩ := hw
      refine xb_some eb8 ?_
      refine lv_iload hx hb (xb_d D_M_invoke 71 rfl) (lv_at hl 2 rfl) ?_
      refine lv_aload_n hx hb (xb_d D_M_invoke 72 rfl) rfl (lv_at hl 0 rfl) ?_
      refine xb_getP (C := R_M) (T := F_M) (N := 97) hx hb 8 65 hts fin_M hown hR hk1 (by decide) rfl (by decide) rfl (hts _ m_37875847) (fun _ h9 => h9) (xb_d D_M_invoke 73 rfl) ?_
      obtain ⟨b9, eb9, hw⟩ := hw
      refine xb_some eb9 ?_
      refine lv_iload hx hb (xb_d D_M_invoke 74 rfl) (lv_at hl 2 rfl) ?_
      obtain ⟨hk11, hw⟩ := hw
      obtain ⟨hi10, hw⟩ := hw
      refine xb_lald hx hb hR hk11 hi10 (xb_d D_M_invoke 75 rfl) ?_
      obtain ⟨hk12, hw⟩ := hw
      obtain ⟨hi13, hw⟩ := hw
      refine xb_last hx hb hR hS hk12 hi13 (xb_d D_M_invoke 76 rfl) (fun H locs hR hS => ?_)
      obtain ⟨h14, eh14⟩ : ∃ x : xb_H, x = xb_L h b8 (Int32.toNatClampNeg x6) (xb_l h b9 (Int32.toNatClampNeg x6)) := ⟨_, rfl⟩
      rw [← eh14] at hR
      have hw := hw h14 eh14
      have hE : xb_ext h0 h14 := by rw [eh14]; exact hE
      refine lv_iinc (v := (x6 + 1)) (k := 2) hx hb (xb_d D_M_invoke 77 rfl) hl rfl (by first | rfl | decide) (by decide) rfl (fun ls hl => ?_)
      have hl : lv_has ls 7 [(6, .int (x6 + 1)), (0, .ref x0), (5, .int x5)] := hl
      refine lv_goto (tgt := 121) hx hb (xb_d D_M_invoke 78 rfl) rfl ?_
      exact ih x0 x5 (x6 + 1) h14 hw p e s m args below meth c hC H locs ls k n hE (lv_sub hl [1, 2, 0] rfl) hR hS (by omega) (by omega)

set_option maxHeartbeats 4000000 in
set_option maxRecDepth 100000 in
theorem am_M_invoke_L107 (l : Launch) (hfl : l.flags = pinnedFlags ++ [noTraceFlag]) (D : va_G) (A : Nat → Prop) (σ MC MS : Nat) (h0 : xb_H) (Qr : xb_H → Prop) (x0 : Nat) (x5 : Int32) (y0 : Int32) (y1 : Nat) (h : xb_H) (hw : w_M_invoke_L107 Qr x0 x5 y0 y1 h) : xb_am l D A σ 10 MC MS h0 (fun v h _ _ => v = none ∧ Qr h) (fun _ _ _ _ => False) y_M_invoke.cls y_M_invoke.name b_M_invoke 7 ([] : List ExceptionTableEntry) none 107 [(0, .ref x0), (5, .int x5)] [.int y0, .ref y1] h 0 0 := by
  unfold w_M_invoke_L107 at hw
  intro p e s m args below meth c hC H locs ls k n hE hl hR hS hk hn
  obtain ⟨hx, hb, hown, hlocks, htab, hml, hr, hB, hA, hnm⟩ := id hC
  have hts := hB.1.1.at args
  obtain ⟨hk1, hw⟩ := hw
  refine xb_putI (C := R_M) (T := F_M) (N := 97) (ty := .int) (x := y0) hx hb 8 0 hts fin_M t_M t_M_ok n_M hown hR hS hk1 (by decide) rfl (by decide) rfl (hts _ m_afabd6a0) (fun _ h9 => h9) rfl (by decide +kernel) rfl rfl (xb_d D_M_invoke 58 rfl) (fun H locs hR hS => ?_)
  obtain ⟨h2, eh2⟩ : ∃ x : xb_H, x = xb_I h y1 0 y0 := ⟨_, rfl⟩
  rw [← eh2] at hR
  have hw := hw h2 eh2
  have hE : xb_ext h0 h2 := by rw [eh2]; exact hE
  refine lv_aload_n hx hb (xb_d D_M_invoke 59 rfl) rfl (lv_at hl 0 rfl) ?_
  obtain ⟨hk3, hw⟩ := hw
  refine xb_getI (C := R_M) (T := F_M) (N := 97) hx hb 8 0 hts fin_M hown hR hk3 (by decide) rfl (by decide) rfl (hts _ m_afabd6a0) (fun _ h9 => h9) (xb_d D_M_invoke 60 rfl) ?_
  refine lv_if_le (tgt := 118) hx hb (xb_d D_M_invoke 61 rfl) rfl (fun hc4 => ?_) (fun hc4 => ?_)
  · have hw := hw.1 hc4
    refine lv_iconst (v := 0) hx hb (xb_d D_M_invoke 63 rfl) (by decide) ?_
    refine lv_istore hx hb (xb_d D_M_invoke 64 rfl) hl (by decide) rfl (fun ls hl => ?_)
    have hl : lv_has ls 7 [(6, .int 0), (0, .ref x0), (5, .int x5)] := hl
    obtain ⟨n8, hw⟩ := hw
    exact am_M_invoke_L121 l hfl D A σ MC MS h0 Qr n8 x0 x5 0 h2 hw p e s m args below meth c hC H locs ls k n hE (lv_sub hl [1, 2, 0] rfl) hR hS (by omega) (by omega)
  · have hw := hw.2 hc4
    exact xb_vret 0 0 hx hb hr hlocks (show k + 0 ≤ MC by omega) (show n + 0 ≤ MS by omega) hE hR hS (xb_d D_M_invoke 62 rfl) hw

set_option maxHeartbeats 4000000 in
set_option maxRecDepth 100000 in
theorem am_M_invoke_L91 (l : Launch) (hfl : l.flags = pinnedFlags ++ [noTraceFlag]) (D : va_G) (A : Nat → Prop) (σ MC MS : Nat) (h0 : xb_H) (Qr : xb_H → Prop) (x0 : Nat) (x5 : Int32) (y0 : Nat) (h : xb_H) (hw : w_M_invoke_L91 Qr x0 x5 y0 h) : xb_am l D A σ 10 MC MS h0 (fun v h _ _ => v = none ∧ Qr h) (fun _ _ _ _ => False) y_M_invoke.cls y_M_invoke.name b_M_invoke 7 ([] : List ExceptionTableEntry) none 91 [(0, .ref x0), (5, .int x5)] [.ref y0] h 0 0 := by
  unfold w_M_invoke_L91 at hw
  intro p e s m args below meth c hC H locs ls k n hE hl hR hS hk hn
  obtain ⟨hx, hb, hown, hlocks, htab, hml, hr, hB, hA, hnm⟩ := id hC
  have hts := hB.1.1.at args
  refine lv_iconst (v := 2) hx hb (xb_d D_M_invoke 50 rfl) (by decide) ?_
  refine lv_goto (tgt := 107) hx hb (xb_d D_M_invoke 51 rfl) rfl ?_
  exact am_M_invoke_L107 l hfl D A σ MC MS h0 Qr x0 x5 2 y0 h hw p e s m args below meth c hC H locs ls k n hE (lv_sub hl [0, 1] rfl) hR hS (by omega) (by omega)

set_option maxHeartbeats 4000000 in
set_option maxRecDepth 100000 in
theorem am_M_invoke_L70 (l : Launch) (hfl : l.flags = pinnedFlags ++ [noTraceFlag]) (D : va_G) (A : Nat → Prop) (σ MC MS : Nat) (h0 : xb_H) (Qr : xb_H → Prop) (x0 : Nat) (x4 : Int32) (y0 : Int32) (h : xb_H) (hw : w_M_invoke_L70 Qr x0 x4 y0 h) : xb_am l D A σ 10 MC MS h0 (fun v h _ _ => v = none ∧ Qr h) (fun _ _ _ _ => False) y_M_invoke.cls y_M_invoke.name b_M_invoke 7 ([] : List ExceptionTableEntry) none 70 [(0, .ref x0), (4, .int x4)] [.int y0] h 0 0 := by
  unfold w_M_invoke_L70 at hw
  intro p e s m args below meth c hC H locs ls k n hE hl hR hS hk hn
  obtain ⟨hx, hb, hown, hlocks, htab, hml, hr, hB, hA, hnm⟩ := id hC
  have hts := hB.1.1.at args
  refine lv_istore hx hb (xb_d D_M_invoke 40 rfl) hl (by decide) rfl (fun ls hl => ?_)
  have hl : lv_has ls 7 [(5, .int y0), (0, .ref x0), (4, .int x4)] := hl
  refine lv_aload_n hx hb (xb_d D_M_invoke 41 rfl) rfl (lv_at hl 1 rfl) ?_
  refine lv_iload hx hb (xb_d D_M_invoke 42 rfl) (lv_at hl 2 rfl) ?_
  refine lv_if_eq (tgt := 91) hx hb (xb_d D_M_invoke 43 rfl) rfl (fun hc1 => ?_) (fun hc1 => ?_)
  · have hw := hw.1 hc1
    exact am_M_invoke_L91 l hfl D A σ MC MS h0 Qr x0 y0 x0 h hw p e s m args below meth c hC H locs ls k n hE (lv_sub hl [1, 0] rfl) hR hS (by omega) (by omega)
  · have hw := hw.2 hc1
    refine lv_aload_n hx hb (xb_d D_M_invoke 44 rfl) rfl (lv_at hl 1 rfl) ?_
    refine lv_iload hx hb (xb_d D_M_invoke 45 rfl) (lv_at hl 0 rfl) ?_
    obtain ⟨hk2, hw⟩ := hw
    refine xb_call0 (D := D) (A := A) (σ := σ) (h := h) (d := 9) (maxL := 3) (rest := [.ref x0]) (av := [.ref x0, .int y0]) (fun T hT X => by obtain ⟨cb9, ra9, rb9, rc9⟩ := xb_recv (ci := 8) hR rfl hk2 (by decide); exact xt_invV X hx hown (hts _ m_e2ba22cc) (hts _ m_0a57baa5) (hts _ m_6f48d886) (xt_sigOf (hts _ m_14db4a29)) nm_M_parametersOf (by rw [hT]; exact ra9) rb9 rc9 (g := F0 m 81 ls [.int y0, .ref x0, .ref x0]) rfl (argsL := [.int y0]) (rest := [.ref x0]) rfl rfl (by rw [hb]; exact (xb_d D_M_invoke 46 rfl))) (ok_M_parametersOf l hfl D A σ x0 y0 h _ hw) (hml.trans hl.1.symm) (by rw [hb]; exact (xb_d D_M_invoke 46 rfl)) (Nat.le_of_ble_eq_true rfl) (Nat.le_of_ble_eq_true rfl) (Nat.le_of_ble_eq_true rfl) (show k ≤ MC by omega) (show n ≤ MS by omega) (xt_w1 hB.1 m_14db4a29) (xt_cdOf hB.1 m_14db4a29) (hts _ m_d5ed7bed) hB hR hS hA (fun vv h3 H locs hq hEh3 hR hS => ?_)
    obtain ⟨r4, rfl, hw⟩ := hq
    have hw := hw hEh3
    have hE := hE.tr hEh3
    refine W.eq (g2 := F0 m 84 ls [.int r4, .ref x0]) rfl ?_
    refine lv_aload_n hx hb (xb_d D_M_invoke 47 rfl) rfl (lv_at hl 1 rfl) ?_
    have hk2 : xb_k h3 x0 = 9 := hEh3.k hk2
    refine xb_getI (C := R_M) (T := F_M) (N := 97) hx hb 8 66 hts fin_M hown hR hk2 (by decide) rfl (by decide) rfl (hts _ m_d42439d2) (fun _ h9 => h9) (xb_d D_M_invoke 48 rfl) ?_
    refine lv_icmp_eq (tgt := 95) hx hb (xb_d D_M_invoke 49 rfl) rfl (fun hc5 => ?_) (fun hc5 => ?_)
    · have hw := hw.1 hc5
      refine lv_aload_n hx hb (xb_d D_M_invoke 52 rfl) rfl (lv_at hl 1 rfl) ?_
      refine xb_getI (C := R_M) (T := F_M) (N := 97) hx hb 8 62 hts fin_M hown hR hk2 (by decide) rfl (by decide) rfl (hts _ m_71a5ca12) (fun _ h9 => h9) (xb_d D_M_invoke 53 rfl) ?_
      refine lv_if_eq (tgt := 106) hx hb (xb_d D_M_invoke 54 rfl) rfl (fun hc6 => ?_) (fun hc6 => ?_)
      · have hw := hw.1 hc6
        refine lv_iconst (v := 0) hx hb (xb_d D_M_invoke 57 rfl) (by decide) ?_
        exact am_M_invoke_L107 l hfl D A σ MC MS h0 Qr x0 y0 0 x0 h3 hw p e s m args below meth c hC H locs ls k n hE (lv_sub hl [1, 0] rfl) hR hS (by omega) (by omega)
      · have hw := hw.2 hc6
        refine lv_iconst (v := 3) hx hb (xb_d D_M_invoke 55 rfl) (by decide) ?_
        refine lv_goto (tgt := 107) hx hb (xb_d D_M_invoke 56 rfl) rfl ?_
        exact am_M_invoke_L107 l hfl D A σ MC MS h0 Qr x0 y0 3 x0 h3 hw p e s m args below meth c hC H locs ls k n hE (lv_sub hl [1, 0] rfl) hR hS (by omega) (by omega)
    · have hw := hw.2 hc5
      exact am_M_invoke_L91 l hfl D A σ MC MS h0 Qr x0 y0 x0 h3 hw p e s m args below meth c hC H locs ls k n hE (lv_sub hl [1, 0] rfl) hR hS (by omega) (by omega)

set_option maxHeartbeats 4000000 in
set_option maxRecDepth 100000 in
theorem am_M_invoke_L47 (l : Launch) (hfl : l.flags = pinnedFlags ++ [noTraceFlag]) (D : va_G) (A : Nat → Prop) (σ MC MS : Nat) (h0 : xb_H) (Qr : xb_H → Prop) (x0 : Nat) (x1 : Int32) (x2 : Int32) (x3 : Int32) (y0 : Int32) (h : xb_H) (hw : w_M_invoke_L47 Qr x0 x1 x2 x3 y0 h) : xb_am l D A σ 10 MC MS h0 (fun v h _ _ => v = none ∧ Qr h) (fun _ _ _ _ => False) y_M_invoke.cls y_M_invoke.name b_M_invoke 7 ([] : List ExceptionTableEntry) none 47 [(0, .ref x0), (1, .int x1), (2, .int x2), (3, .int x3)] [.int y0] h 0 0 := by
  unfold w_M_invoke_L47 at hw
  intro p e s m args below meth c hC H locs ls k n hE hl hR hS hk hn
  obtain ⟨hx, hb, hown, hlocks, htab, hml, hr, hB, hA, hnm⟩ := id hC
  have hts := hB.1.1.at args
  refine lv_istore hx hb (xb_d D_M_invoke 27 rfl) hl (by decide) rfl (fun ls hl => ?_)
  have hl : lv_has ls 7 [(4, .int y0), (0, .ref x0), (1, .int x1), (2, .int x2), (3, .int x3)] := hl
  refine lv_iload hx hb (xb_d D_M_invoke 28 rfl) (lv_at hl 0 rfl) ?_
  refine lv_if_eq (tgt := 69) hx hb (xb_d D_M_invoke 29 rfl) rfl (fun hc1 => ?_) (fun hc1 => ?_)
  · have hw := hw.1 hc1
    refine lv_iconst (v := 0) hx hb (xb_d D_M_invoke 39 rfl) (by decide) ?_
    exact am_M_invoke_L70 l hfl D A σ MC MS h0 Qr x0 y0 0 h hw p e s m args below meth c hC H locs ls k n hE (lv_sub hl [1, 0] rfl) hR hS (by omega) (by omega)
  · have hw := hw.2 hc1
    refine lv_aload_n hx hb (xb_d D_M_invoke 30 rfl) rfl (lv_at hl 1 rfl) ?_
    refine lv_iload_n hx hb (xb_d D_M_invoke 31 rfl) rfl (lv_at hl 2 rfl) ?_
    refine lv_iconst (v := 0) hx hb (xb_d D_M_invoke 32 rfl) (by decide) ?_
    refine lv_aload_n hx hb (xb_d D_M_invoke 33 rfl) rfl (lv_at hl 1 rfl) ?_
    refine lv_iload_n hx hb (xb_d D_M_invoke 34 rfl) rfl (lv_at hl 4 rfl) ?_
    refine lv_iload_n hx hb (xb_d D_M_invoke 35 rfl) rfl (lv_at hl 3 rfl) ?_
    obtain ⟨hk2, hw⟩ := hw
    refine xb_call0 (D := D) (A := A) (σ := σ) (h := h) (d := 7) (maxL := 3) (rest := [.int 0, .int x1, .ref x0]) (av := [.ref x0, .int x3, .int x2]) (fun T hT X => by obtain ⟨cb9, ra9, rb9, rc9⟩ := xb_recv (ci := 8) hR rfl hk2 (by decide); exact xt_invV X hx hown (hts _ m_ffdcfbf2) (hts _ m_0d2cbdfc) (hts _ m_92840f1d) (xt_sigOf (hts _ m_9f02a356)) nm_M_exportNumber (by rw [hT]; exact ra9) rb9 rc9 (g := F0 m 60 ls [.int x2, .int x3, .ref x0, .int 0, .int x1, .ref x0]) rfl (argsL := [.int x3, .int x2]) (rest := [.int 0, .int x1, .ref x0]) rfl rfl (by rw [hb]; exact (xb_d D_M_invoke 36 rfl))) (ok_M_exportNumber l hfl D A σ x0 x3 x2 h _ hw) (hml.trans hl.1.symm) (by rw [hb]; exact (xb_d D_M_invoke 36 rfl)) (Nat.le_of_ble_eq_true rfl) (Nat.le_of_ble_eq_true rfl) (Nat.le_of_ble_eq_true rfl) (show k ≤ MC by omega) (show n ≤ MS by omega) (xt_w1 hB.1 m_9f02a356) (xt_cdOf hB.1 m_9f02a356) (hts _ m_d5ed7bed) hB hR hS hA (fun vv h3 H locs hq hEh3 hR hS => ?_)
    obtain ⟨r4, rfl, hw⟩ := hq
    have hw := hw hEh3
    have hE := hE.tr hEh3
    refine W.eq (g2 := F0 m 63 ls [.int r4, .int 0, .int x1, .ref x0]) rfl ?_
    have hk2 : xb_k h3 x0 = 9 := hEh3.k hk2
    refine xb_call0 (D := D) (A := A) (σ := σ) (h := h3) (d := 8) (maxL := 6) (rest := []) (av := [.ref x0, .int x1, .int 0, .int r4]) (fun T hT X => by obtain ⟨cb9, ra9, rb9, rc9⟩ := xb_recv (ci := 8) hR rfl hk2 (by decide); exact xt_invV X hx hown (hts _ m_5ec466f2) (hts _ m_f0f1d102) (hts _ m_cfa25922) (xt_sigOf (hts _ m_59347bba)) nm_M_meant (by rw [hT]; exact ra9) rb9 rc9 (g := F0 m 63 ls [.int r4, .int 0, .int x1, .ref x0]) rfl (argsL := [.int x1, .int 0, .int r4]) (rest := []) rfl rfl (by rw [hb]; exact (xb_d D_M_invoke 37 rfl))) (ok_M_meant l hfl D A σ x0 x1 0 r4 h3 _ hw) (hml.trans hl.1.symm) (by rw [hb]; exact (xb_d D_M_invoke 37 rfl)) (Nat.le_of_ble_eq_true rfl) (Nat.le_of_ble_eq_true rfl) (Nat.le_of_ble_eq_true rfl) (show k ≤ MC by omega) (show n ≤ MS by omega) (xt_w1 hB.1 m_59347bba) (xt_cdOf hB.1 m_59347bba) (hts _ m_d5ed7bed) hB hR hS hA (fun vv h5 H locs hq hEh5 hR hS => ?_)
    obtain ⟨r6, rfl, hw⟩ := hq
    have hw := hw hEh5
    have hE := hE.tr hEh5
    refine W.eq (g2 := F0 m 66 ls [.int r6]) rfl ?_
    refine lv_goto (tgt := 70) hx hb (xb_d D_M_invoke 38 rfl) rfl ?_
    exact am_M_invoke_L70 l hfl D A σ MC MS h0 Qr x0 y0 r6 h5 hw p e s m args below meth c hC H locs ls k n hE (lv_sub hl [1, 0] rfl) hR hS (by omega) (by omega)

set_option maxHeartbeats 4000000 in
set_option maxRecDepth 100000 in
theorem am_M_invoke_L15 (l : Launch) (hfl : l.flags = pinnedFlags ++ [noTraceFlag]) (D : va_G) (A : Nat → Prop) (σ MC MS : Nat) (h0 : xb_H) (Qr : xb_H → Prop) (x0 : Nat) (x1 : Int32) (x2 : Int32) (y0 : Int32) (y1 : Nat) (h : xb_H) (hw : w_M_invoke_L15 Qr x0 x1 x2 y0 y1 h) : xb_am l D A σ 10 MC MS h0 (fun v h _ _ => v = none ∧ Qr h) (fun _ _ _ _ => False) y_M_invoke.cls y_M_invoke.name b_M_invoke 7 ([] : List ExceptionTableEntry) none 15 [(0, .ref x0), (1, .int x1), (2, .int x2)] [.int y0, .ref y1] h 0 0 := by
  unfold w_M_invoke_L15 at hw
  intro p e s m args below meth c hC H locs ls k n hE hl hR hS hk hn
  obtain ⟨hx, hb, hown, hlocks, htab, hml, hr, hB, hA, hnm⟩ := id hC
  have hts := hB.1.1.at args
  obtain ⟨hk1, hw⟩ := hw
  refine xb_putI (C := R_M) (T := F_M) (N := 97) (ty := .int) (x := y0) hx hb 8 0 hts fin_M t_M t_M_ok n_M hown hR hS hk1 (by decide) rfl (by decide) rfl (hts _ m_afabd6a0) (fun _ h9 => h9) rfl (by decide +kernel) rfl rfl (xb_d D_M_invoke 9 rfl) (fun H locs hR hS => ?_)
  obtain ⟨h2, eh2⟩ : ∃ x : xb_H, x = xb_I h y1 0 y0 := ⟨_, rfl⟩
  rw [← eh2] at hR
  have hw := hw h2 eh2
  have hE : xb_ext h0 h2 := by rw [eh2]; exact hE
  refine lv_aload_n hx hb (xb_d D_M_invoke 10 rfl) rfl (lv_at hl 0 rfl) ?_
  obtain ⟨hk3, hw⟩ := hw
  refine xb_getI (C := R_M) (T := F_M) (N := 97) hx hb 8 0 hts fin_M hown hR hk3 (by decide) rfl (by decide) rfl (hts _ m_afabd6a0) (fun _ h9 => h9) (xb_d D_M_invoke 11 rfl) ?_
  refine lv_if_le (tgt := 26) hx hb (xb_d D_M_invoke 12 rfl) rfl (fun hc4 => ?_) (fun hc4 => ?_)
  · have hw := hw.1 hc4
    refine lv_aload_n hx hb (xb_d D_M_invoke 14 rfl) rfl (lv_at hl 0 rfl) ?_
    refine xb_getP (C := R_M) (T := F_M) (N := 97) hx hb 8 31 hts fin_M hown hR hk3 (by decide) rfl (by decide) rfl (hts _ m_691d5f47) (fun _ h9 => h9) (xb_d D_M_invoke 15 rfl) ?_
    obtain ⟨b5, eb5, hw⟩ := hw
    refine xb_some eb5 ?_
    refine lv_iload_n hx hb (xb_d D_M_invoke 16 rfl) rfl (lv_at hl 1 rfl) ?_
    obtain ⟨hk7, hw⟩ := hw
    obtain ⟨hi6, hw⟩ := hw
    refine xb_iald hx hb hR hk7 hi6 (xb_d D_M_invoke 17 rfl) ?_
    obtain ⟨v8, ev8⟩ : ∃ x : Int32, x = (xb_i h2 b5 (Int32.toNatClampNeg x1)) := ⟨_, rfl⟩
    have hw := hw v8 ev8
    refine xt_numi (y := v8) ev8.symm ?_
    refine lv_istore_n hx hb (xb_d D_M_invoke 18 rfl) rfl hl (by decide) rfl (fun ls hl => ?_)
    have hl : lv_has ls 7 [(3, .int v8), (0, .ref x0), (1, .int x1), (2, .int x2)] := hl
    refine lv_aload_n hx hb (xb_d D_M_invoke 19 rfl) rfl (lv_at hl 1 rfl) ?_
    refine lv_iload_n hx hb (xb_d D_M_invoke 20 rfl) rfl (lv_at hl 0 rfl) ?_
    refine lv_iload_n hx hb (xb_d D_M_invoke 21 rfl) rfl (lv_at hl 3 rfl) ?_
    refine xb_call0 (D := D) (A := A) (σ := σ) (h := h2) (d := 6) (maxL := 3) (rest := []) (av := [.ref x0, .int v8, .int x2]) (fun T hT X => by obtain ⟨cb9, ra9, rb9, rc9⟩ := xb_recv (ci := 8) hR rfl hk3 (by decide); exact xt_invV X hx hown (hts _ m_c71d5853) (hts _ m_3fd4c934) (hts _ m_0b430860) (xt_sigOf (hts _ m_c14fc813)) nm_M_exportKind (by rw [hT]; exact ra9) rb9 rc9 (g := F0 m 36 ls [.int x2, .int v8, .ref x0]) rfl (argsL := [.int v8, .int x2]) (rest := []) rfl rfl (by rw [hb]; exact (xb_d D_M_invoke 22 rfl))) (ok_M_exportKind l hfl D A σ x0 v8 x2 h2 _ hw) (hml.trans hl.1.symm) (by rw [hb]; exact (xb_d D_M_invoke 22 rfl)) (Nat.le_of_ble_eq_true rfl) (Nat.le_of_ble_eq_true rfl) (Nat.le_of_ble_eq_true rfl) (show k ≤ MC by omega) (show n ≤ MS by omega) (xt_w1 hB.1 m_c14fc813) (xt_cdOf hB.1 m_c14fc813) (hts _ m_d5ed7bed) hB hR hS hA (fun vv h9 H locs hq hEh9 hR hS => ?_)
    obtain ⟨r10, rfl, hw⟩ := hq
    have hw := hw hEh9
    have hE := hE.tr hEh9
    refine W.eq (g2 := F0 m 39 ls [.int r10]) rfl ?_
    refine lv_if_ne (tgt := 46) hx hb (xb_d D_M_invoke 23 rfl) rfl (fun hc11 => ?_) (fun hc11 => ?_)
    · have hw := hw.1 hc11
      refine lv_iconst (v := 0) hx hb (xb_d D_M_invoke 26 rfl) (by decide) ?_
      exact am_M_invoke_L47 l hfl D A σ MC MS h0 Qr x0 x1 x2 v8 0 h9 hw p e s m args below meth c hC H locs ls k n hE (lv_sub hl [1, 2, 3, 0] rfl) hR hS (by omega) (by omega)
    · have hw := hw.2 hc11
      refine lv_iconst (v := 1) hx hb (xb_d D_M_invoke 24 rfl) (by decide) ?_
      refine lv_goto (tgt := 47) hx hb (xb_d D_M_invoke 25 rfl) rfl ?_
      exact am_M_invoke_L47 l hfl D A σ MC MS h0 Qr x0 x1 x2 v8 1 h9 hw p e s m args below meth c hC H locs ls k n hE (lv_sub hl [1, 2, 3, 0] rfl) hR hS (by omega) (by omega)
  · have hw := hw.2 hc4
    exact xb_vret 0 0 hx hb hr hlocks (show k + 0 ≤ MC by omega) (show n + 0 ≤ MS by omega) hE hR hS (xb_d D_M_invoke 13 rfl) hw

set_option maxHeartbeats 4000000 in
set_option maxRecDepth 100000 in
theorem ok_M_invoke (l : Launch) (hfl : l.flags = pinnedFlags ++ [noTraceFlag]) (D : va_G) (A : Nat → Prop) (σ : Nat) (x0 : Nat) (x1 : Int32) (x2 : Int32) (h : xb_H) (Qr : xb_H → Prop) (hw : w_M_invoke x0 x1 x2 h Qr) : xb_Met l y_M_invoke [.code y_M_invoke b_M_invoke 7 none] (xb_rm 10 0 0) (xb_Pc D A σ h [.ref x0, .int x1, .int x2]) (xb_Qc D A h 0 0 (fun v h _ _ => v = none ∧ Qr h) (fun _ _ _ _ => False)) A := by
  refine xb_ofAm (cc := b_M_invoke) (by decide) (Nat.le_of_ble_eq_true rfl) ?_
  unfold w_M_invoke at hw
  show xb_am l D A σ 10 0 0 h (fun v h _ _ => v = none ∧ Qr h) (fun _ _ _ _ => False) y_M_invoke.cls y_M_invoke.name b_M_invoke 7 ([] : List ExceptionTableEntry) none 0 [(0, .ref x0), (1, .int x1), (2, .int x2)] [] h 0 0
  obtain ⟨MC, hMC⟩ : ∃ x, x = 0 := ⟨_, rfl⟩
  obtain ⟨MS, hMS⟩ : ∃ x, x = 0 := ⟨_, rfl⟩
  rw [show xb_am l D A σ 10 0 0 = xb_am l D A σ 10 MC MS by rw [hMC, hMS]]
  obtain ⟨h0, hh0⟩ : ∃ x, x = h := ⟨_, rfl⟩
  rw [show xb_am l D A σ 10 MC MS h = xb_am l D A σ 10 MC MS h0 by rw [hh0]]
  intro p e s m args below meth c hC H locs ls k n hE hl hR hS hk hn
  obtain ⟨hx, hb, hown, hlocks, htab, hml, hr, hB, hA, hnm⟩ := id hC
  have hts := hB.1.1.at args
  refine lv_aload_n hx hb (xb_d D_M_invoke 0 rfl) rfl (lv_at hl 0 rfl) ?_
  refine lv_aload_n hx hb (xb_d D_M_invoke 1 rfl) rfl (lv_at hl 0 rfl) ?_
  refine lv_iload_n hx hb (xb_d D_M_invoke 2 rfl) rfl (lv_at hl 1 rfl) ?_
  refine lv_iload_n hx hb (xb_d D_M_invoke 3 rfl) rfl (lv_at hl 2 rfl) ?_
  obtain ⟨hk1, hw⟩ := hw
  refine xb_call0 (D := D) (A := A) (σ := σ) (h := h) (d := 3) (maxL := 3) (rest := [.ref x0]) (av := [.ref x0, .int x1, .int x2]) (fun T hT X => by obtain ⟨cb9, ra9, rb9, rc9⟩ := xb_recv (ci := 8) hR rfl hk1 (by decide); exact xt_invV X hx hown (hts _ m_afb711e8) (hts _ m_9932241c) (hts _ m_40c3e47a) (xt_sigOf (hts _ m_ca26fbb4)) nm_M_isExport (by rw [hT]; exact ra9) rb9 rc9 (g := F0 m 4 ls [.int x2, .int x1, .ref x0, .ref x0]) rfl (argsL := [.int x1, .int x2]) (rest := [.ref x0]) rfl rfl (by rw [hb]; exact (xb_d D_M_invoke 4 rfl))) (ok_M_isExport l hfl D A σ x0 x1 x2 h _ hw) (hml.trans hl.1.symm) (by rw [hb]; exact (xb_d D_M_invoke 4 rfl)) (Nat.le_of_ble_eq_true rfl) (Nat.le_of_ble_eq_true rfl) (Nat.le_of_ble_eq_true rfl) (show k ≤ MC by omega) (show n ≤ MS by omega) (xt_w1 hB.1 m_ca26fbb4) (xt_cdOf hB.1 m_ca26fbb4) (hts _ m_d5ed7bed) hB hR hS hA (fun vv h2 H locs hq hEh2 hR hS => ?_)
  obtain ⟨r3, rfl, hw⟩ := hq
  have hw := hw hEh2
  have hE := hE.tr hEh2
  refine W.eq (g2 := F0 m 7 ls [.int r3, .ref x0]) rfl ?_
  refine lv_if_eq (tgt := 14) hx hb (xb_d D_M_invoke 5 rfl) rfl (fun hc4 => ?_) (fun hc4 => ?_)
  · have hw := hw.1 hc4
    refine lv_iconst (v := 1) hx hb (xb_d D_M_invoke 8 rfl) (by decide) ?_
    exact am_M_invoke_L15 l hfl D A σ MC MS h0 Qr x0 x1 x2 1 x0 h2 hw p e s m args below meth c hC H locs ls k n hE (lv_sub hl [0, 1, 2] rfl) hR hS (by omega) (by omega)
  · have hw := hw.2 hc4
    refine lv_iconst (v := 0) hx hb (xb_d D_M_invoke 6 rfl) (by decide) ?_
    refine lv_goto (tgt := 15) hx hb (xb_d D_M_invoke 7 rfl) rfl ?_
    exact am_M_invoke_L15 l hfl D A σ MC MS h0 Qr x0 x1 x2 0 x0 h2 hw p e s m args below meth c hC H locs ls k n hE (lv_sub hl [0, 1, 2] rfl) hR hS (by omega) (by omega)

set_option maxRecDepth 100000 in
def T_M_isByte : List (Nat × Instr × Nat) := [(0, .aload_n 0, 1), (1, .iload_n 1, 1), (2, .invokevirtual 592, 3), (5, .ifCond .ne 5, 3), (8, .iconst 0, 1), (9, .ireturn, 1), (10, .aload_n 0, 1), (11, .iload_n 1, 1), (12, .iconst 2, 1), (13, .invokevirtual 522, 3), (16, .istore_n 3, 1), (17, .iload_n 3, 1), (18, .ifCond .lt 24, 3), (21, .iload_n 2, 1), (22, .ifCond .lt 20, 3), (25, .iload_n 2, 1), (26, .ldc 7, 2), (28, .aload_n 0, 1), (29, .getfield 111, 3), (32, .iload_n 3, 1), (33, .iaload, 1), (34, .imul, 1), (35, .if_icmp .ge 7, 3), (38, .iconst 1, 1), (39, .goto 4, 3), (42, .iconst 0, 1), (43, .ireturn, 1)]
theorem D_M_isByte : ∀ q ∈ T_M_isByte, decode b_M_isByte q.1 = .ok (q.2.1, q.2.2) := by decide +kernel

set_option maxHeartbeats 4000000 in
set_option maxRecDepth 100000 in
theorem am_M_isByte_L43 (l : Launch) (hfl : l.flags = pinnedFlags ++ [noTraceFlag]) (D : va_G) (A : Nat → Prop) (σ MC MS : Nat) (h0 : xb_H) (Qr : Int32 → xb_H → Prop) (y0 : Int32) (h : xb_H) (hw : w_M_isByte_L43 Qr y0 h) : xb_am l D A σ 10 MC MS h0 (fun v h _ _ => ∃ r, v = some (.int r) ∧ Qr r h) (fun _ _ _ _ => False) y_M_isByte.cls y_M_isByte.name b_M_isByte 4 ([] : List ExceptionTableEntry) (some .boolean) 43 [] [.int y0] h 0 0 := by
  unfold w_M_isByte_L43 at hw
  intro p e s m args below meth c hC H locs ls k n hE hl hR hS hk hn
  obtain ⟨hx, hb, hown, hlocks, htab, hml, hr, hB, hA, hnm⟩ := id hC
  have hts := hB.1.1.at args
  exact xb_zret 0 0 hx hb hr hlocks (show k + 0 ≤ MC by omega) (show n + 0 ≤ MS by omega) hw.1 hE hR hS (xb_d D_M_isByte 26 rfl) hw.2

set_option maxHeartbeats 4000000 in
set_option maxRecDepth 100000 in
theorem am_M_isByte_L42 (l : Launch) (hfl : l.flags = pinnedFlags ++ [noTraceFlag]) (D : va_G) (A : Nat → Prop) (σ MC MS : Nat) (h0 : xb_H) (Qr : Int32 → xb_H → Prop) (h : xb_H) (hw : w_M_isByte_L42 Qr h) : xb_am l D A σ 10 MC MS h0 (fun v h _ _ => ∃ r, v = some (.int r) ∧ Qr r h) (fun _ _ _ _ => False) y_M_isByte.cls y_M_isByte.name b_M_isByte 4 ([] : List ExceptionTableEntry) (some .boolean) 42 [] [] h 0 0 := by
  unfold w_M_isByte_L42 at hw
  intro p e s m args below meth c hC H locs ls k n hE hl hR hS hk hn
  obtain ⟨hx, hb, hown, hlocks, htab, hml, hr, hB, hA, hnm⟩ := id hC
  have hts := hB.1.1.at args
  refine lv_iconst (v := 0) hx hb (xb_d D_M_isByte 25 rfl) (by decide) ?_
  exact am_M_isByte_L43 l hfl D A σ MC MS h0 Qr 0 h hw p e s m args below meth c hC H locs ls k n hE (lv_sub hl [] rfl) hR hS (by omega) (by omega)

set_option maxHeartbeats 4000000 in
set_option maxRecDepth 100000 in
theorem ok_M_isByte (l : Launch) (hfl : l.flags = pinnedFlags ++ [noTraceFlag]) (D : va_G) (A : Nat → Prop) (σ : Nat) (x0 : Nat) (x1 : Int32) (x2 : Int32) (h : xb_H) (Qr : Int32 → xb_H → Prop) (hw : w_M_isByte x0 x1 x2 h Qr) : xb_Met l y_M_isByte [.code y_M_isByte b_M_isByte 4 (some .boolean)] (xb_rm 10 0 0) (xb_Pc D A σ h [.ref x0, .int x1, .int x2]) (xb_Qc D A h 0 0 (fun v h _ _ => ∃ r, v = some (.int r) ∧ Qr r h) (fun _ _ _ _ => False)) A := by
  refine xb_ofAm (cc := b_M_isByte) (by decide) (Nat.le_of_ble_eq_true rfl) ?_
  unfold w_M_isByte at hw
  show xb_am l D A σ 10 0 0 h (fun v h _ _ => ∃ r, v = some (.int r) ∧ Qr r h) (fun _ _ _ _ => False) y_M_isByte.cls y_M_isByte.name b_M_isByte 4 ([] : List ExceptionTableEntry) (some .boolean) 0 [(0, .ref x0), (1, .int x1), (2, .int x2)] [] h 0 0
  obtain ⟨MC, hMC⟩ : ∃ x, x = 0 := ⟨_, rfl⟩
  obtain ⟨MS, hMS⟩ : ∃ x, x = 0 := ⟨_, rfl⟩
  rw [show xb_am l D A σ 10 0 0 = xb_am l D A σ 10 MC MS by rw [hMC, hMS]]
  obtain ⟨h0, hh0⟩ : ∃ x, x = h := ⟨_, rfl⟩
  rw [show xb_am l D A σ 10 MC MS h = xb_am l D A σ 10 MC MS h0 by rw [hh0]]
  intro p e s m args below meth c hC H locs ls k n hE hl hR hS hk hn
  obtain ⟨hx, hb, hown, hlocks, htab, hml, hr, hB, hA, hnm⟩ := id hC
  have hts := hB.1.1.at args
  refine lv_aload_n hx hb (xb_d D_M_isByte 0 rfl) rfl (lv_at hl 0 rfl) ?_
  refine lv_iload_n hx hb (xb_d D_M_isByte 1 rfl) rfl (lv_at hl 1 rfl) ?_
  obtain ⟨hk1, hw⟩ := hw
  refine xb_call0 (D := D) (A := A) (σ := σ) (h := h) (d := 2) (maxL := 2) (rest := []) (av := [.ref x0, .int x1]) (fun T hT X => by obtain ⟨cb9, ra9, rb9, rc9⟩ := xb_recv (ci := 8) hR rfl hk1 (by decide); exact xt_invV X hx hown (hts _ m_ec7c79cd) (hts _ m_cefd1701) (hts _ m_d2ca0421) (xt_sigOf (hts _ m_5aaa69eb)) nm_M_isInstance (by rw [hT]; exact ra9) rb9 rc9 (g := F0 m 2 ls [.int x1, .ref x0]) rfl (argsL := [.int x1]) (rest := []) rfl rfl (by rw [hb]; exact (xb_d D_M_isByte 2 rfl))) (ok_M_isInstance l hfl D A σ x0 x1 h _ hw) (hml.trans hl.1.symm) (by rw [hb]; exact (xb_d D_M_isByte 2 rfl)) (Nat.le_of_ble_eq_true rfl) (Nat.le_of_ble_eq_true rfl) (Nat.le_of_ble_eq_true rfl) (show k ≤ MC by omega) (show n ≤ MS by omega) (xt_w1 hB.1 m_5aaa69eb) (xt_cdOf hB.1 m_5aaa69eb) (hts _ m_d5ed7bed) hB hR hS hA (fun vv h2 H locs hq hEh2 hR hS => ?_)
  obtain ⟨r3, rfl, hw⟩ := hq
  have hw := hw hEh2
  have hE := hE.tr hEh2
  refine W.eq (g2 := F0 m 5 ls [.int r3]) rfl ?_
  refine lv_if_ne (tgt := 10) hx hb (xb_d D_M_isByte 3 rfl) rfl (fun hc4 => ?_) (fun hc4 => ?_)
  · have hw := hw.1 hc4
    refine lv_aload_n hx hb (xb_d D_M_isByte 6 rfl) rfl (lv_at hl 0 rfl) ?_
    refine lv_iload_n hx hb (xb_d D_M_isByte 7 rfl) rfl (lv_at hl 1 rfl) ?_
    refine lv_iconst (v := 2) hx hb (xb_d D_M_isByte 8 rfl) (by decide) ?_
    have hk1 : xb_k h2 x0 = 9 := hEh2.k hk1
    refine xb_call0 (D := D) (A := A) (σ := σ) (h := h2) (d := 9) (maxL := 3) (rest := []) (av := [.ref x0, .int x1, .int 2]) (fun T hT X => by obtain ⟨cb9, ra9, rb9, rc9⟩ := xb_recv (ci := 8) hR rfl hk1 (by decide); exact xt_invV X hx hown (hts _ m_392cec72) (hts _ m_982c4770) (hts _ m_e18e99cc) (xt_sigOf (hts _ m_3f9e55aa)) nm_M_only (by rw [hT]; exact ra9) rb9 rc9 (g := F0 m 13 ls [.int 2, .int x1, .ref x0]) rfl (argsL := [.int x1, .int 2]) (rest := []) rfl rfl (by rw [hb]; exact (xb_d D_M_isByte 9 rfl))) (ok_M_only l hfl D A σ x0 x1 2 h2 _ hw) (hml.trans hl.1.symm) (by rw [hb]; exact (xb_d D_M_isByte 9 rfl)) (Nat.le_of_ble_eq_true rfl) (Nat.le_of_ble_eq_true rfl) (Nat.le_of_ble_eq_true rfl) (show k ≤ MC by omega) (show n ≤ MS by omega) (xt_w1 hB.1 m_3f9e55aa) (xt_cdOf hB.1 m_3f9e55aa) (hts _ m_d5ed7bed) hB hR hS hA (fun vv h5 H locs hq hEh5 hR hS => ?_)
    obtain ⟨r6, rfl, hw⟩ := hq
    have hw := hw hEh5
    have hE := hE.tr hEh5
    refine W.eq (g2 := F0 m 16 ls [.int r6]) rfl ?_
    refine lv_istore_n hx hb (xb_d D_M_isByte 10 rfl) rfl hl (by decide) rfl (fun ls hl => ?_)
    have hl : lv_has ls 4 [(3, .int r6), (0, .ref x0), (1, .int x1), (2, .int x2)] := hl
    refine lv_iload_n hx hb (xb_d D_M_isByte 11 rfl) rfl (lv_at hl 0 rfl) ?_
    refine lv_if_lt (tgt := 42) hx hb (xb_d D_M_isByte 12 rfl) rfl (fun hc7 => ?_) (fun hc7 => ?_)
    · have hw := hw.1 hc7
      exact am_M_isByte_L42 l hfl D A σ MC MS h0 Qr h5 hw p e s m args below meth c hC H locs ls k n hE (lv_sub hl [] rfl) hR hS (by omega) (by omega)
    · have hw := hw.2 hc7
      refine lv_iload_n hx hb (xb_d D_M_isByte 13 rfl) rfl (lv_at hl 3 rfl) ?_
      refine lv_if_lt (tgt := 42) hx hb (xb_d D_M_isByte 14 rfl) rfl (fun hc8 => ?_) (fun hc8 => ?_)
      · have hw := hw.1 hc8
        exact am_M_isByte_L42 l hfl D A σ MC MS h0 Qr h5 hw p e s m args below meth c hC H locs ls k n hE (lv_sub hl [] rfl) hR hS (by omega) (by omega)
      · have hw := hw.2 hc8
        refine lv_iload_n hx hb (xb_d D_M_isByte 15 rfl) rfl (lv_at hl 3 rfl) ?_
        refine lv_ldc (v := 65536) hx hb hown (hts _ m_36de59d5) (xb_d D_M_isByte 16 rfl) ?_
        refine lv_aload_n hx hb (xb_d D_M_isByte 17 rfl) rfl (lv_at hl 1 rfl) ?_
        have hk1 : xb_k h5 x0 = 9 := hEh5.k hk1
        refine xb_getP (C := R_M) (T := F_M) (N := 97) hx hb 8 54 hts fin_M hown hR hk1 (by decide) rfl (by decide) rfl (hts _ m_605483d9) (fun _ h9 => h9) (xb_d D_M_isByte 18 rfl) ?_
        obtain ⟨b9, eb9, hw⟩ := hw
        refine xb_some eb9 ?_
        refine lv_iload_n hx hb (xb_d D_M_isByte 19 rfl) rfl (lv_at hl 0 rfl) ?_
        obtain ⟨hk11, hw⟩ := hw
        obtain ⟨hi10, hw⟩ := hw
        refine xb_iald hx hb hR hk11 hi10 (xb_d D_M_isByte 20 rfl) ?_
        refine lv_imul hx hb (xb_d D_M_isByte 21 rfl) ?_
        refine lv_icmp_ge (tgt := 42) hx hb (xb_d D_M_isByte 22 rfl) rfl (fun hc12 => ?_) (fun hc12 => ?_)
        · have hw := hw.1 hc12
          exact am_M_isByte_L42 l hfl D A σ MC MS h0 Qr h5 hw p e s m args below meth c hC H locs ls k n hE (lv_sub hl [] rfl) hR hS (by omega) (by omega)
        · have hw := hw.2 hc12
          refine lv_iconst (v := 1) hx hb (xb_d D_M_isByte 23 rfl) (by decide) ?_
          refine lv_goto (tgt := 43) hx hb (xb_d D_M_isByte 24 rfl) rfl ?_
          exact am_M_isByte_L43 l hfl D A σ MC MS h0 Qr 1 h5 hw p e s m args below meth c hC H locs ls k n hE (lv_sub hl [] rfl) hR hS (by omega) (by omega)
  · have hw := hw.2 hc4
    refine lv_iconst (v := 0) hx hb (xb_d D_M_isByte 4 rfl) (by decide) ?_
    exact xb_zret 0 0 hx hb hr hlocks (show k + 0 ≤ MC by omega) (show n + 0 ≤ MS by omega) (by decide) hE hR hS (xb_d D_M_isByte 5 rfl) hw

set_option maxRecDepth 100000 in
def T_M_pages : List (Nat × Instr × Nat) := [(0, .aload_n 0, 1), (1, .aload_n 0, 1), (2, .iload_n 1, 1), (3, .invokevirtual 592, 3), (6, .ifCond .eq 7, 3), (9, .iconst 0, 1), (10, .goto 4, 3), (13, .iconst 1, 1), (14, .putfield 189, 3), (17, .aload_n 0, 1), (18, .getfield 189, 3), (21, .ifCond .le 5, 3), (24, .iconst 0, 1), (25, .ireturn, 1), (26, .aload_n 0, 1), (27, .iload_n 1, 1), (28, .iconst 2, 1), (29, .invokevirtual 522, 3), (32, .istore_n 2, 1), (33, .iload_n 2, 1), (34, .ifCond .ge 7, 3), (37, .iconst (-1), 1), (38, .goto 9, 3), (41, .aload_n 0, 1), (42, .getfield 111, 3), (45, .iload_n 2, 1), (46, .iaload, 1), (47, .ireturn, 1)]
theorem D_M_pages : ∀ q ∈ T_M_pages, decode b_M_pages q.1 = .ok (q.2.1, q.2.2) := by decide +kernel

set_option maxHeartbeats 4000000 in
set_option maxRecDepth 100000 in
theorem am_M_pages_L47 (l : Launch) (hfl : l.flags = pinnedFlags ++ [noTraceFlag]) (D : va_G) (A : Nat → Prop) (σ MC MS : Nat) (h0 : xb_H) (Qr : Int32 → xb_H → Prop) (y0 : Int32) (h : xb_H) (hw : w_M_pages_L47 Qr y0 h) : xb_am l D A σ 10 MC MS h0 (fun v h _ _ => ∃ r, v = some (.int r) ∧ Qr r h) (fun _ _ _ _ => False) y_M_pages.cls y_M_pages.name b_M_pages 3 ([] : List ExceptionTableEntry) (some .int) 47 [] [.int y0] h 0 0 := by
  unfold w_M_pages_L47 at hw
  intro p e s m args below meth c hC H locs ls k n hE hl hR hS hk hn
  obtain ⟨hx, hb, hown, hlocks, htab, hml, hr, hB, hA, hnm⟩ := id hC
  have hts := hB.1.1.at args
  exact xb_iret 0 0 hx hb hr hlocks (show k + 0 ≤ MC by omega) (show n + 0 ≤ MS by omega) hE hR hS (xb_d D_M_pages 27 rfl) hw

set_option maxHeartbeats 4000000 in
set_option maxRecDepth 100000 in
theorem am_M_pages_L14 (l : Launch) (hfl : l.flags = pinnedFlags ++ [noTraceFlag]) (D : va_G) (A : Nat → Prop) (σ MC MS : Nat) (h0 : xb_H) (Qr : Int32 → xb_H → Prop) (x0 : Nat) (x1 : Int32) (y0 : Int32) (y1 : Nat) (h : xb_H) (hw : w_M_pages_L14 Qr x0 x1 y0 y1 h) : xb_am l D A σ 10 MC MS h0 (fun v h _ _ => ∃ r, v = some (.int r) ∧ Qr r h) (fun _ _ _ _ => False) y_M_pages.cls y_M_pages.name b_M_pages 3 ([] : List ExceptionTableEntry) (some .int) 14 [(0, .ref x0), (1, .int x1)] [.int y0, .ref y1] h 0 0 := by
  unfold w_M_pages_L14 at hw
  intro p e s m args below meth c hC H locs ls k n hE hl hR hS hk hn
  obtain ⟨hx, hb, hown, hlocks, htab, hml, hr, hB, hA, hnm⟩ := id hC
  have hts := hB.1.1.at args
  obtain ⟨hk1, hw⟩ := hw
  refine xb_putI (C := R_M) (T := F_M) (N := 97) (ty := .int) (x := y0) hx hb 8 0 hts fin_M t_M t_M_ok n_M hown hR hS hk1 (by decide) rfl (by decide) rfl (hts _ m_afabd6a0) (fun _ h9 => h9) rfl (by decide +kernel) rfl rfl (xb_d D_M_pages 8 rfl) (fun H locs hR hS => ?_)
  obtain ⟨h2, eh2⟩ : ∃ x : xb_H, x = xb_I h y1 0 y0 := ⟨_, rfl⟩
  rw [← eh2] at hR
  have hw := hw h2 eh2
  have hE : xb_ext h0 h2 := by rw [eh2]; exact hE
  refine lv_aload_n hx hb (xb_d D_M_pages 9 rfl) rfl (lv_at hl 0 rfl) ?_
  obtain ⟨hk3, hw⟩ := hw
  refine xb_getI (C := R_M) (T := F_M) (N := 97) hx hb 8 0 hts fin_M hown hR hk3 (by decide) rfl (by decide) rfl (hts _ m_afabd6a0) (fun _ h9 => h9) (xb_d D_M_pages 10 rfl) ?_
  refine lv_if_le (tgt := 26) hx hb (xb_d D_M_pages 11 rfl) rfl (fun hc4 => ?_) (fun hc4 => ?_)
  · have hw := hw.1 hc4
    refine lv_aload_n hx hb (xb_d D_M_pages 14 rfl) rfl (lv_at hl 0 rfl) ?_
    refine lv_iload_n hx hb (xb_d D_M_pages 15 rfl) rfl (lv_at hl 1 rfl) ?_
    refine lv_iconst (v := 2) hx hb (xb_d D_M_pages 16 rfl) (by decide) ?_
    refine xb_call0 (D := D) (A := A) (σ := σ) (h := h2) (d := 9) (maxL := 3) (rest := []) (av := [.ref x0, .int x1, .int 2]) (fun T hT X => by obtain ⟨cb9, ra9, rb9, rc9⟩ := xb_recv (ci := 8) hR rfl hk3 (by decide); exact xt_invV X hx hown (hts _ m_392cec72) (hts _ m_982c4770) (hts _ m_e18e99cc) (xt_sigOf (hts _ m_3f9e55aa)) nm_M_only (by rw [hT]; exact ra9) rb9 rc9 (g := F0 m 29 ls [.int 2, .int x1, .ref x0]) rfl (argsL := [.int x1, .int 2]) (rest := []) rfl rfl (by rw [hb]; exact (xb_d D_M_pages 17 rfl))) (ok_M_only l hfl D A σ x0 x1 2 h2 _ hw) (hml.trans hl.1.symm) (by rw [hb]; exact (xb_d D_M_pages 17 rfl)) (Nat.le_of_ble_eq_true rfl) (Nat.le_of_ble_eq_true rfl) (Nat.le_of_ble_eq_true rfl) (show k ≤ MC by omega) (show n ≤ MS by omega) (xt_w1 hB.1 m_3f9e55aa) (xt_cdOf hB.1 m_3f9e55aa) (hts _ m_d5ed7bed) hB hR hS hA (fun vv h5 H locs hq hEh5 hR hS => ?_)
    obtain ⟨r6, rfl, hw⟩ := hq
    have hw := hw hEh5
    have hE := hE.tr hEh5
    refine W.eq (g2 := F0 m 32 ls [.int r6]) rfl ?_
    refine lv_istore_n hx hb (xb_d D_M_pages 18 rfl) rfl hl (by decide) rfl (fun ls hl => ?_)
    have hl : lv_has ls 3 [(2, .int r6), (0, .ref x0), (1, .int x1)] := hl
    refine lv_iload_n hx hb (xb_d D_M_pages 19 rfl) rfl (lv_at hl 0 rfl) ?_
    refine lv_if_ge (tgt := 41) hx hb (xb_d D_M_pages 20 rfl) rfl (fun hc7 => ?_) (fun hc7 => ?_)
    · have hw := hw.1 hc7
      refine lv_aload_n hx hb (xb_d D_M_pages 23 rfl) rfl (lv_at hl 1 rfl) ?_
      have hk3 : xb_k h5 x0 = 9 := hEh5.k hk3
      refine xb_getP (C := R_M) (T := F_M) (N := 97) hx hb 8 54 hts fin_M hown hR hk3 (by decide) rfl (by decide) rfl (hts _ m_605483d9) (fun _ h9 => h9) (xb_d D_M_pages 24 rfl) ?_
      obtain ⟨b8, eb8, hw⟩ := hw
      refine xb_some eb8 ?_
      refine lv_iload_n hx hb (xb_d D_M_pages 25 rfl) rfl (lv_at hl 0 rfl) ?_
      obtain ⟨hk10, hw⟩ := hw
      obtain ⟨hi9, hw⟩ := hw
      refine xb_iald hx hb hR hk10 hi9 (xb_d D_M_pages 26 rfl) ?_
      exact am_M_pages_L47 l hfl D A σ MC MS h0 Qr (xb_i h5 b8 (Int32.toNatClampNeg r6)) h5 hw p e s m args below meth c hC H locs ls k n hE (lv_sub hl [] rfl) hR hS (by omega) (by omega)
    · have hw := hw.2 hc7
      refine lv_iconst (v := (-1)) hx hb (xb_d D_M_pages 21 rfl) (by decide) ?_
      refine lv_goto (tgt := 47) hx hb (xb_d D_M_pages 22 rfl) rfl ?_
      exact am_M_pages_L47 l hfl D A σ MC MS h0 Qr (-1) h5 hw p e s m args below meth c hC H locs ls k n hE (lv_sub hl [] rfl) hR hS (by omega) (by omega)
  · have hw := hw.2 hc4
    refine lv_iconst (v := 0) hx hb (xb_d D_M_pages 12 rfl) (by decide) ?_
    exact xb_iret 0 0 hx hb hr hlocks (show k + 0 ≤ MC by omega) (show n + 0 ≤ MS by omega) hE hR hS (xb_d D_M_pages 13 rfl) hw

set_option maxHeartbeats 4000000 in
set_option maxRecDepth 100000 in
theorem ok_M_pages (l : Launch) (hfl : l.flags = pinnedFlags ++ [noTraceFlag]) (D : va_G) (A : Nat → Prop) (σ : Nat) (x0 : Nat) (x1 : Int32) (h : xb_H) (Qr : Int32 → xb_H → Prop) (hw : w_M_pages x0 x1 h Qr) : xb_Met l y_M_pages [.code y_M_pages b_M_pages 3 (some .int)] (xb_rm 10 0 0) (xb_Pc D A σ h [.ref x0, .int x1]) (xb_Qc D A h 0 0 (fun v h _ _ => ∃ r, v = some (.int r) ∧ Qr r h) (fun _ _ _ _ => False)) A := by
  refine xb_ofAm (cc := b_M_pages) (by decide) (Nat.le_of_ble_eq_true rfl) ?_
  unfold w_M_pages at hw
  show xb_am l D A σ 10 0 0 h (fun v h _ _ => ∃ r, v = some (.int r) ∧ Qr r h) (fun _ _ _ _ => False) y_M_pages.cls y_M_pages.name b_M_pages 3 ([] : List ExceptionTableEntry) (some .int) 0 [(0, .ref x0), (1, .int x1)] [] h 0 0
  obtain ⟨MC, hMC⟩ : ∃ x, x = 0 := ⟨_, rfl⟩
  obtain ⟨MS, hMS⟩ : ∃ x, x = 0 := ⟨_, rfl⟩
  rw [show xb_am l D A σ 10 0 0 = xb_am l D A σ 10 MC MS by rw [hMC, hMS]]
  obtain ⟨h0, hh0⟩ : ∃ x, x = h := ⟨_, rfl⟩
  rw [show xb_am l D A σ 10 MC MS h = xb_am l D A σ 10 MC MS h0 by rw [hh0]]
  intro p e s m args below meth c hC H locs ls k n hE hl hR hS hk hn
  obtain ⟨hx, hb, hown, hlocks, htab, hml, hr, hB, hA, hnm⟩ := id hC
  have hts := hB.1.1.at args
  refine lv_aload_n hx hb (xb_d D_M_pages 0 rfl) rfl (lv_at hl 0 rfl) ?_
  refine lv_aload_n hx hb (xb_d D_M_pages 1 rfl) rfl (lv_at hl 0 rfl) ?_
  refine lv_iload_n hx hb (xb_d D_M_pages 2 rfl) rfl (lv_at hl 1 rfl) ?_
  obtain ⟨hk1, hw⟩ := hw
  refine xb_call0 (D := D) (A := A) (σ := σ) (h := h) (d := 2) (maxL := 2) (rest := [.ref x0]) (av := [.ref x0, .int x1]) (fun T hT X => by obtain ⟨cb9, ra9, rb9, rc9⟩ := xb_recv (ci := 8) hR rfl hk1 (by decide); exact xt_invV X hx hown (hts _ m_ec7c79cd) (hts _ m_cefd1701) (hts _ m_d2ca0421) (xt_sigOf (hts _ m_5aaa69eb)) nm_M_isInstance (by rw [hT]; exact ra9) rb9 rc9 (g := F0 m 3 ls [.int x1, .ref x0, .ref x0]) rfl (argsL := [.int x1]) (rest := [.ref x0]) rfl rfl (by rw [hb]; exact (xb_d D_M_pages 3 rfl))) (ok_M_isInstance l hfl D A σ x0 x1 h _ hw) (hml.trans hl.1.symm) (by rw [hb]; exact (xb_d D_M_pages 3 rfl)) (Nat.le_of_ble_eq_true rfl) (Nat.le_of_ble_eq_true rfl) (Nat.le_of_ble_eq_true rfl) (show k ≤ MC by omega) (show n ≤ MS by omega) (xt_w1 hB.1 m_5aaa69eb) (xt_cdOf hB.1 m_5aaa69eb) (hts _ m_d5ed7bed) hB hR hS hA (fun vv h2 H locs hq hEh2 hR hS => ?_)
  obtain ⟨r3, rfl, hw⟩ := hq
  have hw := hw hEh2
  have hE := hE.tr hEh2
  refine W.eq (g2 := F0 m 6 ls [.int r3, .ref x0]) rfl ?_
  refine lv_if_eq (tgt := 13) hx hb (xb_d D_M_pages 4 rfl) rfl (fun hc4 => ?_) (fun hc4 => ?_)
  · have hw := hw.1 hc4
    refine lv_iconst (v := 1) hx hb (xb_d D_M_pages 7 rfl) (by decide) ?_
    exact am_M_pages_L14 l hfl D A σ MC MS h0 Qr x0 x1 1 x0 h2 hw p e s m args below meth c hC H locs ls k n hE (lv_sub hl [0, 1] rfl) hR hS (by omega) (by omega)
  · have hw := hw.2 hc4
    refine lv_iconst (v := 0) hx hb (xb_d D_M_pages 5 rfl) (by decide) ?_
    refine lv_goto (tgt := 14) hx hb (xb_d D_M_pages 6 rfl) rfl ?_
    exact am_M_pages_L14 l hfl D A σ MC MS h0 Qr x0 x1 0 x0 h2 hw p e s m args below meth c hC H locs ls k n hE (lv_sub hl [0, 1] rfl) hR hS (by omega) (by omega)

theorem m_6b6b7e08 : (.methodLink "StackHostModel" 528 y_M_refuse : Cond) ∈ xt_tbl := xt_in (xt_t12 (List.mem_of_getElem? (i := 78) (by decide +kernel))) (by decide +kernel)
theorem m_4beacd9b : (.instanceMethod y_M_refuse : Cond) ∈ xt_tbl := xt_in (xt_t12 (List.mem_of_getElem? (i := 80) (by decide +kernel))) (by decide +kernel)
theorem m_24c49834 : (.selects "StackHostModel" y_M_refuse y_M_refuse : Cond) ∈ xt_tbl := xt_in (xt_v13 (q := (⟨"StackHostModel", "refuse", "(II)I"⟩, 97)) (List.mem_of_getElem? (i := 12) (by decide +kernel))) (by decide +kernel)
theorem m_7cc9e25d : (.code y_M_refuse b_M_refuse 3 (some .int) : Cond) ∈ xt_tbl := xt_in (xt_t12 (List.mem_of_getElem? (i := 81) (by decide +kernel))) (by decide +kernel)
theorem m_3863d309 : (.methodLink "StackHostModel" 525 y_M_constant : Cond) ∈ xt_tbl := xt_in (xt_t12 (List.mem_of_getElem? (i := 88) (by decide +kernel))) (by decide +kernel)
theorem m_06065df9 : (.instanceMethod y_M_constant : Cond) ∈ xt_tbl := xt_in (xt_t12 (List.mem_of_getElem? (i := 90) (by decide +kernel))) (by decide +kernel)
theorem m_e2bfe1f7 : (.selects "StackHostModel" y_M_constant y_M_constant : Cond) ∈ xt_tbl := xt_in (xt_v13 (q := (⟨"StackHostModel", "constant", "(I)J"⟩, 97)) (List.mem_of_getElem? (i := 14) (by decide +kernel))) (by decide +kernel)
theorem m_426e00bf : (.code y_M_constant b_M_constant 8 (some .long) : Cond) ∈ xt_tbl := xt_in (xt_t12 (List.mem_of_getElem? (i := 91) (by decide +kernel))) (by decide +kernel)
theorem nm_M_refuse : xt_nm y_M_refuse 2 := ⟨by decide +kernel, by decide +kernel⟩
theorem nm_M_constant : xt_nm y_M_constant 1 := ⟨by decide +kernel, by decide +kernel⟩
set_option maxRecDepth 100000 in
def T_M_rowsFit : List (Nat × Instr × Nat) := [(0, .aload_n 0, 1), (1, .getfield 62, 3), (4, .iload_n 1, 1), (5, .iaload, 1), (6, .istore_n 3, 1), (7, .aload_n 0, 1), (8, .iload_n 1, 1), (9, .iload_n 2, 1), (10, .bipush 9, 2), (12, .if_icmp .ne 7, 3), (15, .iconst 1, 1), (16, .goto 4, 3), (19, .iconst 2, 1), (20, .invokevirtual 522, 3), (23, .istore 4, 2), (25, .iconst 0, 1), (26, .istore 5, 2), (28, .iload 5, 2), (30, .aload_n 0, 1), (31, .iload_n 3, 1), (32, .iload_n 2, 1), (33, .invokevirtual 316, 3), (36, .if_icmp .ge 108, 3), (39, .aload_n 0, 1), (40, .iload_n 3, 1), (41, .aload_n 0, 1), (42, .iload_n 3, 1), (43, .iload_n 2, 1), (44, .iload 5, 2), (46, .invokevirtual 320, 3), (49, .invokevirtual 324, 3), (52, .aload_n 0, 1), (53, .invokevirtual 218, 3), (56, .pop2, 1), (57, .aload_n 0, 1), (58, .iload_n 1, 1), (59, .invokevirtual 525, 3), (62, .ldc2_w 517, 3), (65, .land, 1), (66, .lstore 6, 2), (68, .aload_n 0, 1), (69, .invokevirtual 218, 3), (72, .lstore 8, 2), (74, .iload_n 2, 1), (75, .bipush 9, 2), (77, .if_icmp .ne 14, 3), (80, .aload_n 0, 1), (81, .getfield 101, 3), (84, .iload 4, 2), (86, .iaload, 1), (87, .i2l, 1), (88, .goto 15, 3), (91, .ldc2_w 352, 3), (94, .aload_n 0, 1), (95, .getfield 111, 3), (98, .iload 4, 2), (100, .iaload, 1), (101, .i2l, 1), (102, .lmul, 1), (103, .lstore 10, 2), (105, .lload 6, 2), (107, .lload 8, 2), (109, .ladd, 1), (110, .lload 10, 2), (112, .lcmp, 1), (113, .ifCond .le 25, 3), (116, .aload_n 0, 1), (117, .iload_n 2, 1), (118, .bipush 9, 2), (120, .if_icmp .ne 8, 3), (123, .bipush 45, 2), (125, .goto 5, 3), (128, .bipush 46, 2), (130, .iload 5, 2), (132, .invokevirtual 528, 3), (135, .pop, 1), (136, .iconst 0, 1), (137, .ireturn, 1), (138, .iinc 5 1, 3), (141, .goto (-113), 3), (144, .iconst 1, 1), (145, .ireturn, 1)]
theorem D_M_rowsFit : ∀ q ∈ T_M_rowsFit, decode b_M_rowsFit q.1 = .ok (q.2.1, q.2.2) := by decide +kernel

set_option maxHeartbeats 4000000 in
set_option maxRecDepth 100000 in
theorem am_M_rowsFit_L130 (l : Launch) (hfl : l.flags = pinnedFlags ++ [noTraceFlag]) (D : va_G) (A : Nat → Prop) (σ MC MS : Nat) (h0 : xb_H) (Qr : Int32 → xb_H → Prop) (K28 : Nat → Int32 → Int32 → Int32 → Int32 → Int32 → xb_H → Prop) (hK28 : ∀ (x0 : Nat) (x1 : Int32) (x2 : Int32) (x3 : Int32) (x4 : Int32) (x5 : Int32) (h : xb_H), K28 x0 x1 x2 x3 x4 x5 h → xb_am l D A σ 10 MC MS h0 (fun v h _ _ => ∃ r, v = some (.int r) ∧ Qr r h) (fun _ _ _ _ => False) y_M_rowsFit.cls y_M_rowsFit.name b_M_rowsFit 12 ([] : List ExceptionTableEntry) (some .boolean) 28 [(0, .ref x0), (1, .int x1), (2, .int x2), (3, .int x3), (4, .int x4), (5, .int x5)] [] h 0 0) (x5 : Int32) (y0 : Int32) (y1 : Nat) (h : xb_H) (hw : w_M_rowsFit_L130 K28 Qr x5 y0 y1 h) : xb_am l D A σ 10 MC MS h0 (fun v h _ _ => ∃ r, v = some (.int r) ∧ Qr r h) (fun _ _ _ _ => False) y_M_rowsFit.cls y_M_rowsFit.name b_M_rowsFit 12 ([] : List ExceptionTableEntry) (some .boolean) 130 [(5, .int x5)] [.int y0, .ref y1] h 0 0 := by
  unfold w_M_rowsFit_L130 at hw
  intro p e s m args below meth c hC H locs ls k n hE hl hR hS hk hn
  obtain ⟨hx, hb, hown, hlocks, htab, hml, hr, hB, hA, hnm⟩ := id hC
  have hts := hB.1.1.at args
  refine lv_iload hx hb (xb_d D_M_rowsFit 73 rfl) (lv_at hl 0 rfl) ?_
  obtain ⟨hk1, hw⟩ := hw
  refine xb_call0 (D := D) (A := A) (σ := σ) (h := h) (d := 2) (maxL := 3) (rest := []) (av := [.ref y1, .int y0, .int x5]) (fun T hT X => by obtain ⟨cb9, ra9, rb9, rc9⟩ := xb_recv (ci := 8) hR rfl hk1 (by decide); exact xt_invV X hx hown (hts _ m_6b6b7e08) (hts _ m_4beacd9b) (hts _ m_24c49834) (xt_sigOf (hts _ m_7cc9e25d)) nm_M_refuse (by rw [hT]; exact ra9) rb9 rc9 (g := F0 m 132 ls [.int x5, .int y0, .ref y1]) rfl (argsL := [.int y0, .int x5]) (rest := []) rfl rfl (by rw [hb]; exact (xb_d D_M_rowsFit 74 rfl))) (ok_M_refuse l hfl D A σ y1 y0 x5 h _ hw) (hml.trans hl.1.symm) (by rw [hb]; exact (xb_d D_M_rowsFit 74 rfl)) (Nat.le_of_ble_eq_true rfl) (Nat.le_of_ble_eq_true rfl) (Nat.le_of_ble_eq_true rfl) (show k ≤ MC by omega) (show n ≤ MS by omega) (xt_w1 hB.1 m_7cc9e25d) (xt_cdOf hB.1 m_7cc9e25d) (hts _ m_d5ed7bed) hB hR hS hA (fun vv h2 H locs hq hEh2 hR hS => ?_)
  obtain ⟨r3, rfl, hw⟩ := hq
  have hw := hw hEh2
  have hE := hE.tr hEh2
  refine W.eq (g2 := F0 m 135 ls [.int r3]) rfl ?_
  refine lv_pop hx hb (xb_d D_M_rowsFit 75 rfl) rfl ?_
  refine lv_iconst (v := 0) hx hb (xb_d D_M_rowsFit 76 rfl) (by decide) ?_
  exact xb_zret 0 0 hx hb hr hlocks (show k + 0 ≤ MC by omega) (show n + 0 ≤ MS by omega) (by decide) hE hR hS (xb_d D_M_rowsFit 77 rfl) hw

set_option maxHeartbeats 4000000 in
set_option maxRecDepth 100000 in
theorem am_M_rowsFit_L103 (l : Launch) (hfl : l.flags = pinnedFlags ++ [noTraceFlag]) (D : va_G) (A : Nat → Prop) (σ MC MS : Nat) (h0 : xb_H) (Qr : Int32 → xb_H → Prop) (K28 : Nat → Int32 → Int32 → Int32 → Int32 → Int32 → xb_H → Prop) (hK28 : ∀ (x0 : Nat) (x1 : Int32) (x2 : Int32) (x3 : Int32) (x4 : Int32) (x5 : Int32) (h : xb_H), K28 x0 x1 x2 x3 x4 x5 h → xb_am l D A σ 10 MC MS h0 (fun v h _ _ => ∃ r, v = some (.int r) ∧ Qr r h) (fun _ _ _ _ => False) y_M_rowsFit.cls y_M_rowsFit.name b_M_rowsFit 12 ([] : List ExceptionTableEntry) (some .boolean) 28 [(0, .ref x0), (1, .int x1), (2, .int x2), (3, .int x3), (4, .int x4), (5, .int x5)] [] h 0 0) (x0 : Nat) (x1 : Int32) (x2 : Int32) (x3 : Int32) (x4 : Int32) (x5 : Int32) (x6 : Int64) (x8 : Int64) (y0 : Int64) (h : xb_H) (hw : w_M_rowsFit_L103 K28 Qr x0 x1 x2 x3 x4 x5 x6 x8 y0 h) : xb_am l D A σ 10 MC MS h0 (fun v h _ _ => ∃ r, v = some (.int r) ∧ Qr r h) (fun _ _ _ _ => False) y_M_rowsFit.cls y_M_rowsFit.name b_M_rowsFit 12 ([] : List ExceptionTableEntry) (some .boolean) 103 [(0, .ref x0), (1, .int x1), (2, .int x2), (3, .int x3), (4, .int x4), (5, .int x5), (6, .long x6), (8, .long x8)] [.long y0] h 0 0 := by
  unfold w_M_rowsFit_L103 at hw
  intro p e s m args below meth c hC H locs ls k n hE hl hR hS hk hn
  obtain ⟨hx, hb, hown, hlocks, htab, hml, hr, hB, hA, hnm⟩ := id hC
  have hts := hB.1.1.at args
  refine lv_lstore hx hb (xb_d D_M_rowsFit 59 rfl) hl (by decide) rfl (fun ls hl => ?_)
  have hl : lv_has ls 12 [(10, .long y0), (0, .ref x0), (1, .int x1), (2, .int x2), (3, .int x3), (4, .int x4), (5, .int x5), (6, .long x6), (8, .long x8)] := hl
  refine lv_lload hx hb (xb_d D_M_rowsFit 60 rfl) (lv_at hl 7 rfl) ?_
  refine lv_lload hx hb (xb_d D_M_rowsFit 61 rfl) (lv_at hl 8 rfl) ?_
  refine lv_ladd hx hb (xb_d D_M_rowsFit 62 rfl) ?_
  refine lv_lload hx hb (xb_d D_M_rowsFit 63 rfl) (lv_at hl 0 rfl) ?_
  refine xb_lc_le (tgt := 138) hx hb (xb_d D_M_rowsFit 64 rfl) (xb_d D_M_rowsFit 65 rfl) rfl (fun hc1 => ?_) (fun hc1 => ?_)
  · have hw := hw.1 hc1
    refine lv_iinc (v := (x5 + 1)) (k := 6) hx hb (xb_d D_M_rowsFit 78 rfl) hl rfl (by first | rfl | decide) (by decide) rfl (fun ls hl => ?_)
    have hl : lv_has ls 12 [(5, .int (x5 + 1)), (10, .long y0), (0, .ref x0), (1, .int x1), (2, .int x2), (3, .int x3), (4, .int x4), (6, .long x6), (8, .long x8)] := hl
    refine lv_goto (tgt := 28) hx hb (xb_d D_M_rowsFit 79 rfl) rfl ?_
    exact hK28 x0 x1 x2 x3 x4 (x5 + 1) h hw p e s m args below meth c hC H locs ls k n hE (lv_sub hl [2, 3, 4, 5, 6, 0] rfl) hR hS (by omega) (by omega)
  · have hw := hw.2 hc1
    refine lv_aload_n hx hb (xb_d D_M_rowsFit 66 rfl) rfl (lv_at hl 1 rfl) ?_
    refine lv_iload_n hx hb (xb_d D_M_rowsFit 67 rfl) rfl (lv_at hl 3 rfl) ?_
    refine lv_bipush (v := 9) hx hb (xb_d D_M_rowsFit 68 rfl) (by decide) ?_
    refine lv_icmp_ne (tgt := 128) hx hb (xb_d D_M_rowsFit 69 rfl) rfl (fun hc2 => ?_) (fun hc2 => ?_)
    · have hw := hw.1 hc2
      refine lv_bipush (v := 46) hx hb (xb_d D_M_rowsFit 72 rfl) (by decide) ?_
      exact am_M_rowsFit_L130 l hfl D A σ MC MS h0 Qr K28 hK28 x5 46 x0 h hw p e s m args below meth c hC H locs ls k n hE (lv_sub hl [6] rfl) hR hS (by omega) (by omega)
    · have hw := hw.2 hc2
      refine lv_bipush (v := 45) hx hb (xb_d D_M_rowsFit 70 rfl) (by decide) ?_
      refine lv_goto (tgt := 130) hx hb (xb_d D_M_rowsFit 71 rfl) rfl ?_
      exact am_M_rowsFit_L130 l hfl D A σ MC MS h0 Qr K28 hK28 x5 45 x0 h hw p e s m args below meth c hC H locs ls k n hE (lv_sub hl [6] rfl) hR hS (by omega) (by omega)

set_option maxHeartbeats 4000000 in
set_option maxRecDepth 100000 in
theorem am_M_rowsFit_L28 (l : Launch) (hfl : l.flags = pinnedFlags ++ [noTraceFlag]) (D : va_G) (A : Nat → Prop) (σ MC MS : Nat) (h0 : xb_H) (Qr : Int32 → xb_H → Prop) (n9 : Nat) : ∀ (x0 : Nat) (x1 : Int32) (x2 : Int32) (x3 : Int32) (x4 : Int32) (x5 : Int32) (h : xb_H), w_M_rowsFit_L28 Qr n9 x0 x1 x2 x3 x4 x5 h → xb_am l D A σ 10 MC MS h0 (fun v h _ _ => ∃ r, v = some (.int r) ∧ Qr r h) (fun _ _ _ _ => False) y_M_rowsFit.cls y_M_rowsFit.name b_M_rowsFit 12 ([] : List ExceptionTableEntry) (some .boolean) 28 [(0, .ref x0), (1, .int x1), (2, .int x2), (3, .int x3), (4, .int x4), (5, .int x5)] [] h 0 0 := by
  induction n9 with
  | zero => intro x0 x1 x2 x3 x4 x5 h hw; exact False.elim hw
  | succ n9 ih =>
    intro x0 x1 x2 x3 x4 x5 h hw
    unfold w_M_rowsFit_L28 at hw
    intro p e s m args below meth c hC H locs ls k n hE hl hR hS hk hn
    obtain ⟨hx, hb, hown, hlocks, htab, hml, hr, hB, hA, hnm⟩ := id hC
    have hts := hB.1.1.at args
    refine lv_iload hx hb (xb_d D_M_rowsFit 17 rfl) (lv_at hl 5 rfl) ?_
    refine lv_aload_n hx hb (xb_d D_M_rowsFit 18 rfl) rfl (lv_at hl 0 rfl) ?_
    refine lv_iload_n hx hb (xb_d D_M_rowsFit 19 rfl) rfl (lv_at hl 3 rfl) ?_
    refine lv_iload_n hx hb (xb_d D_M_rowsFit 20 rfl) rfl (lv_at hl 2 rfl) ?_
    obtain ⟨hk1, hw⟩ := hw
    refine xb_call0 (D := D) (A := A) (σ := σ) (h := h) (d := 2) (maxL := 3) (rest := [.int x5]) (av := [.ref x0, .int x3, .int x2]) (fun T hT X => by obtain ⟨cb9, ra9, rb9, rc9⟩ := xb_recv (ci := 8) hR rfl hk1 (by decide); exact xt_invV X hx hown (hts _ m_b47f62c2) (hts _ m_9f071faf) (hts _ m_e1bb5c84) (xt_sigOf (hts _ m_3a6212d6)) nm_M_manyOf (by rw [hT]; exact ra9) rb9 rc9 (g := F0 m 33 ls [.int x2, .int x3, .ref x0, .int x5]) rfl (argsL := [.int x3, .int x2]) (rest := [.int x5]) rfl rfl (by rw [hb]; exact (xb_d D_M_rowsFit 21 rfl))) (ok_M_manyOf l hfl D A σ x0 x3 x2 h _ hw) (hml.trans hl.1.symm) (by rw [hb]; exact (xb_d D_M_rowsFit 21 rfl)) (Nat.le_of_ble_eq_true rfl) (Nat.le_of_ble_eq_true rfl) (Nat.le_of_ble_eq_true rfl) (show k ≤ MC by omega) (show n ≤ MS by omega) (xt_w1 hB.1 m_3a6212d6) (xt_cdOf hB.1 m_3a6212d6) (hts _ m_d5ed7bed) hB hR hS hA (fun vv h2 H locs hq hEh2 hR hS => ?_)
    obtain ⟨r3, rfl, hw⟩ := hq
    have hw := hw hEh2
    have hE := hE.tr hEh2
    refine W.eq (g2 := F0 m 36 ls [.int r3, .int x5]) rfl ?_
    refine lv_icmp_ge (tgt := 144) hx hb (xb_d D_M_rowsFit 22 rfl) rfl (fun hc4 => ?_) (fun hc4 => ?_)
    · have hw := hw.1 hc4
      refine lv_iconst (v := 1) hx hb (xb_d D_M_rowsFit 80 rfl) (by decide) ?_
      exact xb_zret 0 0 hx hb hr hlocks (show k + 0 ≤ MC by omega) (show n + 0 ≤ MS by omega) (by decide) hE hR hS (xb_d D_M_rowsFit 81 rfl) hw
    · have hw := hw.2 hc4
      refine lv_aload_n hx hb (xb_d D_M_rowsFit 23 rfl) rfl (lv_at hl 0 rfl) ?_
      refine lv_iload_n hx hb (xb_d D_M_rowsFit 24 rfl) rfl (lv_at hl 3 rfl) ?_
      refine lv_aload_n hx hb (xb_d D_M_rowsFit 25 rfl) rfl (lv_at hl 0 rfl) ?_
      refine lv_iload_n hx hb (xb_d D_M_rowsFit 26 rfl) rfl (lv_at hl 3 rfl) ?_
      refine lv_iload_n hx hb (xb_d D_M_rowsFit 27 rfl) rfl (lv_at hl 2 rfl) ?_
      refine lv_iload hx hb (xb_d D_M_rowsFit 28 rfl) (lv_at hl 5 rfl) ?_
      have hk1 : xb_k h2 x0 = 9 := hEh2.k hk1
      refine xb_call0 (D := D) (A := A) (σ := σ) (h := h2) (d := 2) (maxL := 4) (rest := [.int x3, .ref x0]) (av := [.ref x0, .int x3, .int x2, .int x5]) (fun T hT X => by obtain ⟨cb9, ra9, rb9, rc9⟩ := xb_recv (ci := 8) hR rfl hk1 (by decide); exact xt_invV X hx hown (hts _ m_7f41753e) (hts _ m_8cdd7108) (hts _ m_e228318f) (xt_sigOf (hts _ m_89667ad5)) nm_M_placeOf (by rw [hT]; exact ra9) rb9 rc9 (g := F0 m 46 ls [.int x5, .int x2, .int x3, .ref x0, .int x3, .ref x0]) rfl (argsL := [.int x3, .int x2, .int x5]) (rest := [.int x3, .ref x0]) rfl rfl (by rw [hb]; exact (xb_d D_M_rowsFit 29 rfl))) (ok_M_placeOf l hfl D A σ x0 x3 x2 x5 h2 _ hw) (hml.trans hl.1.symm) (by rw [hb]; exact (xb_d D_M_rowsFit 29 rfl)) (Nat.le_of_ble_eq_true rfl) (Nat.le_of_ble_eq_true rfl) (Nat.le_of_ble_eq_true rfl) (show k ≤ MC by omega) (show n ≤ MS by omega) (xt_w1 hB.1 m_89667ad5) (xt_cdOf hB.1 m_89667ad5) (hts _ m_d5ed7bed) hB hR hS hA (fun vv h5 H locs hq hEh5 hR hS => ?_)
      obtain ⟨r6, rfl, hw⟩ := hq
      have hw := hw hEh5
      have hE := hE.tr hEh5
      refine W.eq (g2 := F0 m 49 ls [.int r6, .int x3, .ref x0]) rfl ?_
      have hk1 : xb_k h5 x0 = 9 := hEh5.k hk1
      refine xb_call0 (D := D) (A := A) (σ := σ) (h := h5) (d := 2) (maxL := 3) (rest := []) (av := [.ref x0, .int x3, .int r6]) (fun T hT X => by obtain ⟨cb9, ra9, rb9, rc9⟩ := xb_recv (ci := 8) hR rfl hk1 (by decide); exact xt_invV X hx hown (hts _ m_bb531879) (hts _ m_4a6cd4a0) (hts _ m_d1c31e3c) (xt_sigOf (hts _ m_48217fba)) nm_M_go (by rw [hT]; exact ra9) rb9 rc9 (g := F0 m 49 ls [.int r6, .int x3, .ref x0]) rfl (argsL := [.int x3, .int r6]) (rest := []) rfl rfl (by rw [hb]; exact (xb_d D_M_rowsFit 30 rfl))) (ok_M_go l hfl D A σ x0 x3 r6 h5 _ hw) (hml.trans hl.1.symm) (by rw [hb]; exact (xb_d D_M_rowsFit 30 rfl)) (Nat.le_of_ble_eq_true rfl) (Nat.le_of_ble_eq_true rfl) (Nat.le_of_ble_eq_true rfl) (show k ≤ MC by omega) (show n ≤ MS by omega) (xt_w1 hB.1 m_48217fba) (xt_cdOf hB.1 m_48217fba) (hts _ m_d5ed7bed) hB hR hS hA (fun vv h7 H locs hq hEh7 hR hS => ?_)
      obtain ⟨rfl, hw⟩ := hq
      have hw := hw hEh7
      have hE := hE.tr hEh7
      refine W.eq (g2 := F0 m 52 ls []) rfl ?_
      refine lv_aload_n hx hb (xb_d D_M_rowsFit 31 rfl) rfl (lv_at hl 0 rfl) ?_
      have hk1 : xb_k h7 x0 = 9 := hEh7.k hk1
      refine xb_call0 (D := D) (A := A) (σ := σ) (h := h7) (d := 4) (maxL := 5) (rest := []) (av := [.ref x0]) (fun T hT X => by obtain ⟨cb9, ra9, rb9, rc9⟩ := xb_recv (ci := 8) hR rfl hk1 (by decide); exact xt_invV X hx hown (hts _ m_e991293f) (hts _ m_385a74b3) (hts _ m_c9fbcd02) (xt_sigOf (hts _ m_1f53f210)) nm_M_count (by rw [hT]; exact ra9) rb9 rc9 (g := F0 m 53 ls [.ref x0]) rfl (argsL := []) (rest := []) rfl rfl (by rw [hb]; exact (xb_d D_M_rowsFit 32 rfl))) (ok_M_count l hfl D A σ x0 h7 _ hw) (hml.trans hl.1.symm) (by rw [hb]; exact (xb_d D_M_rowsFit 32 rfl)) (Nat.le_of_ble_eq_true rfl) (Nat.le_of_ble_eq_true rfl) (Nat.le_of_ble_eq_true rfl) (show k ≤ MC by omega) (show n ≤ MS by omega) (xt_w1 hB.1 m_1f53f210) (xt_cdOf hB.1 m_1f53f210) (hts _ m_d5ed7bed) hB hR hS hA (fun vv h9 H locs hq hEh9 hR hS => ?_)
      obtain ⟨r10, rfl, hw⟩ := hq
      have hw := hw hEh9
      have hE := hE.tr hEh9
      refine W.eq (g2 := F0 m 56 ls [.long r10]) rfl ?_
      refine lv_pop2_2 hx hb (xb_d D_M_rowsFit 33 rfl) rfl ?_
      refine lv_aload_n hx hb (xb_d D_M_rowsFit 34 rfl) rfl (lv_at hl 0 rfl) ?_
      refine lv_iload_n hx hb (xb_d D_M_rowsFit 35 rfl) rfl (lv_at hl 1 rfl) ?_
      have hk1 : xb_k h9 x0 = 9 := hEh9.k hk1
      refine xb_call0 (D := D) (A := A) (σ := σ) (h := h9) (d := 9) (maxL := 8) (rest := []) (av := [.ref x0, .int x1]) (fun T hT X => by obtain ⟨cb9, ra9, rb9, rc9⟩ := xb_recv (ci := 8) hR rfl hk1 (by decide); exact xt_invV X hx hown (hts _ m_3863d309) (hts _ m_06065df9) (hts _ m_e2bfe1f7) (xt_sigOf (hts _ m_426e00bf)) nm_M_constant (by rw [hT]; exact ra9) rb9 rc9 (g := F0 m 59 ls [.int x1, .ref x0]) rfl (argsL := [.int x1]) (rest := []) rfl rfl (by rw [hb]; exact (xb_d D_M_rowsFit 36 rfl))) (ok_M_constant l hfl D A σ x0 x1 h9 _ hw) (hml.trans hl.1.symm) (by rw [hb]; exact (xb_d D_M_rowsFit 36 rfl)) (Nat.le_of_ble_eq_true rfl) (Nat.le_of_ble_eq_true rfl) (Nat.le_of_ble_eq_true rfl) (show k ≤ MC by omega) (show n ≤ MS by omega) (xt_w1 hB.1 m_426e00bf) (xt_cdOf hB.1 m_426e00bf) (hts _ m_d5ed7bed) hB hR hS hA (fun vv h11 H locs hq hEh11 hR hS => ?_)
      obtain ⟨r12, rfl, hw⟩ := hq
      have hw := hw hEh11
      have hE := hE.tr hEh11
      refine W.eq (g2 := F0 m 62 ls [.long r12]) rfl ?_
      refine lv_ldc2 (v := 4294967295) hx hb hown (hts _ m_92d51c6a) (xb_d D_M_rowsFit 37 rfl) ?_
      refine lv_land hx hb (xb_d D_M_rowsFit 38 rfl) ?_
      obtain ⟨v13, ev13⟩ : ∃ x : Int64, x = (r12 &&& 4294967295) := ⟨_, rfl⟩
      have hw := hw v13 ev13
      refine xt_numl (y := v13) ev13.symm ?_
      refine lv_lstore hx hb (xb_d D_M_rowsFit 39 rfl) hl (by decide) rfl (fun ls hl => ?_)
      have hl : lv_has ls 12 [(6, .long v13), (0, .ref x0), (1, .int x1), (2, .int x2), (3, .int x3), (4, .int x4), (5, .int x5)] := hl
      refine lv_aload_n hx hb (xb_d D_M_rowsFit 40 rfl) rfl (lv_at hl 1 rfl) ?_
      have hk1 : xb_k h11 x0 = 9 := hEh11.k hk1
      refine xb_call0 (D := D) (A := A) (σ := σ) (h := h11) (d := 4) (maxL := 5) (rest := []) (av := [.ref x0]) (fun T hT X => by obtain ⟨cb9, ra9, rb9, rc9⟩ := xb_recv (ci := 8) hR rfl hk1 (by decide); exact xt_invV X hx hown (hts _ m_e991293f) (hts _ m_385a74b3) (hts _ m_c9fbcd02) (xt_sigOf (hts _ m_1f53f210)) nm_M_count (by rw [hT]; exact ra9) rb9 rc9 (g := F0 m 69 ls [.ref x0]) rfl (argsL := []) (rest := []) rfl rfl (by rw [hb]; exact (xb_d D_M_rowsFit 41 rfl))) (ok_M_count l hfl D A σ x0 h11 _ hw) (hml.trans hl.1.symm) (by rw [hb]; exact (xb_d D_M_rowsFit 41 rfl)) (Nat.le_of_ble_eq_true rfl) (Nat.le_of_ble_eq_true rfl) (Nat.le_of_ble_eq_true rfl) (show k ≤ MC by omega) (show n ≤ MS by omega) (xt_w1 hB.1 m_1f53f210) (xt_cdOf hB.1 m_1f53f210) (hts _ m_d5ed7bed) hB hR hS hA (fun vv h14 H locs hq hEh14 hR hS => ?_)
      obtain ⟨r15, rfl, hw⟩ := hq
      have hw := hw hEh14
      have hE := hE.tr hEh14
      refine W.eq (g2 := F0 m 72 ls [.long r15]) rfl ?_
      refine lv_lstore hx hb (xb_d D_M_rowsFit 42 rfl) hl (by decide) rfl (fun ls hl => ?_)
      have hl : lv_has ls 12 [(8, .long r15), (6, .long v13), (0, .ref x0), (1, .int x1), (2, .int x2), (3, .int x3), (4, .int x4), (5, .int x5)] := hl
      refine lv_iload_n hx hb (xb_d D_M_rowsFit 43 rfl) rfl (lv_at hl 4 rfl) ?_
      refine lv_bipush (v := 9) hx hb (xb_d D_M_rowsFit 44 rfl) (by decide) ?_
      refine lv_icmp_ne (tgt := 91) hx hb (xb_d D_M_rowsFit 45 rfl) rfl (fun hc16 => ?_) (fun hc16 => ?_)
      · have hw := hw.1 hc16
        refine lv_ldc2 (v := 65536) hx hb hown (hts _ m_4fda1f04) (xb_d D_M_rowsFit 52 rfl) ?_
        refine lv_aload_n hx hb (xb_d D_M_rowsFit 53 rfl) rfl (lv_at hl 2 rfl) ?_
        have hk1 : xb_k h14 x0 = 9 := hEh14.k hk1
        refine xb_getP (C := R_M) (T := F_M) (N := 97) hx hb 8 54 hts fin_M hown hR hk1 (by decide) rfl (by decide) rfl (hts _ m_605483d9) (fun _ h9 => h9) (xb_d D_M_rowsFit 54 rfl) ?_
        obtain ⟨b17, eb17, hw⟩ := hw
        refine xb_some eb17 ?_
        refine lv_iload hx hb (xb_d D_M_rowsFit 55 rfl) (lv_at hl 6 rfl) ?_
        obtain ⟨hk19, hw⟩ := hw
        obtain ⟨hi18, hw⟩ := hw
        refine xb_iald hx hb hR hk19 hi18 (xb_d D_M_rowsFit 56 rfl) ?_
        refine lv_i2l hx hb (xb_d D_M_rowsFit 57 rfl) rfl ?_
        refine lv_lmul hx hb (xb_d D_M_rowsFit 58 rfl) ?_
        exact am_M_rowsFit_L103 l hfl D A σ MC MS h0 Qr (w_M_rowsFit_L28 Qr n9) ih x0 x1 x2 x3 x4 x5 v13 r15 (65536 * (Int32.toInt64 (xb_i h14 b17 (Int32.toNatClampNeg x4)))) h14 hw p e s m args below meth c hC H locs ls k n hE (lv_sub hl [2, 3, 4, 5, 6, 7, 1, 0] rfl) hR hS (by omega) (by omega)
      · have hw := hw.2 hc16
        refine lv_aload_n hx hb (xb_d D_M_rowsFit 46 rfl) rfl (lv_at hl 2 rfl) ?_
        have hk1 : xb_k h14 x0 = 9 := hEh14.k hk1
        refine xb_getP (C := R_M) (T := F_M) (N := 97) hx hb 8 49 hts fin_M hown hR hk1 (by decide) rfl (by decide) rfl (hts _ m_0c329d74) (fun _ h9 => h9) (xb_d D_M_rowsFit 47 rfl) ?_
        obtain ⟨b20, eb20, hw⟩ := hw
        refine xb_some eb20 ?_
        refine lv_iload hx hb (xb_d D_M_rowsFit 48 rfl) (lv_at hl 6 rfl) ?_
        obtain ⟨hk22, hw⟩ := hw
        obtain ⟨hi21, hw⟩ := hw
        refine xb_iald hx hb hR hk22 hi21 (xb_d D_M_rowsFit 49 rfl) ?_
        refine lv_i2l hx hb (xb_d D_M_rowsFit 50 rfl) rfl ?_
        refine lv_goto (tgt := 103) hx hb (xb_d D_M_rowsFit 51 rfl) rfl ?_
        exact am_M_rowsFit_L103 l hfl D A σ MC MS h0 Qr (w_M_rowsFit_L28 Qr n9) ih x0 x1 x2 x3 x4 x5 v13 r15 (Int32.toInt64 (xb_i h14 b20 (Int32.toNatClampNeg x4))) h14 hw p e s m args below meth c hC H locs ls k n hE (lv_sub hl [2, 3, 4, 5, 6, 7, 1, 0] rfl) hR hS (by omega) (by omega)

set_option maxHeartbeats 4000000 in
set_option maxRecDepth 100000 in
theorem am_M_rowsFit_L20 (l : Launch) (hfl : l.flags = pinnedFlags ++ [noTraceFlag]) (D : va_G) (A : Nat → Prop) (σ MC MS : Nat) (h0 : xb_H) (Qr : Int32 → xb_H → Prop) (x0 : Nat) (x1 : Int32) (x2 : Int32) (x3 : Int32) (y0 : Int32) (y1 : Int32) (y2 : Nat) (h : xb_H) (hw : w_M_rowsFit_L20 Qr x0 x1 x2 x3 y0 y1 y2 h) : xb_am l D A σ 10 MC MS h0 (fun v h _ _ => ∃ r, v = some (.int r) ∧ Qr r h) (fun _ _ _ _ => False) y_M_rowsFit.cls y_M_rowsFit.name b_M_rowsFit 12 ([] : List ExceptionTableEntry) (some .boolean) 20 [(0, .ref x0), (1, .int x1), (2, .int x2), (3, .int x3)] [.int y0, .int y1, .ref y2] h 0 0 := by
  unfold w_M_rowsFit_L20 at hw
  intro p e s m args below meth c hC H locs ls k n hE hl hR hS hk hn
  obtain ⟨hx, hb, hown, hlocks, htab, hml, hr, hB, hA, hnm⟩ := id hC
  have hts := hB.1.1.at args
  obtain ⟨hk1, hw⟩ := hw
  refine xb_call0 (D := D) (A := A) (σ := σ) (h := h) (d := 9) (maxL := 3) (rest := []) (av := [.ref y2, .int y1, .int y0]) (fun T hT X => by obtain ⟨cb9, ra9, rb9, rc9⟩ := xb_recv (ci := 8) hR rfl hk1 (by decide); exact xt_invV X hx hown (hts _ m_392cec72) (hts _ m_982c4770) (hts _ m_e18e99cc) (xt_sigOf (hts _ m_3f9e55aa)) nm_M_only (by rw [hT]; exact ra9) rb9 rc9 (g := F0 m 20 ls [.int y0, .int y1, .ref y2]) rfl (argsL := [.int y1, .int y0]) (rest := []) rfl rfl (by rw [hb]; exact (xb_d D_M_rowsFit 13 rfl))) (ok_M_only l hfl D A σ y2 y1 y0 h _ hw) (hml.trans hl.1.symm) (by rw [hb]; exact (xb_d D_M_rowsFit 13 rfl)) (Nat.le_of_ble_eq_true rfl) (Nat.le_of_ble_eq_true rfl) (Nat.le_of_ble_eq_true rfl) (show k ≤ MC by omega) (show n ≤ MS by omega) (xt_w1 hB.1 m_3f9e55aa) (xt_cdOf hB.1 m_3f9e55aa) (hts _ m_d5ed7bed) hB hR hS hA (fun vv h2 H locs hq hEh2 hR hS => ?_)
  obtain ⟨r3, rfl, hw⟩ := hq
  have hw := hw hEh2
  have hE := hE.tr hEh2
  refine W.eq (g2 := F0 m 23 ls [.int r3]) rfl ?_
  refine lv_istore hx hb (xb_d D_M_rowsFit 14 rfl) hl (by decide) rfl (fun ls hl => ?_)
  have hl : lv_has ls 12 [(4, .int r3), (0, .ref x0), (1, .int x1), (2, .int x2), (3, .int x3)] := hl
  refine lv_iconst (v := 0) hx hb (xb_d D_M_rowsFit 15 rfl) (by decide) ?_
  refine lv_istore hx hb (xb_d D_M_rowsFit 16 rfl) hl (by decide) rfl (fun ls hl => ?_)
  have hl : lv_has ls 12 [(5, .int 0), (4, .int r3), (0, .ref x0), (1, .int x1), (2, .int x2), (3, .int x3)] := hl
  obtain ⟨n8, hw⟩ := hw
  exact am_M_rowsFit_L28 l hfl D A σ MC MS h0 Qr n8 x0 x1 x2 x3 r3 0 h2 hw p e s m args below meth c hC H locs ls k n hE (lv_sub hl [2, 3, 4, 5, 1, 0] rfl) hR hS (by omega) (by omega)

set_option maxHeartbeats 4000000 in
set_option maxRecDepth 100000 in
theorem ok_M_rowsFit (l : Launch) (hfl : l.flags = pinnedFlags ++ [noTraceFlag]) (D : va_G) (A : Nat → Prop) (σ : Nat) (x0 : Nat) (x1 : Int32) (x2 : Int32) (h : xb_H) (Qr : Int32 → xb_H → Prop) (hw : w_M_rowsFit x0 x1 x2 h Qr) : xb_Met l y_M_rowsFit [.code y_M_rowsFit b_M_rowsFit 12 (some .boolean)] (xb_rm 10 0 0) (xb_Pc D A σ h [.ref x0, .int x1, .int x2]) (xb_Qc D A h 0 0 (fun v h _ _ => ∃ r, v = some (.int r) ∧ Qr r h) (fun _ _ _ _ => False)) A := by
  refine xb_ofAm (cc := b_M_rowsFit) (by decide) (Nat.le_of_ble_eq_true rfl) ?_
  unfold w_M_rowsFit at hw
  show xb_am l D A σ 10 0 0 h (fun v h _ _ => ∃ r, v = some (.int r) ∧ Qr r h) (fun _ _ _ _ => False) y_M_rowsFit.cls y_M_rowsFit.name b_M_rowsFit 12 ([] : List ExceptionTableEntry) (some .boolean) 0 [(0, .ref x0), (1, .int x1), (2, .int x2)] [] h 0 0
  obtain ⟨MC, hMC⟩ : ∃ x, x = 0 := ⟨_, rfl⟩
  obtain ⟨MS, hMS⟩ : ∃ x, x = 0 := ⟨_, rfl⟩
  rw [show xb_am l D A σ 10 0 0 = xb_am l D A σ 10 MC MS by rw [hMC, hMS]]
  obtain ⟨h0, hh0⟩ : ∃ x, x = h := ⟨_, rfl⟩
  rw [show xb_am l D A σ 10 MC MS h = xb_am l D A σ 10 MC MS h0 by rw [hh0]]
  intro p e s m args below meth c hC H locs ls k n hE hl hR hS hk hn
  obtain ⟨hx, hb, hown, hlocks, htab, hml, hr, hB, hA, hnm⟩ := id hC
  have hts := hB.1.1.at args
  refine lv_aload_n hx hb (xb_d D_M_rowsFit 0 rfl) rfl (lv_at hl 0 rfl) ?_
  obtain ⟨hk1, hw⟩ := hw
  refine xb_getP (C := R_M) (T := F_M) (N := 97) hx hb 8 31 hts fin_M hown hR hk1 (by decide) rfl (by decide) rfl (hts _ m_691d5f47) (fun _ h9 => h9) (xb_d D_M_rowsFit 1 rfl) ?_
  obtain ⟨b2, eb2, hw⟩ := hw
  refine xb_some eb2 ?_
  refine lv_iload_n hx hb (xb_d D_M_rowsFit 2 rfl) rfl (lv_at hl 1 rfl) ?_
  obtain ⟨hk4, hw⟩ := hw
  obtain ⟨hi3, hw⟩ := hw
  refine xb_iald hx hb hR hk4 hi3 (xb_d D_M_rowsFit 3 rfl) ?_
  obtain ⟨v5, ev5⟩ : ∃ x : Int32, x = (xb_i h b2 (Int32.toNatClampNeg x1)) := ⟨_, rfl⟩
  have hw := hw v5 ev5
  refine xt_numi (y := v5) ev5.symm ?_
  refine lv_istore_n hx hb (xb_d D_M_rowsFit 4 rfl) rfl hl (by decide) rfl (fun ls hl => ?_)
  have hl : lv_has ls 12 [(3, .int v5), (0, .ref x0), (1, .int x1), (2, .int x2)] := hl
  refine lv_aload_n hx hb (xb_d D_M_rowsFit 5 rfl) rfl (lv_at hl 1 rfl) ?_
  refine lv_iload_n hx hb (xb_d D_M_rowsFit 6 rfl) rfl (lv_at hl 2 rfl) ?_
  refine lv_iload_n hx hb (xb_d D_M_rowsFit 7 rfl) rfl (lv_at hl 3 rfl) ?_
  refine lv_bipush (v := 9) hx hb (xb_d D_M_rowsFit 8 rfl) (by decide) ?_
  refine lv_icmp_ne (tgt := 19) hx hb (xb_d D_M_rowsFit 9 rfl) rfl (fun hc6 => ?_) (fun hc6 => ?_)
  · have hw := hw.1 hc6
    refine lv_iconst (v := 2) hx hb (xb_d D_M_rowsFit 12 rfl) (by decide) ?_
    exact am_M_rowsFit_L20 l hfl D A σ MC MS h0 Qr x0 x1 x2 v5 2 x1 x0 h hw p e s m args below meth c hC H locs ls k n hE (lv_sub hl [1, 2, 3, 0] rfl) hR hS (by omega) (by omega)
  · have hw := hw.2 hc6
    refine lv_iconst (v := 1) hx hb (xb_d D_M_rowsFit 10 rfl) (by decide) ?_
    refine lv_goto (tgt := 20) hx hb (xb_d D_M_rowsFit 11 rfl) rfl ?_
    exact am_M_rowsFit_L20 l hfl D A σ MC MS h0 Qr x0 x1 x2 v5 1 x1 x0 h hw p e s m args below meth c hC H locs ls k n hE (lv_sub hl [1, 2, 3, 0] rfl) hR hS (by omega) (by omega)

theorem m_12a710b0 : (.methodLink "StackHostModel" 301 y_M_sectionEntry : Cond) ∈ xt_tbl := xt_in (xt_t11 (List.mem_of_getElem? (i := 1) (by decide +kernel))) (by decide +kernel)
theorem m_78b54ea2 : (.instanceMethod y_M_sectionEntry : Cond) ∈ xt_tbl := xt_in (xt_t11 (List.mem_of_getElem? (i := 3) (by decide +kernel))) (by decide +kernel)
theorem m_4f7fb912 : (.selects "StackHostModel" y_M_sectionEntry y_M_sectionEntry : Cond) ∈ xt_tbl := xt_in (xt_v9 (q := (⟨"StackHostModel", "sectionEntry", "(I)V"⟩, 97)) (List.mem_of_getElem? (i := 10) (by decide +kernel))) (by decide +kernel)
theorem m_9f0ed6a8 : (.code y_M_sectionEntry b_M_sectionEntry 2 none : Cond) ∈ xt_tbl := xt_in (xt_t11 (List.mem_of_getElem? (i := 4) (by decide +kernel))) (by decide +kernel)
theorem nm_M_sectionEntry : xt_nm y_M_sectionEntry 1 := ⟨by decide +kernel, by decide +kernel⟩
set_option maxRecDepth 100000 in
def T_M_section : List (Nat × Instr × Nat) := [(0, .aload_n 0, 1), (1, .getfield 205, 3), (4, .istore_n 2, 1), (5, .iload_n 1, 1), (6, .ifCond .ne 29, 3), (9, .aload_n 0, 1), (10, .invokevirtual 293, 3), (13, .aload_n 0, 1), (14, .aload_n 0, 1), (15, .getfield 193, 3), (18, .ifCond .ne 7, 3), (21, .iload_n 2, 1), (22, .goto 7, 3), (25, .aload_n 0, 1), (26, .getfield 202, 3), (29, .putfield 202, 3), (32, .goto 59, 3), (35, .iload_n 1, 1), (36, .bipush 8, 2), (38, .if_icmp .ne 17, 3), (41, .aload_n 0, 1), (42, .bipush 8, 2), (44, .invokevirtual 278, 3), (47, .aload_n 0, 1), (48, .invokevirtual 218, 3), (51, .pop2, 1), (52, .goto 39, 3), (55, .aload_n 0, 1), (56, .invokevirtual 218, 3), (59, .lstore_n 3, 1), (60, .lconst 0, 1), (61, .lstore 5, 2), (63, .lload 5, 2), (65, .lload_n 3, 1), (66, .lcmp, 1), (67, .ifCond .ge 24, 3), (70, .aload_n 0, 1), (71, .getfield 193, 3), (74, .ifCond .ne 17, 3), (77, .aload_n 0, 1), (78, .iload_n 1, 1), (79, .invokevirtual 301, 3), (82, .lload 5, 2), (84, .lconst 1, 1), (85, .ladd, 1), (86, .lstore 5, 2), (88, .goto (-25), 3), (91, .aload_n 0, 1), (92, .getfield 193, 3), (95, .ifCond .ne 21, 3), (98, .aload_n 0, 1), (99, .getfield 202, 3), (102, .iload_n 2, 1), (103, .if_icmp .ge 13, 3), (106, .aload_n 0, 1), (107, .bipush 7, 2), (109, .aload_n 0, 1), (110, .getfield 202, 3), (113, .invokevirtual 208, 3), (116, .return_, 1)]
theorem D_M_section : ∀ q ∈ T_M_section, decode b_M_section q.1 = .ok (q.2.1, q.2.2) := by decide +kernel

set_option maxHeartbeats 4000000 in
set_option maxRecDepth 100000 in
theorem am_M_section_L116 (l : Launch) (hfl : l.flags = pinnedFlags ++ [noTraceFlag]) (D : va_G) (A : Nat → Prop) (σ MC MS : Nat) (h0 : xb_H) (Qr : xb_H → Nat → Nat → Prop) (h : xb_H) (bc : Nat) (bs : Nat) (hw : w_M_section_L116 Qr h bc bs) : xb_am l D A σ 10 MC MS h0 (fun v h bc bs => v = none ∧ Qr h bc bs) (fun _ _ _ _ => False) y_M_section.cls y_M_section.name b_M_section 7 ([] : List ExceptionTableEntry) none 116 [] [] h bc bs := by
  unfold w_M_section_L116 at hw
  intro p e s m args below meth c hC H locs ls k n hE hl hR hS hk hn
  obtain ⟨hx, hb, hown, hlocks, htab, hml, hr, hB, hA, hnm⟩ := id hC
  have hts := hB.1.1.at args
  exact xb_vret bc bs hx hb hr hlocks (show k + bc ≤ MC by omega) (show n + bs ≤ MS by omega) hE hR hS (xb_d D_M_section 59 rfl) hw

set_option maxHeartbeats 4000000 in
set_option maxRecDepth 100000 in
theorem am_M_section_L91 (l : Launch) (hfl : l.flags = pinnedFlags ++ [noTraceFlag]) (D : va_G) (A : Nat → Prop) (σ MC MS : Nat) (h0 : xb_H) (Qr : xb_H → Nat → Nat → Prop) (x0 : Nat) (x2 : Int32) (h : xb_H) (bc : Nat) (bs : Nat) (hw : w_M_section_L91 Qr x0 x2 h bc bs) : xb_am l D A σ 10 MC MS h0 (fun v h bc bs => v = none ∧ Qr h bc bs) (fun _ _ _ _ => False) y_M_section.cls y_M_section.name b_M_section 7 ([] : List ExceptionTableEntry) none 91 [(0, .ref x0), (2, .int x2)] [] h bc bs := by
  unfold w_M_section_L91 at hw
  intro p e s m args below meth c hC H locs ls k n hE hl hR hS hk hn
  obtain ⟨hx, hb, hown, hlocks, htab, hml, hr, hB, hA, hnm⟩ := id hC
  have hts := hB.1.1.at args
  refine lv_aload_n hx hb (xb_d D_M_section 47 rfl) rfl (lv_at hl 0 rfl) ?_
  obtain ⟨hk1, hw⟩ := hw
  refine xb_getI (C := R_M) (T := F_M) (N := 97) hx hb 8 17 hts fin_M hown hR hk1 (by decide) rfl (by decide) rfl (hts _ m_ff69da61) (fun _ h9 => h9) (xb_d D_M_section 48 rfl) ?_
  refine lv_if_ne (tgt := 116) hx hb (xb_d D_M_section 49 rfl) rfl (fun hc2 => ?_) (fun hc2 => ?_)
  · have hw := hw.1 hc2
    exact am_M_section_L116 l hfl D A σ MC MS h0 Qr h bc bs hw p e s m args below meth c hC H locs ls k n hE (lv_sub hl [] rfl) hR hS (by omega) (by omega)
  · have hw := hw.2 hc2
    refine lv_aload_n hx hb (xb_d D_M_section 50 rfl) rfl (lv_at hl 0 rfl) ?_
    refine xb_getI (C := R_M) (T := F_M) (N := 97) hx hb 8 15 hts fin_M hown hR hk1 (by decide) rfl (by decide) rfl (hts _ m_6c2d27ad) (fun _ h9 => h9) (xb_d D_M_section 51 rfl) ?_
    refine lv_iload_n hx hb (xb_d D_M_section 52 rfl) rfl (lv_at hl 1 rfl) ?_
    refine lv_icmp_ge (tgt := 116) hx hb (xb_d D_M_section 53 rfl) rfl (fun hc3 => ?_) (fun hc3 => ?_)
    · have hw := hw.1 hc3
      exact am_M_section_L116 l hfl D A σ MC MS h0 Qr h bc bs hw p e s m args below meth c hC H locs ls k n hE (lv_sub hl [] rfl) hR hS (by omega) (by omega)
    · have hw := hw.2 hc3
      refine lv_aload_n hx hb (xb_d D_M_section 54 rfl) rfl (lv_at hl 0 rfl) ?_
      refine lv_bipush (v := 7) hx hb (xb_d D_M_section 55 rfl) (by decide) ?_
      refine lv_aload_n hx hb (xb_d D_M_section 56 rfl) rfl (lv_at hl 0 rfl) ?_
      refine xb_getI (C := R_M) (T := F_M) (N := 97) hx hb 8 15 hts fin_M hown hR hk1 (by decide) rfl (by decide) rfl (hts _ m_6c2d27ad) (fun _ h9 => h9) (xb_d D_M_section 57 rfl) ?_
      refine xb_call0 (D := D) (A := A) (σ := σ) (h := h) (d := 2) (maxL := 3) (rest := []) (av := [.ref x0, .int 7, .int (xb_i h x0 15)]) (fun T hT X => by obtain ⟨cb9, ra9, rb9, rc9⟩ := xb_recv (ci := 8) hR rfl hk1 (by decide); exact xt_invV X hx hown (hts _ m_939052ad) (hts _ m_29cc8c73) (hts _ m_3b1ac7ab) (xt_sigOf (hts _ m_8f062ecd)) nm_M_fail (by rw [hT]; exact ra9) rb9 rc9 (g := F0 m 113 ls [.int (xb_i h x0 15), .int 7, .ref x0]) rfl (argsL := [.int 7, .int (xb_i h x0 15)]) (rest := []) rfl rfl (by rw [hb]; exact (xb_d D_M_section 58 rfl))) (ok_M_fail l hfl D A σ x0 7 (xb_i h x0 15) h _ hw) (hml.trans hl.1.symm) (by rw [hb]; exact (xb_d D_M_section 58 rfl)) (Nat.le_of_ble_eq_true rfl) (Nat.le_of_ble_eq_true rfl) (Nat.le_of_ble_eq_true rfl) (show k ≤ MC by omega) (show n ≤ MS by omega) (xt_w1 hB.1 m_8f062ecd) (xt_cdOf hB.1 m_8f062ecd) (hts _ m_d5ed7bed) hB hR hS hA (fun vv h4 H locs hq hEh4 hR hS => ?_)
      obtain ⟨rfl, hw⟩ := hq
      have hw := hw hEh4
      have hE := hE.tr hEh4
      refine W.eq (g2 := F0 m 116 ls []) rfl ?_
      exact am_M_section_L116 l hfl D A σ MC MS h0 Qr h4 bc bs hw p e s m args below meth c hC H locs ls k n hE (lv_sub hl [] rfl) hR hS (by omega) (by omega)

set_option maxHeartbeats 4000000 in
set_option maxRecDepth 100000 in
theorem am_M_section_L63 (l : Launch) (hfl : l.flags = pinnedFlags ++ [noTraceFlag]) (D : va_G) (A : Nat → Prop) (σ MC MS : Nat) (h0 : xb_H) (Qr : xb_H → Nat → Nat → Prop) (n9 : Nat) : ∀ (x0 : Nat) (x1 : Int32) (x2 : Int32) (x3 : Int64) (x5 : Int64) (h : xb_H) (bc : Nat) (bs : Nat), w_M_section_L63 Qr n9 x0 x1 x2 x3 x5 h bc bs → xb_am l D A σ 10 MC MS h0 (fun v h bc bs => v = none ∧ Qr h bc bs) (fun _ _ _ _ => False) y_M_section.cls y_M_section.name b_M_section 7 ([] : List ExceptionTableEntry) none 63 [(0, .ref x0), (1, .int x1), (2, .int x2), (3, .long x3), (5, .long x5)] [] h bc bs := by
  induction n9 with
  | zero => intro x0 x1 x2 x3 x5 h bc bs hw; exact False.elim hw
  | succ n9 ih =>
    intro x0 x1 x2 x3 x5 h bc bs hw
    unfold w_M_section_L63 at hw
    intro p e s m args below meth c hC H locs ls k n hE hl hR hS hk hn
    obtain ⟨hx, hb, hown, hlocks, htab, hml, hr, hB, hA, hnm⟩ := id hC
    have hts := hB.1.1.at args
    refine lv_lload hx hb (xb_d D_M_section 32 rfl) (lv_at hl 4 rfl) ?_
    refine lv_lload_n hx hb (xb_d D_M_section 33 rfl) rfl (lv_at hl 3 rfl) ?_
    refine xb_lc_ge (tgt := 91) hx hb (xb_d D_M_section 34 rfl) (xb_d D_M_section 35 rfl) rfl (fun hc1 => ?_) (fun hc1 => ?_)
    · have hw := hw.1 hc1
      exact am_M_section_L91 l hfl D A σ MC MS h0 Qr x0 x2 h bc bs hw p e s m args below meth c hC H locs ls k n hE (lv_sub hl [0, 2] rfl) hR hS (by omega) (by omega)
    · have hw := hw.2 hc1
      refine lv_aload_n hx hb (xb_d D_M_section 36 rfl) rfl (lv_at hl 0 rfl) ?_
      obtain ⟨hk2, hw⟩ := hw
      refine xb_getI (C := R_M) (T := F_M) (N := 97) hx hb 8 17 hts fin_M hown hR hk2 (by decide) rfl (by decide) rfl (hts _ m_ff69da61) (fun _ h9 => h9) (xb_d D_M_section 37 rfl) ?_
      refine lv_if_ne (tgt := 91) hx hb (xb_d D_M_section 38 rfl) rfl (fun hc3 => ?_) (fun hc3 => ?_)
      · have hw := hw.1 hc3
        exact am_M_section_L91 l hfl D A σ MC MS h0 Qr x0 x2 h bc bs hw p e s m args below meth c hC H locs ls k n hE (lv_sub hl [0, 2] rfl) hR hS (by omega) (by omega)
      · have hw := hw.2 hc3
        refine lv_aload_n hx hb (xb_d D_M_section 39 rfl) rfl (lv_at hl 0 rfl) ?_
        refine lv_iload_n hx hb (xb_d D_M_section 40 rfl) rfl (lv_at hl 1 rfl) ?_
        refine xb_call (D := D) (A := A) (σ := σ) (h := h) (d := 9) (mc := bc) (ms := bs) (maxL := 2) (rest := []) (av := [.ref x0, .int x1]) (fun T hT X => by obtain ⟨cb9, ra9, rb9, rc9⟩ := xb_recv (ci := 8) hR rfl hk2 (by decide); exact xt_invV X hx hown (hts _ m_12a710b0) (hts _ m_78b54ea2) (hts _ m_4f7fb912) (xt_sigOf (hts _ m_9f0ed6a8)) nm_M_sectionEntry (by rw [hT]; exact ra9) rb9 rc9 (g := F0 m 79 ls [.int x1, .ref x0]) rfl (argsL := [.int x1]) (rest := []) rfl rfl (by rw [hb]; exact (xb_d D_M_section 41 rfl))) (ok_M_sectionEntry l hfl D A σ x0 x1 h bc bs _ hw) (hml.trans hl.1.symm) (by rw [hb]; exact (xb_d D_M_section 41 rfl)) (Nat.le_of_ble_eq_true rfl) (Nat.le_of_ble_eq_true rfl) (Nat.le_of_ble_eq_true rfl) (show k + bc ≤ MC by omega) (show n + bs ≤ MS by omega) (xt_w1 hB.1 m_9f0ed6a8) (xt_cdOf hB.1 m_9f0ed6a8) (hts _ m_d5ed7bed) hB hR hS hA (fun vv h4 bc5 bs5 kk5 nn5 H locs hk5 hn5 hq hEh4 hR hS => ?_) (fun XX ax h4 bc5 bs5 kk5 nn5 H locs hk5 hn5 hq hEh4 hex hR hS => ?_)
        · obtain ⟨rfl, hw⟩ := hq
          have hw := hw hEh4
          have hE := hE.tr hEh4
          refine W.eq (g2 := F0 m 82 ls []) rfl ?_
          refine lv_lload hx hb (xb_d D_M_section 42 rfl) (lv_at hl 4 rfl) ?_
          refine lv_lconst (v := 1) hx hb (xb_d D_M_section 43 rfl) (by decide) ?_
          refine lv_ladd hx hb (xb_d D_M_section 44 rfl) ?_
          obtain ⟨v6, ev6⟩ : ∃ x : Int64, x = (x5 + 1) := ⟨_, rfl⟩
          have hw := hw v6 ev6
          refine xt_numl (y := v6) ev6.symm ?_
          refine lv_lstore hx hb (xb_d D_M_section 45 rfl) hl (by decide) rfl (fun ls hl => ?_)
          have hl : lv_has ls 7 [(5, .long v6), (0, .ref x0), (1, .int x1), (2, .int x2), (3, .long x3)] := hl
          refine lv_goto (tgt := 63) hx hb (xb_d D_M_section 46 rfl) rfl ?_
          exact ih x0 x1 x2 x3 v6 h4 bc5 bs5 hw p e s m args below meth c hC H locs ls (k + kk5) (n + nn5) hE (lv_sub hl [1, 2, 3, 4, 0] rfl) hR hS (by omega) (by omega)
        · exact False.elim hq

set_option maxHeartbeats 4000000 in
set_option maxRecDepth 100000 in
theorem am_M_section_L29 (l : Launch) (hfl : l.flags = pinnedFlags ++ [noTraceFlag]) (D : va_G) (A : Nat → Prop) (σ MC MS : Nat) (h0 : xb_H) (Qr : xb_H → Nat → Nat → Prop) (x0 : Nat) (x2 : Int32) (y0 : Int32) (y1 : Nat) (h : xb_H) (bc : Nat) (bs : Nat) (hw : w_M_section_L29 Qr x0 x2 y0 y1 h bc bs) : xb_am l D A σ 10 MC MS h0 (fun v h bc bs => v = none ∧ Qr h bc bs) (fun _ _ _ _ => False) y_M_section.cls y_M_section.name b_M_section 7 ([] : List ExceptionTableEntry) none 29 [(0, .ref x0), (2, .int x2)] [.int y0, .ref y1] h bc bs := by
  unfold w_M_section_L29 at hw
  intro p e s m args below meth c hC H locs ls k n hE hl hR hS hk hn
  obtain ⟨hx, hb, hown, hlocks, htab, hml, hr, hB, hA, hnm⟩ := id hC
  have hts := hB.1.1.at args
  obtain ⟨hk1, hw⟩ := hw
  refine xb_putI (C := R_M) (T := F_M) (N := 97) (ty := .int) (x := y0) hx hb 8 15 hts fin_M t_M t_M_ok n_M hown hR hS hk1 (by decide) rfl (by decide) rfl (hts _ m_6c2d27ad) (fun _ h9 => h9) rfl (by decide +kernel) rfl rfl (xb_d D_M_section 15 rfl) (fun H locs hR hS => ?_)
  obtain ⟨h2, eh2⟩ : ∃ x : xb_H, x = xb_I h y1 15 y0 := ⟨_, rfl⟩
  rw [← eh2] at hR
  have hw := hw h2 eh2
  have hE : xb_ext h0 h2 := by rw [eh2]; exact hE
  refine lv_goto (tgt := 91) hx hb (xb_d D_M_section 16 rfl) rfl ?_
  exact am_M_section_L91 l hfl D A σ MC MS h0 Qr x0 x2 h2 bc bs hw p e s m args below meth c hC H locs ls k n hE (lv_sub hl [0, 1] rfl) hR hS (by omega) (by omega)

set_option maxHeartbeats 4000000 in
set_option maxRecDepth 100000 in
theorem ok_M_section (l : Launch) (hfl : l.flags = pinnedFlags ++ [noTraceFlag]) (D : va_G) (A : Nat → Prop) (σ : Nat) (x0 : Nat) (x1 : Int32) (h : xb_H) (bc : Nat) (bs : Nat) (Qr : xb_H → Nat → Nat → Prop) (hw : w_M_section x0 x1 h bc bs Qr) : xb_Met l y_M_section [.code y_M_section b_M_section 7 none] (xb_rm 10 bc bs) (xb_Pc D A σ h [.ref x0, .int x1]) (xb_Qc D A h bc bs (fun v h bc bs => v = none ∧ Qr h bc bs) (fun _ _ _ _ => False)) A := by
  refine xb_ofAm (cc := b_M_section) (by decide) (Nat.le_of_ble_eq_true rfl) ?_
  unfold w_M_section at hw
  show xb_am l D A σ 10 bc bs h (fun v h bc bs => v = none ∧ Qr h bc bs) (fun _ _ _ _ => False) y_M_section.cls y_M_section.name b_M_section 7 ([] : List ExceptionTableEntry) none 0 [(0, .ref x0), (1, .int x1)] [] h bc bs
  obtain ⟨MC, hMC⟩ : ∃ x, x = bc := ⟨_, rfl⟩
  obtain ⟨MS, hMS⟩ : ∃ x, x = bs := ⟨_, rfl⟩
  rw [show xb_am l D A σ 10 bc bs = xb_am l D A σ 10 MC MS by rw [hMC, hMS]]
  obtain ⟨h0, hh0⟩ : ∃ x, x = h := ⟨_, rfl⟩
  rw [show xb_am l D A σ 10 MC MS h = xb_am l D A σ 10 MC MS h0 by rw [hh0]]
  intro p e s m args below meth c hC H locs ls k n hE hl hR hS hk hn
  obtain ⟨hx, hb, hown, hlocks, htab, hml, hr, hB, hA, hnm⟩ := id hC
  have hts := hB.1.1.at args
  refine lv_aload_n hx hb (xb_d D_M_section 0 rfl) rfl (lv_at hl 0 rfl) ?_
  obtain ⟨hk1, hw⟩ := hw
  refine xb_getI (C := R_M) (T := F_M) (N := 97) hx hb 8 16 hts fin_M hown hR hk1 (by decide) rfl (by decide) rfl (hts _ m_48124c81) (fun _ h9 => h9) (xb_d D_M_section 1 rfl) ?_
  obtain ⟨v2, ev2⟩ : ∃ x : Int32, x = (xb_i h x0 16) := ⟨_, rfl⟩
  have hw := hw v2 ev2
  refine xt_numi (y := v2) ev2.symm ?_
  refine lv_istore_n hx hb (xb_d D_M_section 2 rfl) rfl hl (by decide) rfl (fun ls hl => ?_)
  have hl : lv_has ls 7 [(2, .int v2), (0, .ref x0), (1, .int x1)] := hl
  refine lv_iload_n hx hb (xb_d D_M_section 3 rfl) rfl (lv_at hl 2 rfl) ?_
  refine lv_if_ne (tgt := 35) hx hb (xb_d D_M_section 4 rfl) rfl (fun hc3 => ?_) (fun hc3 => ?_)
  · have hw := hw.1 hc3
    refine lv_iload_n hx hb (xb_d D_M_section 17 rfl) rfl (lv_at hl 2 rfl) ?_
    refine lv_bipush (v := 8) hx hb (xb_d D_M_section 18 rfl) (by decide) ?_
    refine lv_icmp_ne (tgt := 55) hx hb (xb_d D_M_section 19 rfl) rfl (fun hc4 => ?_) (fun hc4 => ?_)
    · have hw := hw.1 hc4
      refine lv_aload_n hx hb (xb_d D_M_section 27 rfl) rfl (lv_at hl 1 rfl) ?_
      refine xb_call0 (D := D) (A := A) (σ := σ) (h := h) (d := 4) (maxL := 5) (rest := []) (av := [.ref x0]) (fun T hT X => by obtain ⟨cb9, ra9, rb9, rc9⟩ := xb_recv (ci := 8) hR rfl hk1 (by decide); exact xt_invV X hx hown (hts _ m_e991293f) (hts _ m_385a74b3) (hts _ m_c9fbcd02) (xt_sigOf (hts _ m_1f53f210)) nm_M_count (by rw [hT]; exact ra9) rb9 rc9 (g := F0 m 56 ls [.ref x0]) rfl (argsL := []) (rest := []) rfl rfl (by rw [hb]; exact (xb_d D_M_section 28 rfl))) (ok_M_count l hfl D A σ x0 h _ hw) (hml.trans hl.1.symm) (by rw [hb]; exact (xb_d D_M_section 28 rfl)) (Nat.le_of_ble_eq_true rfl) (Nat.le_of_ble_eq_true rfl) (Nat.le_of_ble_eq_true rfl) (show k ≤ MC by omega) (show n ≤ MS by omega) (xt_w1 hB.1 m_1f53f210) (xt_cdOf hB.1 m_1f53f210) (hts _ m_d5ed7bed) hB hR hS hA (fun vv h5 H locs hq hEh5 hR hS => ?_)
      obtain ⟨r6, rfl, hw⟩ := hq
      have hw := hw hEh5
      have hE := hE.tr hEh5
      refine W.eq (g2 := F0 m 59 ls [.long r6]) rfl ?_
      refine lv_lstore_n hx hb (xb_d D_M_section 29 rfl) rfl hl (by decide) rfl (fun ls hl => ?_)
      have hl : lv_has ls 7 [(3, .long r6), (2, .int v2), (0, .ref x0), (1, .int x1)] := hl
      refine lv_lconst (v := 0) hx hb (xb_d D_M_section 30 rfl) (by decide) ?_
      refine lv_lstore hx hb (xb_d D_M_section 31 rfl) hl (by decide) rfl (fun ls hl => ?_)
      have hl : lv_has ls 7 [(5, .long 0), (3, .long r6), (2, .int v2), (0, .ref x0), (1, .int x1)] := hl
      obtain ⟨n8, hw⟩ := hw
      exact am_M_section_L63 l hfl D A σ MC MS h0 Qr n8 x0 x1 v2 r6 0 h5 bc bs hw p e s m args below meth c hC H locs ls k n hE (lv_sub hl [3, 4, 2, 1, 0] rfl) hR hS (by omega) (by omega)
    · have hw := hw.2 hc4
      refine lv_aload_n hx hb (xb_d D_M_section 20 rfl) rfl (lv_at hl 1 rfl) ?_
      refine lv_bipush (v := 8) hx hb (xb_d D_M_section 21 rfl) (by decide) ?_
      refine xb_call (D := D) (A := A) (σ := σ) (h := h) (d := 2) (mc := bc) (ms := bs) (maxL := 5) (rest := []) (av := [.ref x0, .int 8]) (fun T hT X => by obtain ⟨cb9, ra9, rb9, rc9⟩ := xb_recv (ci := 8) hR rfl hk1 (by decide); exact xt_invV X hx hown (hts _ m_35d7e567) (hts _ m_b3ce2bdc) (hts _ m_b2673fc8) (xt_sigOf (hts _ m_1dbf8488)) nm_M_note (by rw [hT]; exact ra9) rb9 rc9 (g := F0 m 44 ls [.int 8, .ref x0]) rfl (argsL := [.int 8]) (rest := []) rfl rfl (by rw [hb]; exact (xb_d D_M_section 22 rfl))) (ok_M_note l hfl D A σ x0 8 h bc bs _ hw) (hml.trans hl.1.symm) (by rw [hb]; exact (xb_d D_M_section 22 rfl)) (Nat.le_of_ble_eq_true rfl) (Nat.le_of_ble_eq_true rfl) (Nat.le_of_ble_eq_true rfl) (show k + bc ≤ MC by omega) (show n + bs ≤ MS by omega) (xt_w1 hB.1 m_1dbf8488) (xt_cdOf hB.1 m_1dbf8488) (hts _ m_d5ed7bed) hB hR hS hA (fun vv h7 bc8 bs8 kk8 nn8 H locs hk8 hn8 hq hEh7 hR hS => ?_) (fun XX ax h7 bc8 bs8 kk8 nn8 H locs hk8 hn8 hq hEh7 hex hR hS => ?_)
      · obtain ⟨rfl, hw⟩ := hq
        have hw := hw hEh7
        have hE := hE.tr hEh7
        refine W.eq (g2 := F0 m 47 ls []) rfl ?_
        refine lv_aload_n hx hb (xb_d D_M_section 23 rfl) rfl (lv_at hl 1 rfl) ?_
        have hk1 : xb_k h7 x0 = 9 := hEh7.k hk1
        refine xb_call0 (D := D) (A := A) (σ := σ) (h := h7) (d := 4) (maxL := 5) (rest := []) (av := [.ref x0]) (fun T hT X => by obtain ⟨cb9, ra9, rb9, rc9⟩ := xb_recv (ci := 8) hR rfl hk1 (by decide); exact xt_invV X hx hown (hts _ m_e991293f) (hts _ m_385a74b3) (hts _ m_c9fbcd02) (xt_sigOf (hts _ m_1f53f210)) nm_M_count (by rw [hT]; exact ra9) rb9 rc9 (g := F0 m 48 ls [.ref x0]) rfl (argsL := []) (rest := []) rfl rfl (by rw [hb]; exact (xb_d D_M_section 24 rfl))) (ok_M_count l hfl D A σ x0 h7 _ hw) (hml.trans hl.1.symm) (by rw [hb]; exact (xb_d D_M_section 24 rfl)) (Nat.le_of_ble_eq_true rfl) (Nat.le_of_ble_eq_true rfl) (Nat.le_of_ble_eq_true rfl) (show (k + kk8) ≤ MC by omega) (show (n + nn8) ≤ MS by omega) (xt_w1 hB.1 m_1f53f210) (xt_cdOf hB.1 m_1f53f210) (hts _ m_d5ed7bed) hB hR hS hA (fun vv h9 H locs hq hEh9 hR hS => ?_)
        obtain ⟨r10, rfl, hw⟩ := hq
        have hw := hw hEh9
        have hE := hE.tr hEh9
        refine W.eq (g2 := F0 m 51 ls [.long r10]) rfl ?_
        refine lv_pop2_2 hx hb (xb_d D_M_section 25 rfl) rfl ?_
        refine lv_goto (tgt := 91) hx hb (xb_d D_M_section 26 rfl) rfl ?_
        exact am_M_section_L91 l hfl D A σ MC MS h0 Qr x0 v2 h9 bc8 bs8 hw p e s m args below meth c hC H locs ls (k + kk8) (n + nn8) hE (lv_sub hl [1, 0] rfl) hR hS (by omega) (by omega)
      · exact False.elim hq
  · have hw := hw.2 hc3
    refine lv_aload_n hx hb (xb_d D_M_section 5 rfl) rfl (lv_at hl 1 rfl) ?_
    refine xb_call0 (D := D) (A := A) (σ := σ) (h := h) (d := 5) (maxL := 5) (rest := []) (av := [.ref x0]) (fun T hT X => by obtain ⟨cb9, ra9, rb9, rc9⟩ := xb_recv (ci := 8) hR rfl hk1 (by decide); exact xt_invV X hx hown (hts _ m_32411888) (hts _ m_1909bcad) (hts _ m_471efb70) (xt_sigOf (hts _ m_06b9cb5d)) nm_M_name0 (by rw [hT]; exact ra9) rb9 rc9 (g := F0 m 10 ls [.ref x0]) rfl (argsL := []) (rest := []) rfl rfl (by rw [hb]; exact (xb_d D_M_section 6 rfl))) (ok_M_name0 l hfl D A σ x0 h _ hw) (hml.trans hl.1.symm) (by rw [hb]; exact (xb_d D_M_section 6 rfl)) (Nat.le_of_ble_eq_true rfl) (Nat.le_of_ble_eq_true rfl) (Nat.le_of_ble_eq_true rfl) (show k ≤ MC by omega) (show n ≤ MS by omega) (xt_w1 hB.1 m_06b9cb5d) (xt_cdOf hB.1 m_06b9cb5d) (hts _ m_d5ed7bed) hB hR hS hA (fun vv h11 H locs hq hEh11 hR hS => ?_)
    obtain ⟨rfl, hw⟩ := hq
    have hw := hw hEh11
    have hE := hE.tr hEh11
    refine W.eq (g2 := F0 m 13 ls []) rfl ?_
    refine lv_aload_n hx hb (xb_d D_M_section 7 rfl) rfl (lv_at hl 1 rfl) ?_
    refine lv_aload_n hx hb (xb_d D_M_section 8 rfl) rfl (lv_at hl 1 rfl) ?_
    have hk1 : xb_k h11 x0 = 9 := hEh11.k hk1
    refine xb_getI (C := R_M) (T := F_M) (N := 97) hx hb 8 17 hts fin_M hown hR hk1 (by decide) rfl (by decide) rfl (hts _ m_ff69da61) (fun _ h9 => h9) (xb_d D_M_section 9 rfl) ?_
    refine lv_if_ne (tgt := 25) hx hb (xb_d D_M_section 10 rfl) rfl (fun hc13 => ?_) (fun hc13 => ?_)
    · have hw := hw.1 hc13
      refine lv_aload_n hx hb (xb_d D_M_section 13 rfl) rfl (lv_at hl 1 rfl) ?_
      refine xb_getI (C := R_M) (T := F_M) (N := 97) hx hb 8 15 hts fin_M hown hR hk1 (by decide) rfl (by decide) rfl (hts _ m_6c2d27ad) (fun _ h9 => h9) (xb_d D_M_section 14 rfl) ?_
      exact am_M_section_L29 l hfl D A σ MC MS h0 Qr x0 v2 (xb_i h11 x0 15) x0 h11 bc bs hw p e s m args below meth c hC H locs ls k n hE (lv_sub hl [1, 0] rfl) hR hS (by omega) (by omega)
    · have hw := hw.2 hc13
      refine lv_iload_n hx hb (xb_d D_M_section 11 rfl) rfl (lv_at hl 0 rfl) ?_
      refine lv_goto (tgt := 29) hx hb (xb_d D_M_section 12 rfl) rfl ?_
      exact am_M_section_L29 l hfl D A σ MC MS h0 Qr x0 v2 v2 x0 h11 bc bs hw p e s m args below meth c hC H locs ls k n hE (lv_sub hl [1, 0] rfl) hR hS (by omega) (by omega)

set_option maxRecDepth 100000 in
def T_M_writeRows : List (Nat × Instr × Nat) := [(0, .aload_n 0, 1), (1, .getfield 62, 3), (4, .iload_n 1, 1), (5, .iaload, 1), (6, .istore_n 2, 1), (7, .iconst 0, 1), (8, .istore_n 3, 1), (9, .iload_n 3, 1), (10, .aload_n 0, 1), (11, .iload_n 2, 1), (12, .bipush 9, 2), (14, .invokevirtual 316, 3), (17, .if_icmp .ge 130, 3), (20, .aload_n 0, 1), (21, .iload_n 1, 1), (22, .iconst 1, 1), (23, .invokevirtual 522, 3), (26, .istore 4, 2), (28, .aload_n 0, 1), (29, .iload_n 2, 1), (30, .aload_n 0, 1), (31, .iload_n 2, 1), (32, .bipush 9, 2), (34, .iload_n 3, 1), (35, .invokevirtual 320, 3), (38, .invokevirtual 324, 3), (41, .aload_n 0, 1), (42, .invokevirtual 218, 3), (45, .pop2, 1), (46, .aload_n 0, 1), (47, .iload_n 1, 1), (48, .invokevirtual 525, 3), (51, .ldc2_w 517, 3), (54, .land, 1), (55, .lstore 5, 2), (57, .aload_n 0, 1), (58, .invokevirtual 218, 3), (61, .lstore 7, 2), (63, .lconst 0, 1), (64, .lstore 9, 2), (66, .lload 9, 2), (68, .lload 7, 2), (70, .lcmp, 1), (71, .ifCond .ge 70, 3), (74, .aload_n 0, 1), (75, .iload_n 2, 1), (76, .aload_n 0, 1), (77, .getfield 202, 3), (80, .invokevirtual 324, 3), (83, .aload_n 0, 1), (84, .invokevirtual 218, 3), (87, .l2i, 1), (88, .istore 11, 2), (90, .aload_n 0, 1), (91, .getfield 202, 3), (94, .istore 12, 2), (96, .aload_n 0, 1), (97, .getfield 108, 3), (100, .aload_n 0, 1), (101, .getfield 98, 3), (104, .iload 4, 2), (106, .iaload, 1), (107, .lload 5, 2), (109, .lload 9, 2), (111, .ladd, 1), (112, .l2i, 1), (113, .iadd, 1), (114, .iconst 1, 1), (115, .aload_n 0, 1), (116, .iload_n 1, 1), (117, .iconst 0, 1), (118, .iload 11, 2), (120, .invokevirtual 479, 3), (123, .iadd, 1), (124, .iastore, 1), (125, .aload_n 0, 1), (126, .iload_n 2, 1), (127, .iload 12, 2), (129, .invokevirtual 324, 3), (132, .lload 9, 2), (134, .lconst 1, 1), (135, .ladd, 1), (136, .lstore 9, 2), (138, .goto (-72), 3), (141, .iinc 3 1, 3), (144, .goto (-135), 3), (147, .iconst 0, 1), (148, .istore_n 3, 1), (149, .iload_n 3, 1), (150, .aload_n 0, 1), (151, .iload_n 2, 1), (152, .bipush 11, 2), (154, .invokevirtual 316, 3), (157, .if_icmp .ge 96, 3), (160, .aload_n 0, 1), (161, .iload_n 1, 1), (162, .iconst 2, 1), (163, .invokevirtual 522, 3), (166, .istore 4, 2), (168, .aload_n 0, 1), (169, .iload_n 2, 1), (170, .aload_n 0, 1), (171, .iload_n 2, 1), (172, .bipush 11, 2), (174, .iload_n 3, 1), (175, .invokevirtual 320, 3), (178, .invokevirtual 324, 3), (181, .aload_n 0, 1), (182, .invokevirtual 218, 3), (185, .pop2, 1), (186, .aload_n 0, 1), (187, .iload_n 1, 1), (188, .invokevirtual 525, 3), (191, .ldc2_w 517, 3), (194, .land, 1), (195, .lstore 5, 2), (197, .aload_n 0, 1), (198, .invokevirtual 218, 3), (201, .lstore 7, 2), (203, .lconst 0, 1), (204, .lstore 9, 2), (206, .lload 9, 2), (208, .lload 7, 2), (210, .lcmp, 1), (211, .ifCond .ge 36, 3), (214, .aload_n 0, 1), (215, .iload 4, 2), (217, .lload 5, 2), (219, .lload 9, 2), (221, .ladd, 1), (222, .aload_n 0, 1), (223, .getfield 14, 3), (226, .aload_n 0, 1), (227, .getfield 202, 3), (230, .lload 9, 2), (232, .l2i, 1), (233, .iadd, 1), (234, .baload, 1), (235, .invokevirtual 531, 3), (238, .lload 9, 2), (240, .lconst 1, 1), (241, .ladd, 1), (242, .lstore 9, 2), (244, .goto (-38), 3), (247, .iinc 3 1, 3), (250, .goto (-101), 3), (253, .return_, 1)]
theorem D_M_writeRows : ∀ q ∈ T_M_writeRows, decode b_M_writeRows q.1 = .ok (q.2.1, q.2.2) := by decide +kernel

set_option maxHeartbeats 4000000 in
set_option maxRecDepth 100000 in
theorem am_M_writeRows_L206 (l : Launch) (hfl : l.flags = pinnedFlags ++ [noTraceFlag]) (D : va_G) (A : Nat → Prop) (σ MC MS : Nat) (h0 : xb_H) (Qr : xb_H → Prop) (K149 : Nat → Int32 → Int32 → Int32 → xb_H → Prop) (hK149 : ∀ (x0 : Nat) (x1 : Int32) (x2 : Int32) (x3 : Int32) (h : xb_H), K149 x0 x1 x2 x3 h → xb_am l D A σ 10 MC MS h0 (fun v h _ _ => v = none ∧ Qr h) (fun _ _ _ _ => False) y_M_writeRows.cls y_M_writeRows.name b_M_writeRows 13 ([] : List ExceptionTableEntry) none 149 [(0, .ref x0), (1, .int x1), (2, .int x2), (3, .int x3)] [] h 0 0) (n9 : Nat) : ∀ (x0 : Nat) (x1 : Int32) (x2 : Int32) (x3 : Int32) (x4 : Int32) (x5 : Int64) (x7 : Int64) (x9 : Int64) (h : xb_H), w_M_writeRows_L206 K149 Qr n9 x0 x1 x2 x3 x4 x5 x7 x9 h → xb_am l D A σ 10 MC MS h0 (fun v h _ _ => v = none ∧ Qr h) (fun _ _ _ _ => False) y_M_writeRows.cls y_M_writeRows.name b_M_writeRows 13 ([] : List ExceptionTableEntry) none 206 [(0, .ref x0), (1, .int x1), (2, .int x2), (3, .int x3), (4, .int x4), (5, .long x5), (7, .long x7), (9, .long x9)] [] h 0 0 := by
  induction n9 with
  | zero => intro x0 x1 x2 x3 x4 x5 x7 x9 h hw; exact False.elim hw
  | succ n9 ih =>
    intro x0 x1 x2 x3 x4 x5 x7 x9 h hw
    unfold w_M_writeRows_L206 at hw
    intro p e s m args below meth c hC H locs ls k n hE hl hR hS hk hn
    obtain ⟨hx, hb, hown, hlocks, htab, hml, hr, hB, hA, hnm⟩ := id hC
    have hts := hB.1.1.at args
    refine lv_lload hx hb (xb_d D_M_writeRows 121 rfl) (lv_at hl 7 rfl) ?_
    refine lv_lload hx hb (xb_d D_M_writeRows 122 rfl) (lv_at hl 6 rfl) ?_
    refine xb_lc_ge (tgt := 247) hx hb (xb_d D_M_writeRows 123 rfl) (xb_d D_M_writeRows 124 rfl) rfl (fun hc1 => ?_) (fun hc1 => ?_)
    · have hw := hw.1 hc1
      refine lv_iinc (v := (x3 + 1)) (k := 3) hx hb (xb_d D_M_writeRows 144 rfl) hl rfl (by first | rfl | decide) (by decide) rfl (fun ls hl => ?_)
      have hl : lv_has ls 13 [(3, .int (x3 + 1)), (0, .ref x0), (1, .int x1), (2, .int x2), (4, .int x4), (5, .long x5), (7, .long x7), (9, .long x9)] := hl
      refine lv_goto (tgt := 149) hx hb (xb_d D_M_writeRows 145 rfl) rfl ?_
      exact hK149 x0 x1 x2 (x3 + 1) h hw p e s m args below meth c hC H locs ls k n hE (lv_sub hl [1, 2, 3, 0] rfl) hR hS (by omega) (by omega)
    · have hw := hw.2 hc1
      refine lv_aload_n hx hb (xb_d D_M_writeRows 125 rfl) rfl (lv_at hl 0 rfl) ?_
      refine lv_iload hx hb (xb_d D_M_writeRows 126 rfl) (lv_at hl 4 rfl) ?_
      refine lv_lload hx hb (xb_d D_M_writeRows 127 rfl) (lv_at hl 5 rfl) ?_
      refine lv_lload hx hb (xb_d D_M_writeRows 128 rfl) (lv_at hl 7 rfl) ?_
      refine lv_ladd hx hb (xb_d D_M_writeRows 129 rfl) ?_
      refine lv_aload_n hx hb (xb_d D_M_writeRows 130 rfl) rfl (lv_at hl 0 rfl) ?_
      obtain ⟨hk2, hw⟩ := hw
      refine xb_getP (C := R_M) (T := F_M) (N := 97) hx hb 8 3 hts fin_M hown hR hk2 (by decide) rfl (by decide) rfl (hts _ m_4f0568af) (fun _ h9 => h9) (xb_d D_M_writeRows 131 rfl) ?_
      obtain ⟨b3, eb3, hw⟩ := hw
      refine xb_some eb3 ?_
      refine lv_aload_n hx hb (xb_d D_M_writeRows 132 rfl) rfl (lv_at hl 0 rfl) ?_
      refine xb_getI (C := R_M) (T := F_M) (N := 97) hx hb 8 15 hts fin_M hown hR hk2 (by decide) rfl (by decide) rfl (hts _ m_6c2d27ad) (fun _ h9 => h9) (xb_d D_M_writeRows 133 rfl) ?_
      refine lv_lload hx hb (xb_d D_M_writeRows 134 rfl) (lv_at hl 7 rfl) ?_
      refine lv_l2i hx hb (xb_d D_M_writeRows 135 rfl) rfl ?_
      refine lv_iadd hx hb (xb_d D_M_writeRows 136 rfl) ?_
      obtain ⟨hk5, hw⟩ := hw
      obtain ⟨hi4, hw⟩ := hw
      refine xb_bald hx hb hR hk5 hi4 (xb_d D_M_writeRows 137 rfl) ?_
      refine xb_call0 (D := D) (A := A) (σ := σ) (h := h) (d := 3) (maxL := 5) (rest := []) (av := [.ref x0, .int x4, .long (x5 + x9), .int (xb_i h b3 (Int32.toNatClampNeg ((xb_i h x0 15) + (Int64.toInt32 x9))))]) (fun T hT X => by obtain ⟨cb9, ra9, rb9, rc9⟩ := xb_recv (ci := 8) hR rfl hk2 (by decide); exact xt_invV X hx hown (hts _ m_272de6ed) (hts _ m_ac860a0e) (hts _ m_c2d1fdae) (xt_sigOf (hts _ m_cf5c56c3)) nm_M_storeByte (by rw [hT]; exact ra9) rb9 rc9 (g := F0 m 235 ls [.int (xb_i h b3 (Int32.toNatClampNeg ((xb_i h x0 15) + (Int64.toInt32 x9)))), .long (x5 + x9), .int x4, .ref x0]) rfl (argsL := [.int x4, .long (x5 + x9), .int (xb_i h b3 (Int32.toNatClampNeg ((xb_i h x0 15) + (Int64.toInt32 x9))))]) (rest := []) rfl rfl (by rw [hb]; exact (xb_d D_M_writeRows 138 rfl))) (ok_M_storeByte l hfl D A σ x0 x4 (x5 + x9) (xb_i h b3 (Int32.toNatClampNeg ((xb_i h x0 15) + (Int64.toInt32 x9)))) h _ hw) (hml.trans hl.1.symm) (by rw [hb]; exact (xb_d D_M_writeRows 138 rfl)) (Nat.le_of_ble_eq_true rfl) (Nat.le_of_ble_eq_true rfl) (Nat.le_of_ble_eq_true rfl) (show k ≤ MC by omega) (show n ≤ MS by omega) (xt_w1 hB.1 m_cf5c56c3) (xt_cdOf hB.1 m_cf5c56c3) (hts _ m_d5ed7bed) hB hR hS hA (fun vv h6 H locs hq hEh6 hR hS => ?_)
      obtain ⟨rfl, hw⟩ := hq
      have hw := hw hEh6
      have hE := hE.tr hEh6
      refine W.eq (g2 := F0 m 238 ls []) rfl ?_
      refine lv_lload hx hb (xb_d D_M_writeRows 139 rfl) (lv_at hl 7 rfl) ?_
      refine lv_lconst (v := 1) hx hb (xb_d D_M_writeRows 140 rfl) (by decide) ?_
      refine lv_ladd hx hb (xb_d D_M_writeRows 141 rfl) ?_
      obtain ⟨v8, ev8⟩ : ∃ x : Int64, x = (x9 + 1) := ⟨_, rfl⟩
      have hw := hw v8 ev8
      refine xt_numl (y := v8) ev8.symm ?_
      refine lv_lstore hx hb (xb_d D_M_writeRows 142 rfl) hl (by decide) rfl (fun ls hl => ?_)
      have hl : lv_has ls 13 [(9, .long v8), (0, .ref x0), (1, .int x1), (2, .int x2), (3, .int x3), (4, .int x4), (5, .long x5), (7, .long x7)] := hl
      refine lv_goto (tgt := 206) hx hb (xb_d D_M_writeRows 143 rfl) rfl ?_
      exact ih x0 x1 x2 x3 x4 x5 x7 v8 h6 hw p e s m args below meth c hC H locs ls k n hE (lv_sub hl [1, 2, 3, 4, 5, 6, 7, 0] rfl) hR hS (by omega) (by omega)

set_option maxHeartbeats 4000000 in
set_option maxRecDepth 100000 in
theorem am_M_writeRows_L149 (l : Launch) (hfl : l.flags = pinnedFlags ++ [noTraceFlag]) (D : va_G) (A : Nat → Prop) (σ MC MS : Nat) (h0 : xb_H) (Qr : xb_H → Prop) (n9 : Nat) : ∀ (x0 : Nat) (x1 : Int32) (x2 : Int32) (x3 : Int32) (h : xb_H), w_M_writeRows_L149 Qr n9 x0 x1 x2 x3 h → xb_am l D A σ 10 MC MS h0 (fun v h _ _ => v = none ∧ Qr h) (fun _ _ _ _ => False) y_M_writeRows.cls y_M_writeRows.name b_M_writeRows 13 ([] : List ExceptionTableEntry) none 149 [(0, .ref x0), (1, .int x1), (2, .int x2), (3, .int x3)] [] h 0 0 := by
  induction n9 with
  | zero => intro x0 x1 x2 x3 h hw; exact False.elim hw
  | succ n9 ih =>
    intro x0 x1 x2 x3 h hw
    unfold w_M_writeRows_L149 at hw
    intro p e s m args below meth c hC H locs ls k n hE hl hR hS hk hn
    obtain ⟨hx, hb, hown, hlocks, htab, hml, hr, hB, hA, hnm⟩ := id hC
    have hts := hB.1.1.at args
    refine lv_iload_n hx hb (xb_d D_M_writeRows 88 rfl) rfl (lv_at hl 3 rfl) ?_
    refine lv_aload_n hx hb (xb_d D_M_writeRows 89 rfl) rfl (lv_at hl 0 rfl) ?_
    refine lv_iload_n hx hb (xb_d D_M_writeRows 90 rfl) rfl (lv_at hl 2 rfl) ?_
    refine lv_bipush (v := 11) hx hb (xb_d D_M_writeRows 91 rfl) (by decide) ?_
    obtain ⟨hk1, hw⟩ := hw
    refine xb_call0 (D := D) (A := A) (σ := σ) (h := h) (d := 2) (maxL := 3) (rest := [.int x3]) (av := [.ref x0, .int x2, .int 11]) (fun T hT X => by obtain ⟨cb9, ra9, rb9, rc9⟩ := xb_recv (ci := 8) hR rfl hk1 (by decide); exact xt_invV X hx hown (hts _ m_b47f62c2) (hts _ m_9f071faf) (hts _ m_e1bb5c84) (xt_sigOf (hts _ m_3a6212d6)) nm_M_manyOf (by rw [hT]; exact ra9) rb9 rc9 (g := F0 m 154 ls [.int 11, .int x2, .ref x0, .int x3]) rfl (argsL := [.int x2, .int 11]) (rest := [.int x3]) rfl rfl (by rw [hb]; exact (xb_d D_M_writeRows 92 rfl))) (ok_M_manyOf l hfl D A σ x0 x2 11 h _ hw) (hml.trans hl.1.symm) (by rw [hb]; exact (xb_d D_M_writeRows 92 rfl)) (Nat.le_of_ble_eq_true rfl) (Nat.le_of_ble_eq_true rfl) (Nat.le_of_ble_eq_true rfl) (show k ≤ MC by omega) (show n ≤ MS by omega) (xt_w1 hB.1 m_3a6212d6) (xt_cdOf hB.1 m_3a6212d6) (hts _ m_d5ed7bed) hB hR hS hA (fun vv h2 H locs hq hEh2 hR hS => ?_)
    obtain ⟨r3, rfl, hw⟩ := hq
    have hw := hw hEh2
    have hE := hE.tr hEh2
    refine W.eq (g2 := F0 m 157 ls [.int r3, .int x3]) rfl ?_
    refine lv_icmp_ge (tgt := 253) hx hb (xb_d D_M_writeRows 93 rfl) rfl (fun hc4 => ?_) (fun hc4 => ?_)
    · have hw := hw.1 hc4
      exact xb_vret 0 0 hx hb hr hlocks (show k + 0 ≤ MC by omega) (show n + 0 ≤ MS by omega) hE hR hS (xb_d D_M_writeRows 146 rfl) hw
    · have hw := hw.2 hc4
      refine lv_aload_n hx hb (xb_d D_M_writeRows 94 rfl) rfl (lv_at hl 0 rfl) ?_
      refine lv_iload_n hx hb (xb_d D_M_writeRows 95 rfl) rfl (lv_at hl 1 rfl) ?_
      refine lv_iconst (v := 2) hx hb (xb_d D_M_writeRows 96 rfl) (by decide) ?_
      have hk1 : xb_k h2 x0 = 9 := hEh2.k hk1
      refine xb_call0 (D := D) (A := A) (σ := σ) (h := h2) (d := 9) (maxL := 3) (rest := []) (av := [.ref x0, .int x1, .int 2]) (fun T hT X => by obtain ⟨cb9, ra9, rb9, rc9⟩ := xb_recv (ci := 8) hR rfl hk1 (by decide); exact xt_invV X hx hown (hts _ m_392cec72) (hts _ m_982c4770) (hts _ m_e18e99cc) (xt_sigOf (hts _ m_3f9e55aa)) nm_M_only (by rw [hT]; exact ra9) rb9 rc9 (g := F0 m 163 ls [.int 2, .int x1, .ref x0]) rfl (argsL := [.int x1, .int 2]) (rest := []) rfl rfl (by rw [hb]; exact (xb_d D_M_writeRows 97 rfl))) (ok_M_only l hfl D A σ x0 x1 2 h2 _ hw) (hml.trans hl.1.symm) (by rw [hb]; exact (xb_d D_M_writeRows 97 rfl)) (Nat.le_of_ble_eq_true rfl) (Nat.le_of_ble_eq_true rfl) (Nat.le_of_ble_eq_true rfl) (show k ≤ MC by omega) (show n ≤ MS by omega) (xt_w1 hB.1 m_3f9e55aa) (xt_cdOf hB.1 m_3f9e55aa) (hts _ m_d5ed7bed) hB hR hS hA (fun vv h5 H locs hq hEh5 hR hS => ?_)
      obtain ⟨r6, rfl, hw⟩ := hq
      have hw := hw hEh5
      have hE := hE.tr hEh5
      refine W.eq (g2 := F0 m 166 ls [.int r6]) rfl ?_
      refine lv_istore hx hb (xb_d D_M_writeRows 98 rfl) hl (by decide) rfl (fun ls hl => ?_)
      have hl : lv_has ls 13 [(4, .int r6), (0, .ref x0), (1, .int x1), (2, .int x2), (3, .int x3)] := hl
      refine lv_aload_n hx hb (xb_d D_M_writeRows 99 rfl) rfl (lv_at hl 1 rfl) ?_
      refine lv_iload_n hx hb (xb_d D_M_writeRows 100 rfl) rfl (lv_at hl 3 rfl) ?_
      refine lv_aload_n hx hb (xb_d D_M_writeRows 101 rfl) rfl (lv_at hl 1 rfl) ?_
      refine lv_iload_n hx hb (xb_d D_M_writeRows 102 rfl) rfl (lv_at hl 3 rfl) ?_
      refine lv_bipush (v := 11) hx hb (xb_d D_M_writeRows 103 rfl) (by decide) ?_
      refine lv_iload_n hx hb (xb_d D_M_writeRows 104 rfl) rfl (lv_at hl 4 rfl) ?_
      have hk1 : xb_k h5 x0 = 9 := hEh5.k hk1
      refine xb_call0 (D := D) (A := A) (σ := σ) (h := h5) (d := 2) (maxL := 4) (rest := [.int x2, .ref x0]) (av := [.ref x0, .int x2, .int 11, .int x3]) (fun T hT X => by obtain ⟨cb9, ra9, rb9, rc9⟩ := xb_recv (ci := 8) hR rfl hk1 (by decide); exact xt_invV X hx hown (hts _ m_7f41753e) (hts _ m_8cdd7108) (hts _ m_e228318f) (xt_sigOf (hts _ m_89667ad5)) nm_M_placeOf (by rw [hT]; exact ra9) rb9 rc9 (g := F0 m 175 ls [.int x3, .int 11, .int x2, .ref x0, .int x2, .ref x0]) rfl (argsL := [.int x2, .int 11, .int x3]) (rest := [.int x2, .ref x0]) rfl rfl (by rw [hb]; exact (xb_d D_M_writeRows 105 rfl))) (ok_M_placeOf l hfl D A σ x0 x2 11 x3 h5 _ hw) (hml.trans hl.1.symm) (by rw [hb]; exact (xb_d D_M_writeRows 105 rfl)) (Nat.le_of_ble_eq_true rfl) (Nat.le_of_ble_eq_true rfl) (Nat.le_of_ble_eq_true rfl) (show k ≤ MC by omega) (show n ≤ MS by omega) (xt_w1 hB.1 m_89667ad5) (xt_cdOf hB.1 m_89667ad5) (hts _ m_d5ed7bed) hB hR hS hA (fun vv h7 H locs hq hEh7 hR hS => ?_)
      obtain ⟨r8, rfl, hw⟩ := hq
      have hw := hw hEh7
      have hE := hE.tr hEh7
      refine W.eq (g2 := F0 m 178 ls [.int r8, .int x2, .ref x0]) rfl ?_
      have hk1 : xb_k h7 x0 = 9 := hEh7.k hk1
      refine xb_call0 (D := D) (A := A) (σ := σ) (h := h7) (d := 2) (maxL := 3) (rest := []) (av := [.ref x0, .int x2, .int r8]) (fun T hT X => by obtain ⟨cb9, ra9, rb9, rc9⟩ := xb_recv (ci := 8) hR rfl hk1 (by decide); exact xt_invV X hx hown (hts _ m_bb531879) (hts _ m_4a6cd4a0) (hts _ m_d1c31e3c) (xt_sigOf (hts _ m_48217fba)) nm_M_go (by rw [hT]; exact ra9) rb9 rc9 (g := F0 m 178 ls [.int r8, .int x2, .ref x0]) rfl (argsL := [.int x2, .int r8]) (rest := []) rfl rfl (by rw [hb]; exact (xb_d D_M_writeRows 106 rfl))) (ok_M_go l hfl D A σ x0 x2 r8 h7 _ hw) (hml.trans hl.1.symm) (by rw [hb]; exact (xb_d D_M_writeRows 106 rfl)) (Nat.le_of_ble_eq_true rfl) (Nat.le_of_ble_eq_true rfl) (Nat.le_of_ble_eq_true rfl) (show k ≤ MC by omega) (show n ≤ MS by omega) (xt_w1 hB.1 m_48217fba) (xt_cdOf hB.1 m_48217fba) (hts _ m_d5ed7bed) hB hR hS hA (fun vv h9 H locs hq hEh9 hR hS => ?_)
      obtain ⟨rfl, hw⟩ := hq
      have hw := hw hEh9
      have hE := hE.tr hEh9
      refine W.eq (g2 := F0 m 181 ls []) rfl ?_
      refine lv_aload_n hx hb (xb_d D_M_writeRows 107 rfl) rfl (lv_at hl 1 rfl) ?_
      have hk1 : xb_k h9 x0 = 9 := hEh9.k hk1
      refine xb_call0 (D := D) (A := A) (σ := σ) (h := h9) (d := 4) (maxL := 5) (rest := []) (av := [.ref x0]) (fun T hT X => by obtain ⟨cb9, ra9, rb9, rc9⟩ := xb_recv (ci := 8) hR rfl hk1 (by decide); exact xt_invV X hx hown (hts _ m_e991293f) (hts _ m_385a74b3) (hts _ m_c9fbcd02) (xt_sigOf (hts _ m_1f53f210)) nm_M_count (by rw [hT]; exact ra9) rb9 rc9 (g := F0 m 182 ls [.ref x0]) rfl (argsL := []) (rest := []) rfl rfl (by rw [hb]; exact (xb_d D_M_writeRows 108 rfl))) (ok_M_count l hfl D A σ x0 h9 _ hw) (hml.trans hl.1.symm) (by rw [hb]; exact (xb_d D_M_writeRows 108 rfl)) (Nat.le_of_ble_eq_true rfl) (Nat.le_of_ble_eq_true rfl) (Nat.le_of_ble_eq_true rfl) (show k ≤ MC by omega) (show n ≤ MS by omega) (xt_w1 hB.1 m_1f53f210) (xt_cdOf hB.1 m_1f53f210) (hts _ m_d5ed7bed) hB hR hS hA (fun vv h11 H locs hq hEh11 hR hS => ?_)
      obtain ⟨r12, rfl, hw⟩ := hq
      have hw := hw hEh11
      have hE := hE.tr hEh11
      refine W.eq (g2 := F0 m 185 ls [.long r12]) rfl ?_
      refine lv_pop2_2 hx hb (xb_d D_M_writeRows 109 rfl) rfl ?_
      refine lv_aload_n hx hb (xb_d D_M_writeRows 110 rfl) rfl (lv_at hl 1 rfl) ?_
      refine lv_iload_n hx hb (xb_d D_M_writeRows 111 rfl) rfl (lv_at hl 2 rfl) ?_
      have hk1 : xb_k h11 x0 = 9 := hEh11.k hk1
      refine xb_call0 (D := D) (A := A) (σ := σ) (h := h11) (d := 9) (maxL := 8) (rest := []) (av := [.ref x0, .int x1]) (fun T hT X => by obtain ⟨cb9, ra9, rb9, rc9⟩ := xb_recv (ci := 8) hR rfl hk1 (by decide); exact xt_invV X hx hown (hts _ m_3863d309) (hts _ m_06065df9) (hts _ m_e2bfe1f7) (xt_sigOf (hts _ m_426e00bf)) nm_M_constant (by rw [hT]; exact ra9) rb9 rc9 (g := F0 m 188 ls [.int x1, .ref x0]) rfl (argsL := [.int x1]) (rest := []) rfl rfl (by rw [hb]; exact (xb_d D_M_writeRows 112 rfl))) (ok_M_constant l hfl D A σ x0 x1 h11 _ hw) (hml.trans hl.1.symm) (by rw [hb]; exact (xb_d D_M_writeRows 112 rfl)) (Nat.le_of_ble_eq_true rfl) (Nat.le_of_ble_eq_true rfl) (Nat.le_of_ble_eq_true rfl) (show k ≤ MC by omega) (show n ≤ MS by omega) (xt_w1 hB.1 m_426e00bf) (xt_cdOf hB.1 m_426e00bf) (hts _ m_d5ed7bed) hB hR hS hA (fun vv h13 H locs hq hEh13 hR hS => ?_)
      obtain ⟨r14, rfl, hw⟩ := hq
      have hw := hw hEh13
      have hE := hE.tr hEh13
      refine W.eq (g2 := F0 m 191 ls [.long r14]) rfl ?_
      refine lv_ldc2 (v := 4294967295) hx hb hown (hts _ m_92d51c6a) (xb_d D_M_writeRows 113 rfl) ?_
      refine lv_land hx hb (xb_d D_M_writeRows 114 rfl) ?_
      obtain ⟨v15, ev15⟩ : ∃ x : Int64, x = (r14 &&& 4294967295) := ⟨_, rfl⟩
      have hw := hw v15 ev15
      refine xt_numl (y := v15) ev15.symm ?_
      refine lv_lstore hx hb (xb_d D_M_writeRows 115 rfl) hl (by decide) rfl (fun ls hl => ?_)
      have hl : lv_has ls 13 [(5, .long v15), (4, .int r6), (0, .ref x0), (1, .int x1), (2, .int x2), (3, .int x3)] := hl
      refine lv_aload_n hx hb (xb_d D_M_writeRows 116 rfl) rfl (lv_at hl 2 rfl) ?_
      have hk1 : xb_k h13 x0 = 9 := hEh13.k hk1
      refine xb_call0 (D := D) (A := A) (σ := σ) (h := h13) (d := 4) (maxL := 5) (rest := []) (av := [.ref x0]) (fun T hT X => by obtain ⟨cb9, ra9, rb9, rc9⟩ := xb_recv (ci := 8) hR rfl hk1 (by decide); exact xt_invV X hx hown (hts _ m_e991293f) (hts _ m_385a74b3) (hts _ m_c9fbcd02) (xt_sigOf (hts _ m_1f53f210)) nm_M_count (by rw [hT]; exact ra9) rb9 rc9 (g := F0 m 198 ls [.ref x0]) rfl (argsL := []) (rest := []) rfl rfl (by rw [hb]; exact (xb_d D_M_writeRows 117 rfl))) (ok_M_count l hfl D A σ x0 h13 _ hw) (hml.trans hl.1.symm) (by rw [hb]; exact (xb_d D_M_writeRows 117 rfl)) (Nat.le_of_ble_eq_true rfl) (Nat.le_of_ble_eq_true rfl) (Nat.le_of_ble_eq_true rfl) (show k ≤ MC by omega) (show n ≤ MS by omega) (xt_w1 hB.1 m_1f53f210) (xt_cdOf hB.1 m_1f53f210) (hts _ m_d5ed7bed) hB hR hS hA (fun vv h16 H locs hq hEh16 hR hS => ?_)
      obtain ⟨r17, rfl, hw⟩ := hq
      have hw := hw hEh16
      have hE := hE.tr hEh16
      refine W.eq (g2 := F0 m 201 ls [.long r17]) rfl ?_
      refine lv_lstore hx hb (xb_d D_M_writeRows 118 rfl) hl (by decide) rfl (fun ls hl => ?_)
      have hl : lv_has ls 13 [(7, .long r17), (5, .long v15), (4, .int r6), (0, .ref x0), (1, .int x1), (2, .int x2), (3, .int x3)] := hl
      refine lv_lconst (v := 0) hx hb (xb_d D_M_writeRows 119 rfl) (by decide) ?_
      refine lv_lstore hx hb (xb_d D_M_writeRows 120 rfl) hl (by decide) rfl (fun ls hl => ?_)
      have hl : lv_has ls 13 [(9, .long 0), (7, .long r17), (5, .long v15), (4, .int r6), (0, .ref x0), (1, .int x1), (2, .int x2), (3, .int x3)] := hl
      obtain ⟨n8, hw⟩ := hw
      exact am_M_writeRows_L206 l hfl D A σ MC MS h0 Qr (w_M_writeRows_L149 Qr n9) ih n8 x0 x1 x2 x3 r6 v15 r17 0 h16 hw p e s m args below meth c hC H locs ls k n hE (lv_sub hl [4, 5, 6, 7, 3, 2, 1, 0] rfl) hR hS (by omega) (by omega)

set_option maxHeartbeats 4000000 in
set_option maxRecDepth 100000 in
theorem am_M_writeRows_L66 (l : Launch) (hfl : l.flags = pinnedFlags ++ [noTraceFlag]) (D : va_G) (A : Nat → Prop) (σ MC MS : Nat) (h0 : xb_H) (Qr : xb_H → Prop) (K9 : Nat → Int32 → Int32 → Int32 → xb_H → Prop) (hK9 : ∀ (x0 : Nat) (x1 : Int32) (x2 : Int32) (x3 : Int32) (h : xb_H), K9 x0 x1 x2 x3 h → xb_am l D A σ 10 MC MS h0 (fun v h _ _ => v = none ∧ Qr h) (fun _ _ _ _ => False) y_M_writeRows.cls y_M_writeRows.name b_M_writeRows 13 ([] : List ExceptionTableEntry) none 9 [(0, .ref x0), (1, .int x1), (2, .int x2), (3, .int x3)] [] h 0 0) (n9 : Nat) : ∀ (x0 : Nat) (x1 : Int32) (x2 : Int32) (x3 : Int32) (x4 : Int32) (x5 : Int64) (x7 : Int64) (x9 : Int64) (h : xb_H), w_M_writeRows_L66 K9 Qr n9 x0 x1 x2 x3 x4 x5 x7 x9 h → xb_am l D A σ 10 MC MS h0 (fun v h _ _ => v = none ∧ Qr h) (fun _ _ _ _ => False) y_M_writeRows.cls y_M_writeRows.name b_M_writeRows 13 ([] : List ExceptionTableEntry) none 66 [(0, .ref x0), (1, .int x1), (2, .int x2), (3, .int x3), (4, .int x4), (5, .long x5), (7, .long x7), (9, .long x9)] [] h 0 0 := by
  induction n9 with
  | zero => intro x0 x1 x2 x3 x4 x5 x7 x9 h hw; exact False.elim hw
  | succ n9 ih =>
    intro x0 x1 x2 x3 x4 x5 x7 x9 h hw
    unfold w_M_writeRows_L66 at hw
    intro p e s m args below meth c hC H locs ls k n hE hl hR hS hk hn
    obtain ⟨hx, hb, hown, hlocks, htab, hml, hr, hB, hA, hnm⟩ := id hC
    have hts := hB.1.1.at args
    refine lv_lload hx hb (xb_d D_M_writeRows 40 rfl) (lv_at hl 7 rfl) ?_
    refine lv_lload hx hb (xb_d D_M_writeRows 41 rfl) (lv_at hl 6 rfl) ?_
    refine xb_lc_ge (tgt := 141) hx hb (xb_d D_M_writeRows 42 rfl) (xb_d D_M_writeRows 43 rfl) rfl (fun hc1 => ?_) (fun hc1 => ?_)
    · have hw := hw.1 hc1
      refine lv_iinc (v := (x3 + 1)) (k := 3) hx hb (xb_d D_M_writeRows 84 rfl) hl rfl (by first | rfl | decide) (by decide) rfl (fun ls hl => ?_)
      have hl : lv_has ls 13 [(3, .int (x3 + 1)), (0, .ref x0), (1, .int x1), (2, .int x2), (4, .int x4), (5, .long x5), (7, .long x7), (9, .long x9)] := hl
      refine lv_goto (tgt := 9) hx hb (xb_d D_M_writeRows 85 rfl) rfl ?_
      exact hK9 x0 x1 x2 (x3 + 1) h hw p e s m args below meth c hC H locs ls k n hE (lv_sub hl [1, 2, 3, 0] rfl) hR hS (by omega) (by omega)
    · have hw := hw.2 hc1
      refine lv_aload_n hx hb (xb_d D_M_writeRows 44 rfl) rfl (lv_at hl 0 rfl) ?_
      refine lv_iload_n hx hb (xb_d D_M_writeRows 45 rfl) rfl (lv_at hl 2 rfl) ?_
      refine lv_aload_n hx hb (xb_d D_M_writeRows 46 rfl) rfl (lv_at hl 0 rfl) ?_
      obtain ⟨hk2, hw⟩ := hw
      refine xb_getI (C := R_M) (T := F_M) (N := 97) hx hb 8 15 hts fin_M hown hR hk2 (by decide) rfl (by decide) rfl (hts _ m_6c2d27ad) (fun _ h9 => h9) (xb_d D_M_writeRows 47 rfl) ?_
      refine xb_call0 (D := D) (A := A) (σ := σ) (h := h) (d := 2) (maxL := 3) (rest := []) (av := [.ref x0, .int x2, .int (xb_i h x0 15)]) (fun T hT X => by obtain ⟨cb9, ra9, rb9, rc9⟩ := xb_recv (ci := 8) hR rfl hk2 (by decide); exact xt_invV X hx hown (hts _ m_bb531879) (hts _ m_4a6cd4a0) (hts _ m_d1c31e3c) (xt_sigOf (hts _ m_48217fba)) nm_M_go (by rw [hT]; exact ra9) rb9 rc9 (g := F0 m 80 ls [.int (xb_i h x0 15), .int x2, .ref x0]) rfl (argsL := [.int x2, .int (xb_i h x0 15)]) (rest := []) rfl rfl (by rw [hb]; exact (xb_d D_M_writeRows 48 rfl))) (ok_M_go l hfl D A σ x0 x2 (xb_i h x0 15) h _ hw) (hml.trans hl.1.symm) (by rw [hb]; exact (xb_d D_M_writeRows 48 rfl)) (Nat.le_of_ble_eq_true rfl) (Nat.le_of_ble_eq_true rfl) (Nat.le_of_ble_eq_true rfl) (show k ≤ MC by omega) (show n ≤ MS by omega) (xt_w1 hB.1 m_48217fba) (xt_cdOf hB.1 m_48217fba) (hts _ m_d5ed7bed) hB hR hS hA (fun vv h3 H locs hq hEh3 hR hS => ?_)
      obtain ⟨rfl, hw⟩ := hq
      have hw := hw hEh3
      have hE := hE.tr hEh3
      refine W.eq (g2 := F0 m 83 ls []) rfl ?_
      refine lv_aload_n hx hb (xb_d D_M_writeRows 49 rfl) rfl (lv_at hl 0 rfl) ?_
      have hk2 : xb_k h3 x0 = 9 := hEh3.k hk2
      refine xb_call0 (D := D) (A := A) (σ := σ) (h := h3) (d := 4) (maxL := 5) (rest := []) (av := [.ref x0]) (fun T hT X => by obtain ⟨cb9, ra9, rb9, rc9⟩ := xb_recv (ci := 8) hR rfl hk2 (by decide); exact xt_invV X hx hown (hts _ m_e991293f) (hts _ m_385a74b3) (hts _ m_c9fbcd02) (xt_sigOf (hts _ m_1f53f210)) nm_M_count (by rw [hT]; exact ra9) rb9 rc9 (g := F0 m 84 ls [.ref x0]) rfl (argsL := []) (rest := []) rfl rfl (by rw [hb]; exact (xb_d D_M_writeRows 50 rfl))) (ok_M_count l hfl D A σ x0 h3 _ hw) (hml.trans hl.1.symm) (by rw [hb]; exact (xb_d D_M_writeRows 50 rfl)) (Nat.le_of_ble_eq_true rfl) (Nat.le_of_ble_eq_true rfl) (Nat.le_of_ble_eq_true rfl) (show k ≤ MC by omega) (show n ≤ MS by omega) (xt_w1 hB.1 m_1f53f210) (xt_cdOf hB.1 m_1f53f210) (hts _ m_d5ed7bed) hB hR hS hA (fun vv h5 H locs hq hEh5 hR hS => ?_)
      obtain ⟨r6, rfl, hw⟩ := hq
      have hw := hw hEh5
      have hE := hE.tr hEh5
      refine W.eq (g2 := F0 m 87 ls [.long r6]) rfl ?_
      refine lv_l2i hx hb (xb_d D_M_writeRows 51 rfl) rfl ?_
      obtain ⟨v7, ev7⟩ : ∃ x : Int32, x = (Int64.toInt32 r6) := ⟨_, rfl⟩
      have hw := hw v7 ev7
      refine xt_numi (y := v7) ev7.symm ?_
      refine lv_istore hx hb (xb_d D_M_writeRows 52 rfl) hl (by decide) rfl (fun ls hl => ?_)
      have hl : lv_has ls 13 [(11, .int v7), (0, .ref x0), (1, .int x1), (2, .int x2), (3, .int x3), (4, .int x4), (5, .long x5), (7, .long x7), (9, .long x9)] := hl
      refine lv_aload_n hx hb (xb_d D_M_writeRows 53 rfl) rfl (lv_at hl 1 rfl) ?_
      have hk2 : xb_k h5 x0 = 9 := hEh5.k hk2
      refine xb_getI (C := R_M) (T := F_M) (N := 97) hx hb 8 15 hts fin_M hown hR hk2 (by decide) rfl (by decide) rfl (hts _ m_6c2d27ad) (fun _ h9 => h9) (xb_d D_M_writeRows 54 rfl) ?_
      obtain ⟨v8, ev8⟩ : ∃ x : Int32, x = (xb_i h5 x0 15) := ⟨_, rfl⟩
      have hw := hw v8 ev8
      refine xt_numi (y := v8) ev8.symm ?_
      refine lv_istore hx hb (xb_d D_M_writeRows 55 rfl) hl (by decide) rfl (fun ls hl => ?_)
      have hl : lv_has ls 13 [(12, .int v8), (11, .int v7), (0, .ref x0), (1, .int x1), (2, .int x2), (3, .int x3), (4, .int x4), (5, .long x5), (7, .long x7), (9, .long x9)] := hl
      refine lv_aload_n hx hb (xb_d D_M_writeRows 56 rfl) rfl (lv_at hl 2 rfl) ?_
      refine xb_getP (C := R_M) (T := F_M) (N := 97) hx hb 8 51 hts fin_M hown hR hk2 (by decide) rfl (by decide) rfl (hts _ m_c18d3c89) (fun _ h9 => h9) (xb_d D_M_writeRows 57 rfl) ?_
      obtain ⟨b9, eb9, hw⟩ := hw
      refine xb_some eb9 ?_
      refine lv_aload_n hx hb (xb_d D_M_writeRows 58 rfl) rfl (lv_at hl 2 rfl) ?_
      refine xb_getP (C := R_M) (T := F_M) (N := 97) hx hb 8 48 hts fin_M hown hR hk2 (by decide) rfl (by decide) rfl (hts _ m_f28a3cfc) (fun _ h9 => h9) (xb_d D_M_writeRows 59 rfl) ?_
      obtain ⟨b10, eb10, hw⟩ := hw
      refine xb_some eb10 ?_
      refine lv_iload hx hb (xb_d D_M_writeRows 60 rfl) (lv_at hl 6 rfl) ?_
      obtain ⟨hk12, hw⟩ := hw
      obtain ⟨hi11, hw⟩ := hw
      refine xb_iald hx hb hR hk12 hi11 (xb_d D_M_writeRows 61 rfl) ?_
      refine lv_lload hx hb (xb_d D_M_writeRows 62 rfl) (lv_at hl 7 rfl) ?_
      refine lv_lload hx hb (xb_d D_M_writeRows 63 rfl) (lv_at hl 9 rfl) ?_
      refine lv_ladd hx hb (xb_d D_M_writeRows 64 rfl) ?_
      refine lv_l2i hx hb (xb_d D_M_writeRows 65 rfl) rfl ?_
      refine lv_iadd hx hb (xb_d D_M_writeRows 66 rfl) ?_
      refine lv_iconst (v := 1) hx hb (xb_d D_M_writeRows 67 rfl) (by decide) ?_
      refine lv_aload_n hx hb (xb_d D_M_writeRows 68 rfl) rfl (lv_at hl 2 rfl) ?_
      refine lv_iload_n hx hb (xb_d D_M_writeRows 69 rfl) rfl (lv_at hl 3 rfl) ?_
      refine lv_iconst (v := 0) hx hb (xb_d D_M_writeRows 70 rfl) (by decide) ?_
      refine lv_iload hx hb (xb_d D_M_writeRows 71 rfl) (lv_at hl 1 rfl) ?_
      refine xb_call0 (D := D) (A := A) (σ := σ) (h := h5) (d := 8) (maxL := 6) (rest := [.int 1, .int ((xb_i h5 b10 (Int32.toNatClampNeg x4)) + (Int64.toInt32 (x5 + x9))), .ref b9]) (av := [.ref x0, .int x1, .int 0, .int v7]) (fun T hT X => by obtain ⟨cb9, ra9, rb9, rc9⟩ := xb_recv (ci := 8) hR rfl hk2 (by decide); exact xt_invV X hx hown (hts _ m_5ec466f2) (hts _ m_f0f1d102) (hts _ m_cfa25922) (xt_sigOf (hts _ m_59347bba)) nm_M_meant (by rw [hT]; exact ra9) rb9 rc9 (g := F0 m 120 ls [.int v7, .int 0, .int x1, .ref x0, .int 1, .int ((xb_i h5 b10 (Int32.toNatClampNeg x4)) + (Int64.toInt32 (x5 + x9))), .ref b9]) rfl (argsL := [.int x1, .int 0, .int v7]) (rest := [.int 1, .int ((xb_i h5 b10 (Int32.toNatClampNeg x4)) + (Int64.toInt32 (x5 + x9))), .ref b9]) rfl rfl (by rw [hb]; exact (xb_d D_M_writeRows 72 rfl))) (ok_M_meant l hfl D A σ x0 x1 0 v7 h5 _ hw) (hml.trans hl.1.symm) (by rw [hb]; exact (xb_d D_M_writeRows 72 rfl)) (Nat.le_of_ble_eq_true rfl) (Nat.le_of_ble_eq_true rfl) (Nat.le_of_ble_eq_true rfl) (show k ≤ MC by omega) (show n ≤ MS by omega) (xt_w1 hB.1 m_59347bba) (xt_cdOf hB.1 m_59347bba) (hts _ m_d5ed7bed) hB hR hS hA (fun vv h13 H locs hq hEh13 hR hS => ?_)
      obtain ⟨r14, rfl, hw⟩ := hq
      have hw := hw hEh13
      have hE := hE.tr hEh13
      refine W.eq (g2 := F0 m 123 ls [.int r14, .int 1, .int ((xb_i h5 b10 (Int32.toNatClampNeg x4)) + (Int64.toInt32 (x5 + x9))), .ref b9]) rfl ?_
      refine lv_iadd hx hb (xb_d D_M_writeRows 73 rfl) ?_
      obtain ⟨hk15, hw⟩ := hw
      obtain ⟨hi16, hw⟩ := hw
      refine xb_iast hx hb hR hS hk15 hi16 (xb_d D_M_writeRows 74 rfl) (fun H locs hR hS => ?_)
      obtain ⟨h17, eh17⟩ : ∃ x : xb_H, x = xb_I h13 b9 (Int32.toNatClampNeg ((xb_i h5 b10 (Int32.toNatClampNeg x4)) + (Int64.toInt32 (x5 + x9)))) (1 + r14) := ⟨_, rfl⟩
      rw [← eh17] at hR
      have hw := hw h17 eh17
      have hE : xb_ext h0 h17 := by rw [eh17]; exact hE
      refine lv_aload_n hx hb (xb_d D_M_writeRows 75 rfl) rfl (lv_at hl 2 rfl) ?_
      refine lv_iload_n hx hb (xb_d D_M_writeRows 76 rfl) rfl (lv_at hl 4 rfl) ?_
      refine lv_iload hx hb (xb_d D_M_writeRows 77 rfl) (lv_at hl 0 rfl) ?_
      have hk2 : xb_k h13 x0 = 9 := hEh13.k hk2
      have hk2 : xb_k h17 x0 = 9 := by rw [eh17]; exact hk2
      refine xb_call0 (D := D) (A := A) (σ := σ) (h := h17) (d := 2) (maxL := 3) (rest := []) (av := [.ref x0, .int x2, .int v8]) (fun T hT X => by obtain ⟨cb9, ra9, rb9, rc9⟩ := xb_recv (ci := 8) hR rfl hk2 (by decide); exact xt_invV X hx hown (hts _ m_bb531879) (hts _ m_4a6cd4a0) (hts _ m_d1c31e3c) (xt_sigOf (hts _ m_48217fba)) nm_M_go (by rw [hT]; exact ra9) rb9 rc9 (g := F0 m 129 ls [.int v8, .int x2, .ref x0]) rfl (argsL := [.int x2, .int v8]) (rest := []) rfl rfl (by rw [hb]; exact (xb_d D_M_writeRows 78 rfl))) (ok_M_go l hfl D A σ x0 x2 v8 h17 _ hw) (hml.trans hl.1.symm) (by rw [hb]; exact (xb_d D_M_writeRows 78 rfl)) (Nat.le_of_ble_eq_true rfl) (Nat.le_of_ble_eq_true rfl) (Nat.le_of_ble_eq_true rfl) (show k ≤ MC by omega) (show n ≤ MS by omega) (xt_w1 hB.1 m_48217fba) (xt_cdOf hB.1 m_48217fba) (hts _ m_d5ed7bed) hB hR hS hA (fun vv h18 H locs hq hEh18 hR hS => ?_)
      obtain ⟨rfl, hw⟩ := hq
      have hw := hw hEh18
      have hE := hE.tr hEh18
      refine W.eq (g2 := F0 m 132 ls []) rfl ?_
      refine lv_lload hx hb (xb_d D_M_writeRows 79 rfl) (lv_at hl 9 rfl) ?_
      refine lv_lconst (v := 1) hx hb (xb_d D_M_writeRows 80 rfl) (by decide) ?_
      refine lv_ladd hx hb (xb_d D_M_writeRows 81 rfl) ?_
      obtain ⟨v20, ev20⟩ : ∃ x : Int64, x = (x9 + 1) := ⟨_, rfl⟩
      have hw := hw v20 ev20
      refine xt_numl (y := v20) ev20.symm ?_
      refine lv_lstore hx hb (xb_d D_M_writeRows 82 rfl) hl (by decide) rfl (fun ls hl => ?_)
      have hl : lv_has ls 13 [(9, .long v20), (12, .int v8), (11, .int v7), (0, .ref x0), (1, .int x1), (2, .int x2), (3, .int x3), (4, .int x4), (5, .long x5), (7, .long x7)] := hl
      refine lv_goto (tgt := 66) hx hb (xb_d D_M_writeRows 83 rfl) rfl ?_
      exact ih x0 x1 x2 x3 x4 x5 x7 v20 h18 hw p e s m args below meth c hC H locs ls k n hE (lv_sub hl [3, 4, 5, 6, 7, 8, 9, 0] rfl) hR hS (by omega) (by omega)

set_option maxHeartbeats 4000000 in
set_option maxRecDepth 100000 in
theorem am_M_writeRows_L9 (l : Launch) (hfl : l.flags = pinnedFlags ++ [noTraceFlag]) (D : va_G) (A : Nat → Prop) (σ MC MS : Nat) (h0 : xb_H) (Qr : xb_H → Prop) (n9 : Nat) : ∀ (x0 : Nat) (x1 : Int32) (x2 : Int32) (x3 : Int32) (h : xb_H), w_M_writeRows_L9 Qr n9 x0 x1 x2 x3 h → xb_am l D A σ 10 MC MS h0 (fun v h _ _ => v = none ∧ Qr h) (fun _ _ _ _ => False) y_M_writeRows.cls y_M_writeRows.name b_M_writeRows 13 ([] : List ExceptionTableEntry) none 9 [(0, .ref x0), (1, .int x1), (2, .int x2), (3, .int x3)] [] h 0 0 := by
  induction n9 with
  | zero => intro x0 x1 x2 x3 h hw; exact False.elim hw
  | succ n9 ih =>
    intro x0 x1 x2 x3 h hw
    unfold w_M_writeRows_L9 at hw
    intro p e s m args below meth c hC H locs ls k n hE hl hR hS hk hn
    obtain ⟨hx, hb, hown, hlocks, htab, hml, hr, hB, hA, hnm⟩ := id hC
    have hts := hB.1.1.at args
    refine lv_iload_n hx hb (xb_d D_M_writeRows 7 rfl) rfl (lv_at hl 3 rfl) ?_
    refine lv_aload_n hx hb (xb_d D_M_writeRows 8 rfl) rfl (lv_at hl 0 rfl) ?_
    refine lv_iload_n hx hb (xb_d D_M_writeRows 9 rfl) rfl (lv_at hl 2 rfl) ?_
    refine lv_bipush (v := 9) hx hb (xb_d D_M_writeRows 10 rfl) (by decide) ?_
    obtain ⟨hk1, hw⟩ := hw
    refine xb_call0 (D := D) (A := A) (σ := σ) (h := h) (d := 2) (maxL := 3) (rest := [.int x3]) (av := [.ref x0, .int x2, .int 9]) (fun T hT X => by obtain ⟨cb9, ra9, rb9, rc9⟩ := xb_recv (ci := 8) hR rfl hk1 (by decide); exact xt_invV X hx hown (hts _ m_b47f62c2) (hts _ m_9f071faf) (hts _ m_e1bb5c84) (xt_sigOf (hts _ m_3a6212d6)) nm_M_manyOf (by rw [hT]; exact ra9) rb9 rc9 (g := F0 m 14 ls [.int 9, .int x2, .ref x0, .int x3]) rfl (argsL := [.int x2, .int 9]) (rest := [.int x3]) rfl rfl (by rw [hb]; exact (xb_d D_M_writeRows 11 rfl))) (ok_M_manyOf l hfl D A σ x0 x2 9 h _ hw) (hml.trans hl.1.symm) (by rw [hb]; exact (xb_d D_M_writeRows 11 rfl)) (Nat.le_of_ble_eq_true rfl) (Nat.le_of_ble_eq_true rfl) (Nat.le_of_ble_eq_true rfl) (show k ≤ MC by omega) (show n ≤ MS by omega) (xt_w1 hB.1 m_3a6212d6) (xt_cdOf hB.1 m_3a6212d6) (hts _ m_d5ed7bed) hB hR hS hA (fun vv h2 H locs hq hEh2 hR hS => ?_)
    obtain ⟨r3, rfl, hw⟩ := hq
    have hw := hw hEh2
    have hE := hE.tr hEh2
    refine W.eq (g2 := F0 m 17 ls [.int r3, .int x3]) rfl ?_
    refine lv_icmp_ge (tgt := 147) hx hb (xb_d D_M_writeRows 12 rfl) rfl (fun hc4 => ?_) (fun hc4 => ?_)
    · have hw := hw.1 hc4
      refine lv_iconst (v := 0) hx hb (xb_d D_M_writeRows 86 rfl) (by decide) ?_
      refine lv_istore_n hx hb (xb_d D_M_writeRows 87 rfl) rfl hl (by decide) rfl (fun ls hl => ?_)
      have hl : lv_has ls 13 [(3, .int 0), (0, .ref x0), (1, .int x1), (2, .int x2)] := hl
      obtain ⟨n8, hw⟩ := hw
      exact am_M_writeRows_L149 l hfl D A σ MC MS h0 Qr n8 x0 x1 x2 0 h2 hw p e s m args below meth c hC H locs ls k n hE (lv_sub hl [1, 2, 3, 0] rfl) hR hS (by omega) (by omega)
    · have hw := hw.2 hc4
      refine lv_aload_n hx hb (xb_d D_M_writeRows 13 rfl) rfl (lv_at hl 0 rfl) ?_
      refine lv_iload_n hx hb (xb_d D_M_writeRows 14 rfl) rfl (lv_at hl 1 rfl) ?_
      refine lv_iconst (v := 1) hx hb (xb_d D_M_writeRows 15 rfl) (by decide) ?_
      have hk1 : xb_k h2 x0 = 9 := hEh2.k hk1
      refine xb_call0 (D := D) (A := A) (σ := σ) (h := h2) (d := 9) (maxL := 3) (rest := []) (av := [.ref x0, .int x1, .int 1]) (fun T hT X => by obtain ⟨cb9, ra9, rb9, rc9⟩ := xb_recv (ci := 8) hR rfl hk1 (by decide); exact xt_invV X hx hown (hts _ m_392cec72) (hts _ m_982c4770) (hts _ m_e18e99cc) (xt_sigOf (hts _ m_3f9e55aa)) nm_M_only (by rw [hT]; exact ra9) rb9 rc9 (g := F0 m 23 ls [.int 1, .int x1, .ref x0]) rfl (argsL := [.int x1, .int 1]) (rest := []) rfl rfl (by rw [hb]; exact (xb_d D_M_writeRows 16 rfl))) (ok_M_only l hfl D A σ x0 x1 1 h2 _ hw) (hml.trans hl.1.symm) (by rw [hb]; exact (xb_d D_M_writeRows 16 rfl)) (Nat.le_of_ble_eq_true rfl) (Nat.le_of_ble_eq_true rfl) (Nat.le_of_ble_eq_true rfl) (show k ≤ MC by omega) (show n ≤ MS by omega) (xt_w1 hB.1 m_3f9e55aa) (xt_cdOf hB.1 m_3f9e55aa) (hts _ m_d5ed7bed) hB hR hS hA (fun vv h5 H locs hq hEh5 hR hS => ?_)
      obtain ⟨r6, rfl, hw⟩ := hq
      have hw := hw hEh5
      have hE := hE.tr hEh5
      refine W.eq (g2 := F0 m 26 ls [.int r6]) rfl ?_
      refine lv_istore hx hb (xb_d D_M_writeRows 17 rfl) hl (by decide) rfl (fun ls hl => ?_)
      have hl : lv_has ls 13 [(4, .int r6), (0, .ref x0), (1, .int x1), (2, .int x2), (3, .int x3)] := hl
      refine lv_aload_n hx hb (xb_d D_M_writeRows 18 rfl) rfl (lv_at hl 1 rfl) ?_
      refine lv_iload_n hx hb (xb_d D_M_writeRows 19 rfl) rfl (lv_at hl 3 rfl) ?_
      refine lv_aload_n hx hb (xb_d D_M_writeRows 20 rfl) rfl (lv_at hl 1 rfl) ?_
      refine lv_iload_n hx hb (xb_d D_M_writeRows 21 rfl) rfl (lv_at hl 3 rfl) ?_
      refine lv_bipush (v := 9) hx hb (xb_d D_M_writeRows 22 rfl) (by decide) ?_
      refine lv_iload_n hx hb (xb_d D_M_writeRows 23 rfl) rfl (lv_at hl 4 rfl) ?_
      have hk1 : xb_k h5 x0 = 9 := hEh5.k hk1
      refine xb_call0 (D := D) (A := A) (σ := σ) (h := h5) (d := 2) (maxL := 4) (rest := [.int x2, .ref x0]) (av := [.ref x0, .int x2, .int 9, .int x3]) (fun T hT X => by obtain ⟨cb9, ra9, rb9, rc9⟩ := xb_recv (ci := 8) hR rfl hk1 (by decide); exact xt_invV X hx hown (hts _ m_7f41753e) (hts _ m_8cdd7108) (hts _ m_e228318f) (xt_sigOf (hts _ m_89667ad5)) nm_M_placeOf (by rw [hT]; exact ra9) rb9 rc9 (g := F0 m 35 ls [.int x3, .int 9, .int x2, .ref x0, .int x2, .ref x0]) rfl (argsL := [.int x2, .int 9, .int x3]) (rest := [.int x2, .ref x0]) rfl rfl (by rw [hb]; exact (xb_d D_M_writeRows 24 rfl))) (ok_M_placeOf l hfl D A σ x0 x2 9 x3 h5 _ hw) (hml.trans hl.1.symm) (by rw [hb]; exact (xb_d D_M_writeRows 24 rfl)) (Nat.le_of_ble_eq_true rfl) (Nat.le_of_ble_eq_true rfl) (Nat.le_of_ble_eq_true rfl) (show k ≤ MC by omega) (show n ≤ MS by omega) (xt_w1 hB.1 m_89667ad5) (xt_cdOf hB.1 m_89667ad5) (hts _ m_d5ed7bed) hB hR hS hA (fun vv h7 H locs hq hEh7 hR hS => ?_)
      obtain ⟨r8, rfl, hw⟩ := hq
      have hw := hw hEh7
      have hE := hE.tr hEh7
      refine W.eq (g2 := F0 m 38 ls [.int r8, .int x2, .ref x0]) rfl ?_
      have hk1 : xb_k h7 x0 = 9 := hEh7.k hk1
      refine xb_call0 (D := D) (A := A) (σ := σ) (h := h7) (d := 2) (maxL := 3) (rest := []) (av := [.ref x0, .int x2, .int r8]) (fun T hT X => by obtain ⟨cb9, ra9, rb9, rc9⟩ := xb_recv (ci := 8) hR rfl hk1 (by decide); exact xt_invV X hx hown (hts _ m_bb531879) (hts _ m_4a6cd4a0) (hts _ m_d1c31e3c) (xt_sigOf (hts _ m_48217fba)) nm_M_go (by rw [hT]; exact ra9) rb9 rc9 (g := F0 m 38 ls [.int r8, .int x2, .ref x0]) rfl (argsL := [.int x2, .int r8]) (rest := []) rfl rfl (by rw [hb]; exact (xb_d D_M_writeRows 25 rfl))) (ok_M_go l hfl D A σ x0 x2 r8 h7 _ hw) (hml.trans hl.1.symm) (by rw [hb]; exact (xb_d D_M_writeRows 25 rfl)) (Nat.le_of_ble_eq_true rfl) (Nat.le_of_ble_eq_true rfl) (Nat.le_of_ble_eq_true rfl) (show k ≤ MC by omega) (show n ≤ MS by omega) (xt_w1 hB.1 m_48217fba) (xt_cdOf hB.1 m_48217fba) (hts _ m_d5ed7bed) hB hR hS hA (fun vv h9 H locs hq hEh9 hR hS => ?_)
      obtain ⟨rfl, hw⟩ := hq
      have hw := hw hEh9
      have hE := hE.tr hEh9
      refine W.eq (g2 := F0 m 41 ls []) rfl ?_
      refine lv_aload_n hx hb (xb_d D_M_writeRows 26 rfl) rfl (lv_at hl 1 rfl) ?_
      have hk1 : xb_k h9 x0 = 9 := hEh9.k hk1
      refine xb_call0 (D := D) (A := A) (σ := σ) (h := h9) (d := 4) (maxL := 5) (rest := []) (av := [.ref x0]) (fun T hT X => by obtain ⟨cb9, ra9, rb9, rc9⟩ := xb_recv (ci := 8) hR rfl hk1 (by decide); exact xt_invV X hx hown (hts _ m_e991293f) (hts _ m_385a74b3) (hts _ m_c9fbcd02) (xt_sigOf (hts _ m_1f53f210)) nm_M_count (by rw [hT]; exact ra9) rb9 rc9 (g := F0 m 42 ls [.ref x0]) rfl (argsL := []) (rest := []) rfl rfl (by rw [hb]; exact (xb_d D_M_writeRows 27 rfl))) (ok_M_count l hfl D A σ x0 h9 _ hw) (hml.trans hl.1.symm) (by rw [hb]; exact (xb_d D_M_writeRows 27 rfl)) (Nat.le_of_ble_eq_true rfl) (Nat.le_of_ble_eq_true rfl) (Nat.le_of_ble_eq_true rfl) (show k ≤ MC by omega) (show n ≤ MS by omega) (xt_w1 hB.1 m_1f53f210) (xt_cdOf hB.1 m_1f53f210) (hts _ m_d5ed7bed) hB hR hS hA (fun vv h11 H locs hq hEh11 hR hS => ?_)
      obtain ⟨r12, rfl, hw⟩ := hq
      have hw := hw hEh11
      have hE := hE.tr hEh11
      refine W.eq (g2 := F0 m 45 ls [.long r12]) rfl ?_
      refine lv_pop2_2 hx hb (xb_d D_M_writeRows 28 rfl) rfl ?_
      refine lv_aload_n hx hb (xb_d D_M_writeRows 29 rfl) rfl (lv_at hl 1 rfl) ?_
      refine lv_iload_n hx hb (xb_d D_M_writeRows 30 rfl) rfl (lv_at hl 2 rfl) ?_
      have hk1 : xb_k h11 x0 = 9 := hEh11.k hk1
      refine xb_call0 (D := D) (A := A) (σ := σ) (h := h11) (d := 9) (maxL := 8) (rest := []) (av := [.ref x0, .int x1]) (fun T hT X => by obtain ⟨cb9, ra9, rb9, rc9⟩ := xb_recv (ci := 8) hR rfl hk1 (by decide); exact xt_invV X hx hown (hts _ m_3863d309) (hts _ m_06065df9) (hts _ m_e2bfe1f7) (xt_sigOf (hts _ m_426e00bf)) nm_M_constant (by rw [hT]; exact ra9) rb9 rc9 (g := F0 m 48 ls [.int x1, .ref x0]) rfl (argsL := [.int x1]) (rest := []) rfl rfl (by rw [hb]; exact (xb_d D_M_writeRows 31 rfl))) (ok_M_constant l hfl D A σ x0 x1 h11 _ hw) (hml.trans hl.1.symm) (by rw [hb]; exact (xb_d D_M_writeRows 31 rfl)) (Nat.le_of_ble_eq_true rfl) (Nat.le_of_ble_eq_true rfl) (Nat.le_of_ble_eq_true rfl) (show k ≤ MC by omega) (show n ≤ MS by omega) (xt_w1 hB.1 m_426e00bf) (xt_cdOf hB.1 m_426e00bf) (hts _ m_d5ed7bed) hB hR hS hA (fun vv h13 H locs hq hEh13 hR hS => ?_)
      obtain ⟨r14, rfl, hw⟩ := hq
      have hw := hw hEh13
      have hE := hE.tr hEh13
      refine W.eq (g2 := F0 m 51 ls [.long r14]) rfl ?_
      refine lv_ldc2 (v := 4294967295) hx hb hown (hts _ m_92d51c6a) (xb_d D_M_writeRows 32 rfl) ?_
      refine lv_land hx hb (xb_d D_M_writeRows 33 rfl) ?_
      obtain ⟨v15, ev15⟩ : ∃ x : Int64, x = (r14 &&& 4294967295) := ⟨_, rfl⟩
      have hw := hw v15 ev15
      refine xt_numl (y := v15) ev15.symm ?_
      refine lv_lstore hx hb (xb_d D_M_writeRows 34 rfl) hl (by decide) rfl (fun ls hl => ?_)
      have hl : lv_has ls 13 [(5, .long v15), (4, .int r6), (0, .ref x0), (1, .int x1), (2, .int x2), (3, .int x3)] := hl
      refine lv_aload_n hx hb (xb_d D_M_writeRows 35 rfl) rfl (lv_at hl 2 rfl) ?_
      have hk1 : xb_k h13 x0 = 9 := hEh13.k hk1
      refine xb_call0 (D := D) (A := A) (σ := σ) (h := h13) (d := 4) (maxL := 5) (rest := []) (av := [.ref x0]) (fun T hT X => by obtain ⟨cb9, ra9, rb9, rc9⟩ := xb_recv (ci := 8) hR rfl hk1 (by decide); exact xt_invV X hx hown (hts _ m_e991293f) (hts _ m_385a74b3) (hts _ m_c9fbcd02) (xt_sigOf (hts _ m_1f53f210)) nm_M_count (by rw [hT]; exact ra9) rb9 rc9 (g := F0 m 58 ls [.ref x0]) rfl (argsL := []) (rest := []) rfl rfl (by rw [hb]; exact (xb_d D_M_writeRows 36 rfl))) (ok_M_count l hfl D A σ x0 h13 _ hw) (hml.trans hl.1.symm) (by rw [hb]; exact (xb_d D_M_writeRows 36 rfl)) (Nat.le_of_ble_eq_true rfl) (Nat.le_of_ble_eq_true rfl) (Nat.le_of_ble_eq_true rfl) (show k ≤ MC by omega) (show n ≤ MS by omega) (xt_w1 hB.1 m_1f53f210) (xt_cdOf hB.1 m_1f53f210) (hts _ m_d5ed7bed) hB hR hS hA (fun vv h16 H locs hq hEh16 hR hS => ?_)
      obtain ⟨r17, rfl, hw⟩ := hq
      have hw := hw hEh16
      have hE := hE.tr hEh16
      refine W.eq (g2 := F0 m 61 ls [.long r17]) rfl ?_
      refine lv_lstore hx hb (xb_d D_M_writeRows 37 rfl) hl (by decide) rfl (fun ls hl => ?_)
      have hl : lv_has ls 13 [(7, .long r17), (5, .long v15), (4, .int r6), (0, .ref x0), (1, .int x1), (2, .int x2), (3, .int x3)] := hl
      refine lv_lconst (v := 0) hx hb (xb_d D_M_writeRows 38 rfl) (by decide) ?_
      refine lv_lstore hx hb (xb_d D_M_writeRows 39 rfl) hl (by decide) rfl (fun ls hl => ?_)
      have hl : lv_has ls 13 [(9, .long 0), (7, .long r17), (5, .long v15), (4, .int r6), (0, .ref x0), (1, .int x1), (2, .int x2), (3, .int x3)] := hl
      obtain ⟨n8, hw⟩ := hw
      exact am_M_writeRows_L66 l hfl D A σ MC MS h0 Qr (w_M_writeRows_L9 Qr n9) ih n8 x0 x1 x2 x3 r6 v15 r17 0 h16 hw p e s m args below meth c hC H locs ls k n hE (lv_sub hl [4, 5, 6, 7, 3, 2, 1, 0] rfl) hR hS (by omega) (by omega)

set_option maxHeartbeats 4000000 in
set_option maxRecDepth 100000 in
theorem ok_M_writeRows (l : Launch) (hfl : l.flags = pinnedFlags ++ [noTraceFlag]) (D : va_G) (A : Nat → Prop) (σ : Nat) (x0 : Nat) (x1 : Int32) (h : xb_H) (Qr : xb_H → Prop) (hw : w_M_writeRows x0 x1 h Qr) : xb_Met l y_M_writeRows [.code y_M_writeRows b_M_writeRows 13 none] (xb_rm 10 0 0) (xb_Pc D A σ h [.ref x0, .int x1]) (xb_Qc D A h 0 0 (fun v h _ _ => v = none ∧ Qr h) (fun _ _ _ _ => False)) A := by
  refine xb_ofAm (cc := b_M_writeRows) (by decide) (Nat.le_of_ble_eq_true rfl) ?_
  unfold w_M_writeRows at hw
  show xb_am l D A σ 10 0 0 h (fun v h _ _ => v = none ∧ Qr h) (fun _ _ _ _ => False) y_M_writeRows.cls y_M_writeRows.name b_M_writeRows 13 ([] : List ExceptionTableEntry) none 0 [(0, .ref x0), (1, .int x1)] [] h 0 0
  obtain ⟨MC, hMC⟩ : ∃ x, x = 0 := ⟨_, rfl⟩
  obtain ⟨MS, hMS⟩ : ∃ x, x = 0 := ⟨_, rfl⟩
  rw [show xb_am l D A σ 10 0 0 = xb_am l D A σ 10 MC MS by rw [hMC, hMS]]
  obtain ⟨h0, hh0⟩ : ∃ x, x = h := ⟨_, rfl⟩
  rw [show xb_am l D A σ 10 MC MS h = xb_am l D A σ 10 MC MS h0 by rw [hh0]]
  intro p e s m args below meth c hC H locs ls k n hE hl hR hS hk hn
  obtain ⟨hx, hb, hown, hlocks, htab, hml, hr, hB, hA, hnm⟩ := id hC
  have hts := hB.1.1.at args
  refine lv_aload_n hx hb (xb_d D_M_writeRows 0 rfl) rfl (lv_at hl 0 rfl) ?_
  obtain ⟨hk1, hw⟩ := hw
  refine xb_getP (C := R_M) (T := F_M) (N := 97) hx hb 8 31 hts fin_M hown hR hk1 (by decide) rfl (by decide) rfl (hts _ m_691d5f47) (fun _ h9 => h9) (xb_d D_M_writeRows 1 rfl) ?_
  obtain ⟨b2, eb2, hw⟩ := hw
  refine xb_some eb2 ?_
  refine lv_iload_n hx hb (xb_d D_M_writeRows 2 rfl) rfl (lv_at hl 1 rfl) ?_
  obtain ⟨hk4, hw⟩ := hw
  obtain ⟨hi3, hw⟩ := hw
  refine xb_iald hx hb hR hk4 hi3 (xb_d D_M_writeRows 3 rfl) ?_
  obtain ⟨v5, ev5⟩ : ∃ x : Int32, x = (xb_i h b2 (Int32.toNatClampNeg x1)) := ⟨_, rfl⟩
  have hw := hw v5 ev5
  refine xt_numi (y := v5) ev5.symm ?_
  refine lv_istore_n hx hb (xb_d D_M_writeRows 4 rfl) rfl hl (by decide) rfl (fun ls hl => ?_)
  have hl : lv_has ls 13 [(2, .int v5), (0, .ref x0), (1, .int x1)] := hl
  refine lv_iconst (v := 0) hx hb (xb_d D_M_writeRows 5 rfl) (by decide) ?_
  refine lv_istore_n hx hb (xb_d D_M_writeRows 6 rfl) rfl hl (by decide) rfl (fun ls hl => ?_)
  have hl : lv_has ls 13 [(3, .int 0), (2, .int v5), (0, .ref x0), (1, .int x1)] := hl
  obtain ⟨n8, hw⟩ := hw
  exact am_M_writeRows_L9 l hfl D A σ MC MS h0 Qr n8 x0 x1 v5 0 h hw p e s m args below meth c hC H locs ls k n hE (lv_sub hl [2, 3, 1, 0] rfl) hR hS (by omega) (by omega)

theorem m_d72d9ea3 : (.methodLink "StackHostLaw" 59 y_H_run : Cond) ∈ xt_tbl := xt_in (xt_t7 (List.mem_of_getElem? (i := 196) (by decide +kernel))) (by decide +kernel)
theorem m_5829a8db : (.instanceMethod y_H_run : Cond) ∈ xt_tbl := xt_in (xt_t7 (List.mem_of_getElem? (i := 197) (by decide +kernel))) (by decide +kernel)
theorem m_8e7efa5d : (.selects "StackHost" y_H_run y_H_run : Cond) ∈ xt_tbl := xt_in (xt_t7 (List.mem_of_getElem? (i := 198) (by decide +kernel))) (by decide +kernel)
theorem m_8c6e275a : (.code y_H_run b_H_run 2 (some .int) : Cond) ∈ xt_tbl := xt_in (xt_t7 (List.mem_of_getElem? (i := 199) (by decide +kernel))) (by decide +kernel)
theorem nm_H_run : xt_nm y_H_run 1 := ⟨by decide +kernel, by decide +kernel⟩
set_option maxRecDepth 100000 in
def T_Law_run : List (Nat × Instr × Nat) := [(0, .aload_n 2, 1), (1, .iconst 0, 1), (2, .aload_n 0, 1), (3, .iload_n 1, 1), (4, .invokevirtual 59, 3), (7, .i2l, 1), (8, .lastore, 1), (9, .goto 9, 3), (12, .astore_n 3, 1), (13, .iconst 1, 1), (14, .ireturn, 1), (15, .astore_n 3, 1), (16, .iconst 2, 1), (17, .ireturn, 1), (18, .iconst 0, 1), (19, .ireturn, 1)]
theorem D_Law_run : ∀ q ∈ T_Law_run, decode b_Law_run q.1 = .ok (q.2.1, q.2.2) := by decide +kernel

set_option maxHeartbeats 4000000 in
set_option maxRecDepth 100000 in
theorem ok_Law_run (l : Launch) (hfl : l.flags = pinnedFlags ++ [noTraceFlag]) (D : va_G) (A : Nat → Prop) (σ : Nat) (x0 : Nat) (x1 : Int32) (x2 : Nat) (h : xb_H) (bc : Nat) (bs : Nat) (Qr : Int32 → xb_H → Nat → Nat → Prop) (hw : w_Law_run x0 x1 x2 h bc bs Qr) : xb_Met l y_Law_run [.codeWith y_Law_run b_Law_run 4 (some .int) [(0, 9, 12, 19), (0, 9, 15, 13)]] (xb_rm 11 bc bs) (xb_Pc D A σ h [.ref x0, .int x1, .ref x2]) (xb_Qc D A h bc bs (fun v h bc bs => ∃ r, v = some (.int r) ∧ Qr r h bc bs) (fun _ _ _ _ => False)) A := by
  refine xb_ofAmH (cc := b_Law_run) (by decide) (Nat.le_of_ble_eq_true rfl) ?_
  unfold w_Law_run at hw
  show xb_am l D A σ 11 bc bs h (fun v h bc bs => ∃ r, v = some (.int r) ∧ Qr r h bc bs) (fun _ _ _ _ => False) y_Law_run.cls y_Law_run.name b_Law_run 4 (tableOf [(0, 9, 12, 19), (0, 9, 15, 13)]) (some .int) 0 [(0, .ref x0), (1, .int x1), (2, .ref x2)] [] h bc bs
  obtain ⟨MC, hMC⟩ : ∃ x, x = bc := ⟨_, rfl⟩
  obtain ⟨MS, hMS⟩ : ∃ x, x = bs := ⟨_, rfl⟩
  rw [show xb_am l D A σ 11 bc bs = xb_am l D A σ 11 MC MS by rw [hMC, hMS]]
  obtain ⟨h0, hh0⟩ : ∃ x, x = h := ⟨_, rfl⟩
  rw [show xb_am l D A σ 11 MC MS h = xb_am l D A σ 11 MC MS h0 by rw [hh0]]
  intro p e s m args below meth c hC H locs ls k n hE hl hR hS hk hn
  obtain ⟨hx, hb, hown, hlocks, htab, hml, hr, hB, hA, hnm⟩ := id hC
  have hts := hB.1.1.at args
  refine lv_aload_n hx hb (xb_d D_Law_run 0 rfl) rfl (lv_at hl 2 rfl) ?_
  refine lv_iconst (v := 0) hx hb (xb_d D_Law_run 1 rfl) (by decide) ?_
  refine lv_aload_n hx hb (xb_d D_Law_run 2 rfl) rfl (lv_at hl 0 rfl) ?_
  refine lv_iload_n hx hb (xb_d D_Law_run 3 rfl) rfl (lv_at hl 1 rfl) ?_
  obtain ⟨hk1, hw⟩ := hw
  refine xb_call (D := D) (A := A) (σ := σ) (h := h) (d := 10) (mc := bc) (ms := bs) (maxL := 2) (rest := [.int 0, .ref x2]) (av := [.ref x0, .int x1]) (fun T hT X => by obtain ⟨cb9, ra9, rb9, rc9⟩ := xb_recv (ci := 0) hR rfl hk1 (by decide); exact xt_invV X hx hown (hts _ m_d72d9ea3) (hts _ m_5829a8db) (hts _ m_8e7efa5d) (xt_sigOf (hts _ m_8c6e275a)) nm_H_run (by rw [hT]; exact ra9) rb9 rc9 (g := F0 m 4 ls [.int x1, .ref x0, .int 0, .ref x2]) rfl (argsL := [.int x1]) (rest := [.int 0, .ref x2]) rfl rfl (by rw [hb]; exact (xb_d D_Law_run 4 rfl))) (ok_H_run l hfl D A σ x0 x1 h bc bs _ _ hw) (hml.trans hl.1.symm) (by rw [hb]; exact (xb_d D_Law_run 4 rfl)) (Nat.le_of_ble_eq_true rfl) (Nat.le_of_ble_eq_true rfl) (Nat.le_of_ble_eq_true rfl) (show k + bc ≤ MC by omega) (show n + bs ≤ MS by omega) (xt_w1 hB.1 m_8c6e275a) (xt_cdOf hB.1 m_8c6e275a) (hts _ m_ba0734f5) hB hR hS hA (fun vv h2 bc3 bs3 kk3 nn3 H locs hk3 hn3 hq hEh2 hR hS => ?_) (fun XX ax h2 bc3 bs3 kk3 nn3 H locs hk3 hn3 hq hEh2 hex hR hS => ?_)
  · obtain ⟨r3, rfl, hw⟩ := hq
    have hw := hw hEh2
    have hE := hE.tr hEh2
    refine W.eq (g2 := F0 m 7 ls [.int r3, .int 0, .ref x2]) rfl ?_
    refine lv_i2l hx hb (xb_d D_Law_run 5 rfl) rfl ?_
    obtain ⟨hk4, hw⟩ := hw
    obtain ⟨hi5, hw⟩ := hw
    refine xb_last hx hb hR hS hk4 hi5 (xb_d D_Law_run 6 rfl) (fun H locs hR hS => ?_)
    obtain ⟨h6, eh6⟩ : ∃ x : xb_H, x = xb_L h2 x2 (Int32.toNatClampNeg 0) (Int32.toInt64 r3) := ⟨_, rfl⟩
    rw [← eh6] at hR
    have hw := hw h6 eh6
    have hE : xb_ext h0 h6 := by rw [eh6]; exact hE
    refine lv_goto (tgt := 18) hx hb (xb_d D_Law_run 7 rfl) rfl ?_
    refine lv_iconst (v := 0) hx hb (xb_d D_Law_run 14 rfl) (by decide) ?_
    exact xb_iret bc3 bs3 hx hb hr hlocks (show (k + kk3) + bc3 ≤ MC by omega) (show (n + nn3) + bs3 ≤ MS by omega) hE hR hS (xb_d D_Law_run 15 rfl) hw
  · have hw := hq hEh2 ax
    have hE := hE.tr hEh2
    rcases hw with ⟨rfl, hw⟩ | ⟨rfl, hw⟩
    · refine xt_catch (own := "StackHostLaw") (name := "java/lang/IllegalArgumentException") (Xn := "java/lang/IllegalArgumentException") hown ⟨0, 9, 12, 19⟩ [⟨0, 9, 15, 13⟩] htab (by decide) (by decide) (hts _ m_3beed69a) (hts _ m_b3980edb) hex ?_
      refine W.eq (g2 := F0 m 12 ls [.ref ax]) rfl ?_
      refine lv_astore_n hx hb (xb_d D_Law_run 8 rfl) rfl hl (by decide) rfl (fun ls hl => ?_)
      have hl : lv_has ls 4 [(3, .ref ax), (0, .ref x0), (1, .int x1), (2, .ref x2)] := hl
      refine lv_iconst (v := 1) hx hb (xb_d D_Law_run 9 rfl) (by decide) ?_
      exact xb_iret bc3 bs3 hx hb hr hlocks (show (k + kk3) + bc3 ≤ MC by omega) (show (n + nn3) + bs3 ≤ MS by omega) hE hR hS (xb_d D_Law_run 10 rfl) hw
    · refine xt_catch2 (own := "StackHostLaw") (name1 := "java/lang/IllegalArgumentException") (name := "java/lang/IllegalStateException") (Xn := "java/lang/IllegalStateException") hown ⟨0, 9, 12, 19⟩ ⟨0, 9, 15, 13⟩ [] htab (by decide) (by decide) (by decide) (by decide) (hts _ m_3beed69a) (xb_nc hB "java/lang/IllegalStateException" "java/lang/IllegalArgumentException" (by decide +kernel)) (hts _ m_cd065aea) (hts _ m_a4ef0ec8) hex ?_
      refine W.eq (g2 := F0 m 15 ls [.ref ax]) rfl ?_
      refine lv_astore_n hx hb (xb_d D_Law_run 11 rfl) rfl hl (by decide) rfl (fun ls hl => ?_)
      have hl : lv_has ls 4 [(3, .ref ax), (0, .ref x0), (1, .int x1), (2, .ref x2)] := hl
      refine lv_iconst (v := 2) hx hb (xb_d D_Law_run 12 rfl) (by decide) ?_
      exact xb_iret bc3 bs3 hx hb hr hlocks (show (k + kk3) + bc3 ≤ MC by omega) (show (n + nn3) + bs3 ≤ MS by omega) hE hR hS (xb_d D_Law_run 13 rfl) hw

