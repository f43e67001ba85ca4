theorem m_160f9bc8 : (.fieldLink "StackHostModel" 412 "StackHostModel" "localCount" "I" : Cond) ∈ xt_tbl := xt_in (xt_t9 (List.mem_of_getElem? (i := 159) (by decide +kernel))) (by decide +kernel)
theorem m_6138b594 : (.methodLink "StackHostModel" 339 y_M_parameter : Cond) ∈ xt_tbl := xt_in (xt_t11 (List.mem_of_getElem? (i := 149) (by decide +kernel))) (by decide +kernel)
theorem m_177929d7 : (.instanceMethod y_M_parameter : Cond) ∈ xt_tbl := xt_in (xt_t11 (List.mem_of_getElem? (i := 151) (by decide +kernel))) (by decide +kernel)
theorem m_ef9b6e50 : (.selects "StackHostModel" y_M_parameter y_M_parameter : Cond) ∈ xt_tbl := xt_in (xt_v11 (q := (⟨"StackHostModel", "parameter", "(III)I"⟩, 97)) (List.mem_of_getElem? (i := 13) (by decide +kernel))) (by decide +kernel)
theorem m_9ea8a027 : (.code y_M_parameter b_M_parameter 5 (some .int) : Cond) ∈ xt_tbl := xt_in (xt_t11 (List.mem_of_getElem? (i := 152) (by decide +kernel))) (by decide +kernel)
theorem nm_M_parameter : xt_nm y_M_parameter 3 := ⟨by decide +kernel, by decide +kernel⟩
set_option maxRecDepth 100000 in
def T_M_readLocals : List (Nat × Instr × Nat) := [(0, .aload_n 0, 1), (1, .getfield 202, 3), (4, .istore_n 3, 1), (5, .aload_n 0, 1), (6, .aload_n 0, 1), (7, .iload_n 1, 1), (8, .iload_n 2, 1), (9, .invokevirtual 333, 3), (12, .putfield 412, 3), (15, .iconst 0, 1), (16, .istore 4, 2), (18, .iload 4, 2), (20, .aload_n 0, 1), (21, .getfield 412, 3), (24, .if_icmp .ge 25, 3), (27, .aload_n 0, 1), (28, .getfield 40, 3), (31, .iload 4, 2), (33, .aload_n 0, 1), (34, .iload_n 1, 1), (35, .iload_n 2, 1), (36, .iload 4, 2), (38, .invokevirtual 339, 3), (41, .i2b, 1), (42, .bastore, 1), (43, .iinc 4 1, 3), (46, .goto (-28), 3), (49, .aload_n 0, 1), (50, .iload_n 1, 1), (51, .iload_n 3, 1), (52, .invokevirtual 324, 3), (55, .aload_n 0, 1), (56, .invokevirtual 218, 3), (59, .lstore 4, 2), (61, .lconst 0, 1), (62, .lstore 6, 2), (64, .lload 6, 2), (66, .lload 4, 2), (68, .lcmp, 1), (69, .ifCond .ge 66, 3), (72, .aload_n 0, 1), (73, .invokevirtual 218, 3), (76, .lstore 8, 2), (78, .aload_n 0, 1), (79, .invokevirtual 212, 3), (82, .istore 10, 2), (84, .lconst 0, 1), (85, .lstore 11, 2), (87, .lload 11, 2), (89, .lload 8, 2), (91, .lcmp, 1), (92, .ifCond .ge 34, 3), (95, .aload_n 0, 1), (96, .getfield 40, 3), (99, .aload_n 0, 1), (100, .getfield 412, 3), (103, .iload 10, 2), (105, .i2b, 1), (106, .bastore, 1), (107, .aload_n 0, 1), (108, .dup, 1), (109, .getfield 412, 3), (112, .iconst 1, 1), (113, .iadd, 1), (114, .putfield 412, 3), (117, .lload 11, 2), (119, .lconst 1, 1), (120, .ladd, 1), (121, .lstore 11, 2), (123, .goto (-36), 3), (126, .lload 6, 2), (128, .lconst 1, 1), (129, .ladd, 1), (130, .lstore 6, 2), (132, .goto (-68), 3), (135, .return_, 1)]
theorem D_M_readLocals : ∀ q ∈ T_M_readLocals, decode b_M_readLocals q.1 = .ok (q.2.1, q.2.2) := by decide +kernel

set_option maxHeartbeats 4000000 in
set_option maxRecDepth 100000 in
theorem am_M_readLocals_L87 (l : Launch) (hfl : l.flags = pinnedFlags ++ [noTraceFlag]) (D : va_G) (A : Nat → Prop) (σ MC MS : Nat) (h0 : xb_H) (Qr : xb_H → Prop) (K64 : Nat → Int64 → Int64 → xb_H → Prop) (hK64 : ∀ (x0 : Nat) (x4 : Int64) (x6 : Int64) (h : xb_H), K64 x0 x4 x6 h → xb_am l D A σ 7 MC MS h0 (fun v h _ _ => v = none ∧ Qr h) (fun _ _ _ _ => False) y_M_readLocals.cls y_M_readLocals.name b_M_readLocals 13 ([] : List ExceptionTableEntry) none 64 [(0, .ref x0), (4, .long x4), (6, .long x6)] [] h 0 0) (n9 : Nat) : ∀ (x0 : Nat) (x4 : Int64) (x6 : Int64) (x8 : Int64) (x10 : Int32) (x11 : Int64) (h : xb_H), w_M_readLocals_L87 K64 Qr n9 x0 x4 x6 x8 x10 x11 h → xb_am l D A σ 7 MC MS h0 (fun v h _ _ => v = none ∧ Qr h) (fun _ _ _ _ => False) y_M_readLocals.cls y_M_readLocals.name b_M_readLocals 13 ([] : List ExceptionTableEntry) none 87 [(0, .ref x0), (4, .long x4), (6, .long x6), (8, .long x8), (10, .int x10), (11, .long x11)] [] h 0 0 := by
  induction n9 with
  | zero => intro x0 x4 x6 x8 x10 x11 h hw; exact False.elim hw
  | succ n9 ih =>
    intro x0 x4 x6 x8 x10 x11 h hw
    unfold w_M_readLocals_L87 at hw
    intro p e s m args below meth c hC H locs ls k n hE hl hR hS hk hn
    obtain ⟨hx, hb, hown, hlocks, htab, hml, hr, hB, hA, hnm⟩ := id hC
    have hts := hB.1.1.at args
    refine lv_lload hx hb (xb_d D_M_readLocals 48 rfl) (lv_at hl 5 rfl) ?_
    refine lv_lload hx hb (xb_d D_M_readLocals 49 rfl) (lv_at hl 3 rfl) ?_
    refine xb_lc_ge (tgt := 126) hx hb (xb_d D_M_readLocals 50 rfl) (xb_d D_M_readLocals 51 rfl) rfl (fun hc1 => ?_) (fun hc1 => ?_)
    · have hw := hw.1 hc1
      refine lv_lload hx hb (xb_d D_M_readLocals 70 rfl) (lv_at hl 2 rfl) ?_
      refine lv_lconst (v := 1) hx hb (xb_d D_M_readLocals 71 rfl) (by decide) ?_
      refine lv_ladd hx hb (xb_d D_M_readLocals 72 rfl) ?_
      obtain ⟨v2, ev2⟩ : ∃ x : Int64, x = (x6 + 1) := ⟨_, rfl⟩
      have hw := hw v2 ev2
      refine xt_numl (y := v2) ev2.symm ?_
      refine lv_lstore hx hb (xb_d D_M_readLocals 73 rfl) hl (by decide) rfl (fun ls hl => ?_)
      have hl : lv_has ls 13 [(6, .long v2), (0, .ref x0), (4, .long x4), (8, .long x8), (10, .int x10), (11, .long x11)] := hl
      refine lv_goto (tgt := 64) hx hb (xb_d D_M_readLocals 74 rfl) rfl ?_
      exact hK64 x0 x4 v2 h hw p e s m args below meth c hC H locs ls k n hE (lv_sub hl [1, 2, 0] rfl) hR hS (by omega) (by omega)
    · have hw := hw.2 hc1
      refine lv_aload_n hx hb (xb_d D_M_readLocals 52 rfl) rfl (lv_at hl 0 rfl) ?_
      obtain ⟨hk3, hw⟩ := hw
      refine xb_getP (C := R_M) (T := F_M) (N := 97) hx hb 8 19 hts fin_M hown hR hk3 (by decide) rfl (by decide) rfl (hts _ m_cede1946) (fun _ h9 => h9) (xb_d D_M_readLocals 53 rfl) ?_
      obtain ⟨b4, eb4, hw⟩ := hw
      refine xb_some eb4 ?_
      refine lv_aload_n hx hb (xb_d D_M_readLocals 54 rfl) rfl (lv_at hl 0 rfl) ?_
      refine xb_getI (C := R_M) (T := F_M) (N := 97) hx hb 8 20 hts fin_M hown hR hk3 (by decide) rfl (by decide) rfl (hts _ m_160f9bc8) (fun _ h9 => h9) (xb_d D_M_readLocals 55 rfl) ?_
      refine lv_iload hx hb (xb_d D_M_readLocals 56 rfl) (lv_at hl 4 rfl) ?_
      refine lv_i2b hx hb (xb_d D_M_readLocals 57 rfl) rfl ?_
      obtain ⟨hk5, hw⟩ := hw
      obtain ⟨hi6, hw⟩ := hw
      refine xb_bast hx hb hR hS hk5 hi6 (xb_d D_M_readLocals 58 rfl) (fun H locs hR hS => ?_)
      obtain ⟨h7, eh7⟩ : ∃ x : xb_H, x = xb_I h b4 (Int32.toNatClampNeg (xb_i h x0 20)) (vp_nar .byte ((Int32.toInt8 x10).toInt32)) := ⟨_, rfl⟩
      rw [← eh7] at hR
      have hw := hw h7 eh7
      have hE : xb_ext h0 h7 := by rw [eh7]; exact hE
      refine lv_aload_n hx hb (xb_d D_M_readLocals 59 rfl) rfl (lv_at hl 0 rfl) ?_
      refine lv_dup hx hb (xb_d D_M_readLocals 60 rfl) rfl ?_
      have hk3 : xb_k h7 x0 = 9 := by rw [eh7]; exact hk3
      refine xb_getI (C := R_M) (T := F_M) (N := 97) hx hb 8 20 hts fin_M hown hR hk3 (by decide) rfl (by decide) rfl (hts _ m_160f9bc8) (fun _ h9 => h9) (xb_d D_M_readLocals 61 rfl) ?_
      refine lv_iconst (v := 1) hx hb (xb_d D_M_readLocals 62 rfl) (by decide) ?_
      refine lv_iadd hx hb (xb_d D_M_readLocals 63 rfl) ?_
      refine xb_putI (C := R_M) (T := F_M) (N := 97) (ty := .int) (x := ((xb_i h7 x0 20) + 1)) hx hb 8 20 hts fin_M t_M t_M_ok n_M hown hR hS hk3 (by decide) rfl (by decide) rfl (hts _ m_160f9bc8) (fun _ h9 => h9) rfl (by decide +kernel) rfl rfl (xb_d D_M_readLocals 64 rfl) (fun H locs hR hS => ?_)
      obtain ⟨h8, eh8⟩ : ∃ x : xb_H, x = xb_I h7 x0 20 ((xb_i h7 x0 20) + 1) := ⟨_, rfl⟩
      rw [← eh8] at hR
      have hw := hw h8 eh8
      have hE : xb_ext h0 h8 := by rw [eh8]; exact hE
      refine lv_lload hx hb (xb_d D_M_readLocals 65 rfl) (lv_at hl 5 rfl) ?_
      refine lv_lconst (v := 1) hx hb (xb_d D_M_readLocals 66 rfl) (by decide) ?_
      refine lv_ladd hx hb (xb_d D_M_readLocals 67 rfl) ?_
      obtain ⟨v9, ev9⟩ : ∃ x : Int64, x = (x11 + 1) := ⟨_, rfl⟩
      have hw := hw v9 ev9
      refine xt_numl (y := v9) ev9.symm ?_
      refine lv_lstore hx hb (xb_d D_M_readLocals 68 rfl) hl (by decide) rfl (fun ls hl => ?_)
      have hl : lv_has ls 13 [(11, .long v9), (0, .ref x0), (4, .long x4), (6, .long x6), (8, .long x8), (10, .int x10)] := hl
      refine lv_goto (tgt := 87) hx hb (xb_d D_M_readLocals 69 rfl) rfl ?_
      exact ih x0 x4 x6 x8 x10 v9 h8 hw p e s m args below meth c hC H locs ls k n hE (lv_sub hl [1, 2, 3, 4, 5, 0] rfl) hR hS (by omega) (by omega)

set_option maxHeartbeats 4000000 in
set_option maxRecDepth 100000 in
theorem am_M_readLocals_L64 (l : Launch) (hfl : l.flags = pinnedFlags ++ [noTraceFlag]) (D : va_G) (A : Nat → Prop) (σ MC MS : Nat) (h0 : xb_H) (Qr : xb_H → Prop) (n9 : Nat) : ∀ (x0 : Nat) (x4 : Int64) (x6 : Int64) (h : xb_H), w_M_readLocals_L64 Qr n9 x0 x4 x6 h → xb_am l D A σ 7 MC MS h0 (fun v h _ _ => v = none ∧ Qr h) (fun _ _ _ _ => False) y_M_readLocals.cls y_M_readLocals.name b_M_readLocals 13 ([] : List ExceptionTableEntry) none 64 [(0, .ref x0), (4, .long x4), (6, .long x6)] [] h 0 0 := by
  induction n9 with
  | zero => intro x0 x4 x6 h hw; exact False.elim hw
  | succ n9 ih =>
    intro x0 x4 x6 h hw
    unfold w_M_readLocals_L64 at hw
    intro p e s m args below meth c hC H locs ls k n hE hl hR hS hk hn
    obtain ⟨hx, hb, hown, hlocks, htab, hml, hr, hB, hA, hnm⟩ := id hC
    have hts := hB.1.1.at args
    refine lv_lload hx hb (xb_d D_M_readLocals 36 rfl) (lv_at hl 2 rfl) ?_
    refine lv_lload hx hb (xb_d D_M_readLocals 37 rfl) (lv_at hl 1 rfl) ?_
    refine xb_lc_ge (tgt := 135) hx hb (xb_d D_M_readLocals 38 rfl) (xb_d D_M_readLocals 39 rfl) rfl (fun hc1 => ?_) (fun hc1 => ?_)
    · have hw := hw.1 hc1
      exact xb_vret 0 0 hx hb hr hlocks (show k + 0 ≤ MC by omega) (show n + 0 ≤ MS by omega) hE hR hS (xb_d D_M_readLocals 75 rfl) hw
    · have hw := hw.2 hc1
      refine lv_aload_n hx hb (xb_d D_M_readLocals 40 rfl) rfl (lv_at hl 0 rfl) ?_
      obtain ⟨hk2, hw⟩ := hw
      refine xb_call0 (D := D) (A := A) (σ := σ) (h := h) (d := 4) (maxL := 5) (rest := []) (av := [.ref x0]) (fun T hT X => by obtain ⟨cb9, ra9, rb9, rc9⟩ := xb_recv (ci := 8) hR rfl hk2 (by decide); exact xt_invV X hx hown (hts _ m_e991293f) (hts _ m_385a74b3) (hts _ m_c9fbcd02) (xt_sigOf (hts _ m_1f53f210)) nm_M_count (by rw [hT]; exact ra9) rb9 rc9 (g := F0 m 73 ls [.ref x0]) rfl (argsL := []) (rest := []) rfl rfl (by rw [hb]; exact (xb_d D_M_readLocals 41 rfl))) (ok_M_count l hfl D A σ x0 h _ hw) (hml.trans hl.1.symm) (by rw [hb]; exact (xb_d D_M_readLocals 41 rfl)) (Nat.le_of_ble_eq_true rfl) (Nat.le_of_ble_eq_true rfl) (Nat.le_of_ble_eq_true rfl) (show k ≤ MC by omega) (show n ≤ MS by omega) (xt_w1 hB.1 m_1f53f210) (xt_cdOf hB.1 m_1f53f210) (hts _ m_d5ed7bed) hB hR hS hA (fun vv h3 H locs hq hEh3 hR hS => ?_)
      obtain ⟨r4, rfl, hw⟩ := hq
      have hw := hw hEh3
      have hE := hE.tr hEh3
      refine W.eq (g2 := F0 m 76 ls [.long r4]) rfl ?_
      refine lv_lstore hx hb (xb_d D_M_readLocals 42 rfl) hl (by decide) rfl (fun ls hl => ?_)
      have hl : lv_has ls 13 [(8, .long r4), (0, .ref x0), (4, .long x4), (6, .long x6)] := hl
      refine lv_aload_n hx hb (xb_d D_M_readLocals 43 rfl) rfl (lv_at hl 1 rfl) ?_
      have hk2 : xb_k h3 x0 = 9 := hEh3.k hk2
      refine xb_call0 (D := D) (A := A) (σ := σ) (h := h3) (d := 3) (maxL := 2) (rest := []) (av := [.ref x0]) (fun T hT X => by obtain ⟨cb9, ra9, rb9, rc9⟩ := xb_recv (ci := 8) hR rfl hk2 (by decide); exact xt_invV X hx hown (hts _ m_0e978570) (hts _ m_40099f98) (hts _ m_a7dbfd07) (xt_sigOf (hts _ m_0af1ec6a)) nm_M_next (by rw [hT]; exact ra9) rb9 rc9 (g := F0 m 79 ls [.ref x0]) rfl (argsL := []) (rest := []) rfl rfl (by rw [hb]; exact (xb_d D_M_readLocals 44 rfl))) (ok_M_next l hfl D A σ x0 h3 _ hw) (hml.trans hl.1.symm) (by rw [hb]; exact (xb_d D_M_readLocals 44 rfl)) (Nat.le_of_ble_eq_true rfl) (Nat.le_of_ble_eq_true rfl) (Nat.le_of_ble_eq_true rfl) (show k ≤ MC by omega) (show n ≤ MS by omega) (xt_w1 hB.1 m_0af1ec6a) (xt_cdOf hB.1 m_0af1ec6a) (hts _ m_d5ed7bed) hB hR hS hA (fun vv h5 H locs hq hEh5 hR hS => ?_)
      obtain ⟨r6, rfl, hw⟩ := hq
      have hw := hw hEh5
      have hE := hE.tr hEh5
      refine W.eq (g2 := F0 m 82 ls [.int r6]) rfl ?_
      refine lv_istore hx hb (xb_d D_M_readLocals 45 rfl) hl (by decide) rfl (fun ls hl => ?_)
      have hl : lv_has ls 13 [(10, .int r6), (8, .long r4), (0, .ref x0), (4, .long x4), (6, .long x6)] := hl
      refine lv_lconst (v := 0) hx hb (xb_d D_M_readLocals 46 rfl) (by decide) ?_
      refine lv_lstore hx hb (xb_d D_M_readLocals 47 rfl) hl (by decide) rfl (fun ls hl => ?_)
      have hl : lv_has ls 13 [(11, .long 0), (10, .int r6), (8, .long r4), (0, .ref x0), (4, .long x4), (6, .long x6)] := hl
      obtain ⟨n8, hw⟩ := hw
      exact am_M_readLocals_L87 l hfl D A σ MC MS h0 Qr (w_M_readLocals_L64 Qr n9) ih n8 x0 x4 x6 r4 r6 0 h5 hw p e s m args below meth c hC H locs ls k n hE (lv_sub hl [3, 4, 5, 2, 1, 0] rfl) hR hS (by omega) (by omega)

set_option maxHeartbeats 4000000 in
set_option maxRecDepth 100000 in
theorem am_M_readLocals_L18 (l : Launch) (hfl : l.flags = pinnedFlags ++ [noTraceFlag]) (D : va_G) (A : Nat → Prop) (σ MC MS : Nat) (h0 : xb_H) (Qr : xb_H → Prop) (n9 : Nat) : ∀ (x0 : Nat) (x1 : Int32) (x2 : Int32) (x3 : Int32) (x4 : Int32) (h : xb_H), w_M_readLocals_L18 Qr n9 x0 x1 x2 x3 x4 h → xb_am l D A σ 7 MC MS h0 (fun v h _ _ => v = none ∧ Qr h) (fun _ _ _ _ => False) y_M_readLocals.cls y_M_readLocals.name b_M_readLocals 13 ([] : List ExceptionTableEntry) none 18 [(0, .ref x0), (1, .int x1), (2, .int x2), (3, .int x3), (4, .int x4)] [] h 0 0 := by
  induction n9 with
  | zero => intro x0 x1 x2 x3 x4 h hw; exact False.elim hw
  | succ n9 ih =>
    intro x0 x1 x2 x3 x4 h hw
    unfold w_M_readLocals_L18 at hw
    intro p e s m args below meth c hC H locs ls k n hE hl hR hS hk hn
    obtain ⟨hx, hb, hown, hlocks, htab, hml, hr, hB, hA, hnm⟩ := id hC
    have hts := hB.1.1.at args
    refine lv_iload hx hb (xb_d D_M_readLocals 11 rfl) (lv_at hl 4 rfl) ?_
    refine lv_aload_n hx hb (xb_d D_M_readLocals 12 rfl) rfl (lv_at hl 0 rfl) ?_
    obtain ⟨hk1, hw⟩ := hw
    refine xb_getI (C := R_M) (T := F_M) (N := 97) hx hb 8 20 hts fin_M hown hR hk1 (by decide) rfl (by decide) rfl (hts _ m_160f9bc8) (fun _ h9 => h9) (xb_d D_M_readLocals 13 rfl) ?_
    refine lv_icmp_ge (tgt := 49) hx hb (xb_d D_M_readLocals 14 rfl) rfl (fun hc2 => ?_) (fun hc2 => ?_)
    · have hw := hw.1 hc2
      refine lv_aload_n hx hb (xb_d D_M_readLocals 27 rfl) rfl (lv_at hl 0 rfl) ?_
      refine lv_iload_n hx hb (xb_d D_M_readLocals 28 rfl) rfl (lv_at hl 1 rfl) ?_
      refine lv_iload_n hx hb (xb_d D_M_readLocals 29 rfl) rfl (lv_at hl 3 rfl) ?_
      refine xb_call0 (D := D) (A := A) (σ := σ) (h := h) (d := 2) (maxL := 3) (rest := []) (av := [.ref x0, .int x1, .int x3]) (fun T hT X => by obtain ⟨cb9, ra9, rb9, rc9⟩ := xb_recv (ci := 8) hR rfl hk1 (by decide); exact xt_invV X hx hown (hts _ m_bb531879) (hts _ m_4a6cd4a0) (hts _ m_d1c31e3c) (xt_sigOf (hts _ m_48217fba)) nm_M_go (by rw [hT]; exact ra9) rb9 rc9 (g := F0 m 52 ls [.int x3, .int x1, .ref x0]) rfl (argsL := [.int x1, .int x3]) (rest := []) rfl rfl (by rw [hb]; exact (xb_d D_M_readLocals 30 rfl))) (ok_M_go l hfl D A σ x0 x1 x3 h _ hw) (hml.trans hl.1.symm) (by rw [hb]; exact (xb_d D_M_readLocals 30 rfl)) (Nat.le_of_ble_eq_true rfl) (Nat.le_of_ble_eq_true rfl) (Nat.le_of_ble_eq_true rfl) (show k ≤ MC by omega) (show n ≤ MS by omega) (xt_w1 hB.1 m_48217fba) (xt_cdOf hB.1 m_48217fba) (hts _ m_d5ed7bed) hB hR hS hA (fun vv h3 H locs hq hEh3 hR hS => ?_)
      obtain ⟨rfl, hw⟩ := hq
      have hw := hw hEh3
      have hE := hE.tr hEh3
      refine W.eq (g2 := F0 m 55 ls []) rfl ?_
      refine lv_aload_n hx hb (xb_d D_M_readLocals 31 rfl) rfl (lv_at hl 0 rfl) ?_
      have hk1 : xb_k h3 x0 = 9 := hEh3.k hk1
      refine xb_call0 (D := D) (A := A) (σ := σ) (h := h3) (d := 4) (maxL := 5) (rest := []) (av := [.ref x0]) (fun T hT X => by obtain ⟨cb9, ra9, rb9, rc9⟩ := xb_recv (ci := 8) hR rfl hk1 (by decide); exact xt_invV X hx hown (hts _ m_e991293f) (hts _ m_385a74b3) (hts _ m_c9fbcd02) (xt_sigOf (hts _ m_1f53f210)) nm_M_count (by rw [hT]; exact ra9) rb9 rc9 (g := F0 m 56 ls [.ref x0]) rfl (argsL := []) (rest := []) rfl rfl (by rw [hb]; exact (xb_d D_M_readLocals 32 rfl))) (ok_M_count l hfl D A σ x0 h3 _ hw) (hml.trans hl.1.symm) (by rw [hb]; exact (xb_d D_M_readLocals 32 rfl)) (Nat.le_of_ble_eq_true rfl) (Nat.le_of_ble_eq_true rfl) (Nat.le_of_ble_eq_true rfl) (show k ≤ MC by omega) (show n ≤ MS by omega) (xt_w1 hB.1 m_1f53f210) (xt_cdOf hB.1 m_1f53f210) (hts _ m_d5ed7bed) hB hR hS hA (fun vv h5 H locs hq hEh5 hR hS => ?_)
      obtain ⟨r6, rfl, hw⟩ := hq
      have hw := hw hEh5
      have hE := hE.tr hEh5
      refine W.eq (g2 := F0 m 59 ls [.long r6]) rfl ?_
      refine lv_lstore hx hb (xb_d D_M_readLocals 33 rfl) hl (by decide) rfl (fun ls hl => ?_)
      have hl : lv_has ls 13 [(4, .long r6), (0, .ref x0), (1, .int x1), (2, .int x2), (3, .int x3)] := hl
      refine lv_lconst (v := 0) hx hb (xb_d D_M_readLocals 34 rfl) (by decide) ?_
      refine lv_lstore hx hb (xb_d D_M_readLocals 35 rfl) hl (by decide) rfl (fun ls hl => ?_)
      have hl : lv_has ls 13 [(6, .long 0), (4, .long r6), (0, .ref x0), (1, .int x1), (2, .int x2), (3, .int x3)] := hl
      obtain ⟨n8, hw⟩ := hw
      exact am_M_readLocals_L64 l hfl D A σ MC MS h0 Qr n8 x0 r6 0 h5 hw p e s m args below meth c hC H locs ls k n hE (lv_sub hl [2, 1, 0] rfl) hR hS (by omega) (by omega)
    · have hw := hw.2 hc2
      refine lv_aload_n hx hb (xb_d D_M_readLocals 15 rfl) rfl (lv_at hl 0 rfl) ?_
      refine xb_getP (C := R_M) (T := F_M) (N := 97) hx hb 8 19 hts fin_M hown hR hk1 (by decide) rfl (by decide) rfl (hts _ m_cede1946) (fun _ h9 => h9) (xb_d D_M_readLocals 16 rfl) ?_
      obtain ⟨b7, eb7, hw⟩ := hw
      refine xb_some eb7 ?_
      refine lv_iload hx hb (xb_d D_M_readLocals 17 rfl) (lv_at hl 4 rfl) ?_
      refine lv_aload_n hx hb (xb_d D_M_readLocals 18 rfl) rfl (lv_at hl 0 rfl) ?_
      refine lv_iload_n hx hb (xb_d D_M_readLocals 19 rfl) rfl (lv_at hl 1 rfl) ?_
      refine lv_iload_n hx hb (xb_d D_M_readLocals 20 rfl) rfl (lv_at hl 2 rfl) ?_
      refine lv_iload hx hb (xb_d D_M_readLocals 21 rfl) (lv_at hl 4 rfl) ?_
      refine xb_call0 (D := D) (A := A) (σ := σ) (h := h) (d := 6) (maxL := 5) (rest := [.int x4, .ref b7]) (av := [.ref x0, .int x1, .int x2, .int x4]) (fun T hT X => by obtain ⟨cb9, ra9, rb9, rc9⟩ := xb_recv (ci := 8) hR rfl hk1 (by decide); exact xt_invV X hx hown (hts _ m_6138b594) (hts _ m_177929d7) (hts _ m_ef9b6e50) (xt_sigOf (hts _ m_9ea8a027)) nm_M_parameter (by rw [hT]; exact ra9) rb9 rc9 (g := F0 m 38 ls [.int x4, .int x2, .int x1, .ref x0, .int x4, .ref b7]) rfl (argsL := [.int x1, .int x2, .int x4]) (rest := [.int x4, .ref b7]) rfl rfl (by rw [hb]; exact (xb_d D_M_readLocals 22 rfl))) (ok_M_parameter l hfl D A σ x0 x1 x2 x4 h _ hw) (hml.trans hl.1.symm) (by rw [hb]; exact (xb_d D_M_readLocals 22 rfl)) (Nat.le_of_ble_eq_true rfl) (Nat.le_of_ble_eq_true rfl) (Nat.le_of_ble_eq_true rfl) (show k ≤ MC by omega) (show n ≤ MS by omega) (xt_w1 hB.1 m_9ea8a027) (xt_cdOf hB.1 m_9ea8a027) (hts _ m_d5ed7bed) hB hR hS hA (fun vv h8 H locs hq hEh8 hR hS => ?_)
      obtain ⟨r9, rfl, hw⟩ := hq
      have hw := hw hEh8
      have hE := hE.tr hEh8
      refine W.eq (g2 := F0 m 41 ls [.int r9, .int x4, .ref b7]) rfl ?_
      refine lv_i2b hx hb (xb_d D_M_readLocals 23 rfl) rfl ?_
      obtain ⟨hk10, hw⟩ := hw
      obtain ⟨hi11, hw⟩ := hw
      refine xb_bast hx hb hR hS hk10 hi11 (xb_d D_M_readLocals 24 rfl) (fun H locs hR hS => ?_)
      obtain ⟨h12, eh12⟩ : ∃ x : xb_H, x = xb_I h8 b7 (Int32.toNatClampNeg x4) (vp_nar .byte ((Int32.toInt8 r9).toInt32)) := ⟨_, rfl⟩
      rw [← eh12] at hR
      have hw := hw h12 eh12
      have hE : xb_ext h0 h12 := by rw [eh12]; exact hE
      refine lv_iinc (v := (x4 + 1)) (k := 4) hx hb (xb_d D_M_readLocals 25 rfl) hl rfl (by first | rfl | decide) (by decide) rfl (fun ls hl => ?_)
      have hl : lv_has ls 13 [(4, .int (x4 + 1)), (0, .ref x0), (1, .int x1), (2, .int x2), (3, .int x3)] := hl
      refine lv_goto (tgt := 18) hx hb (xb_d D_M_readLocals 26 rfl) rfl ?_
      exact ih x0 x1 x2 x3 (x4 + 1) h12 hw p e s m args below meth c hC H locs ls k n hE (lv_sub hl [1, 2, 3, 4, 0] rfl) hR hS (by omega) (by omega)

set_option maxHeartbeats 4000000 in
set_option maxRecDepth 100000 in
theorem ok_M_readLocals (l : Launch) (hfl : l.flags = pinnedFlags ++ [noTraceFlag]) (D : va_G) (A : Nat → Prop) (σ : Nat) (x0 : Nat) (x1 : Int32) (x2 : Int32) (h : xb_H) (Qr : xb_H → Prop) (hw : w_M_readLocals x0 x1 x2 h Qr) : xb_Met l y_M_readLocals [.code y_M_readLocals b_M_readLocals 13 none] (xb_rm 7 0 0) (xb_Pc D A σ h [.ref x0, .int x1, .int x2]) (xb_Qc D A h 0 0 (fun v h _ _ => v = none ∧ Qr h) (fun _ _ _ _ => False)) A := by
  refine xb_ofAm (cc := b_M_readLocals) (by decide) (Nat.le_of_ble_eq_true rfl) ?_
  unfold w_M_readLocals at hw
  show xb_am l D A σ 7 0 0 h (fun v h _ _ => v = none ∧ Qr h) (fun _ _ _ _ => False) y_M_readLocals.cls y_M_readLocals.name b_M_readLocals 13 ([] : List ExceptionTableEntry) none 0 [(0, .ref x0), (1, .int x1), (2, .int x2)] [] h 0 0
  obtain ⟨MC, hMC⟩ : ∃ x, x = 0 := ⟨_, rfl⟩
  obtain ⟨MS, hMS⟩ : ∃ x, x = 0 := ⟨_, rfl⟩
  rw [show xb_am l D A σ 7 0 0 = xb_am l D A σ 7 MC MS by rw [hMC, hMS]]
  obtain ⟨h0, hh0⟩ : ∃ x, x = h := ⟨_, rfl⟩
  rw [show xb_am l D A σ 7 MC MS h = xb_am l D A σ 7 MC MS h0 by rw [hh0]]
  intro p e s m args below meth c hC H locs ls k n hE hl hR hS hk hn
  obtain ⟨hx, hb, hown, hlocks, htab, hml, hr, hB, hA, hnm⟩ := id hC
  have hts := hB.1.1.at args
  refine lv_aload_n hx hb (xb_d D_M_readLocals 0 rfl) rfl (lv_at hl 0 rfl) ?_
  obtain ⟨hk1, hw⟩ := hw
  refine xb_getI (C := R_M) (T := F_M) (N := 97) hx hb 8 15 hts fin_M hown hR hk1 (by decide) rfl (by decide) rfl (hts _ m_6c2d27ad) (fun _ h9 => h9) (xb_d D_M_readLocals 1 rfl) ?_
  obtain ⟨v2, ev2⟩ : ∃ x : Int32, x = (xb_i h x0 15) := ⟨_, rfl⟩
  have hw := hw v2 ev2
  refine xt_numi (y := v2) ev2.symm ?_
  refine lv_istore_n hx hb (xb_d D_M_readLocals 2 rfl) rfl hl (by decide) rfl (fun ls hl => ?_)
  have hl : lv_has ls 13 [(3, .int v2), (0, .ref x0), (1, .int x1), (2, .int x2)] := hl
  refine lv_aload_n hx hb (xb_d D_M_readLocals 3 rfl) rfl (lv_at hl 1 rfl) ?_
  refine lv_aload_n hx hb (xb_d D_M_readLocals 4 rfl) rfl (lv_at hl 1 rfl) ?_
  refine lv_iload_n hx hb (xb_d D_M_readLocals 5 rfl) rfl (lv_at hl 2 rfl) ?_
  refine lv_iload_n hx hb (xb_d D_M_readLocals 6 rfl) rfl (lv_at hl 3 rfl) ?_
  refine xb_call0 (D := D) (A := A) (σ := σ) (h := h) (d := 5) (maxL := 3) (rest := [.ref x0]) (av := [.ref x0, .int x1, .int x2]) (fun T hT X => by obtain ⟨cb9, ra9, rb9, rc9⟩ := xb_recv (ci := 8) hR rfl hk1 (by decide); exact xt_invV X hx hown (hts _ m_4fd64ef0) (hts _ m_2eb48211) (hts _ m_ff1f4a94) (xt_sigOf (hts _ m_2faa0c5c)) nm_M_parameters (by rw [hT]; exact ra9) rb9 rc9 (g := F0 m 9 ls [.int x2, .int x1, .ref x0, .ref x0]) rfl (argsL := [.int x1, .int x2]) (rest := [.ref x0]) rfl rfl (by rw [hb]; exact (xb_d D_M_readLocals 7 rfl))) (ok_M_parameters l hfl D A σ x0 x1 x2 h _ hw) (hml.trans hl.1.symm) (by rw [hb]; exact (xb_d D_M_readLocals 7 rfl)) (Nat.le_of_ble_eq_true rfl) (Nat.le_of_ble_eq_true rfl) (Nat.le_of_ble_eq_true rfl) (show k ≤ MC by omega) (show n ≤ MS by omega) (xt_w1 hB.1 m_2faa0c5c) (xt_cdOf hB.1 m_2faa0c5c) (hts _ m_d5ed7bed) hB hR hS hA (fun vv h3 H locs hq hEh3 hR hS => ?_)
  obtain ⟨r4, rfl, hw⟩ := hq
  have hw := hw hEh3
  have hE := hE.tr hEh3
  refine W.eq (g2 := F0 m 12 ls [.int r4, .ref x0]) rfl ?_
  have hk1 : xb_k h3 x0 = 9 := hEh3.k hk1
  refine xb_putI (C := R_M) (T := F_M) (N := 97) (ty := .int) (x := r4) hx hb 8 20 hts fin_M t_M t_M_ok n_M hown hR hS hk1 (by decide) rfl (by decide) rfl (hts _ m_160f9bc8) (fun _ h9 => h9) rfl (by decide +kernel) rfl rfl (xb_d D_M_readLocals 8 rfl) (fun H locs hR hS => ?_)
  obtain ⟨h5, eh5⟩ : ∃ x : xb_H, x = xb_I h3 x0 20 r4 := ⟨_, rfl⟩
  rw [← eh5] at hR
  have hw := hw h5 eh5
  have hE : xb_ext h0 h5 := by rw [eh5]; exact hE
  refine lv_iconst (v := 0) hx hb (xb_d D_M_readLocals 9 rfl) (by decide) ?_
  refine lv_istore hx hb (xb_d D_M_readLocals 10 rfl) hl (by decide) rfl (fun ls hl => ?_)
  have hl : lv_has ls 13 [(4, .int 0), (3, .int v2), (0, .ref x0), (1, .int x1), (2, .int x2)] := hl
  obtain ⟨n8, hw⟩ := hw
  exact am_M_readLocals_L18 l hfl D A σ MC MS h0 Qr n8 x0 x1 x2 v2 0 h5 hw p e s m args below meth c hC H locs ls k n hE (lv_sub hl [2, 3, 4, 1, 0] rfl) hR hS (by omega) (by omega)

theorem m_daabb39f : (.fieldLink "StackHostModel" 637 "StackHostModel" "metAt" "I" : Cond) ∈ xt_tbl := xt_in (xt_t9 (List.mem_of_getElem? (i := 234) (by decide +kernel))) (by decide +kernel)
set_option maxRecDepth 100000 in
def T_M_readOn : List (Nat × Instr × Nat) := [(0, .iload_n 1, 1), (1, .istore_n 3, 1), (2, .aload_n 0, 1), (3, .aload_n 0, 1), (4, .getfield 202, 3), (7, .putfield 637, 3), (10, .aload_n 0, 1), (11, .invokevirtual 212, 3), (14, .istore 4, 2), (16, .iload 4, 2), (18, .iconst 2, 1), (19, .if_icmp .lt 15, 3), (22, .iload 4, 2), (24, .iconst 4, 1), (25, .if_icmp .gt 9, 3), (28, .iinc 3 1, 3), (31, .goto 36, 3), (34, .iload 4, 2), (36, .iconst 5, 1), (37, .if_icmp .ne 14, 3), (40, .iload_n 2, 1), (41, .ifCond .eq 10, 3), (44, .iload_n 3, 1), (45, .iconst 1, 1), (46, .if_icmp .ne 5, 3), (49, .iconst 1, 1), (50, .ireturn, 1), (51, .iload 4, 2), (53, .bipush 11, 2), (55, .if_icmp .ne 12, 3), (58, .iinc 3 (-1), 3), (61, .iload_n 3, 1), (62, .ifCond .ne 5, 3), (65, .iconst 0, 1), (66, .ireturn, 1), (67, .aload_n 0, 1), (68, .iload 4, 2), (70, .aload_n 0, 1), (71, .getfield 637, 3), (74, .invokevirtual 259, 3), (77, .goto (-75), 3)]
theorem D_M_readOn : ∀ q ∈ T_M_readOn, decode b_M_readOn q.1 = .ok (q.2.1, q.2.2) := by decide +kernel

set_option maxHeartbeats 4000000 in
set_option maxRecDepth 100000 in
theorem am_M_readOn_L67 (l : Launch) (hfl : l.flags = pinnedFlags ++ [noTraceFlag]) (D : va_G) (A : Nat → Prop) (σ MC MS : Nat) (h0 : xb_H) (Qr : Int32 → xb_H → Prop) (K2 : Nat → Int32 → Int32 → xb_H → Prop) (hK2 : ∀ (x0 : Nat) (x2 : Int32) (x3 : Int32) (h : xb_H), K2 x0 x2 x3 h → xb_am l D A σ 7 MC MS h0 (fun v h _ _ => ∃ r, v = some (.int r) ∧ Qr r h) (fun _ _ _ _ => False) y_M_readOn.cls y_M_readOn.name b_M_readOn 5 ([] : List ExceptionTableEntry) (some .boolean) 2 [(0, .ref x0), (2, .int x2), (3, .int x3)] [] h 0 0) (x0 : Nat) (x2 : Int32) (x3 : Int32) (x4 : Int32) (h : xb_H) (hw : w_M_readOn_L67 K2 Qr x0 x2 x3 x4 h) : xb_am l D A σ 7 MC MS h0 (fun v h _ _ => ∃ r, v = some (.int r) ∧ Qr r h) (fun _ _ _ _ => False) y_M_readOn.cls y_M_readOn.name b_M_readOn 5 ([] : List ExceptionTableEntry) (some .boolean) 67 [(0, .ref x0), (2, .int x2), (3, .int x3), (4, .int x4)] [] h 0 0 := by
  unfold w_M_readOn_L67 at hw
  intro p e s m args below meth c hC H locs ls k n hE hl hR hS hk hn
  obtain ⟨hx, hb, hown, hlocks, htab, hml, hr, hB, hA, hnm⟩ := id hC
  have hts := hB.1.1.at args
  refine lv_aload_n hx hb (xb_d D_M_readOn 35 rfl) rfl (lv_at hl 0 rfl) ?_
  refine lv_iload hx hb (xb_d D_M_readOn 36 rfl) (lv_at hl 3 rfl) ?_
  refine lv_aload_n hx hb (xb_d D_M_readOn 37 rfl) rfl (lv_at hl 0 rfl) ?_
  obtain ⟨hk1, hw⟩ := hw
  refine xb_getI (C := R_M) (T := F_M) (N := 97) hx hb 8 96 hts fin_M hown hR hk1 (by decide) rfl (by decide) rfl (hts _ m_daabb39f) (fun _ h9 => h9) (xb_d D_M_readOn 38 rfl) ?_
  refine xb_call0 (D := D) (A := A) (σ := σ) (h := h) (d := 6) (maxL := 4) (rest := []) (av := [.ref x0, .int x4, .int (xb_i h x0 96)]) (fun T hT X => by obtain ⟨cb9, ra9, rb9, rc9⟩ := xb_recv (ci := 8) hR rfl hk1 (by decide); exact xt_invV X hx hown (hts _ m_9a2ddc48) (hts _ m_7986a93e) (hts _ m_abba4888) (xt_sigOf (hts _ m_a433953a)) nm_M_written (by rw [hT]; exact ra9) rb9 rc9 (g := F0 m 74 ls [.int (xb_i h x0 96), .int x4, .ref x0]) rfl (argsL := [.int x4, .int (xb_i h x0 96)]) (rest := []) rfl rfl (by rw [hb]; exact (xb_d D_M_readOn 39 rfl))) (ok_M_written l hfl D A σ x0 x4 (xb_i h x0 96) h _ hw) (hml.trans hl.1.symm) (by rw [hb]; exact (xb_d D_M_readOn 39 rfl)) (Nat.le_of_ble_eq_true rfl) (Nat.le_of_ble_eq_true rfl) (Nat.le_of_ble_eq_true rfl) (show k ≤ MC by omega) (show n ≤ MS by omega) (xt_w1 hB.1 m_a433953a) (xt_cdOf hB.1 m_a433953a) (hts _ m_d5ed7bed) hB hR hS hA (fun vv h2 H locs hq hEh2 hR hS => ?_)
  obtain ⟨rfl, hw⟩ := hq
  have hw := hw hEh2
  have hE := hE.tr hEh2
  refine W.eq (g2 := F0 m 77 ls []) rfl ?_
  refine lv_goto (tgt := 2) hx hb (xb_d D_M_readOn 40 rfl) rfl ?_
  exact hK2 x0 x2 x3 h2 hw p e s m args below meth c hC H locs ls k n hE (lv_sub hl [0, 1, 2] rfl) hR hS (by omega) (by omega)

set_option maxHeartbeats 4000000 in
set_option maxRecDepth 100000 in
theorem am_M_readOn_L51 (l : Launch) (hfl : l.flags = pinnedFlags ++ [noTraceFlag]) (D : va_G) (A : Nat → Prop) (σ MC MS : Nat) (h0 : xb_H) (Qr : Int32 → xb_H → Prop) (K2 : Nat → Int32 → Int32 → xb_H → Prop) (hK2 : ∀ (x0 : Nat) (x2 : Int32) (x3 : Int32) (h : xb_H), K2 x0 x2 x3 h → xb_am l D A σ 7 MC MS h0 (fun v h _ _ => ∃ r, v = some (.int r) ∧ Qr r h) (fun _ _ _ _ => False) y_M_readOn.cls y_M_readOn.name b_M_readOn 5 ([] : List ExceptionTableEntry) (some .boolean) 2 [(0, .ref x0), (2, .int x2), (3, .int x3)] [] h 0 0) (x0 : Nat) (x2 : Int32) (x3 : Int32) (x4 : Int32) (h : xb_H) (hw : w_M_readOn_L51 K2 Qr x0 x2 x3 x4 h) : xb_am l D A σ 7 MC MS h0 (fun v h _ _ => ∃ r, v = some (.int r) ∧ Qr r h) (fun _ _ _ _ => False) y_M_readOn.cls y_M_readOn.name b_M_readOn 5 ([] : List ExceptionTableEntry) (some .boolean) 51 [(0, .ref x0), (2, .int x2), (3, .int x3), (4, .int x4)] [] h 0 0 := by
  unfold w_M_readOn_L51 at hw
  intro p e s m args below meth c hC H locs ls k n hE hl hR hS hk hn
  obtain ⟨hx, hb, hown, hlocks, htab, hml, hr, hB, hA, hnm⟩ := id hC
  have hts := hB.1.1.at args
  refine lv_iload hx hb (xb_d D_M_readOn 27 rfl) (lv_at hl 3 rfl) ?_
  refine lv_bipush (v := 11) hx hb (xb_d D_M_readOn 28 rfl) (by decide) ?_
  refine lv_icmp_ne (tgt := 67) hx hb (xb_d D_M_readOn 29 rfl) rfl (fun hc1 => ?_) (fun hc1 => ?_)
  · have hw := hw.1 hc1
    exact am_M_readOn_L67 l hfl D A σ MC MS h0 Qr K2 hK2 x0 x2 x3 x4 h hw p e s m args below meth c hC H locs ls k n hE (lv_sub hl [0, 1, 2, 3] rfl) hR hS (by omega) (by omega)
  · have hw := hw.2 hc1
    refine lv_iinc (v := (x3 + (-1))) (k := 2) hx hb (xb_d D_M_readOn 30 rfl) hl rfl (by first | rfl | decide) (by decide) rfl (fun ls hl => ?_)
    have hl : lv_has ls 5 [(3, .int (x3 + (-1))), (0, .ref x0), (2, .int x2), (4, .int x4)] := hl
    refine lv_iload_n hx hb (xb_d D_M_readOn 31 rfl) rfl (lv_at hl 0 rfl) ?_
    refine lv_if_ne (tgt := 67) hx hb (xb_d D_M_readOn 32 rfl) rfl (fun hc2 => ?_) (fun hc2 => ?_)
    · have hw := hw.1 hc2
      exact am_M_readOn_L67 l hfl D A σ MC MS h0 Qr K2 hK2 x0 x2 (x3 + (-1)) x4 h hw p e s m args below meth c hC H locs ls k n hE (lv_sub hl [1, 2, 0, 3] rfl) hR hS (by omega) (by omega)
    · have hw := hw.2 hc2
      refine lv_iconst (v := 0) hx hb (xb_d D_M_readOn 33 rfl) (by decide) ?_
      exact xb_zret 0 0 hx hb hr hlocks (show k + 0 ≤ MC by omega) (show n + 0 ≤ MS by omega) (by decide) hE hR hS (xb_d D_M_readOn 34 rfl) hw

set_option maxHeartbeats 4000000 in
set_option maxRecDepth 100000 in
theorem am_M_readOn_L34 (l : Launch) (hfl : l.flags = pinnedFlags ++ [noTraceFlag]) (D : va_G) (A : Nat → Prop) (σ MC MS : Nat) (h0 : xb_H) (Qr : Int32 → xb_H → Prop) (K2 : Nat → Int32 → Int32 → xb_H → Prop) (hK2 : ∀ (x0 : Nat) (x2 : Int32) (x3 : Int32) (h : xb_H), K2 x0 x2 x3 h → xb_am l D A σ 7 MC MS h0 (fun v h _ _ => ∃ r, v = some (.int r) ∧ Qr r h) (fun _ _ _ _ => False) y_M_readOn.cls y_M_readOn.name b_M_readOn 5 ([] : List ExceptionTableEntry) (some .boolean) 2 [(0, .ref x0), (2, .int x2), (3, .int x3)] [] h 0 0) (x0 : Nat) (x2 : Int32) (x3 : Int32) (x4 : Int32) (h : xb_H) (hw : w_M_readOn_L34 K2 Qr x0 x2 x3 x4 h) : xb_am l D A σ 7 MC MS h0 (fun v h _ _ => ∃ r, v = some (.int r) ∧ Qr r h) (fun _ _ _ _ => False) y_M_readOn.cls y_M_readOn.name b_M_readOn 5 ([] : List ExceptionTableEntry) (some .boolean) 34 [(0, .ref x0), (2, .int x2), (3, .int x3), (4, .int x4)] [] h 0 0 := by
  unfold w_M_readOn_L34 at hw
  intro p e s m args below meth c hC H locs ls k n hE hl hR hS hk hn
  obtain ⟨hx, hb, hown, hlocks, htab, hml, hr, hB, hA, hnm⟩ := id hC
  have hts := hB.1.1.at args
  refine lv_iload hx hb (xb_d D_M_readOn 17 rfl) (lv_at hl 3 rfl) ?_
  refine lv_iconst (v := 5) hx hb (xb_d D_M_readOn 18 rfl) (by decide) ?_
  refine lv_icmp_ne (tgt := 51) hx hb (xb_d D_M_readOn 19 rfl) rfl (fun hc1 => ?_) (fun hc1 => ?_)
  · have hw := hw.1 hc1
    exact am_M_readOn_L51 l hfl D A σ MC MS h0 Qr K2 hK2 x0 x2 x3 x4 h hw p e s m args below meth c hC H locs ls k n hE (lv_sub hl [0, 1, 2, 3] rfl) hR hS (by omega) (by omega)
  · have hw := hw.2 hc1
    refine lv_iload_n hx hb (xb_d D_M_readOn 20 rfl) rfl (lv_at hl 1 rfl) ?_
    refine lv_if_eq (tgt := 51) hx hb (xb_d D_M_readOn 21 rfl) rfl (fun hc2 => ?_) (fun hc2 => ?_)
    · have hw := hw.1 hc2
      exact am_M_readOn_L51 l hfl D A σ MC MS h0 Qr K2 hK2 x0 x2 x3 x4 h hw p e s m args below meth c hC H locs ls k n hE (lv_sub hl [0, 1, 2, 3] rfl) hR hS (by omega) (by omega)
    · have hw := hw.2 hc2
      refine lv_iload_n hx hb (xb_d D_M_readOn 22 rfl) rfl (lv_at hl 2 rfl) ?_
      refine lv_iconst (v := 1) hx hb (xb_d D_M_readOn 23 rfl) (by decide) ?_
      refine lv_icmp_ne (tgt := 51) hx hb (xb_d D_M_readOn 24 rfl) rfl (fun hc3 => ?_) (fun hc3 => ?_)
      · have hw := hw.1 hc3
        exact am_M_readOn_L51 l hfl D A σ MC MS h0 Qr K2 hK2 x0 x2 x3 x4 h hw p e s m args below meth c hC H locs ls k n hE (lv_sub hl [0, 1, 2, 3] rfl) hR hS (by omega) (by omega)
      · have hw := hw.2 hc3
        refine lv_iconst (v := 1) hx hb (xb_d D_M_readOn 25 rfl) (by decide) ?_
        exact xb_zret 0 0 hx hb hr hlocks (show k + 0 ≤ MC by omega) (show n + 0 ≤ MS by omega) (by decide) hE hR hS (xb_d D_M_readOn 26 rfl) hw

set_option maxHeartbeats 4000000 in
set_option maxRecDepth 100000 in
theorem am_M_readOn_L2 (l : Launch) (hfl : l.flags = pinnedFlags ++ [noTraceFlag]) (D : va_G) (A : Nat → Prop) (σ MC MS : Nat) (h0 : xb_H) (Qr : Int32 → xb_H → Prop) (n9 : Nat) : ∀ (x0 : Nat) (x2 : Int32) (x3 : Int32) (h : xb_H), w_M_readOn_L2 Qr n9 x0 x2 x3 h → xb_am l D A σ 7 MC MS h0 (fun v h _ _ => ∃ r, v = some (.int r) ∧ Qr r h) (fun _ _ _ _ => False) y_M_readOn.cls y_M_readOn.name b_M_readOn 5 ([] : List ExceptionTableEntry) (some .boolean) 2 [(0, .ref x0), (2, .int x2), (3, .int x3)] [] h 0 0 := by
  induction n9 with
  | zero => intro x0 x2 x3 h hw; exact False.elim hw
  | succ n9 ih =>
    intro x0 x2 x3 h hw
    unfold w_M_readOn_L2 at hw
    intro p e s m args below meth c hC H locs ls k n hE hl hR hS hk hn
    obtain ⟨hx, hb, hown, hlocks, htab, hml, hr, hB, hA, hnm⟩ := id hC
    have hts := hB.1.1.at args
    refine lv_aload_n hx hb (xb_d D_M_readOn 2 rfl) rfl (lv_at hl 0 rfl) ?_
    refine lv_aload_n hx hb (xb_d D_M_readOn 3 rfl) rfl (lv_at hl 0 rfl) ?_
    obtain ⟨hk1, hw⟩ := hw
    refine xb_getI (C := R_M) (T := F_M) (N := 97) hx hb 8 15 hts fin_M hown hR hk1 (by decide) rfl (by decide) rfl (hts _ m_6c2d27ad) (fun _ h9 => h9) (xb_d D_M_readOn 4 rfl) ?_
    refine xb_putI (C := R_M) (T := F_M) (N := 97) (ty := .int) (x := (xb_i h x0 15)) hx hb 8 96 hts fin_M t_M t_M_ok n_M hown hR hS hk1 (by decide) rfl (by decide) rfl (hts _ m_daabb39f) (fun _ h9 => h9) rfl (by decide +kernel) rfl rfl (xb_d D_M_readOn 5 rfl) (fun H locs hR hS => ?_)
    obtain ⟨h2, eh2⟩ : ∃ x : xb_H, x = xb_I h x0 96 (xb_i h x0 15) := ⟨_, rfl⟩
    rw [← eh2] at hR
    have hw := hw h2 eh2
    have hE : xb_ext h0 h2 := by rw [eh2]; exact hE
    refine lv_aload_n hx hb (xb_d D_M_readOn 6 rfl) rfl (lv_at hl 0 rfl) ?_
    have hk1 : xb_k h2 x0 = 9 := by rw [eh2]; exact hk1
    refine xb_call0 (D := D) (A := A) (σ := σ) (h := h2) (d := 3) (maxL := 2) (rest := []) (av := [.ref x0]) (fun T hT X => by obtain ⟨cb9, ra9, rb9, rc9⟩ := xb_recv (ci := 8) hR rfl hk1 (by decide); exact xt_invV X hx hown (hts _ m_0e978570) (hts _ m_40099f98) (hts _ m_a7dbfd07) (xt_sigOf (hts _ m_0af1ec6a)) nm_M_next (by rw [hT]; exact ra9) rb9 rc9 (g := F0 m 11 ls [.ref x0]) rfl (argsL := []) (rest := []) rfl rfl (by rw [hb]; exact (xb_d D_M_readOn 7 rfl))) (ok_M_next l hfl D A σ x0 h2 _ hw) (hml.trans hl.1.symm) (by rw [hb]; exact (xb_d D_M_readOn 7 rfl)) (Nat.le_of_ble_eq_true rfl) (Nat.le_of_ble_eq_true rfl) (Nat.le_of_ble_eq_true rfl) (show k ≤ MC by omega) (show n ≤ MS by omega) (xt_w1 hB.1 m_0af1ec6a) (xt_cdOf hB.1 m_0af1ec6a) (hts _ m_d5ed7bed) hB hR hS hA (fun vv h3 H locs hq hEh3 hR hS => ?_)
    obtain ⟨r4, rfl, hw⟩ := hq
    have hw := hw hEh3
    have hE := hE.tr hEh3
    refine W.eq (g2 := F0 m 14 ls [.int r4]) rfl ?_
    refine lv_istore hx hb (xb_d D_M_readOn 8 rfl) hl (by decide) rfl (fun ls hl => ?_)
    have hl : lv_has ls 5 [(4, .int r4), (0, .ref x0), (2, .int x2), (3, .int x3)] := hl
    refine lv_iload hx hb (xb_d D_M_readOn 9 rfl) (lv_at hl 0 rfl) ?_
    refine lv_iconst (v := 2) hx hb (xb_d D_M_readOn 10 rfl) (by decide) ?_
    refine lv_icmp_lt (tgt := 34) hx hb (xb_d D_M_readOn 11 rfl) rfl (fun hc5 => ?_) (fun hc5 => ?_)
    · have hw := hw.1 hc5
      exact am_M_readOn_L34 l hfl D A σ MC MS h0 Qr (w_M_readOn_L2 Qr n9) ih x0 x2 x3 r4 h3 hw p e s m args below meth c hC H locs ls k n hE (lv_sub hl [1, 2, 3, 0] rfl) hR hS (by omega) (by omega)
    · have hw := hw.2 hc5
      refine lv_iload hx hb (xb_d D_M_readOn 12 rfl) (lv_at hl 0 rfl) ?_
      refine lv_iconst (v := 4) hx hb (xb_d D_M_readOn 13 rfl) (by decide) ?_
      refine lv_icmp_gt (tgt := 34) hx hb (xb_d D_M_readOn 14 rfl) rfl (fun hc6 => ?_) (fun hc6 => ?_)
      · have hw := hw.1 hc6
        exact am_M_readOn_L34 l hfl D A σ MC MS h0 Qr (w_M_readOn_L2 Qr n9) ih x0 x2 x3 r4 h3 hw p e s m args below meth c hC H locs ls k n hE (lv_sub hl [1, 2, 3, 0] rfl) hR hS (by omega) (by omega)
      · have hw := hw.2 hc6
        refine lv_iinc (v := (x3 + 1)) (k := 3) hx hb (xb_d D_M_readOn 15 rfl) hl rfl (by first | rfl | decide) (by decide) rfl (fun ls hl => ?_)
        have hl : lv_has ls 5 [(3, .int (x3 + 1)), (4, .int r4), (0, .ref x0), (2, .int x2)] := hl
        refine lv_goto (tgt := 67) hx hb (xb_d D_M_readOn 16 rfl) rfl ?_
        exact am_M_readOn_L67 l hfl D A σ MC MS h0 Qr (w_M_readOn_L2 Qr n9) ih x0 x2 (x3 + 1) r4 h3 hw p e s m args below meth c hC H locs ls k n hE (lv_sub hl [2, 3, 0, 1] rfl) hR hS (by omega) (by omega)

set_option maxHeartbeats 4000000 in
set_option maxRecDepth 100000 in
theorem ok_M_readOn (l : Launch) (hfl : l.flags = pinnedFlags ++ [noTraceFlag]) (D : va_G) (A : Nat → Prop) (σ : Nat) (x0 : Nat) (x1 : Int32) (x2 : Int32) (h : xb_H) (Qr : Int32 → xb_H → Prop) (hw : w_M_readOn x0 x1 x2 h Qr) : xb_Met l y_M_readOn [.code y_M_readOn b_M_readOn 5 (some .boolean)] (xb_rm 7 0 0) (xb_Pc D A σ h [.ref x0, .int x1, .int x2]) (xb_Qc D A h 0 0 (fun v h _ _ => ∃ r, v = some (.int r) ∧ Qr r h) (fun _ _ _ _ => False)) A := by
  refine xb_ofAm (cc := b_M_readOn) (by decide) (Nat.le_of_ble_eq_true rfl) ?_
  unfold w_M_readOn at hw
  show xb_am l D A σ 7 0 0 h (fun v h _ _ => ∃ r, v = some (.int r) ∧ Qr r h) (fun _ _ _ _ => False) y_M_readOn.cls y_M_readOn.name b_M_readOn 5 ([] : List ExceptionTableEntry) (some .boolean) 0 [(0, .ref x0), (1, .int x1), (2, .int x2)] [] h 0 0
  obtain ⟨MC, hMC⟩ : ∃ x, x = 0 := ⟨_, rfl⟩
  obtain ⟨MS, hMS⟩ : ∃ x, x = 0 := ⟨_, rfl⟩
  rw [show xb_am l D A σ 7 0 0 = xb_am l D A σ 7 MC MS by rw [hMC, hMS]]
  obtain ⟨h0, hh0⟩ : ∃ x, x = h := ⟨_, rfl⟩
  rw [show xb_am l D A σ 7 MC MS h = xb_am l D A σ 7 MC MS h0 by rw [hh0]]
  intro p e s m args below meth c hC H locs ls k n hE hl hR hS hk hn
  obtain ⟨hx, hb, hown, hlocks, htab, hml, hr, hB, hA, hnm⟩ := id hC
  have hts := hB.1.1.at args
  refine lv_iload_n hx hb (xb_d D_M_readOn 0 rfl) rfl (lv_at hl 1 rfl) ?_
  refine lv_istore_n hx hb (xb_d D_M_readOn 1 rfl) rfl hl (by decide) rfl (fun ls hl => ?_)
  have hl : lv_has ls 5 [(3, .int x1), (0, .ref x0), (1, .int x1), (2, .int x2)] := hl
  obtain ⟨n8, hw⟩ := hw
  exact am_M_readOn_L2 l hfl D A σ MC MS h0 Qr n8 x0 x2 x1 h hw p e s m args below meth c hC H locs ls k n hE (lv_sub hl [1, 3, 0] rfl) hR hS (by omega) (by omega)

theorem m_bd023100 : (.methodLink "StackHostModel" 336 y_M_resultOf : Cond) ∈ xt_tbl := xt_in (xt_t11 (List.mem_of_getElem? (i := 133) (by decide +kernel))) (by decide +kernel)
theorem m_d08a9c75 : (.instanceMethod y_M_resultOf : Cond) ∈ xt_tbl := xt_in (xt_t11 (List.mem_of_getElem? (i := 135) (by decide +kernel))) (by decide +kernel)
theorem m_9ac7cfcb : (.selects "StackHostModel" y_M_resultOf y_M_resultOf : Cond) ∈ xt_tbl := xt_in (xt_v11 (q := (⟨"StackHostModel", "resultOf", "(II)I"⟩, 97)) (List.mem_of_getElem? (i := 9) (by decide +kernel))) (by decide +kernel)
theorem m_9dee8e5c : (.code y_M_resultOf b_M_resultOf 4 (some .int) : Cond) ∈ xt_tbl := xt_in (xt_t11 (List.mem_of_getElem? (i := 136) (by decide +kernel))) (by decide +kernel)
theorem nm_M_resultOf : xt_nm y_M_resultOf 2 := ⟨by decide +kernel, by decide +kernel⟩
set_option maxRecDepth 100000 in
def T_M_sameType : List (Nat × Instr × Nat) := [(0, .aload_n 0, 1), (1, .iload_n 1, 1), (2, .iload_n 2, 1), (3, .invokevirtual 333, 3), (6, .istore 5, 2), (8, .iload 5, 2), (10, .aload_n 0, 1), (11, .iload_n 3, 1), (12, .iload 4, 2), (14, .invokevirtual 333, 3), (17, .if_icmp .ne 23, 3), (20, .aload_n 0, 1), (21, .iload_n 1, 1), (22, .iload_n 2, 1), (23, .invokevirtual 336, 3), (26, .aload_n 0, 1), (27, .iload_n 3, 1), (28, .iload 4, 2), (30, .invokevirtual 336, 3), (33, .if_icmp .ne 7, 3), (36, .iconst 1, 1), (37, .goto 4, 3), (40, .iconst 0, 1), (41, .istore 6, 2), (43, .iconst 0, 1), (44, .istore 7, 2), (46, .iload 7, 2), (48, .iload 5, 2), (50, .if_icmp .ge 41, 3), (53, .iload 6, 2), (55, .ifCond .eq 36, 3), (58, .aload_n 0, 1), (59, .iload_n 1, 1), (60, .iload_n 2, 1), (61, .iload 7, 2), (63, .invokevirtual 339, 3), (66, .aload_n 0, 1), (67, .iload_n 3, 1), (68, .iload 4, 2), (70, .iload 7, 2), (72, .invokevirtual 339, 3), (75, .if_icmp .ne 7, 3), (78, .iconst 1, 1), (79, .goto 4, 3), (82, .iconst 0, 1), (83, .istore 6, 2), (85, .iinc 7 1, 3), (88, .goto (-42), 3), (91, .iload 6, 2), (93, .ireturn, 1)]
theorem D_M_sameType : ∀ q ∈ T_M_sameType, decode b_M_sameType q.1 = .ok (q.2.1, q.2.2) := by decide +kernel

set_option maxHeartbeats 4000000 in
set_option maxRecDepth 100000 in
theorem am_M_sameType_L91 (l : Launch) (hfl : l.flags = pinnedFlags ++ [noTraceFlag]) (D : va_G) (A : Nat → Prop) (σ MC MS : Nat) (h0 : xb_H) (Qr : Int32 → xb_H → Prop) (x6 : Int32) (h : xb_H) (hw : w_M_sameType_L91 Qr x6 h) : xb_am l D A σ 7 MC MS h0 (fun v h _ _ => ∃ r, v = some (.int r) ∧ Qr r h) (fun _ _ _ _ => False) y_M_sameType.cls y_M_sameType.name b_M_sameType 8 ([] : List ExceptionTableEntry) (some .boolean) 91 [(6, .int x6)] [] h 0 0 := by
  unfold w_M_sameType_L91 at hw
  intro p e s m args below meth c hC H locs ls k n hE hl hR hS hk hn
  obtain ⟨hx, hb, hown, hlocks, htab, hml, hr, hB, hA, hnm⟩ := id hC
  have hts := hB.1.1.at args
  refine lv_iload hx hb (xb_d D_M_sameType 48 rfl) (lv_at hl 0 rfl) ?_
  exact xb_zret 0 0 hx hb hr hlocks (show k + 0 ≤ MC by omega) (show n + 0 ≤ MS by omega) hw.1 hE hR hS (xb_d D_M_sameType 49 rfl) hw.2

set_option maxHeartbeats 4000000 in
set_option maxRecDepth 100000 in
theorem am_M_sameType_L83 (l : Launch) (hfl : l.flags = pinnedFlags ++ [noTraceFlag]) (D : va_G) (A : Nat → Prop) (σ MC MS : Nat) (h0 : xb_H) (Qr : Int32 → xb_H → Prop) (K46 : Nat → Int32 → Int32 → Int32 → Int32 → Int32 → Int32 → Int32 → xb_H → Prop) (hK46 : ∀ (x0 : Nat) (x1 : Int32) (x2 : Int32) (x3 : Int32) (x4 : Int32) (x5 : Int32) (x6 : Int32) (x7 : Int32) (h : xb_H), K46 x0 x1 x2 x3 x4 x5 x6 x7 h → xb_am l D A σ 7 MC MS h0 (fun v h _ _ => ∃ r, v = some (.int r) ∧ Qr r h) (fun _ _ _ _ => False) y_M_sameType.cls y_M_sameType.name b_M_sameType 8 ([] : List ExceptionTableEntry) (some .boolean) 46 [(0, .ref x0), (1, .int x1), (2, .int x2), (3, .int x3), (4, .int x4), (5, .int x5), (6, .int x6), (7, .int x7)] [] h 0 0) (x0 : Nat) (x1 : Int32) (x2 : Int32) (x3 : Int32) (x4 : Int32) (x5 : Int32) (x7 : Int32) (y0 : Int32) (h : xb_H) (hw : w_M_sameType_L83 K46 Qr x0 x1 x2 x3 x4 x5 x7 y0 h) : xb_am l D A σ 7 MC MS h0 (fun v h _ _ => ∃ r, v = some (.int r) ∧ Qr r h) (fun _ _ _ _ => False) y_M_sameType.cls y_M_sameType.name b_M_sameType 8 ([] : List ExceptionTableEntry) (some .boolean) 83 [(0, .ref x0), (1, .int x1), (2, .int x2), (3, .int x3), (4, .int x4), (5, .int x5), (7, .int x7)] [.int y0] h 0 0 := by
  unfold w_M_sameType_L83 at hw
  intro p e s m args below meth c hC H locs ls k n hE hl hR hS hk hn
  obtain ⟨hx, hb, hown, hlocks, htab, hml, hr, hB, hA, hnm⟩ := id hC
  have hts := hB.1.1.at args
  refine lv_istore hx hb (xb_d D_M_sameType 45 rfl) hl (by decide) rfl (fun ls hl => ?_)
  have hl : lv_has ls 8 [(6, .int y0), (0, .ref x0), (1, .int x1), (2, .int x2), (3, .int x3), (4, .int x4), (5, .int x5), (7, .int x7)] := hl
  refine lv_iinc (v := (x7 + 1)) (k := 7) hx hb (xb_d D_M_sameType 46 rfl) hl rfl (by first | rfl | decide) (by decide) rfl (fun ls hl => ?_)
  have hl : lv_has ls 8 [(7, .int (x7 + 1)), (6, .int y0), (0, .ref x0), (1, .int x1), (2, .int x2), (3, .int x3), (4, .int x4), (5, .int x5)] := hl
  refine lv_goto (tgt := 46) hx hb (xb_d D_M_sameType 47 rfl) rfl ?_
  exact hK46 x0 x1 x2 x3 x4 x5 y0 (x7 + 1) h hw p e s m args below meth c hC H locs ls k n hE (lv_sub hl [2, 3, 4, 5, 6, 7, 1, 0] rfl) hR hS (by omega) (by omega)

set_option maxHeartbeats 4000000 in
set_option maxRecDepth 100000 in
theorem am_M_sameType_L46 (l : Launch) (hfl : l.flags = pinnedFlags ++ [noTraceFlag]) (D : va_G) (A : Nat → Prop) (σ MC MS : Nat) (h0 : xb_H) (Qr : Int32 → xb_H → Prop) (n9 : Nat) : ∀ (x0 : Nat) (x1 : Int32) (x2 : Int32) (x3 : Int32) (x4 : Int32) (x5 : Int32) (x6 : Int32) (x7 : Int32) (h : xb_H), w_M_sameType_L46 Qr n9 x0 x1 x2 x3 x4 x5 x6 x7 h → xb_am l D A σ 7 MC MS h0 (fun v h _ _ => ∃ r, v = some (.int r) ∧ Qr r h) (fun _ _ _ _ => False) y_M_sameType.cls y_M_sameType.name b_M_sameType 8 ([] : List ExceptionTableEntry) (some .boolean) 46 [(0, .ref x0), (1, .int x1), (2, .int x2), (3, .int x3), (4, .int x4), (5, .int x5), (6, .int x6), (7, .int x7)] [] h 0 0 := by
  induction n9 with
  | zero => intro x0 x1 x2 x3 x4 x5 x6 x7 h hw; exact False.elim hw
  | succ n9 ih =>
    intro x0 x1 x2 x3 x4 x5 x6 x7 h hw
    unfold w_M_sameType_L46 at hw
    intro p e s m args below meth c hC H locs ls k n hE hl hR hS hk hn
    obtain ⟨hx, hb, hown, hlocks, htab, hml, hr, hB, hA, hnm⟩ := id hC
    have hts := hB.1.1.at args
    refine lv_iload hx hb (xb_d D_M_sameType 26 rfl) (lv_at hl 7 rfl) ?_
    refine lv_iload hx hb (xb_d D_M_sameType 27 rfl) (lv_at hl 5 rfl) ?_
    refine lv_icmp_ge (tgt := 91) hx hb (xb_d D_M_sameType 28 rfl) rfl (fun hc1 => ?_) (fun hc1 => ?_)
    · have hw := hw.1 hc1
      exact am_M_sameType_L91 l hfl D A σ MC MS h0 Qr x6 h hw p e s m args below meth c hC H locs ls k n hE (lv_sub hl [6] rfl) hR hS (by omega) (by omega)
    · have hw := hw.2 hc1
      refine lv_iload hx hb (xb_d D_M_sameType 29 rfl) (lv_at hl 6 rfl) ?_
      refine lv_if_eq (tgt := 91) hx hb (xb_d D_M_sameType 30 rfl) rfl (fun hc2 => ?_) (fun hc2 => ?_)
      · have hw := hw.1 hc2
        exact am_M_sameType_L91 l hfl D A σ MC MS h0 Qr x6 h hw p e s m args below meth c hC H locs ls k n hE (lv_sub hl [6] rfl) hR hS (by omega) (by omega)
      · have hw := hw.2 hc2
        refine lv_aload_n hx hb (xb_d D_M_sameType 31 rfl) rfl (lv_at hl 0 rfl) ?_
        refine lv_iload_n hx hb (xb_d D_M_sameType 32 rfl) rfl (lv_at hl 1 rfl) ?_
        refine lv_iload_n hx hb (xb_d D_M_sameType 33 rfl) rfl (lv_at hl 2 rfl) ?_
        refine lv_iload hx hb (xb_d D_M_sameType 34 rfl) (lv_at hl 7 rfl) ?_
        obtain ⟨hk3, hw⟩ := hw
        refine xb_call0 (D := D) (A := A) (σ := σ) (h := h) (d := 6) (maxL := 5) (rest := []) (av := [.ref x0, .int x1, .int x2, .int x7]) (fun T hT X => by obtain ⟨cb9, ra9, rb9, rc9⟩ := xb_recv (ci := 8) hR rfl hk3 (by decide); exact xt_invV X hx hown (hts _ m_6138b594) (hts _ m_177929d7) (hts _ m_ef9b6e50) (xt_sigOf (hts _ m_9ea8a027)) nm_M_parameter (by rw [hT]; exact ra9) rb9 rc9 (g := F0 m 63 ls [.int x7, .int x2, .int x1, .ref x0]) rfl (argsL := [.int x1, .int x2, .int x7]) (rest := []) rfl rfl (by rw [hb]; exact (xb_d D_M_sameType 35 rfl))) (ok_M_parameter l hfl D A σ x0 x1 x2 x7 h _ hw) (hml.trans hl.1.symm) (by rw [hb]; exact (xb_d D_M_sameType 35 rfl)) (Nat.le_of_ble_eq_true rfl) (Nat.le_of_ble_eq_true rfl) (Nat.le_of_ble_eq_true rfl) (show k ≤ MC by omega) (show n ≤ MS by omega) (xt_w1 hB.1 m_9ea8a027) (xt_cdOf hB.1 m_9ea8a027) (hts _ m_d5ed7bed) hB hR hS hA (fun vv h4 H locs hq hEh4 hR hS => ?_)
        obtain ⟨r5, rfl, hw⟩ := hq
        have hw := hw hEh4
        have hE := hE.tr hEh4
        refine W.eq (g2 := F0 m 66 ls [.int r5]) rfl ?_
        refine lv_aload_n hx hb (xb_d D_M_sameType 36 rfl) rfl (lv_at hl 0 rfl) ?_
        refine lv_iload_n hx hb (xb_d D_M_sameType 37 rfl) rfl (lv_at hl 3 rfl) ?_
        refine lv_iload hx hb (xb_d D_M_sameType 38 rfl) (lv_at hl 4 rfl) ?_
        refine lv_iload hx hb (xb_d D_M_sameType 39 rfl) (lv_at hl 7 rfl) ?_
        have hk3 : xb_k h4 x0 = 9 := hEh4.k hk3
        refine xb_call0 (D := D) (A := A) (σ := σ) (h := h4) (d := 6) (maxL := 5) (rest := [.int r5]) (av := [.ref x0, .int x3, .int x4, .int x7]) (fun T hT X => by obtain ⟨cb9, ra9, rb9, rc9⟩ := xb_recv (ci := 8) hR rfl hk3 (by decide); exact xt_invV X hx hown (hts _ m_6138b594) (hts _ m_177929d7) (hts _ m_ef9b6e50) (xt_sigOf (hts _ m_9ea8a027)) nm_M_parameter (by rw [hT]; exact ra9) rb9 rc9 (g := F0 m 72 ls [.int x7, .int x4, .int x3, .ref x0, .int r5]) rfl (argsL := [.int x3, .int x4, .int x7]) (rest := [.int r5]) rfl rfl (by rw [hb]; exact (xb_d D_M_sameType 40 rfl))) (ok_M_parameter l hfl D A σ x0 x3 x4 x7 h4 _ hw) (hml.trans hl.1.symm) (by rw [hb]; exact (xb_d D_M_sameType 40 rfl)) (Nat.le_of_ble_eq_true rfl) (Nat.le_of_ble_eq_true rfl) (Nat.le_of_ble_eq_true rfl) (show k ≤ MC by omega) (show n ≤ MS by omega) (xt_w1 hB.1 m_9ea8a027) (xt_cdOf hB.1 m_9ea8a027) (hts _ m_d5ed7bed) hB hR hS hA (fun vv h6 H locs hq hEh6 hR hS => ?_)
        obtain ⟨r7, rfl, hw⟩ := hq
        have hw := hw hEh6
        have hE := hE.tr hEh6
        refine W.eq (g2 := F0 m 75 ls [.int r7, .int r5]) rfl ?_
        refine lv_icmp_ne (tgt := 82) hx hb (xb_d D_M_sameType 41 rfl) rfl (fun hc8 => ?_) (fun hc8 => ?_)
        · have hw := hw.1 hc8
          refine lv_iconst (v := 0) hx hb (xb_d D_M_sameType 44 rfl) (by decide) ?_
          exact am_M_sameType_L83 l hfl D A σ MC MS h0 Qr (w_M_sameType_L46 Qr n9) ih x0 x1 x2 x3 x4 x5 x7 0 h6 hw p e s m args below meth c hC H locs ls k n hE (lv_sub hl [0, 1, 2, 3, 4, 5, 7] rfl) hR hS (by omega) (by omega)
        · have hw := hw.2 hc8
          refine lv_iconst (v := 1) hx hb (xb_d D_M_sameType 42 rfl) (by decide) ?_
          refine lv_goto (tgt := 83) hx hb (xb_d D_M_sameType 43 rfl) rfl ?_
          exact am_M_sameType_L83 l hfl D A σ MC MS h0 Qr (w_M_sameType_L46 Qr n9) ih x0 x1 x2 x3 x4 x5 x7 1 h6 hw p e s m args below meth c hC H locs ls k n hE (lv_sub hl [0, 1, 2, 3, 4, 5, 7] rfl) hR hS (by omega) (by omega)

set_option maxHeartbeats 4000000 in
set_option maxRecDepth 100000 in
theorem am_M_sameType_L41 (l : Launch) (hfl : l.flags = pinnedFlags ++ [noTraceFlag]) (D : va_G) (A : Nat → Prop) (σ MC MS : Nat) (h0 : xb_H) (Qr : Int32 → xb_H → Prop) (x0 : Nat) (x1 : Int32) (x2 : Int32) (x3 : Int32) (x4 : Int32) (x5 : Int32) (y0 : Int32) (h : xb_H) (hw : w_M_sameType_L41 Qr x0 x1 x2 x3 x4 x5 y0 h) : xb_am l D A σ 7 MC MS h0 (fun v h _ _ => ∃ r, v = some (.int r) ∧ Qr r h) (fun _ _ _ _ => False) y_M_sameType.cls y_M_sameType.name b_M_sameType 8 ([] : List ExceptionTableEntry) (some .boolean) 41 [(0, .ref x0), (1, .int x1), (2, .int x2), (3, .int x3), (4, .int x4), (5, .int x5)] [.int y0] h 0 0 := by
  unfold w_M_sameType_L41 at hw
  intro p e s m args below meth c hC H locs ls k n hE hl hR hS hk hn
  obtain ⟨hx, hb, hown, hlocks, htab, hml, hr, hB, hA, hnm⟩ := id hC
  have hts := hB.1.1.at args
  refine lv_istore hx hb (xb_d D_M_sameType 23 rfl) hl (by decide) rfl (fun ls hl => ?_)
  have hl : lv_has ls 8 [(6, .int y0), (0, .ref x0), (1, .int x1), (2, .int x2), (3, .int x3), (4, .int x4), (5, .int x5)] := hl
  refine lv_iconst (v := 0) hx hb (xb_d D_M_sameType 24 rfl) (by decide) ?_
  refine lv_istore hx hb (xb_d D_M_sameType 25 rfl) hl (by decide) rfl (fun ls hl => ?_)
  have hl : lv_has ls 8 [(7, .int 0), (6, .int y0), (0, .ref x0), (1, .int x1), (2, .int x2), (3, .int x3), (4, .int x4), (5, .int x5)] := hl
  obtain ⟨n8, hw⟩ := hw
  exact am_M_sameType_L46 l hfl D A σ MC MS h0 Qr n8 x0 x1 x2 x3 x4 x5 y0 0 h hw p e s m args below meth c hC H locs ls k n hE (lv_sub hl [2, 3, 4, 5, 6, 7, 1, 0] rfl) hR hS (by omega) (by omega)

set_option maxHeartbeats 4000000 in
set_option maxRecDepth 100000 in
theorem am_M_sameType_L40 (l : Launch) (hfl : l.flags = pinnedFlags ++ [noTraceFlag]) (D : va_G) (A : Nat → Prop) (σ MC MS : Nat) (h0 : xb_H) (Qr : Int32 → xb_H → Prop) (x0 : Nat) (x1 : Int32) (x2 : Int32) (x3 : Int32) (x4 : Int32) (x5 : Int32) (h : xb_H) (hw : w_M_sameType_L40 Qr x0 x1 x2 x3 x4 x5 h) : xb_am l D A σ 7 MC MS h0 (fun v h _ _ => ∃ r, v = some (.int r) ∧ Qr r h) (fun _ _ _ _ => False) y_M_sameType.cls y_M_sameType.name b_M_sameType 8 ([] : List ExceptionTableEntry) (some .boolean) 40 [(0, .ref x0), (1, .int x1), (2, .int x2), (3, .int x3), (4, .int x4), (5, .int x5)] [] h 0 0 := by
  unfold w_M_sameType_L40 at hw
  intro p e s m args below meth c hC H locs ls k n hE hl hR hS hk hn
  obtain ⟨hx, hb, hown, hlocks, htab, hml, hr, hB, hA, hnm⟩ := id hC
  have hts := hB.1.1.at args
  refine lv_iconst (v := 0) hx hb (xb_d D_M_sameType 22 rfl) (by decide) ?_
  exact am_M_sameType_L41 l hfl D A σ MC MS h0 Qr x0 x1 x2 x3 x4 x5 0 h hw p e s m args below meth c hC H locs ls k n hE (lv_sub hl [0, 1, 2, 3, 4, 5] rfl) hR hS (by omega) (by omega)

set_option maxHeartbeats 4000000 in
set_option maxRecDepth 100000 in
theorem ok_M_sameType (l : Launch) (hfl : l.flags = pinnedFlags ++ [noTraceFlag]) (D : va_G) (A : Nat → Prop) (σ : Nat) (x0 : Nat) (x1 : Int32) (x2 : Int32) (x3 : Int32) (x4 : Int32) (h : xb_H) (Qr : Int32 → xb_H → Prop) (hw : w_M_sameType x0 x1 x2 x3 x4 h Qr) : xb_Met l y_M_sameType [.code y_M_sameType b_M_sameType 8 (some .boolean)] (xb_rm 7 0 0) (xb_Pc D A σ h [.ref x0, .int x1, .int x2, .int x3, .int x4]) (xb_Qc D A h 0 0 (fun v h _ _ => ∃ r, v = some (.int r) ∧ Qr r h) (fun _ _ _ _ => False)) A := by
  refine xb_ofAm (cc := b_M_sameType) (by decide) (Nat.le_of_ble_eq_true rfl) ?_
  unfold w_M_sameType at hw
  show xb_am l D A σ 7 0 0 h (fun v h _ _ => ∃ r, v = some (.int r) ∧ Qr r h) (fun _ _ _ _ => False) y_M_sameType.cls y_M_sameType.name b_M_sameType 8 ([] : List ExceptionTableEntry) (some .boolean) 0 [(0, .ref x0), (1, .int x1), (2, .int x2), (3, .int x3), (4, .int x4)] [] h 0 0
  obtain ⟨MC, hMC⟩ : ∃ x, x = 0 := ⟨_, rfl⟩
  obtain ⟨MS, hMS⟩ : ∃ x, x = 0 := ⟨_, rfl⟩
  rw [show xb_am l D A σ 7 0 0 = xb_am l D A σ 7 MC MS by rw [hMC, hMS]]
  obtain ⟨h0, hh0⟩ : ∃ x, x = h := ⟨_, rfl⟩
  rw [show xb_am l D A σ 7 MC MS h = xb_am l D A σ 7 MC MS h0 by rw [hh0]]
  intro p e s m args below meth c hC H locs ls k n hE hl hR hS hk hn
  obtain ⟨hx, hb, hown, hlocks, htab, hml, hr, hB, hA, hnm⟩ := id hC
  have hts := hB.1.1.at args
  refine lv_aload_n hx hb (xb_d D_M_sameType 0 rfl) rfl (lv_at hl 0 rfl) ?_
  refine lv_iload_n hx hb (xb_d D_M_sameType 1 rfl) rfl (lv_at hl 1 rfl) ?_
  refine lv_iload_n hx hb (xb_d D_M_sameType 2 rfl) rfl (lv_at hl 2 rfl) ?_
  obtain ⟨hk1, hw⟩ := hw
  refine xb_call0 (D := D) (A := A) (σ := σ) (h := h) (d := 5) (maxL := 3) (rest := []) (av := [.ref x0, .int x1, .int x2]) (fun T hT X => by obtain ⟨cb9, ra9, rb9, rc9⟩ := xb_recv (ci := 8) hR rfl hk1 (by decide); exact xt_invV X hx hown (hts _ m_4fd64ef0) (hts _ m_2eb48211) (hts _ m_ff1f4a94) (xt_sigOf (hts _ m_2faa0c5c)) nm_M_parameters (by rw [hT]; exact ra9) rb9 rc9 (g := F0 m 3 ls [.int x2, .int x1, .ref x0]) rfl (argsL := [.int x1, .int x2]) (rest := []) rfl rfl (by rw [hb]; exact (xb_d D_M_sameType 3 rfl))) (ok_M_parameters l hfl D A σ x0 x1 x2 h _ hw) (hml.trans hl.1.symm) (by rw [hb]; exact (xb_d D_M_sameType 3 rfl)) (Nat.le_of_ble_eq_true rfl) (Nat.le_of_ble_eq_true rfl) (Nat.le_of_ble_eq_true rfl) (show k ≤ MC by omega) (show n ≤ MS by omega) (xt_w1 hB.1 m_2faa0c5c) (xt_cdOf hB.1 m_2faa0c5c) (hts _ m_d5ed7bed) hB hR hS hA (fun vv h2 H locs hq hEh2 hR hS => ?_)
  obtain ⟨r3, rfl, hw⟩ := hq
  have hw := hw hEh2
  have hE := hE.tr hEh2
  refine W.eq (g2 := F0 m 6 ls [.int r3]) rfl ?_
  refine lv_istore hx hb (xb_d D_M_sameType 4 rfl) hl (by decide) rfl (fun ls hl => ?_)
  have hl : lv_has ls 8 [(5, .int r3), (0, .ref x0), (1, .int x1), (2, .int x2), (3, .int x3), (4, .int x4)] := hl
  refine lv_iload hx hb (xb_d D_M_sameType 5 rfl) (lv_at hl 0 rfl) ?_
  refine lv_aload_n hx hb (xb_d D_M_sameType 6 rfl) rfl (lv_at hl 1 rfl) ?_
  refine lv_iload_n hx hb (xb_d D_M_sameType 7 rfl) rfl (lv_at hl 4 rfl) ?_
  refine lv_iload hx hb (xb_d D_M_sameType 8 rfl) (lv_at hl 5 rfl) ?_
  have hk1 : xb_k h2 x0 = 9 := hEh2.k hk1
  refine xb_call0 (D := D) (A := A) (σ := σ) (h := h2) (d := 5) (maxL := 3) (rest := [.int r3]) (av := [.ref x0, .int x3, .int x4]) (fun T hT X => by obtain ⟨cb9, ra9, rb9, rc9⟩ := xb_recv (ci := 8) hR rfl hk1 (by decide); exact xt_invV X hx hown (hts _ m_4fd64ef0) (hts _ m_2eb48211) (hts _ m_ff1f4a94) (xt_sigOf (hts _ m_2faa0c5c)) nm_M_parameters (by rw [hT]; exact ra9) rb9 rc9 (g := F0 m 14 ls [.int x4, .int x3, .ref x0, .int r3]) rfl (argsL := [.int x3, .int x4]) (rest := [.int r3]) rfl rfl (by rw [hb]; exact (xb_d D_M_sameType 9 rfl))) (ok_M_parameters l hfl D A σ x0 x3 x4 h2 _ hw) (hml.trans hl.1.symm) (by rw [hb]; exact (xb_d D_M_sameType 9 rfl)) (Nat.le_of_ble_eq_true rfl) (Nat.le_of_ble_eq_true rfl) (Nat.le_of_ble_eq_true rfl) (show k ≤ MC by omega) (show n ≤ MS by omega) (xt_w1 hB.1 m_2faa0c5c) (xt_cdOf hB.1 m_2faa0c5c) (hts _ m_d5ed7bed) hB hR hS hA (fun vv h4 H locs hq hEh4 hR hS => ?_)
  obtain ⟨r5, rfl, hw⟩ := hq
  have hw := hw hEh4
  have hE := hE.tr hEh4
  refine W.eq (g2 := F0 m 17 ls [.int r5, .int r3]) rfl ?_
  refine lv_icmp_ne (tgt := 40) hx hb (xb_d D_M_sameType 10 rfl) rfl (fun hc6 => ?_) (fun hc6 => ?_)
  · have hw := hw.1 hc6
    exact am_M_sameType_L40 l hfl D A σ MC MS h0 Qr x0 x1 x2 x3 x4 r3 h4 hw p e s m args below meth c hC H locs ls k n hE (lv_sub hl [1, 2, 3, 4, 5, 0] rfl) hR hS (by omega) (by omega)
  · have hw := hw.2 hc6
    refine lv_aload_n hx hb (xb_d D_M_sameType 11 rfl) rfl (lv_at hl 1 rfl) ?_
    refine lv_iload_n hx hb (xb_d D_M_sameType 12 rfl) rfl (lv_at hl 2 rfl) ?_
    refine lv_iload_n hx hb (xb_d D_M_sameType 13 rfl) rfl (lv_at hl 3 rfl) ?_
    have hk1 : xb_k h4 x0 = 9 := hEh4.k hk1
    refine xb_call0 (D := D) (A := A) (σ := σ) (h := h4) (d := 6) (maxL := 4) (rest := []) (av := [.ref x0, .int x1, .int x2]) (fun T hT X => by obtain ⟨cb9, ra9, rb9, rc9⟩ := xb_recv (ci := 8) hR rfl hk1 (by decide); exact xt_invV X hx hown (hts _ m_bd023100) (hts _ m_d08a9c75) (hts _ m_9ac7cfcb) (xt_sigOf (hts _ m_9dee8e5c)) nm_M_resultOf (by rw [hT]; exact ra9) rb9 rc9 (g := F0 m 23 ls [.int x2, .int x1, .ref x0]) rfl (argsL := [.int x1, .int x2]) (rest := []) rfl rfl (by rw [hb]; exact (xb_d D_M_sameType 14 rfl))) (ok_M_resultOf l hfl D A σ x0 x1 x2 h4 _ hw) (hml.trans hl.1.symm) (by rw [hb]; exact (xb_d D_M_sameType 14 rfl)) (Nat.le_of_ble_eq_true rfl) (Nat.le_of_ble_eq_true rfl) (Nat.le_of_ble_eq_true rfl) (show k ≤ MC by omega) (show n ≤ MS by omega) (xt_w1 hB.1 m_9dee8e5c) (xt_cdOf hB.1 m_9dee8e5c) (hts _ m_d5ed7bed) hB hR hS hA (fun vv h7 H locs hq hEh7 hR hS => ?_)
    obtain ⟨r8, rfl, hw⟩ := hq
    have hw := hw hEh7
    have hE := hE.tr hEh7
    refine W.eq (g2 := F0 m 26 ls [.int r8]) rfl ?_
    refine lv_aload_n hx hb (xb_d D_M_sameType 15 rfl) rfl (lv_at hl 1 rfl) ?_
    refine lv_iload_n hx hb (xb_d D_M_sameType 16 rfl) rfl (lv_at hl 4 rfl) ?_
    refine lv_iload hx hb (xb_d D_M_sameType 17 rfl) (lv_at hl 5 rfl) ?_
    have hk1 : xb_k h7 x0 = 9 := hEh7.k hk1
    refine xb_call0 (D := D) (A := A) (σ := σ) (h := h7) (d := 6) (maxL := 4) (rest := [.int r8]) (av := [.ref x0, .int x3, .int x4]) (fun T hT X => by obtain ⟨cb9, ra9, rb9, rc9⟩ := xb_recv (ci := 8) hR rfl hk1 (by decide); exact xt_invV X hx hown (hts _ m_bd023100) (hts _ m_d08a9c75) (hts _ m_9ac7cfcb) (xt_sigOf (hts _ m_9dee8e5c)) nm_M_resultOf (by rw [hT]; exact ra9) rb9 rc9 (g := F0 m 30 ls [.int x4, .int x3, .ref x0, .int r8]) rfl (argsL := [.int x3, .int x4]) (rest := [.int r8]) rfl rfl (by rw [hb]; exact (xb_d D_M_sameType 18 rfl))) (ok_M_resultOf l hfl D A σ x0 x3 x4 h7 _ hw) (hml.trans hl.1.symm) (by rw [hb]; exact (xb_d D_M_sameType 18 rfl)) (Nat.le_of_ble_eq_true rfl) (Nat.le_of_ble_eq_true rfl) (Nat.le_of_ble_eq_true rfl) (show k ≤ MC by omega) (show n ≤ MS by omega) (xt_w1 hB.1 m_9dee8e5c) (xt_cdOf hB.1 m_9dee8e5c) (hts _ m_d5ed7bed) hB hR hS hA (fun vv h9 H locs hq hEh9 hR hS => ?_)
    obtain ⟨r10, rfl, hw⟩ := hq
    have hw := hw hEh9
    have hE := hE.tr hEh9
    refine W.eq (g2 := F0 m 33 ls [.int r10, .int r8]) rfl ?_
    refine lv_icmp_ne (tgt := 40) hx hb (xb_d D_M_sameType 19 rfl) rfl (fun hc11 => ?_) (fun hc11 => ?_)
    · have hw := hw.1 hc11
      exact am_M_sameType_L40 l hfl D A σ MC MS h0 Qr x0 x1 x2 x3 x4 r3 h9 hw p e s m args below meth c hC H locs ls k n hE (lv_sub hl [1, 2, 3, 4, 5, 0] rfl) hR hS (by omega) (by omega)
    · have hw := hw.2 hc11
      refine lv_iconst (v := 1) hx hb (xb_d D_M_sameType 20 rfl) (by decide) ?_
      refine lv_goto (tgt := 41) hx hb (xb_d D_M_sameType 21 rfl) rfl ?_
      exact am_M_sameType_L41 l hfl D A σ MC MS h0 Qr x0 x1 x2 x3 x4 r3 1 h9 hw p e s m args below meth c hC H locs ls k n hE (lv_sub hl [1, 2, 3, 4, 5, 0] rfl) hR hS (by omega) (by omega)

set_option maxRecDepth 100000 in
def T_M_takeParameters : List (Nat × Instr × Nat) := [(0, .aload_n 0, 1), (1, .iload_n 1, 1), (2, .iload_n 2, 1), (3, .invokevirtual 333, 3), (6, .iconst 1, 1), (7, .isub, 1), (8, .istore_n 3, 1), (9, .iload_n 3, 1), (10, .ifCond .lt 28, 3), (13, .aload_n 0, 1), (14, .getfield 193, 3), (17, .ifCond .ne 21, 3), (20, .aload_n 0, 1), (21, .aload_n 0, 1), (22, .iload_n 1, 1), (23, .iload_n 2, 1), (24, .iload_n 3, 1), (25, .invokevirtual 339, 3), (28, .invokevirtual 402, 3), (31, .pop, 1), (32, .iinc 3 (-1), 3), (35, .goto (-26), 3), (38, .return_, 1)]
theorem D_M_takeParameters : ∀ q ∈ T_M_takeParameters, decode b_M_takeParameters q.1 = .ok (q.2.1, q.2.2) := by decide +kernel

set_option maxHeartbeats 4000000 in
set_option maxRecDepth 100000 in
theorem am_M_takeParameters_L38 (l : Launch) (hfl : l.flags = pinnedFlags ++ [noTraceFlag]) (D : va_G) (A : Nat → Prop) (σ MC MS : Nat) (h0 : xb_H) (Qr : xb_H → Prop) (h : xb_H) (hw : w_M_takeParameters_L38 Qr h) : xb_am l D A σ 7 MC MS h0 (fun v h _ _ => v = none ∧ Qr h) (fun _ _ _ _ => False) y_M_takeParameters.cls y_M_takeParameters.name b_M_takeParameters 4 ([] : List ExceptionTableEntry) none 38 [] [] h 0 0 := by
  unfold w_M_takeParameters_L38 at hw
  intro p e s m args below meth c hC H locs ls k n hE hl hR hS hk hn
  obtain ⟨hx, hb, hown, hlocks, htab, hml, hr, hB, hA, hnm⟩ := id hC
  have hts := hB.1.1.at args
  exact xb_vret 0 0 hx hb hr hlocks (show k + 0 ≤ MC by omega) (show n + 0 ≤ MS by omega) hE hR hS (xb_d D_M_takeParameters 22 rfl) hw

set_option maxHeartbeats 4000000 in
set_option maxRecDepth 100000 in
theorem am_M_takeParameters_L9 (l : Launch) (hfl : l.flags = pinnedFlags ++ [noTraceFlag]) (D : va_G) (A : Nat → Prop) (σ MC MS : Nat) (h0 : xb_H) (Qr : xb_H → Prop) (n9 : Nat) : ∀ (x0 : Nat) (x1 : Int32) (x2 : Int32) (x3 : Int32) (h : xb_H), w_M_takeParameters_L9 Qr n9 x0 x1 x2 x3 h → xb_am l D A σ 7 MC MS h0 (fun v h _ _ => v = none ∧ Qr h) (fun _ _ _ _ => False) y_M_takeParameters.cls y_M_takeParameters.name b_M_takeParameters 4 ([] : List ExceptionTableEntry) none 9 [(0, .ref x0), (1, .int x1), (2, .int x2), (3, .int x3)] [] h 0 0 := by
  induction n9 with
  | zero => intro x0 x1 x2 x3 h hw; exact False.elim hw
  | succ n9 ih =>
    intro x0 x1 x2 x3 h hw
    unfold w_M_takeParameters_L9 at hw
    intro p e s m args below meth c hC H locs ls k n hE hl hR hS hk hn
    obtain ⟨hx, hb, hown, hlocks, htab, hml, hr, hB, hA, hnm⟩ := id hC
    have hts := hB.1.1.at args
    refine lv_iload_n hx hb (xb_d D_M_takeParameters 7 rfl) rfl (lv_at hl 3 rfl) ?_
    refine lv_if_lt (tgt := 38) hx hb (xb_d D_M_takeParameters 8 rfl) rfl (fun hc1 => ?_) (fun hc1 => ?_)
    · have hw := hw.1 hc1
      exact am_M_takeParameters_L38 l hfl D A σ MC MS h0 Qr h hw p e s m args below meth c hC H locs ls k n hE (lv_sub hl [] rfl) hR hS (by omega) (by omega)
    · have hw := hw.2 hc1
      refine lv_aload_n hx hb (xb_d D_M_takeParameters 9 rfl) rfl (lv_at hl 0 rfl) ?_
      obtain ⟨hk2, hw⟩ := hw
      refine xb_getI (C := R_M) (T := F_M) (N := 97) hx hb 8 17 hts fin_M hown hR hk2 (by decide) rfl (by decide) rfl (hts _ m_ff69da61) (fun _ h9 => h9) (xb_d D_M_takeParameters 10 rfl) ?_
      refine lv_if_ne (tgt := 38) hx hb (xb_d D_M_takeParameters 11 rfl) rfl (fun hc3 => ?_) (fun hc3 => ?_)
      · have hw := hw.1 hc3
        exact am_M_takeParameters_L38 l hfl D A σ MC MS h0 Qr h hw p e s m args below meth c hC H locs ls k n hE (lv_sub hl [] rfl) hR hS (by omega) (by omega)
      · have hw := hw.2 hc3
        refine lv_aload_n hx hb (xb_d D_M_takeParameters 12 rfl) rfl (lv_at hl 0 rfl) ?_
        refine lv_aload_n hx hb (xb_d D_M_takeParameters 13 rfl) rfl (lv_at hl 0 rfl) ?_
        refine lv_iload_n hx hb (xb_d D_M_takeParameters 14 rfl) rfl (lv_at hl 1 rfl) ?_
        refine lv_iload_n hx hb (xb_d D_M_takeParameters 15 rfl) rfl (lv_at hl 2 rfl) ?_
        refine lv_iload_n hx hb (xb_d D_M_takeParameters 16 rfl) rfl (lv_at hl 3 rfl) ?_
        refine xb_call0 (D := D) (A := A) (σ := σ) (h := h) (d := 6) (maxL := 5) (rest := [.ref x0]) (av := [.ref x0, .int x1, .int x2, .int x3]) (fun T hT X => by obtain ⟨cb9, ra9, rb9, rc9⟩ := xb_recv (ci := 8) hR rfl hk2 (by decide); exact xt_invV X hx hown (hts _ m_6138b594) (hts _ m_177929d7) (hts _ m_ef9b6e50) (xt_sigOf (hts _ m_9ea8a027)) nm_M_parameter (by rw [hT]; exact ra9) rb9 rc9 (g := F0 m 25 ls [.int x3, .int x2, .int x1, .ref x0, .ref x0]) rfl (argsL := [.int x1, .int x2, .int x3]) (rest := [.ref x0]) rfl rfl (by rw [hb]; exact (xb_d D_M_takeParameters 17 rfl))) (ok_M_parameter l hfl D A σ x0 x1 x2 x3 h _ hw) (hml.trans hl.1.symm) (by rw [hb]; exact (xb_d D_M_takeParameters 17 rfl)) (Nat.le_of_ble_eq_true rfl) (Nat.le_of_ble_eq_true rfl) (Nat.le_of_ble_eq_true rfl) (show k ≤ MC by omega) (show n ≤ MS by omega) (xt_w1 hB.1 m_9ea8a027) (xt_cdOf hB.1 m_9ea8a027) (hts _ m_d5ed7bed) hB hR hS hA (fun vv h4 H locs hq hEh4 hR hS => ?_)
        obtain ⟨r5, rfl, hw⟩ := hq
        have hw := hw hEh4
        have hE := hE.tr hEh4
        refine W.eq (g2 := F0 m 28 ls [.int r5, .ref x0]) rfl ?_
        have hk2 : xb_k h4 x0 = 9 := hEh4.k hk2
        refine xb_call0 (D := D) (A := A) (σ := σ) (h := h4) (d := 3) (maxL := 3) (rest := []) (av := [.ref x0, .int r5]) (fun T hT X => by obtain ⟨cb9, ra9, rb9, rc9⟩ := xb_recv (ci := 8) hR rfl hk2 (by decide); exact xt_invV X hx hown (hts _ m_4290bf91) (hts _ m_641dba55) (hts _ m_286bb193) (xt_sigOf (hts _ m_8ef3c792)) nm_M_take (by rw [hT]; exact ra9) rb9 rc9 (g := F0 m 28 ls [.int r5, .ref x0]) rfl (argsL := [.int r5]) (rest := []) rfl rfl (by rw [hb]; exact (xb_d D_M_takeParameters 18 rfl))) (ok_M_take l hfl D A σ x0 r5 h4 _ hw) (hml.trans hl.1.symm) (by rw [hb]; exact (xb_d D_M_takeParameters 18 rfl)) (Nat.le_of_ble_eq_true rfl) (Nat.le_of_ble_eq_true rfl) (Nat.le_of_ble_eq_true rfl) (show k ≤ MC by omega) (show n ≤ MS by omega) (xt_w1 hB.1 m_8ef3c792) (xt_cdOf hB.1 m_8ef3c792) (hts _ m_d5ed7bed) hB hR hS hA (fun vv h6 H locs hq hEh6 hR hS => ?_)
        obtain ⟨r7, rfl, hw⟩ := hq
        have hw := hw hEh6
        have hE := hE.tr hEh6
        refine W.eq (g2 := F0 m 31 ls [.int r7]) rfl ?_
        refine lv_pop hx hb (xb_d D_M_takeParameters 19 rfl) rfl ?_
        refine lv_iinc (v := (x3 + (-1))) (k := 3) hx hb (xb_d D_M_takeParameters 20 rfl) hl rfl (by first | rfl | decide) (by decide) rfl (fun ls hl => ?_)
        have hl : lv_has ls 4 [(3, .int (x3 + (-1))), (0, .ref x0), (1, .int x1), (2, .int x2)] := hl
        refine lv_goto (tgt := 9) hx hb (xb_d D_M_takeParameters 21 rfl) rfl ?_
        exact ih x0 x1 x2 (x3 + (-1)) h6 hw p e s m args below meth c hC H locs ls k n hE (lv_sub hl [1, 2, 3, 0] rfl) hR hS (by omega) (by omega)

set_option maxHeartbeats 4000000 in
set_option maxRecDepth 100000 in
theorem ok_M_takeParameters (l : Launch) (hfl : l.flags = pinnedFlags ++ [noTraceFlag]) (D : va_G) (A : Nat → Prop) (σ : Nat) (x0 : Nat) (x1 : Int32) (x2 : Int32) (h : xb_H) (Qr : xb_H → Prop) (hw : w_M_takeParameters x0 x1 x2 h Qr) : xb_Met l y_M_takeParameters [.code y_M_takeParameters b_M_takeParameters 4 none] (xb_rm 7 0 0) (xb_Pc D A σ h [.ref x0, .int x1, .int x2]) (xb_Qc D A h 0 0 (fun v h _ _ => v = none ∧ Qr h) (fun _ _ _ _ => False)) A := by
  refine xb_ofAm (cc := b_M_takeParameters) (by decide) (Nat.le_of_ble_eq_true rfl) ?_
  unfold w_M_takeParameters at hw
  show xb_am l D A σ 7 0 0 h (fun v h _ _ => v = none ∧ Qr h) (fun _ _ _ _ => False) y_M_takeParameters.cls y_M_takeParameters.name b_M_takeParameters 4 ([] : List ExceptionTableEntry) none 0 [(0, .ref x0), (1, .int x1), (2, .int x2)] [] h 0 0
  obtain ⟨MC, hMC⟩ : ∃ x, x = 0 := ⟨_, rfl⟩
  obtain ⟨MS, hMS⟩ : ∃ x, x = 0 := ⟨_, rfl⟩
  rw [show xb_am l D A σ 7 0 0 = xb_am l D A σ 7 MC MS by rw [hMC, hMS]]
  obtain ⟨h0, hh0⟩ : ∃ x, x = h := ⟨_, rfl⟩
  rw [show xb_am l D A σ 7 MC MS h = xb_am l D A σ 7 MC MS h0 by rw [hh0]]
  intro p e s m args below meth c hC H locs ls k n hE hl hR hS hk hn
  obtain ⟨hx, hb, hown, hlocks, htab, hml, hr, hB, hA, hnm⟩ := id hC
  have hts := hB.1.1.at args
  refine lv_aload_n hx hb (xb_d D_M_takeParameters 0 rfl) rfl (lv_at hl 0 rfl) ?_
  refine lv_iload_n hx hb (xb_d D_M_takeParameters 1 rfl) rfl (lv_at hl 1 rfl) ?_
  refine lv_iload_n hx hb (xb_d D_M_takeParameters 2 rfl) rfl (lv_at hl 2 rfl) ?_
  obtain ⟨hk1, hw⟩ := hw
  refine xb_call0 (D := D) (A := A) (σ := σ) (h := h) (d := 5) (maxL := 3) (rest := []) (av := [.ref x0, .int x1, .int x2]) (fun T hT X => by obtain ⟨cb9, ra9, rb9, rc9⟩ := xb_recv (ci := 8) hR rfl hk1 (by decide); exact xt_invV X hx hown (hts _ m_4fd64ef0) (hts _ m_2eb48211) (hts _ m_ff1f4a94) (xt_sigOf (hts _ m_2faa0c5c)) nm_M_parameters (by rw [hT]; exact ra9) rb9 rc9 (g := F0 m 3 ls [.int x2, .int x1, .ref x0]) rfl (argsL := [.int x1, .int x2]) (rest := []) rfl rfl (by rw [hb]; exact (xb_d D_M_takeParameters 3 rfl))) (ok_M_parameters l hfl D A σ x0 x1 x2 h _ hw) (hml.trans hl.1.symm) (by rw [hb]; exact (xb_d D_M_takeParameters 3 rfl)) (Nat.le_of_ble_eq_true rfl) (Nat.le_of_ble_eq_true rfl) (Nat.le_of_ble_eq_true rfl) (show k ≤ MC by omega) (show n ≤ MS by omega) (xt_w1 hB.1 m_2faa0c5c) (xt_cdOf hB.1 m_2faa0c5c) (hts _ m_d5ed7bed) hB hR hS hA (fun vv h2 H locs hq hEh2 hR hS => ?_)
  obtain ⟨r3, rfl, hw⟩ := hq
  have hw := hw hEh2
  have hE := hE.tr hEh2
  refine W.eq (g2 := F0 m 6 ls [.int r3]) rfl ?_
  refine lv_iconst (v := 1) hx hb (xb_d D_M_takeParameters 4 rfl) (by decide) ?_
  refine lv_isub hx hb (xb_d D_M_takeParameters 5 rfl) ?_
  obtain ⟨v4, ev4⟩ : ∃ x : Int32, x = (r3 - 1) := ⟨_, rfl⟩
  have hw := hw v4 ev4
  refine xt_numi (y := v4) ev4.symm ?_
  refine lv_istore_n hx hb (xb_d D_M_takeParameters 6 rfl) rfl hl (by decide) rfl (fun ls hl => ?_)
  have hl : lv_has ls 4 [(3, .int v4), (0, .ref x0), (1, .int x1), (2, .int x2)] := hl
  obtain ⟨n8, hw⟩ := hw
  exact am_M_takeParameters_L9 l hfl D A σ MC MS h0 Qr n8 x0 x1 x2 v4 h2 hw p e s m args below meth c hC H locs ls k n hE (lv_sub hl [1, 2, 3, 0] rfl) hR hS (by omega) (by omega)

theorem m_74c5e98a : (.methodLink "StackHostModel$Exact" 214 y_Exact_isSo : Cond) ∈ xt_tbl := xt_in (xt_t13 (List.mem_of_getElem? (i := 115) (by decide +kernel))) (by decide +kernel)
theorem m_f6c05011 : (.static y_Exact_isSo : Cond) ∈ xt_tbl := xt_in (xt_t13 (List.mem_of_getElem? (i := 116) (by decide +kernel))) (by decide +kernel)
theorem m_16fcb74e : (.code y_Exact_isSo b_Exact_isSo 10 (some .boolean) : Cond) ∈ xt_tbl := xt_in (xt_t13 (List.mem_of_getElem? (i := 117) (by decide +kernel))) (by decide +kernel)
theorem m_6f08d5e7 : (.methodLink "StackHostModel$Exact" 210 y_Exact_compared : Cond) ∈ xt_tbl := xt_in (xt_t13 (List.mem_of_getElem? (i := 111) (by decide +kernel))) (by decide +kernel)
theorem m_602a6673 : (.instanceMethod y_Exact_compared : Cond) ∈ xt_tbl := xt_in (xt_t13 (List.mem_of_getElem? (i := 113) (by decide +kernel))) (by decide +kernel)
theorem m_143526b9 : (.selects "StackHostModel$Exact" y_Exact_compared y_Exact_compared : Cond) ∈ xt_tbl := xt_in (xt_v17 (q := (⟨"StackHostModel$Exact", "compared", "(IJJ)Z"⟩, 11)) (List.mem_of_getElem? (i := 1) (by decide +kernel))) (by decide +kernel)
theorem m_17d04299 : (.code y_Exact_compared b_Exact_compared 7 (some .boolean) : Cond) ∈ xt_tbl := xt_in (xt_t13 (List.mem_of_getElem? (i := 114) (by decide +kernel))) (by decide +kernel)
theorem m_79871b86 : (.methodLink "StackHostModel$Exact" 203 y_Exact_floated : Cond) ∈ xt_tbl := xt_in (xt_t13 (List.mem_of_getElem? (i := 53) (by decide +kernel))) (by decide +kernel)
theorem m_25e876e1 : (.instanceMethod y_Exact_floated : Cond) ∈ xt_tbl := xt_in (xt_t13 (List.mem_of_getElem? (i := 55) (by decide +kernel))) (by decide +kernel)
theorem m_6ba8b37a : (.selects "StackHostModel$Exact" y_Exact_floated y_Exact_floated : Cond) ∈ xt_tbl := xt_in (xt_v16 (q := (⟨"StackHostModel$Exact", "floated", "(IJJ)J"⟩, 11)) (List.mem_of_getElem? (i := 6) (by decide +kernel))) (by decide +kernel)
theorem m_278f62ed : (.code y_Exact_floated b_Exact_floated 6 (some .long) : Cond) ∈ xt_tbl := xt_in (xt_t13 (List.mem_of_getElem? (i := 56) (by decide +kernel))) (by decide +kernel)
theorem m_688078d2 : (.methodLink "StackHostModel$Exact" 207 y_Exact_reckoned : Cond) ∈ xt_tbl := xt_in (xt_t13 (List.mem_of_getElem? (i := 91) (by decide +kernel))) (by decide +kernel)
theorem m_4f72d393 : (.instanceMethod y_Exact_reckoned : Cond) ∈ xt_tbl := xt_in (xt_t13 (List.mem_of_getElem? (i := 93) (by decide +kernel))) (by decide +kernel)
theorem m_d36b9051 : (.selects "StackHostModel$Exact" y_Exact_reckoned y_Exact_reckoned : Cond) ∈ xt_tbl := xt_in (xt_v16 (q := (⟨"StackHostModel$Exact", "reckoned", "(IIJJ)J"⟩, 11)) (List.mem_of_getElem? (i := 15) (by decide +kernel))) (by decide +kernel)
theorem m_6a6920ea : (.code y_Exact_reckoned b_Exact_reckoned 8 (some .long) : Cond) ∈ xt_tbl := xt_in (xt_t13 (List.mem_of_getElem? (i := 94) (by decide +kernel))) (by decide +kernel)
theorem m_c1ed24a3 : (.methodLink "StackHostModel$Exact" 200 y_Exact_turnedInto : Cond) ∈ xt_tbl := xt_in (xt_t12 (List.mem_of_getElem? (i := 202) (by decide +kernel))) (by decide +kernel)
theorem m_ade42289 : (.instanceMethod y_Exact_turnedInto : Cond) ∈ xt_tbl := xt_in (xt_t12 (List.mem_of_getElem? (i := 204) (by decide +kernel))) (by decide +kernel)
theorem m_fb9155c2 : (.selects "StackHostModel$Exact" y_Exact_turnedInto y_Exact_turnedInto : Cond) ∈ xt_tbl := xt_in (xt_v15 (q := (⟨"StackHostModel$Exact", "turnedInto", "(IJ)J"⟩, 11)) (List.mem_of_getElem? (i := 2) (by decide +kernel))) (by decide +kernel)
theorem m_e6e35d11 : (.code y_Exact_turnedInto b_Exact_turnedInto 5 (some .long) : Cond) ∈ xt_tbl := xt_in (xt_t12 (List.mem_of_getElem? (i := 205) (by decide +kernel))) (by decide +kernel)
theorem nm_Exact_isSo : xt_nm y_Exact_isSo 4 := ⟨by decide +kernel, by decide +kernel⟩
theorem nm_Exact_compared : xt_nm y_Exact_compared 3 := ⟨by decide +kernel, by decide +kernel⟩
theorem nm_Exact_floated : xt_nm y_Exact_floated 3 := ⟨by decide +kernel, by decide +kernel⟩
theorem nm_Exact_reckoned : xt_nm y_Exact_reckoned 4 := ⟨by decide +kernel, by decide +kernel⟩
theorem nm_Exact_turnedInto : xt_nm y_Exact_turnedInto 2 := ⟨by decide +kernel, by decide +kernel⟩
set_option maxRecDepth 100000 in
def T_Exact_answer : List (Nat × Instr × Nat) := [(0, .iload_n 1, 1), (1, .sipush 167, 3), (4, .if_icmp .lt 10, 3), (7, .aload_n 0, 1), (8, .iload_n 1, 1), (9, .lload_n 2, 1), (10, .invokevirtual 200, 3), (13, .lreturn, 1), (14, .iload_n 1, 1), (15, .sipush 139, 3), (18, .if_icmp .lt 47, 3), (21, .aload_n 0, 1), (22, .iload_n 1, 1), (23, .sipush 153, 3), (26, .if_icmp .ge 8, 3), (29, .bipush 32, 2), (31, .goto 5, 3), (34, .bipush 64, 2), (36, .invokevirtual 186, 3), (39, .aload_n 0, 1), (40, .iload_n 1, 1), (41, .iload_n 1, 1), (42, .sipush 153, 3), (45, .if_icmp .ge 9, 3), (48, .sipush 139, 3), (51, .goto 6, 3), (54, .sipush 153, 3), (57, .isub, 1), (58, .lload_n 2, 1), (59, .lload 4, 2), (61, .invokevirtual 203, 3), (64, .lreturn, 1), (65, .iload_n 1, 1), (66, .bipush 103, 2), (68, .if_icmp .lt 39, 3), (71, .iload_n 1, 1), (72, .bipush 121, 2), (74, .if_icmp .ge 19, 3), (77, .aload_n 0, 1), (78, .iload_n 1, 1), (79, .bipush 103, 2), (81, .isub, 1), (82, .bipush 32, 2), (84, .lload_n 2, 1), (85, .lload 4, 2), (87, .invokevirtual 207, 3), (90, .goto 16, 3), (93, .aload_n 0, 1), (94, .iload_n 1, 1), (95, .bipush 121, 2), (97, .isub, 1), (98, .bipush 64, 2), (100, .lload_n 2, 1), (101, .lload 4, 2), (103, .invokevirtual 207, 3), (106, .lreturn, 1), (107, .iload_n 1, 1), (108, .bipush 91, 2), (110, .if_icmp .lt 51, 3), (113, .aload_n 0, 1), (114, .iload_n 1, 1), (115, .bipush 97, 2), (117, .if_icmp .ge 8, 3), (120, .bipush 32, 2), (122, .goto 5, 3), (125, .bipush 64, 2), (127, .invokevirtual 186, 3), (130, .aload_n 0, 1), (131, .iload_n 1, 1), (132, .iload_n 1, 1), (133, .bipush 97, 2), (135, .if_icmp .ge 8, 3), (138, .bipush 91, 2), (140, .goto 5, 3), (143, .bipush 97, 2), (145, .isub, 1), (146, .lload_n 2, 1), (147, .lload 4, 2), (149, .invokevirtual 210, 3), (152, .ifCond .eq 7, 3), (155, .lconst 1, 1), (156, .goto 4, 3), (159, .lconst 0, 1), (160, .lreturn, 1), (161, .iload_n 1, 1), (162, .bipush 69, 2), (164, .if_icmp .eq 9, 3), (167, .iload_n 1, 1), (168, .bipush 80, 2), (170, .if_icmp .ne 15, 3), (173, .lload_n 2, 1), (174, .lconst 0, 1), (175, .lcmp, 1), (176, .ifCond .ne 7, 3), (179, .lconst 1, 1), (180, .goto 4, 3), (183, .lconst 0, 1), (184, .lreturn, 1), (185, .iload_n 1, 1), (186, .iload_n 1, 1), (187, .bipush 80, 2), (189, .if_icmp .ge 8, 3), (192, .bipush 70, 2), (194, .goto 5, 3), (197, .bipush 81, 2), (199, .isub, 1), (200, .iload_n 1, 1), (201, .bipush 80, 2), (203, .if_icmp .ge 8, 3), (206, .bipush 32, 2), (208, .goto 5, 3), (211, .bipush 64, 2), (213, .lload_n 2, 1), (214, .lload 4, 2), (216, .invokestatic 214, 3), (219, .ifCond .eq 7, 3), (222, .lconst 1, 1), (223, .goto 4, 3), (226, .lconst 0, 1), (227, .lreturn, 1)]
theorem D_Exact_answer : ∀ q ∈ T_Exact_answer, decode b_Exact_answer q.1 = .ok (q.2.1, q.2.2) := by decide +kernel

set_option maxHeartbeats 4000000 in
set_option maxRecDepth 100000 in
theorem am_Exact_answer_L227 (l : Launch) (hfl : l.flags = pinnedFlags ++ [noTraceFlag]) (D : va_G) (A : Nat → Prop) (σ MC MS : Nat) (h0 : xb_H) (Qr : Int64 → xb_H → Prop) (y0 : Int64) (h : xb_H) (hw : w_Exact_answer_L227 Qr y0 h) : xb_am l D A σ 7 MC MS h0 (fun v h _ _ => ∃ r, v = some (.long r) ∧ Qr r h) (fun _ _ _ _ => False) y_Exact_answer.cls y_Exact_answer.name b_Exact_answer 6 ([] : List ExceptionTableEntry) (some .long) 227 [] [.long y0] h 0 0 := by
  unfold w_Exact_answer_L227 at hw
  intro p e s m args below meth c hC H locs ls k n hE hl hR hS hk hn
  obtain ⟨hx, hb, hown, hlocks, htab, hml, hr, hB, hA, hnm⟩ := id hC
  have hts := hB.1.1.at args
  exact xb_lret 0 0 hx hb hr hlocks (show k + 0 ≤ MC by omega) (show n + 0 ≤ MS by omega) hE hR hS (xb_d D_Exact_answer 119 rfl) hw

set_option maxHeartbeats 4000000 in
set_option maxRecDepth 100000 in
theorem am_Exact_answer_L213 (l : Launch) (hfl : l.flags = pinnedFlags ++ [noTraceFlag]) (D : va_G) (A : Nat → Prop) (σ MC MS : Nat) (h0 : xb_H) (Qr : Int64 → xb_H → Prop) (x2 : Int64) (x4 : Int64) (y0 : Int32) (y1 : Int32) (h : xb_H) (hw : w_Exact_answer_L213 Qr x2 x4 y0 y1 h) : xb_am l D A σ 7 MC MS h0 (fun v h _ _ => ∃ r, v = some (.long r) ∧ Qr r h) (fun _ _ _ _ => False) y_Exact_answer.cls y_Exact_answer.name b_Exact_answer 6 ([] : List ExceptionTableEntry) (some .long) 213 [(2, .long x2), (4, .long x4)] [.int y0, .int y1] h 0 0 := by
  unfold w_Exact_answer_L213 at hw
  intro p e s m args below meth c hC H locs ls k n hE hl hR hS hk hn
  obtain ⟨hx, hb, hown, hlocks, htab, hml, hr, hB, hA, hnm⟩ := id hC
  have hts := hB.1.1.at args
  refine lv_lload_n hx hb (xb_d D_Exact_answer 112 rfl) rfl (lv_at hl 0 rfl) ?_
  refine lv_lload hx hb (xb_d D_Exact_answer 113 rfl) (lv_at hl 1 rfl) ?_
  refine xb_call0 (D := D) (A := A) (σ := σ) (h := h) (d := 3) (maxL := 10) (rest := []) (av := [.int y1, .int y0, .long x2, .long x4]) (fun T hT X => xt_invS X hx hown (hts _ m_74c5e98a) (hts _ m_f6c05011) (hts _ m_b807310b) (xt_sgS (hts _ m_16fcb74e)).1 (xt_sgS (hts _ m_16fcb74e)).2 nm_Exact_isSo (g := F0 m 216 ls [.long x4, .long x2, .int y0, .int y1]) rfl (argsL := [.int y1, .int y0, .long x2, .long x4]) (rest := []) rfl rfl (by rw [hb]; exact (xb_d D_Exact_answer 114 rfl))) (ok_Exact_isSo l hfl D A σ y1 y0 x2 x4 h _ hw) (hml.trans hl.1.symm) (by rw [hb]; exact (xb_d D_Exact_answer 114 rfl)) (Nat.le_of_ble_eq_true rfl) (Nat.le_of_ble_eq_true rfl) (Nat.le_of_ble_eq_true rfl) (show k ≤ MC by omega) (show n ≤ MS by omega) (xt_w1 hB.1 m_16fcb74e) (xt_cdOf hB.1 m_16fcb74e) (hts _ m_b807310b) hB hR hS hA (fun vv h1 H locs hq hEh1 hR hS => ?_)
  obtain ⟨r2, rfl, hw⟩ := hq
  have hw := hw hEh1
  have hE := hE.tr hEh1
  refine W.eq (g2 := F0 m 219 ls [.int r2]) rfl ?_
  refine lv_if_eq (tgt := 226) hx hb (xb_d D_Exact_answer 115 rfl) rfl (fun hc3 => ?_) (fun hc3 => ?_)
  · have hw := hw.1 hc3
    refine lv_lconst (v := 0) hx hb (xb_d D_Exact_answer 118 rfl) (by decide) ?_
    exact am_Exact_answer_L227 l hfl D A σ MC MS h0 Qr 0 h1 hw p e s m args below meth c hC H locs ls k n hE (lv_sub hl [] rfl) hR hS (by omega) (by omega)
  · have hw := hw.2 hc3
    refine lv_lconst (v := 1) hx hb (xb_d D_Exact_answer 116 rfl) (by decide) ?_
    refine lv_goto (tgt := 227) hx hb (xb_d D_Exact_answer 117 rfl) rfl ?_
    exact am_Exact_answer_L227 l hfl D A σ MC MS h0 Qr 1 h1 hw p e s m args below meth c hC H locs ls k n hE (lv_sub hl [] rfl) hR hS (by omega) (by omega)

set_option maxHeartbeats 4000000 in
set_option maxRecDepth 100000 in
theorem am_Exact_answer_L199 (l : Launch) (hfl : l.flags = pinnedFlags ++ [noTraceFlag]) (D : va_G) (A : Nat → Prop) (σ MC MS : Nat) (h0 : xb_H) (Qr : Int64 → xb_H → Prop) (x1 : Int32) (x2 : Int64) (x4 : Int64) (y0 : Int32) (y1 : Int32) (h : xb_H) (hw : w_Exact_answer_L199 Qr x1 x2 x4 y0 y1 h) : xb_am l D A σ 7 MC MS h0 (fun v h _ _ => ∃ r, v = some (.long r) ∧ Qr r h) (fun _ _ _ _ => False) y_Exact_answer.cls y_Exact_answer.name b_Exact_answer 6 ([] : List ExceptionTableEntry) (some .long) 199 [(1, .int x1), (2, .long x2), (4, .long x4)] [.int y0, .int y1] h 0 0 := by
  unfold w_Exact_answer_L199 at hw
  intro p e s m args below meth c hC H locs ls k n hE hl hR hS hk hn
  obtain ⟨hx, hb, hown, hlocks, htab, hml, hr, hB, hA, hnm⟩ := id hC
  have hts := hB.1.1.at args
  refine lv_isub hx hb (xb_d D_Exact_answer 105 rfl) ?_
  refine lv_iload_n hx hb (xb_d D_Exact_answer 106 rfl) rfl (lv_at hl 0 rfl) ?_
  refine lv_bipush (v := 80) hx hb (xb_d D_Exact_answer 107 rfl) (by decide) ?_
  refine lv_icmp_ge (tgt := 211) hx hb (xb_d D_Exact_answer 108 rfl) rfl (fun hc1 => ?_) (fun hc1 => ?_)
  · have hw := hw.1 hc1
    refine lv_bipush (v := 64) hx hb (xb_d D_Exact_answer 111 rfl) (by decide) ?_
    exact am_Exact_answer_L213 l hfl D A σ MC MS h0 Qr x2 x4 64 (y1 - y0) h hw p e s m args below meth c hC H locs ls k n hE (lv_sub hl [1, 2] rfl) hR hS (by omega) (by omega)
  · have hw := hw.2 hc1
    refine lv_bipush (v := 32) hx hb (xb_d D_Exact_answer 109 rfl) (by decide) ?_
    refine lv_goto (tgt := 213) hx hb (xb_d D_Exact_answer 110 rfl) rfl ?_
    exact am_Exact_answer_L213 l hfl D A σ MC MS h0 Qr x2 x4 32 (y1 - y0) h hw p e s m args below meth c hC H locs ls k n hE (lv_sub hl [1, 2] rfl) hR hS (by omega) (by omega)

set_option maxHeartbeats 4000000 in
set_option maxRecDepth 100000 in
theorem am_Exact_answer_L184 (l : Launch) (hfl : l.flags = pinnedFlags ++ [noTraceFlag]) (D : va_G) (A : Nat → Prop) (σ MC MS : Nat) (h0 : xb_H) (Qr : Int64 → xb_H → Prop) (y0 : Int64) (h : xb_H) (hw : w_Exact_answer_L184 Qr y0 h) : xb_am l D A σ 7 MC MS h0 (fun v h _ _ => ∃ r, v = some (.long r) ∧ Qr r h) (fun _ _ _ _ => False) y_Exact_answer.cls y_Exact_answer.name b_Exact_answer 6 ([] : List ExceptionTableEntry) (some .long) 184 [] [.long y0] h 0 0 := by
  unfold w_Exact_answer_L184 at hw
  intro p e s m args below meth c hC H locs ls k n hE hl hR hS hk hn
  obtain ⟨hx, hb, hown, hlocks, htab, hml, hr, hB, hA, hnm⟩ := id hC
  have hts := hB.1.1.at args
  exact xb_lret 0 0 hx hb hr hlocks (show k + 0 ≤ MC by omega) (show n + 0 ≤ MS by omega) hE hR hS (xb_d D_Exact_answer 97 rfl) hw

set_option maxHeartbeats 4000000 in
set_option maxRecDepth 100000 in
theorem am_Exact_answer_L173 (l : Launch) (hfl : l.flags = pinnedFlags ++ [noTraceFlag]) (D : va_G) (A : Nat → Prop) (σ MC MS : Nat) (h0 : xb_H) (Qr : Int64 → xb_H → Prop) (x2 : Int64) (h : xb_H) (hw : w_Exact_answer_L173 Qr x2 h) : xb_am l D A σ 7 MC MS h0 (fun v h _ _ => ∃ r, v = some (.long r) ∧ Qr r h) (fun _ _ _ _ => False) y_Exact_answer.cls y_Exact_answer.name b_Exact_answer 6 ([] : List ExceptionTableEntry) (some .long) 173 [(2, .long x2)] [] h 0 0 := by
  unfold w_Exact_answer_L173 at hw
  intro p e s m args below meth c hC H locs ls k n hE hl hR hS hk hn
  obtain ⟨hx, hb, hown, hlocks, htab, hml, hr, hB, hA, hnm⟩ := id hC
  have hts := hB.1.1.at args
  refine lv_lload_n hx hb (xb_d D_Exact_answer 90 rfl) rfl (lv_at hl 0 rfl) ?_
  refine lv_lconst (v := 0) hx hb (xb_d D_Exact_answer 91 rfl) (by decide) ?_
  refine xb_lc_ne (tgt := 183) hx hb (xb_d D_Exact_answer 92 rfl) (xb_d D_Exact_answer 93 rfl) rfl (fun hc1 => ?_) (fun hc1 => ?_)
  · have hw := hw.1 hc1
    refine lv_lconst (v := 0) hx hb (xb_d D_Exact_answer 96 rfl) (by decide) ?_
    exact am_Exact_answer_L184 l hfl D A σ MC MS h0 Qr 0 h hw p e s m args below meth c hC H locs ls k n hE (lv_sub hl [] rfl) hR hS (by omega) (by omega)
  · have hw := hw.2 hc1
    refine lv_lconst (v := 1) hx hb (xb_d D_Exact_answer 94 rfl) (by decide) ?_
    refine lv_goto (tgt := 184) hx hb (xb_d D_Exact_answer 95 rfl) rfl ?_
    exact am_Exact_answer_L184 l hfl D A σ MC MS h0 Qr 1 h hw p e s m args below meth c hC H locs ls k n hE (lv_sub hl [] rfl) hR hS (by omega) (by omega)

set_option maxHeartbeats 4000000 in
set_option maxRecDepth 100000 in
theorem am_Exact_answer_L160 (l : Launch) (hfl : l.flags = pinnedFlags ++ [noTraceFlag]) (D : va_G) (A : Nat → Prop) (σ MC MS : Nat) (h0 : xb_H) (Qr : Int64 → xb_H → Prop) (y0 : Int64) (h : xb_H) (hw : w_Exact_answer_L160 Qr y0 h) : xb_am l D A σ 7 MC MS h0 (fun v h _ _ => ∃ r, v = some (.long r) ∧ Qr r h) (fun _ _ _ _ => False) y_Exact_answer.cls y_Exact_answer.name b_Exact_answer 6 ([] : List ExceptionTableEntry) (some .long) 160 [] [.long y0] h 0 0 := by
  unfold w_Exact_answer_L160 at hw
  intro p e s m args below meth c hC H locs ls k n hE hl hR hS hk hn
  obtain ⟨hx, hb, hown, hlocks, htab, hml, hr, hB, hA, hnm⟩ := id hC
  have hts := hB.1.1.at args
  exact xb_lret 0 0 hx hb hr hlocks (show k + 0 ≤ MC by omega) (show n + 0 ≤ MS by omega) hE hR hS (xb_d D_Exact_answer 83 rfl) hw

set_option maxHeartbeats 4000000 in
set_option maxRecDepth 100000 in
theorem am_Exact_answer_L145 (l : Launch) (hfl : l.flags = pinnedFlags ++ [noTraceFlag]) (D : va_G) (A : Nat → Prop) (σ MC MS : Nat) (h0 : xb_H) (Qr : Int64 → xb_H → Prop) (x2 : Int64) (x4 : Int64) (y0 : Int32) (y1 : Int32) (y2 : Nat) (h : xb_H) (hw : w_Exact_answer_L145 Qr x2 x4 y0 y1 y2 h) : xb_am l D A σ 7 MC MS h0 (fun v h _ _ => ∃ r, v = some (.long r) ∧ Qr r h) (fun _ _ _ _ => False) y_Exact_answer.cls y_Exact_answer.name b_Exact_answer 6 ([] : List ExceptionTableEntry) (some .long) 145 [(2, .long x2), (4, .long x4)] [.int y0, .int y1, .ref y2] h 0 0 := by
  unfold w_Exact_answer_L145 at hw
  intro p e s m args below meth c hC H locs ls k n hE hl hR hS hk hn
  obtain ⟨hx, hb, hown, hlocks, htab, hml, hr, hB, hA, hnm⟩ := id hC
  have hts := hB.1.1.at args
  refine lv_isub hx hb (xb_d D_Exact_answer 75 rfl) ?_
  refine lv_lload_n hx hb (xb_d D_Exact_answer 76 rfl) rfl (lv_at hl 0 rfl) ?_
  refine lv_lload hx hb (xb_d D_Exact_answer 77 rfl) (lv_at hl 1 rfl) ?_
  obtain ⟨hk1, hw⟩ := hw
  refine xb_call0 (D := D) (A := A) (σ := σ) (h := h) (d := 5) (maxL := 7) (rest := []) (av := [.ref y2, .int (y1 - y0), .long x2, .long x4]) (fun T hT X => by obtain ⟨cb9, ra9, rb9, rc9⟩ := xb_recv (ci := 9) hR rfl hk1 (by decide); exact xt_invV X hx hown (hts _ m_6f08d5e7) (hts _ m_602a6673) (hts _ m_143526b9) (xt_sigOf (hts _ m_17d04299)) nm_Exact_compared (by rw [hT]; exact ra9) rb9 rc9 (g := F0 m 149 ls [.long x4, .long x2, .int (y1 - y0), .ref y2]) rfl (argsL := [.int (y1 - y0), .long x2, .long x4]) (rest := []) rfl rfl (by rw [hb]; exact (xb_d D_Exact_answer 78 rfl))) (ok_Exact_compared l hfl D A σ y2 (y1 - y0) x2 x4 h _ hw) (hml.trans hl.1.symm) (by rw [hb]; exact (xb_d D_Exact_answer 78 rfl)) (Nat.le_of_ble_eq_true rfl) (Nat.le_of_ble_eq_true rfl) (Nat.le_of_ble_eq_true rfl) (show k ≤ MC by omega) (show n ≤ MS by omega) (xt_w1 hB.1 m_17d04299) (xt_cdOf hB.1 m_17d04299) (hts _ m_b807310b) hB hR hS hA (fun vv h2 H locs hq hEh2 hR hS => ?_)
  obtain ⟨r3, rfl, hw⟩ := hq
  have hw := hw hEh2
  have hE := hE.tr hEh2
  refine W.eq (g2 := F0 m 152 ls [.int r3]) rfl ?_
  refine lv_if_eq (tgt := 159) hx hb (xb_d D_Exact_answer 79 rfl) rfl (fun hc4 => ?_) (fun hc4 => ?_)
  · have hw := hw.1 hc4
    refine lv_lconst (v := 0) hx hb (xb_d D_Exact_answer 82 rfl) (by decide) ?_
    exact am_Exact_answer_L160 l hfl D A σ MC MS h0 Qr 0 h2 hw p e s m args below meth c hC H locs ls k n hE (lv_sub hl [] rfl) hR hS (by omega) (by omega)
  · have hw := hw.2 hc4
    refine lv_lconst (v := 1) hx hb (xb_d D_Exact_answer 80 rfl) (by decide) ?_
    refine lv_goto (tgt := 160) hx hb (xb_d D_Exact_answer 81 rfl) rfl ?_
    exact am_Exact_answer_L160 l hfl D A σ MC MS h0 Qr 1 h2 hw p e s m args below meth c hC H locs ls k n hE (lv_sub hl [] rfl) hR hS (by omega) (by omega)

set_option maxHeartbeats 4000000 in
set_option maxRecDepth 100000 in
theorem am_Exact_answer_L127 (l : Launch) (hfl : l.flags = pinnedFlags ++ [noTraceFlag]) (D : va_G) (A : Nat → Prop) (σ MC MS : Nat) (h0 : xb_H) (Qr : Int64 → xb_H → Prop) (x0 : Nat) (x1 : Int32) (x2 : Int64) (x4 : Int64) (y0 : Int32) (y1 : Nat) (h : xb_H) (hw : w_Exact_answer_L127 Qr x0 x1 x2 x4 y0 y1 h) : xb_am l D A σ 7 MC MS h0 (fun v h _ _ => ∃ r, v = some (.long r) ∧ Qr r h) (fun _ _ _ _ => False) y_Exact_answer.cls y_Exact_answer.name b_Exact_answer 6 ([] : List ExceptionTableEntry) (some .long) 127 [(0, .ref x0), (1, .int x1), (2, .long x2), (4, .long x4)] [.int y0, .ref y1] h 0 0 := by
  unfold w_Exact_answer_L127 at hw
  intro p e s m args below meth c hC H locs ls k n hE hl hR hS hk hn
  obtain ⟨hx, hb, hown, hlocks, htab, hml, hr, hB, hA, hnm⟩ := id hC
  have hts := hB.1.1.at args
  obtain ⟨hk1, hw⟩ := hw
  refine xb_call0 (D := D) (A := A) (σ := σ) (h := h) (d := 2) (maxL := 2) (rest := []) (av := [.ref y1, .int y0]) (fun T hT X => by obtain ⟨cb9, ra9, rb9, rc9⟩ := xb_recv (ci := 9) hR rfl hk1 (by decide); exact xt_invV X hx hown (hts _ m_c71b9470) (hts _ m_83158a9f) (hts _ m_b726eab7) (xt_sigOf (hts _ m_e24dd969)) nm_Exact_format (by rw [hT]; exact ra9) rb9 rc9 (g := F0 m 127 ls [.int y0, .ref y1]) rfl (argsL := [.int y0]) (rest := []) rfl rfl (by rw [hb]; exact (xb_d D_Exact_answer 66 rfl))) (ok_Exact_format l hfl D A σ y1 y0 h _ hw) (hml.trans hl.1.symm) (by rw [hb]; exact (xb_d D_Exact_answer 66 rfl)) (Nat.le_of_ble_eq_true rfl) (Nat.le_of_ble_eq_true rfl) (Nat.le_of_ble_eq_true rfl) (show k ≤ MC by omega) (show n ≤ MS by omega) (xt_w1 hB.1 m_e24dd969) (xt_cdOf hB.1 m_e24dd969) (hts _ m_b807310b) hB hR hS hA (fun vv h2 H locs hq hEh2 hR hS => ?_)
  obtain ⟨rfl, hw⟩ := hq
  have hw := hw hEh2
  have hE := hE.tr hEh2
  refine W.eq (g2 := F0 m 130 ls []) rfl ?_
  refine lv_aload_n hx hb (xb_d D_Exact_answer 67 rfl) rfl (lv_at hl 0 rfl) ?_
  refine lv_iload_n hx hb (xb_d D_Exact_answer 68 rfl) rfl (lv_at hl 1 rfl) ?_
  refine lv_iload_n hx hb (xb_d D_Exact_answer 69 rfl) rfl (lv_at hl 1 rfl) ?_
  refine lv_bipush (v := 97) hx hb (xb_d D_Exact_answer 70 rfl) (by decide) ?_
  refine lv_icmp_ge (tgt := 143) hx hb (xb_d D_Exact_answer 71 rfl) rfl (fun hc4 => ?_) (fun hc4 => ?_)
  · have hw := hw.1 hc4
    refine lv_bipush (v := 97) hx hb (xb_d D_Exact_answer 74 rfl) (by decide) ?_
    exact am_Exact_answer_L145 l hfl D A σ MC MS h0 Qr x2 x4 97 x1 x0 h2 hw p e s m args below meth c hC H locs ls k n hE (lv_sub hl [2, 3] rfl) hR hS (by omega) (by omega)
  · have hw := hw.2 hc4
    refine lv_bipush (v := 91) hx hb (xb_d D_Exact_answer 72 rfl) (by decide) ?_
    refine lv_goto (tgt := 145) hx hb (xb_d D_Exact_answer 73 rfl) rfl ?_
    exact am_Exact_answer_L145 l hfl D A σ MC MS h0 Qr x2 x4 91 x1 x0 h2 hw p e s m args below meth c hC H locs ls k n hE (lv_sub hl [2, 3] rfl) hR hS (by omega) (by omega)

set_option maxHeartbeats 4000000 in
set_option maxRecDepth 100000 in
theorem am_Exact_answer_L106 (l : Launch) (hfl : l.flags = pinnedFlags ++ [noTraceFlag]) (D : va_G) (A : Nat → Prop) (σ MC MS : Nat) (h0 : xb_H) (Qr : Int64 → xb_H → Prop) (y0 : Int64) (h : xb_H) (hw : w_Exact_answer_L106 Qr y0 h) : xb_am l D A σ 7 MC MS h0 (fun v h _ _ => ∃ r, v = some (.long r) ∧ Qr r h) (fun _ _ _ _ => False) y_Exact_answer.cls y_Exact_answer.name b_Exact_answer 6 ([] : List ExceptionTableEntry) (some .long) 106 [] [.long y0] h 0 0 := by
  unfold w_Exact_answer_L106 at hw
  intro p e s m args below meth c hC H locs ls k n hE hl hR hS hk hn
  obtain ⟨hx, hb, hown, hlocks, htab, hml, hr, hB, hA, hnm⟩ := id hC
  have hts := hB.1.1.at args
  exact xb_lret 0 0 hx hb hr hlocks (show k + 0 ≤ MC by omega) (show n + 0 ≤ MS by omega) hE hR hS (xb_d D_Exact_answer 55 rfl) hw

set_option maxHeartbeats 4000000 in
set_option maxRecDepth 100000 in
theorem am_Exact_answer_L57 (l : Launch) (hfl : l.flags = pinnedFlags ++ [noTraceFlag]) (D : va_G) (A : Nat → Prop) (σ MC MS : Nat) (h0 : xb_H) (Qr : Int64 → xb_H → Prop) (x2 : Int64) (x4 : Int64) (y0 : Int32) (y1 : Int32) (y2 : Nat) (h : xb_H) (hw : w_Exact_answer_L57 Qr x2 x4 y0 y1 y2 h) : xb_am l D A σ 7 MC MS h0 (fun v h _ _ => ∃ r, v = some (.long r) ∧ Qr r h) (fun _ _ _ _ => False) y_Exact_answer.cls y_Exact_answer.name b_Exact_answer 6 ([] : List ExceptionTableEntry) (some .long) 57 [(2, .long x2), (4, .long x4)] [.int y0, .int y1, .ref y2] h 0 0 := by
  unfold w_Exact_answer_L57 at hw
  intro p e s m args below meth c hC H locs ls k n hE hl hR hS hk hn
  obtain ⟨hx, hb, hown, hlocks, htab, hml, hr, hB, hA, hnm⟩ := id hC
  have hts := hB.1.1.at args
  refine lv_isub hx hb (xb_d D_Exact_answer 27 rfl) ?_
  refine lv_lload_n hx hb (xb_d D_Exact_answer 28 rfl) rfl (lv_at hl 0 rfl) ?_
  refine lv_lload hx hb (xb_d D_Exact_answer 29 rfl) (lv_at hl 1 rfl) ?_
  obtain ⟨hk1, hw⟩ := hw
  refine xb_call0 (D := D) (A := A) (σ := σ) (h := h) (d := 6) (maxL := 6) (rest := []) (av := [.ref y2, .int (y1 - y0), .long x2, .long x4]) (fun T hT X => by obtain ⟨cb9, ra9, rb9, rc9⟩ := xb_recv (ci := 9) hR rfl hk1 (by decide); exact xt_invV X hx hown (hts _ m_79871b86) (hts _ m_25e876e1) (hts _ m_6ba8b37a) (xt_sigOf (hts _ m_278f62ed)) nm_Exact_floated (by rw [hT]; exact ra9) rb9 rc9 (g := F0 m 61 ls [.long x4, .long x2, .int (y1 - y0), .ref y2]) rfl (argsL := [.int (y1 - y0), .long x2, .long x4]) (rest := []) rfl rfl (by rw [hb]; exact (xb_d D_Exact_answer 30 rfl))) (ok_Exact_floated l hfl D A σ y2 (y1 - y0) x2 x4 h _ hw) (hml.trans hl.1.symm) (by rw [hb]; exact (xb_d D_Exact_answer 30 rfl)) (Nat.le_of_ble_eq_true rfl) (Nat.le_of_ble_eq_true rfl) (Nat.le_of_ble_eq_true rfl) (show k ≤ MC by omega) (show n ≤ MS by omega) (xt_w1 hB.1 m_278f62ed) (xt_cdOf hB.1 m_278f62ed) (hts _ m_b807310b) hB hR hS hA (fun vv h2 H locs hq hEh2 hR hS => ?_)
  obtain ⟨r3, rfl, hw⟩ := hq
  have hw := hw hEh2
  have hE := hE.tr hEh2
  refine W.eq (g2 := F0 m 64 ls [.long r3]) rfl ?_
  exact xb_lret 0 0 hx hb hr hlocks (show k + 0 ≤ MC by omega) (show n + 0 ≤ MS by omega) hE hR hS (xb_d D_Exact_answer 31 rfl) hw

set_option maxHeartbeats 4000000 in
set_option maxRecDepth 100000 in
theorem am_Exact_answer_L36 (l : Launch) (hfl : l.flags = pinnedFlags ++ [noTraceFlag]) (D : va_G) (A : Nat → Prop) (σ MC MS : Nat) (h0 : xb_H) (Qr : Int64 → xb_H → Prop) (x0 : Nat) (x1 : Int32) (x2 : Int64) (x4 : Int64) (y0 : Int32) (y1 : Nat) (h : xb_H) (hw : w_Exact_answer_L36 Qr x0 x1 x2 x4 y0 y1 h) : xb_am l D A σ 7 MC MS h0 (fun v h _ _ => ∃ r, v = some (.long r) ∧ Qr r h) (fun _ _ _ _ => False) y_Exact_answer.cls y_Exact_answer.name b_Exact_answer 6 ([] : List ExceptionTableEntry) (some .long) 36 [(0, .ref x0), (1, .int x1), (2, .long x2), (4, .long x4)] [.int y0, .ref y1] h 0 0 := by
  unfold w_Exact_answer_L36 at hw
  intro p e s m args below meth c hC H locs ls k n hE hl hR hS hk hn
  obtain ⟨hx, hb, hown, hlocks, htab, hml, hr, hB, hA, hnm⟩ := id hC
  have hts := hB.1.1.at args
  obtain ⟨hk1, hw⟩ := hw
  refine xb_call0 (D := D) (A := A) (σ := σ) (h := h) (d := 2) (maxL := 2) (rest := []) (av := [.ref y1, .int y0]) (fun T hT X => by obtain ⟨cb9, ra9, rb9, rc9⟩ := xb_recv (ci := 9) hR rfl hk1 (by decide); exact xt_invV X hx hown (hts _ m_c71b9470) (hts _ m_83158a9f) (hts _ m_b726eab7) (xt_sigOf (hts _ m_e24dd969)) nm_Exact_format (by rw [hT]; exact ra9) rb9 rc9 (g := F0 m 36 ls [.int y0, .ref y1]) rfl (argsL := [.int y0]) (rest := []) rfl rfl (by rw [hb]; exact (xb_d D_Exact_answer 18 rfl))) (ok_Exact_format l hfl D A σ y1 y0 h _ hw) (hml.trans hl.1.symm) (by rw [hb]; exact (xb_d D_Exact_answer 18 rfl)) (Nat.le_of_ble_eq_true rfl) (Nat.le_of_ble_eq_true rfl) (Nat.le_of_ble_eq_true rfl) (show k ≤ MC by omega) (show n ≤ MS by omega) (xt_w1 hB.1 m_e24dd969) (xt_cdOf hB.1 m_e24dd969) (hts _ m_b807310b) hB hR hS hA (fun vv h2 H locs hq hEh2 hR hS => ?_)
  obtain ⟨rfl, hw⟩ := hq
  have hw := hw hEh2
  have hE := hE.tr hEh2
  refine W.eq (g2 := F0 m 39 ls []) rfl ?_
  refine lv_aload_n hx hb (xb_d D_Exact_answer 19 rfl) rfl (lv_at hl 0 rfl) ?_
  refine lv_iload_n hx hb (xb_d D_Exact_answer 20 rfl) rfl (lv_at hl 1 rfl) ?_
  refine lv_iload_n hx hb (xb_d D_Exact_answer 21 rfl) rfl (lv_at hl 1 rfl) ?_
  refine lv_sipush (v := 153) hx hb (xb_d D_Exact_answer 22 rfl) (by decide) ?_
  refine lv_icmp_ge (tgt := 54) hx hb (xb_d D_Exact_answer 23 rfl) rfl (fun hc4 => ?_) (fun hc4 => ?_)
  · have hw := hw.1 hc4
    refine lv_sipush (v := 153) hx hb (xb_d D_Exact_answer 26 rfl) (by decide) ?_
    exact am_Exact_answer_L57 l hfl D A σ MC MS h0 Qr x2 x4 153 x1 x0 h2 hw p e s m args below meth c hC H locs ls k n hE (lv_sub hl [2, 3] rfl) hR hS (by omega) (by omega)
  · have hw := hw.2 hc4
    refine lv_sipush (v := 139) hx hb (xb_d D_Exact_answer 24 rfl) (by decide) ?_
    refine lv_goto (tgt := 57) hx hb (xb_d D_Exact_answer 25 rfl) rfl ?_
    exact am_Exact_answer_L57 l hfl D A σ MC MS h0 Qr x2 x4 139 x1 x0 h2 hw p e s m args below meth c hC H locs ls k n hE (lv_sub hl [2, 3] rfl) hR hS (by omega) (by omega)

set_option maxHeartbeats 4000000 in
set_option maxRecDepth 100000 in
theorem ok_Exact_answer (l : Launch) (hfl : l.flags = pinnedFlags ++ [noTraceFlag]) (D : va_G) (A : Nat → Prop) (σ : Nat) (x0 : Nat) (x1 : Int32) (x2 : Int64) (x4 : Int64) (h : xb_H) (Qr : Int64 → xb_H → Prop) (hw : w_Exact_answer x0 x1 x2 x4 h Qr) : xb_Met l y_Exact_answer [.code y_Exact_answer b_Exact_answer 6 (some .long)] (xb_rm 7 0 0) (xb_Pc D A σ h [.ref x0, .int x1, .long x2, .long x4]) (xb_Qc D A h 0 0 (fun v h _ _ => ∃ r, v = some (.long r) ∧ Qr r h) (fun _ _ _ _ => False)) A := by
  refine xb_ofAm (cc := b_Exact_answer) (by decide) (Nat.le_of_ble_eq_true rfl) ?_
  unfold w_Exact_answer at hw
  show xb_am l D A σ 7 0 0 h (fun v h _ _ => ∃ r, v = some (.long r) ∧ Qr r h) (fun _ _ _ _ => False) y_Exact_answer.cls y_Exact_answer.name b_Exact_answer 6 ([] : List ExceptionTableEntry) (some .long) 0 [(0, .ref x0), (1, .int x1), (2, .long x2), (4, .long x4)] [] h 0 0
  obtain ⟨MC, hMC⟩ : ∃ x, x = 0 := ⟨_, rfl⟩
  obtain ⟨MS, hMS⟩ : ∃ x, x = 0 := ⟨_, rfl⟩
  rw [show xb_am l D A σ 7 0 0 = xb_am l D A σ 7 MC MS by rw [hMC, hMS]]
  obtain ⟨h0, hh0⟩ : ∃ x, x = h := ⟨_, rfl⟩
  rw [show xb_am l D A σ 7 MC MS h = xb_am l D A σ 7 MC MS h0 by rw [hh0]]
  intro p e s m args below meth c hC H locs ls k n hE hl hR hS hk hn
  obtain ⟨hx, hb, hown, hlocks, htab, hml, hr, hB, hA, hnm⟩ := id hC
  have hts := hB.1.1.at args
  refine lv_iload_n hx hb (xb_d D_Exact_answer 0 rfl) rfl (lv_at hl 1 rfl) ?_
  refine lv_sipush (v := 167) hx hb (xb_d D_Exact_answer 1 rfl) (by decide) ?_
  refine lv_icmp_lt (tgt := 14) hx hb (xb_d D_Exact_answer 2 rfl) rfl (fun hc1 => ?_) (fun hc1 => ?_)
  · have hw := hw.1 hc1
    refine lv_iload_n hx hb (xb_d D_Exact_answer 8 rfl) rfl (lv_at hl 1 rfl) ?_
    refine lv_sipush (v := 139) hx hb (xb_d D_Exact_answer 9 rfl) (by decide) ?_
    refine lv_icmp_lt (tgt := 65) hx hb (xb_d D_Exact_answer 10 rfl) rfl (fun hc2 => ?_) (fun hc2 => ?_)
    · have hw := hw.1 hc2
      refine lv_iload_n hx hb (xb_d D_Exact_answer 32 rfl) rfl (lv_at hl 1 rfl) ?_
      refine lv_bipush (v := 103) hx hb (xb_d D_Exact_answer 33 rfl) (by decide) ?_
      refine lv_icmp_lt (tgt := 107) hx hb (xb_d D_Exact_answer 34 rfl) rfl (fun hc3 => ?_) (fun hc3 => ?_)
      · have hw := hw.1 hc3
        refine lv_iload_n hx hb (xb_d D_Exact_answer 56 rfl) rfl (lv_at hl 1 rfl) ?_
        refine lv_bipush (v := 91) hx hb (xb_d D_Exact_answer 57 rfl) (by decide) ?_
        refine lv_icmp_lt (tgt := 161) hx hb (xb_d D_Exact_answer 58 rfl) rfl (fun hc4 => ?_) (fun hc4 => ?_)
        · have hw := hw.1 hc4
          refine lv_iload_n hx hb (xb_d D_Exact_answer 84 rfl) rfl (lv_at hl 1 rfl) ?_
          refine lv_bipush (v := 69) hx hb (xb_d D_Exact_answer 85 rfl) (by decide) ?_
          refine lv_icmp_eq (tgt := 173) hx hb (xb_d D_Exact_answer 86 rfl) rfl (fun hc5 => ?_) (fun hc5 => ?_)
          · have hw := hw.1 hc5
            exact am_Exact_answer_L173 l hfl D A σ MC MS h0 Qr x2 h hw p e s m args below meth c hC H locs ls k n hE (lv_sub hl [2] rfl) hR hS (by omega) (by omega)
          · have hw := hw.2 hc5
            refine lv_iload_n hx hb (xb_d D_Exact_answer 87 rfl) rfl (lv_at hl 1 rfl) ?_
            refine lv_bipush (v := 80) hx hb (xb_d D_Exact_answer 88 rfl) (by decide) ?_
            refine lv_icmp_ne (tgt := 185) hx hb (xb_d D_Exact_answer 89 rfl) rfl (fun hc6 => ?_) (fun hc6 => ?_)
            · have hw := hw.1 hc6
              refine lv_iload_n hx hb (xb_d D_Exact_answer 98 rfl) rfl (lv_at hl 1 rfl) ?_
              refine lv_iload_n hx hb (xb_d D_Exact_answer 99 rfl) rfl (lv_at hl 1 rfl) ?_
              refine lv_bipush (v := 80) hx hb (xb_d D_Exact_answer 100 rfl) (by decide) ?_
              refine lv_icmp_ge (tgt := 197) hx hb (xb_d D_Exact_answer 101 rfl) rfl (fun hc7 => ?_) (fun hc7 => ?_)
              · have hw := hw.1 hc7
                refine lv_bipush (v := 81) hx hb (xb_d D_Exact_answer 104 rfl) (by decide) ?_
                exact am_Exact_answer_L199 l hfl D A σ MC MS h0 Qr x1 x2 x4 81 x1 h hw p e s m args below meth c hC H locs ls k n hE (lv_sub hl [1, 2, 3] rfl) hR hS (by omega) (by omega)
              · have hw := hw.2 hc7
                refine lv_bipush (v := 70) hx hb (xb_d D_Exact_answer 102 rfl) (by decide) ?_
                refine lv_goto (tgt := 199) hx hb (xb_d D_Exact_answer 103 rfl) rfl ?_
                exact am_Exact_answer_L199 l hfl D A σ MC MS h0 Qr x1 x2 x4 70 x1 h hw p e s m args below meth c hC H locs ls k n hE (lv_sub hl [1, 2, 3] rfl) hR hS (by omega) (by omega)
            · have hw := hw.2 hc6
              exact am_Exact_answer_L173 l hfl D A σ MC MS h0 Qr x2 h hw p e s m args below meth c hC H locs ls k n hE (lv_sub hl [2] rfl) hR hS (by omega) (by omega)
        · have hw := hw.2 hc4
          refine lv_aload_n hx hb (xb_d D_Exact_answer 59 rfl) rfl (lv_at hl 0 rfl) ?_
          refine lv_iload_n hx hb (xb_d D_Exact_answer 60 rfl) rfl (lv_at hl 1 rfl) ?_
          refine lv_bipush (v := 97) hx hb (xb_d D_Exact_answer 61 rfl) (by decide) ?_
          refine lv_icmp_ge (tgt := 125) hx hb (xb_d D_Exact_answer 62 rfl) rfl (fun hc8 => ?_) (fun hc8 => ?_)
          · have hw := hw.1 hc8
            refine lv_bipush (v := 64) hx hb (xb_d D_Exact_answer 65 rfl) (by decide) ?_
            exact am_Exact_answer_L127 l hfl D A σ MC MS h0 Qr x0 x1 x2 x4 64 x0 h hw p e s m args below meth c hC H locs ls k n hE (lv_sub hl [0, 1, 2, 3] rfl) hR hS (by omega) (by omega)
          · have hw := hw.2 hc8
            refine lv_bipush (v := 32) hx hb (xb_d D_Exact_answer 63 rfl) (by decide) ?_
            refine lv_goto (tgt := 127) hx hb (xb_d D_Exact_answer 64 rfl) rfl ?_
            exact am_Exact_answer_L127 l hfl D A σ MC MS h0 Qr x0 x1 x2 x4 32 x0 h hw p e s m args below meth c hC H locs ls k n hE (lv_sub hl [0, 1, 2, 3] rfl) hR hS (by omega) (by omega)
      · have hw := hw.2 hc3
        refine lv_iload_n hx hb (xb_d D_Exact_answer 35 rfl) rfl (lv_at hl 1 rfl) ?_
        refine lv_bipush (v := 121) hx hb (xb_d D_Exact_answer 36 rfl) (by decide) ?_
        refine lv_icmp_ge (tgt := 93) hx hb (xb_d D_Exact_answer 37 rfl) rfl (fun hc9 => ?_) (fun hc9 => ?_)
        · have hw := hw.1 hc9
          refine lv_aload_n hx hb (xb_d D_Exact_answer 47 rfl) rfl (lv_at hl 0 rfl) ?_
          refine lv_iload_n hx hb (xb_d D_Exact_answer 48 rfl) rfl (lv_at hl 1 rfl) ?_
          refine lv_bipush (v := 121) hx hb (xb_d D_Exact_answer 49 rfl) (by decide) ?_
          refine lv_isub hx hb (xb_d D_Exact_answer 50 rfl) ?_
          refine lv_bipush (v := 64) hx hb (xb_d D_Exact_answer 51 rfl) (by decide) ?_
          refine lv_lload_n hx hb (xb_d D_Exact_answer 52 rfl) rfl (lv_at hl 2 rfl) ?_
          refine lv_lload hx hb (xb_d D_Exact_answer 53 rfl) (lv_at hl 3 rfl) ?_
          obtain ⟨hk10, hw⟩ := hw
          refine xb_call0 (D := D) (A := A) (σ := σ) (h := h) (d := 5) (maxL := 8) (rest := []) (av := [.ref x0, .int (x1 - 121), .int 64, .long x2, .long x4]) (fun T hT X => by obtain ⟨cb9, ra9, rb9, rc9⟩ := xb_recv (ci := 9) hR rfl hk10 (by decide); exact xt_invV X hx hown (hts _ m_688078d2) (hts _ m_4f72d393) (hts _ m_d36b9051) (xt_sigOf (hts _ m_6a6920ea)) nm_Exact_reckoned (by rw [hT]; exact ra9) rb9 rc9 (g := F0 m 103 ls [.long x4, .long x2, .int 64, .int (x1 - 121), .ref x0]) rfl (argsL := [.int (x1 - 121), .int 64, .long x2, .long x4]) (rest := []) rfl rfl (by rw [hb]; exact (xb_d D_Exact_answer 54 rfl))) (ok_Exact_reckoned l hfl D A σ x0 (x1 - 121) 64 x2 x4 h _ hw) (hml.trans hl.1.symm) (by rw [hb]; exact (xb_d D_Exact_answer 54 rfl)) (Nat.le_of_ble_eq_true rfl) (Nat.le_of_ble_eq_true rfl) (Nat.le_of_ble_eq_true rfl) (show k ≤ MC by omega) (show n ≤ MS by omega) (xt_w1 hB.1 m_6a6920ea) (xt_cdOf hB.1 m_6a6920ea) (hts _ m_b807310b) hB hR hS hA (fun vv h11 H locs hq hEh11 hR hS => ?_)
          obtain ⟨r12, rfl, hw⟩ := hq
          have hw := hw hEh11
          have hE := hE.tr hEh11
          refine W.eq (g2 := F0 m 106 ls [.long r12]) rfl ?_
          exact am_Exact_answer_L106 l hfl D A σ MC MS h0 Qr r12 h11 hw p e s m args below meth c hC H locs ls k n hE (lv_sub hl [] rfl) hR hS (by omega) (by omega)
        · have hw := hw.2 hc9
          refine lv_aload_n hx hb (xb_d D_Exact_answer 38 rfl) rfl (lv_at hl 0 rfl) ?_
          refine lv_iload_n hx hb (xb_d D_Exact_answer 39 rfl) rfl (lv_at hl 1 rfl) ?_
          refine lv_bipush (v := 103) hx hb (xb_d D_Exact_answer 40 rfl) (by decide) ?_
          refine lv_isub hx hb (xb_d D_Exact_answer 41 rfl) ?_
          refine lv_bipush (v := 32) hx hb (xb_d D_Exact_answer 42 rfl) (by decide) ?_
          refine lv_lload_n hx hb (xb_d D_Exact_answer 43 rfl) rfl (lv_at hl 2 rfl) ?_
          refine lv_lload hx hb (xb_d D_Exact_answer 44 rfl) (lv_at hl 3 rfl) ?_
          obtain ⟨hk13, hw⟩ := hw
          refine xb_call0 (D := D) (A := A) (σ := σ) (h := h) (d := 5) (maxL := 8) (rest := []) (av := [.ref x0, .int (x1 - 103), .int 32, .long x2, .long x4]) (fun T hT X => by obtain ⟨cb9, ra9, rb9, rc9⟩ := xb_recv (ci := 9) hR rfl hk13 (by decide); exact xt_invV X hx hown (hts _ m_688078d2) (hts _ m_4f72d393) (hts _ m_d36b9051) (xt_sigOf (hts _ m_6a6920ea)) nm_Exact_reckoned (by rw [hT]; exact ra9) rb9 rc9 (g := F0 m 87 ls [.long x4, .long x2, .int 32, .int (x1 - 103), .ref x0]) rfl (argsL := [.int (x1 - 103), .int 32, .long x2, .long x4]) (rest := []) rfl rfl (by rw [hb]; exact (xb_d D_Exact_answer 45 rfl))) (ok_Exact_reckoned l hfl D A σ x0 (x1 - 103) 32 x2 x4 h _ hw) (hml.trans hl.1.symm) (by rw [hb]; exact (xb_d D_Exact_answer 45 rfl)) (Nat.le_of_ble_eq_true rfl) (Nat.le_of_ble_eq_true rfl) (Nat.le_of_ble_eq_true rfl) (show k ≤ MC by omega) (show n ≤ MS by omega) (xt_w1 hB.1 m_6a6920ea) (xt_cdOf hB.1 m_6a6920ea) (hts _ m_b807310b) hB hR hS hA (fun vv h14 H locs hq hEh14 hR hS => ?_)
          obtain ⟨r15, rfl, hw⟩ := hq
          have hw := hw hEh14
          have hE := hE.tr hEh14
          refine W.eq (g2 := F0 m 90 ls [.long r15]) rfl ?_
          refine lv_goto (tgt := 106) hx hb (xb_d D_Exact_answer 46 rfl) rfl ?_
          exact am_Exact_answer_L106 l hfl D A σ MC MS h0 Qr r15 h14 hw p e s m args below meth c hC H locs ls k n hE (lv_sub hl [] rfl) hR hS (by omega) (by omega)
    · have hw := hw.2 hc2
      refine lv_aload_n hx hb (xb_d D_Exact_answer 11 rfl) rfl (lv_at hl 0 rfl) ?_
      refine lv_iload_n hx hb (xb_d D_Exact_answer 12 rfl) rfl (lv_at hl 1 rfl) ?_
      refine lv_sipush (v := 153) hx hb (xb_d D_Exact_answer 13 rfl) (by decide) ?_
      refine lv_icmp_ge (tgt := 34) hx hb (xb_d D_Exact_answer 14 rfl) rfl (fun hc16 => ?_) (fun hc16 => ?_)
      · have hw := hw.1 hc16
        refine lv_bipush (v := 64) hx hb (xb_d D_Exact_answer 17 rfl) (by decide) ?_
        exact am_Exact_answer_L36 l hfl D A σ MC MS h0 Qr x0 x1 x2 x4 64 x0 h hw p e s m args below meth c hC H locs ls k n hE (lv_sub hl [0, 1, 2, 3] rfl) hR hS (by omega) (by omega)
      · have hw := hw.2 hc16
        refine lv_bipush (v := 32) hx hb (xb_d D_Exact_answer 15 rfl) (by decide) ?_
        refine lv_goto (tgt := 36) hx hb (xb_d D_Exact_answer 16 rfl) rfl ?_
        exact am_Exact_answer_L36 l hfl D A σ MC MS h0 Qr x0 x1 x2 x4 32 x0 h hw p e s m args below meth c hC H locs ls k n hE (lv_sub hl [0, 1, 2, 3] rfl) hR hS (by omega) (by omega)
  · have hw := hw.2 hc1
    refine lv_aload_n hx hb (xb_d D_Exact_answer 3 rfl) rfl (lv_at hl 0 rfl) ?_
    refine lv_iload_n hx hb (xb_d D_Exact_answer 4 rfl) rfl (lv_at hl 1 rfl) ?_
    refine lv_lload_n hx hb (xb_d D_Exact_answer 5 rfl) rfl (lv_at hl 2 rfl) ?_
    obtain ⟨hk17, hw⟩ := hw
    refine xb_call0 (D := D) (A := A) (σ := σ) (h := h) (d := 6) (maxL := 5) (rest := []) (av := [.ref x0, .int x1, .long x2]) (fun T hT X => by obtain ⟨cb9, ra9, rb9, rc9⟩ := xb_recv (ci := 9) hR rfl hk17 (by decide); exact xt_invV X hx hown (hts _ m_c1ed24a3) (hts _ m_ade42289) (hts _ m_fb9155c2) (xt_sigOf (hts _ m_e6e35d11)) nm_Exact_turnedInto (by rw [hT]; exact ra9) rb9 rc9 (g := F0 m 10 ls [.long x2, .int x1, .ref x0]) rfl (argsL := [.int x1, .long x2]) (rest := []) rfl rfl (by rw [hb]; exact (xb_d D_Exact_answer 6 rfl))) (ok_Exact_turnedInto l hfl D A σ x0 x1 x2 h _ hw) (hml.trans hl.1.symm) (by rw [hb]; exact (xb_d D_Exact_answer 6 rfl)) (Nat.le_of_ble_eq_true rfl) (Nat.le_of_ble_eq_true rfl) (Nat.le_of_ble_eq_true rfl) (show k ≤ MC by omega) (show n ≤ MS by omega) (xt_w1 hB.1 m_e6e35d11) (xt_cdOf hB.1 m_e6e35d11) (hts _ m_b807310b) hB hR hS hA (fun vv h18 H locs hq hEh18 hR hS => ?_)
    obtain ⟨r19, rfl, hw⟩ := hq
    have hw := hw hEh18
    have hE := hE.tr hEh18
    refine W.eq (g2 := F0 m 13 ls [.long r19]) rfl ?_
    exact xb_lret 0 0 hx hb hr hlocks (show k + 0 ≤ MC by omega) (show n + 0 ≤ MS by omega) hE hR hS (xb_d D_Exact_answer 7 rfl) hw

theorem m_b54adcdf : (.methodLink "StackHost" 172 y_World_link : Cond) ∈ xt_tbl := xt_in (xt_t6 (List.mem_of_getElem? (i := 112) (by decide +kernel))) (by decide +kernel)
theorem m_e9355882 : (.instanceMethod y_World_link : Cond) ∈ xt_tbl := xt_in (xt_t6 (List.mem_of_getElem? (i := 113) (by decide +kernel))) (by decide +kernel)
theorem m_e05e661a : (.selects "StackHost$World" y_World_link y_World_link : Cond) ∈ xt_tbl := xt_in (xt_t6 (List.mem_of_getElem? (i := 114) (by decide +kernel))) (by decide +kernel)
theorem m_c50ba50b : (.code y_World_link b_World_link 4 (some .int) : Cond) ∈ xt_tbl := xt_in (xt_t6 (List.mem_of_getElem? (i := 115) (by decide +kernel))) (by decide +kernel)
theorem m_f0fa5c18 : (.fieldLink "StackHost" 176 "StackHost$World" "faultCode" "I" : Cond) ∈ xt_tbl := xt_in (xt_t1 (List.mem_of_getElem? (i := 183) (by decide +kernel))) (by decide +kernel)
theorem m_3bc170ed : (.fieldLink "StackHost" 177 "StackHost$World" "faultPlace" "I" : Cond) ∈ xt_tbl := xt_in (xt_t1 (List.mem_of_getElem? (i := 185) (by decide +kernel))) (by decide +kernel)
theorem m_99bdf76f : (.fieldLink "StackHost" 178 "StackHost$StackModule" "start" "I" : Cond) ∈ xt_tbl := xt_in (xt_t3 (List.mem_of_getElem? (i := 119) (by decide +kernel))) (by decide +kernel)
theorem nm_World_link : xt_nm y_World_link 1 := ⟨by decide +kernel, by decide +kernel⟩
set_option maxRecDepth 100000 in
def T_H_instantiate : List (Nat × Instr × Nat) := [(0, .aload_n 0, 1), (1, .iload_n 1, 1), (2, .invokevirtual 122, 3), (5, .astore_n 2, 1), (6, .aload_n 0, 1), (7, .invokevirtual 169, 3), (10, .aload_n 0, 1), (11, .getfield 36, 3), (14, .aload_n 2, 1), (15, .invokevirtual 172, 3), (18, .istore_n 3, 1), (19, .aload_n 0, 1), (20, .aload_n 0, 1), (21, .getfield 36, 3), (24, .getfield 176, 3), (27, .putfield 97, 3), (30, .aload_n 0, 1), (31, .aload_n 0, 1), (32, .getfield 36, 3), (35, .getfield 177, 3), (38, .putfield 100, 3), (41, .iload_n 3, 1), (42, .iconst (-1), 1), (43, .if_icmp .eq 34, 3), (46, .aload_n 2, 1), (47, .getfield 178, 3), (50, .iconst (-1), 1), (51, .if_icmp .eq 26, 3), (54, .aload_n 0, 1), (55, .getfield 45, 3), (58, .aload_n 0, 1), (59, .getfield 36, 3), (62, .getfield 181, 3), (65, .iload_n 3, 1), (66, .aaload, 1), (67, .aload_n 2, 1), (68, .getfield 178, 3), (71, .invokevirtual 185, 3), (74, .invokevirtual 191, 3), (77, .iload_n 3, 1), (78, .ireturn, 1)]
theorem D_H_instantiate : ∀ q ∈ T_H_instantiate, decode b_H_instantiate q.1 = .ok (q.2.1, q.2.2) := by decide +kernel

set_option maxHeartbeats 4000000 in
set_option maxRecDepth 100000 in
theorem am_H_instantiate_L77 (l : Launch) (hfl : l.flags = pinnedFlags ++ [noTraceFlag]) (D : va_G) (A : Nat → Prop) (σ MC MS : Nat) (h0 : xb_H) (Qr : Int32 → xb_H → Nat → Nat → Prop) (Qt : String → xb_H → Nat → Nat → Prop) (x3 : Int32) (h : xb_H) (bc : Nat) (bs : Nat) (hw : w_H_instantiate_L77 σ Qr Qt x3 h bc bs) : xb_am l D A σ 8 MC MS h0 (fun v h bc bs => ∃ r, v = some (.int r) ∧ Qr r h bc bs) Qt y_H_instantiate.cls y_H_instantiate.name b_H_instantiate 4 ([] : List ExceptionTableEntry) (some .int) 77 [(3, .int x3)] [] h bc bs := by
  unfold w_H_instantiate_L77 at hw
  intro p e s m args below meth c hC H locs ls k n hE hl hR hS hk hn
  obtain ⟨hx, hb, hown, hlocks, htab, hml, hr, hB, hA, hnm⟩ := id hC
  have hts := hB.1.1.at args
  refine lv_iload_n hx hb (xb_d D_H_instantiate 39 rfl) rfl (lv_at hl 0 rfl) ?_
  exact xb_iret bc bs hx hb hr hlocks (show k + bc ≤ MC by omega) (show n + bs ≤ MS by omega) hE hR hS (xb_d D_H_instantiate 40 rfl) hw

set_option maxHeartbeats 4000000 in
set_option maxRecDepth 100000 in
theorem ok_H_instantiate (l : Launch) (hfl : l.flags = pinnedFlags ++ [noTraceFlag]) (D : va_G) (A : Nat → Prop) (σ : Nat) (x0 : Nat) (x1 : Int32) (h : xb_H) (bc : Nat) (bs : Nat) (Qr : Int32 → xb_H → Nat → Nat → Prop) (Qt : String → xb_H → Nat → Nat → Prop) (hw : w_H_instantiate σ x0 x1 h bc bs Qr Qt) : xb_Met l y_H_instantiate [.code y_H_instantiate b_H_instantiate 4 (some .int)] (xb_rm 8 bc bs) (xb_Pc D A σ h [.ref x0, .int x1]) (xb_Qc D A h bc bs (fun v h bc bs => ∃ r, v = some (.int r) ∧ Qr r h bc bs) Qt) A := by
  refine xb_ofAm (cc := b_H_instantiate) (by decide) (Nat.le_of_ble_eq_true rfl) ?_
  unfold w_H_instantiate at hw
  show xb_am l D A σ 8 bc bs h (fun v h bc bs => ∃ r, v = some (.int r) ∧ Qr r h bc bs) Qt y_H_instantiate.cls y_H_instantiate.name b_H_instantiate 4 ([] : List ExceptionTableEntry) (some .int) 0 [(0, .ref x0), (1, .int x1)] [] h bc bs
  obtain ⟨MC, hMC⟩ : ∃ x, x = bc := ⟨_, rfl⟩
  obtain ⟨MS, hMS⟩ : ∃ x, x = bs := ⟨_, rfl⟩
  rw [show xb_am l D A σ 8 bc bs = xb_am l D A σ 8 MC MS by rw [hMC, hMS]]
  obtain ⟨h0, hh0⟩ : ∃ x, x = h := ⟨_, rfl⟩
  rw [show xb_am l D A σ 8 MC MS h = xb_am l D A σ 8 MC MS h0 by rw [hh0]]
  intro p e s m args below meth c hC H locs ls k n hE hl hR hS hk hn
  obtain ⟨hx, hb, hown, hlocks, htab, hml, hr, hB, hA, hnm⟩ := id hC
  have hts := hB.1.1.at args
  refine lv_aload_n hx hb (xb_d D_H_instantiate 0 rfl) rfl (lv_at hl 0 rfl) ?_
  refine lv_iload_n hx hb (xb_d D_H_instantiate 1 rfl) rfl (lv_at hl 1 rfl) ?_
  obtain ⟨hk1, hw⟩ := hw
  refine xb_call (D := D) (A := A) (σ := σ) (h := h) (d := 2) (mc := bc) (ms := bs) (maxL := 2) (rest := []) (av := [.ref x0, .int x1]) (fun T hT X => by obtain ⟨cb9, ra9, rb9, rc9⟩ := xb_recv (ci := 0) hR rfl hk1 (by decide); exact xt_invV X hx hown (hts _ m_abdd1028) (hts _ m_38480b8a) (hts _ m_1e19a5c0) (xt_sigOf (hts _ m_3c5d4c65)) nm_H_moduleNumbered (by rw [hT]; exact ra9) rb9 rc9 (g := F0 m 2 ls [.int x1, .ref x0]) rfl (argsL := [.int x1]) (rest := []) rfl rfl (by rw [hb]; exact (xb_d D_H_instantiate 2 rfl))) (ok_H_moduleNumbered l hfl D A σ x0 x1 h bc bs _ _ hw) (hml.trans hl.1.symm) (by rw [hb]; exact (xb_d D_H_instantiate 2 rfl)) (Nat.le_of_ble_eq_true rfl) (Nat.le_of_ble_eq_true rfl) (Nat.le_of_ble_eq_true rfl) (show k + bc ≤ MC by omega) (show n + bs ≤ MS by omega) (xt_w1 hB.1 m_3c5d4c65) (xt_cdOf hB.1 m_3c5d4c65) (hts _ m_ba0734f5) hB hR hS hA (fun vv h2 bc3 bs3 kk3 nn3 H locs hk3 hn3 hq hEh2 hR hS => ?_) (fun XX ax h2 bc3 bs3 kk3 nn3 H locs hk3 hn3 hq hEh2 hex hR hS => ?_)
  · obtain ⟨r3, rfl, hw⟩ := hq
    have hw := hw hEh2
    have hE := hE.tr hEh2
    refine W.eq (g2 := F0 m 5 ls [.ref r3]) rfl ?_
    refine lv_astore_n hx hb (xb_d D_H_instantiate 3 rfl) rfl hl (by decide) rfl (fun ls hl => ?_)
    have hl : lv_has ls 4 [(2, .ref r3), (0, .ref x0), (1, .int x1)] := hl
    refine lv_aload_n hx hb (xb_d D_H_instantiate 4 rfl) rfl (lv_at hl 1 rfl) ?_
    have hk1 : xb_k h2 x0 = 1 := hEh2.k hk1
    refine xb_call (D := D) (A := A) (σ := σ) (h := h2) (d := 2) (mc := bc3) (ms := bs3) (maxL := 1) (rest := []) (av := [.ref x0]) (fun T hT X => by obtain ⟨cb9, ra9, rb9, rc9⟩ := xb_recv (ci := 0) hR rfl hk1 (by decide); exact xt_invV X hx hown (hts _ m_d8dc723e) (hts _ m_d39108b7) (hts _ m_6c666fc1) (xt_sigOf (hts _ m_f1e2143e)) nm_H_refuseWhileUnderWay (by rw [hT]; exact ra9) rb9 rc9 (g := F0 m 7 ls [.ref x0]) rfl (argsL := []) (rest := []) rfl rfl (by rw [hb]; exact (xb_d D_H_instantiate 5 rfl))) (ok_H_refuseWhileUnderWay l hfl D A σ x0 h2 bc3 bs3 _ _ hw) (hml.trans hl.1.symm) (by rw [hb]; exact (xb_d D_H_instantiate 5 rfl)) (Nat.le_of_ble_eq_true rfl) (Nat.le_of_ble_eq_true rfl) (Nat.le_of_ble_eq_true rfl) (show (k + kk3) + bc3 ≤ MC by omega) (show (n + nn3) + bs3 ≤ MS by omega) (xt_w1 hB.1 m_f1e2143e) (xt_cdOf hB.1 m_f1e2143e) (hts _ m_ba0734f5) hB hR hS hA (fun vv h4 bc5 bs5 kk5 nn5 H locs hk5 hn5 hq hEh4 hR hS => ?_) (fun XX ax h4 bc5 bs5 kk5 nn5 H locs hk5 hn5 hq hEh4 hex hR hS => ?_)
    · obtain ⟨rfl, hw⟩ := hq
      have hw := hw hEh4
      have hE := hE.tr hEh4
      refine W.eq (g2 := F0 m 10 ls []) rfl ?_
      refine lv_aload_n hx hb (xb_d D_H_instantiate 6 rfl) rfl (lv_at hl 1 rfl) ?_
      have hk1 : xb_k h4 x0 = 1 := hEh4.k hk1
      refine xb_getP (C := R_H) (T := F_H) (N := 11) hx hb 0 6 hts fin_H hown hR hk1 (by decide) rfl (by decide) rfl (hts _ m_3ac6c4ed) (fun _ h9 => h9) (xb_d D_H_instantiate 7 rfl) ?_
      obtain ⟨b6, eb6, hw⟩ := hw
      refine xb_some eb6 ?_
      refine lv_aload_n hx hb (xb_d D_H_instantiate 8 rfl) rfl (lv_at hl 0 rfl) ?_
      obtain ⟨hk7, hw⟩ := hw
      refine xb_call (D := D) (A := A) (σ := σ) (h := h4) (d := 7) (mc := bc5) (ms := bs5) (maxL := 4) (rest := []) (av := [.ref b6, .ref r3]) (fun T hT X => by obtain ⟨cb9, ra9, rb9, rc9⟩ := xb_recv (ci := 6) hR rfl hk7 (by decide); exact xt_invV X hx hown (hts _ m_b54adcdf) (hts _ m_e9355882) (hts _ m_e05e661a) (xt_sigOf (hts _ m_c50ba50b)) nm_World_link (by rw [hT]; exact ra9) rb9 rc9 (g := F0 m 15 ls [.ref r3, .ref b6]) rfl (argsL := [.ref r3]) (rest := []) rfl rfl (by rw [hb]; exact (xb_d D_H_instantiate 9 rfl))) (ok_World_link l hfl D A σ b6 r3 h4 bc5 bs5 _ hw) (hml.trans hl.1.symm) (by rw [hb]; exact (xb_d D_H_instantiate 9 rfl)) (Nat.le_of_ble_eq_true rfl) (Nat.le_of_ble_eq_true rfl) (Nat.le_of_ble_eq_true rfl) (show ((k + kk3) + kk5) + bc5 ≤ MC by omega) (show ((n + nn3) + nn5) + bs5 ≤ MS by omega) (xt_w1 hB.1 m_c50ba50b) (xt_cdOf hB.1 m_c50ba50b) (hts _ m_4534b440) hB hR hS hA (fun vv h8 bc9 bs9 kk9 nn9 H locs hk9 hn9 hq hEh8 hR hS => ?_) (fun XX ax h8 bc9 bs9 kk9 nn9 H locs hk9 hn9 hq hEh8 hex hR hS => ?_)
      · obtain ⟨r9, rfl, hw⟩ := hq
        have hw := hw hEh8
        have hE := hE.tr hEh8
        refine W.eq (g2 := F0 m 18 ls [.int r9]) rfl ?_
        refine lv_istore_n hx hb (xb_d D_H_instantiate 10 rfl) rfl hl (by decide) rfl (fun ls hl => ?_)
        have hl : lv_has ls 4 [(3, .int r9), (2, .ref r3), (0, .ref x0), (1, .int x1)] := hl
        refine lv_aload_n hx hb (xb_d D_H_instantiate 11 rfl) rfl (lv_at hl 2 rfl) ?_
        refine lv_aload_n hx hb (xb_d D_H_instantiate 12 rfl) rfl (lv_at hl 2 rfl) ?_
        have hk1 : xb_k h8 x0 = 1 := hEh8.k hk1
        refine xb_getP (C := R_H) (T := F_H) (N := 11) hx hb 0 6 hts fin_H hown hR hk1 (by decide) rfl (by decide) rfl (hts _ m_3ac6c4ed) (fun _ h9 => h9) (xb_d D_H_instantiate 13 rfl) ?_
        obtain ⟨b10, eb10, hw⟩ := hw
        refine xb_some eb10 ?_
        obtain ⟨hk11, hw⟩ := hw
        refine xb_getI (C := R_World) (T := F_World) (N := 16) hx hb 6 7 hts fin_World hown hR hk11 (by decide) rfl (by decide) rfl (hts _ m_f0fa5c18) (fun _ h9 => h9) (xb_d D_H_instantiate 14 rfl) ?_
        refine xb_putI (C := R_H) (T := F_H) (N := 11) (ty := .int) (x := (xb_i h8 b10 7)) hx hb 0 9 hts fin_H t_H t_H_ok n_H hown hR hS hk1 (by decide) rfl (by decide) rfl (hts _ m_149cae13) (fun _ h9 => h9) rfl (by decide +kernel) rfl rfl (xb_d D_H_instantiate 15 rfl) (fun H locs hR hS => ?_)
        obtain ⟨h12, eh12⟩ : ∃ x : xb_H, x = xb_I h8 x0 9 (xb_i h8 b10 7) := ⟨_, rfl⟩
        rw [← eh12] at hR
        have hw := hw h12 eh12
        have hE : xb_ext h0 h12 := by rw [eh12]; exact hE
        refine lv_aload_n hx hb (xb_d D_H_instantiate 16 rfl) rfl (lv_at hl 2 rfl) ?_
        refine lv_aload_n hx hb (xb_d D_H_instantiate 17 rfl) rfl (lv_at hl 2 rfl) ?_
        have hk1 : xb_k h12 x0 = 1 := by rw [eh12]; exact hk1
        refine xb_getP (C := R_H) (T := F_H) (N := 11) hx hb 0 6 hts fin_H hown hR hk1 (by decide) rfl (by decide) rfl (hts _ m_3ac6c4ed) (fun _ h9 => h9) (xb_d D_H_instantiate 18 rfl) ?_
        obtain ⟨b13, eb13, hw⟩ := hw
        refine xb_some eb13 ?_
        obtain ⟨hk14, hw⟩ := hw
        refine xb_getI (C := R_World) (T := F_World) (N := 16) hx hb 6 8 hts fin_World hown hR hk14 (by decide) rfl (by decide) rfl (hts _ m_3bc170ed) (fun _ h9 => h9) (xb_d D_H_instantiate 19 rfl) ?_
        refine xb_putI (C := R_H) (T := F_H) (N := 11) (ty := .int) (x := (xb_i h12 b13 8)) hx hb 0 10 hts fin_H t_H t_H_ok n_H hown hR hS hk1 (by decide) rfl (by decide) rfl (hts _ m_f8008c10) (fun _ h9 => h9) rfl (by decide +kernel) rfl rfl (xb_d D_H_instantiate 20 rfl) (fun H locs hR hS => ?_)
        obtain ⟨h15, eh15⟩ : ∃ x : xb_H, x = xb_I h12 x0 10 (xb_i h12 b13 8) := ⟨_, rfl⟩
        rw [← eh15] at hR
        have hw := hw h15 eh15
        have hE : xb_ext h0 h15 := by rw [eh15]; exact hE
        refine lv_iload_n hx hb (xb_d D_H_instantiate 21 rfl) rfl (lv_at hl 0 rfl) ?_
        refine lv_iconst (v := (-1)) hx hb (xb_d D_H_instantiate 22 rfl) (by decide) ?_
        refine lv_icmp_eq (tgt := 77) hx hb (xb_d D_H_instantiate 23 rfl) rfl (fun hc16 => ?_) (fun hc16 => ?_)
        · have hw := hw.1 hc16
          exact am_H_instantiate_L77 l hfl D A σ MC MS h0 Qr Qt r9 h15 bc9 bs9 hw p e s m args below meth c hC H locs ls (((k + kk3) + kk5) + kk9) (((n + nn3) + nn5) + nn9) hE (lv_sub hl [0] rfl) hR hS (by omega) (by omega)
        · have hw := hw.2 hc16
          refine lv_aload_n hx hb (xb_d D_H_instantiate 24 rfl) rfl (lv_at hl 1 rfl) ?_
          obtain ⟨hk17, hw⟩ := hw
          refine xb_getI (C := R_StackModule) (T := F_StackModule) (N := 19) hx hb 2 15 hts fin_StackModule hown hR hk17 (by decide) rfl (by decide) rfl (hts _ m_99bdf76f) (fun _ h9 => h9) (xb_d D_H_instantiate 25 rfl) ?_
          refine lv_iconst (v := (-1)) hx hb (xb_d D_H_instantiate 26 rfl) (by decide) ?_
          refine lv_icmp_eq (tgt := 77) hx hb (xb_d D_H_instantiate 27 rfl) rfl (fun hc18 => ?_) (fun hc18 => ?_)
          · have hw := hw.1 hc18
            exact am_H_instantiate_L77 l hfl D A σ MC MS h0 Qr Qt r9 h15 bc9 bs9 hw p e s m args below meth c hC H locs ls (((k + kk3) + kk5) + kk9) (((n + nn3) + nn5) + nn9) hE (lv_sub hl [0] rfl) hR hS (by omega) (by omega)
          · have hw := hw.2 hc18
            refine lv_aload_n hx hb (xb_d D_H_instantiate 28 rfl) rfl (lv_at hl 2 rfl) ?_
            have hk1 : xb_k h15 x0 = 1 := by rw [eh15]; exact hk1
            refine xb_getP (C := R_H) (T := F_H) (N := 11) hx hb 0 7 hts fin_H hown hR hk1 (by decide) rfl (by decide) rfl (hts _ m_ab10058e) (fun _ h9 => h9) (xb_d D_H_instantiate 29 rfl) ?_
            obtain ⟨b19, eb19, hw⟩ := hw
            refine xb_some eb19 ?_
            refine lv_aload_n hx hb (xb_d D_H_instantiate 30 rfl) rfl (lv_at hl 2 rfl) ?_
            refine xb_getP (C := R_H) (T := F_H) (N := 11) hx hb 0 6 hts fin_H hown hR hk1 (by decide) rfl (by decide) rfl (hts _ m_3ac6c4ed) (fun _ h9 => h9) (xb_d D_H_instantiate 31 rfl) ?_
            obtain ⟨b20, eb20, hw⟩ := hw
            refine xb_some eb20 ?_
            obtain ⟨hk21, hw⟩ := hw
            refine xb_getP (C := R_World) (T := F_World) (N := 16) hx hb 6 0 hts fin_World hown hR hk21 (by decide) rfl (by decide) rfl (hts _ m_e4549c48) (fun _ h9 => h9) (xb_d D_H_instantiate 32 rfl) ?_
            obtain ⟨b22, eb22, hw⟩ := hw
            refine xb_some eb22 ?_
            refine lv_iload_n hx hb (xb_d D_H_instantiate 33 rfl) rfl (lv_at hl 0 rfl) ?_
            obtain ⟨hk24, hw⟩ := hw
            obtain ⟨hi23, hw⟩ := hw
            refine xb_aald105 hx hb hR hk24 hi23 (xb_d D_H_instantiate 34 rfl) ?_
            obtain ⟨b25, eb25, hw⟩ := hw
            refine xb_some eb25 ?_
            refine lv_aload_n hx hb (xb_d D_H_instantiate 35 rfl) rfl (lv_at hl 1 rfl) ?_
            refine xb_getI (C := R_StackModule) (T := F_StackModule) (N := 19) hx hb 2 15 hts fin_StackModule hown hR hk17 (by decide) rfl (by decide) rfl (hts _ m_99bdf76f) (fun _ h9 => h9) (xb_d D_H_instantiate 36 rfl) ?_
            obtain ⟨hk26, hw⟩ := hw
            refine xb_call0 (D := D) (A := A) (σ := σ) (h := h15) (d := 2) (maxL := 3) (rest := [.ref b19]) (av := [.ref b25, .int (xb_i h15 r3 15)]) (fun T hT X => by obtain ⟨cb9, ra9, rb9, rc9⟩ := xb_recv (ci := 10) hR rfl hk26 (by decide); exact xt_invV X hx hown (hts _ m_fbe39451) (hts _ m_3dbccea2) (hts _ m_6ce97918) (xt_sigOf (hts _ m_0d2452ce)) nm_Instance_functionId (by rw [hT]; exact ra9) rb9 rc9 (g := F0 m 71 ls [.int (xb_i h15 r3 15), .ref b25, .ref b19]) rfl (argsL := [.int (xb_i h15 r3 15)]) (rest := [.ref b19]) rfl rfl (by rw [hb]; exact (xb_d D_H_instantiate 37 rfl))) (ok_Instance_functionId l hfl D A σ b25 (xb_i h15 r3 15) h15 _ hw) (hml.trans hl.1.symm) (by rw [hb]; exact (xb_d D_H_instantiate 37 rfl)) (Nat.le_of_ble_eq_true rfl) (Nat.le_of_ble_eq_true rfl) (Nat.le_of_ble_eq_true rfl) (show (((k + kk3) + kk5) + kk9) ≤ MC by omega) (show (((n + nn3) + nn5) + nn9) ≤ MS by omega) (xt_w1 hB.1 m_0d2452ce) (xt_cdOf hB.1 m_0d2452ce) (hts _ m_7a4e907b) hB hR hS hA (fun vv h27 H locs hq hEh27 hR hS => ?_)
            obtain ⟨r28, rfl, hw⟩ := hq
            have hw := hw hEh27
            have hE := hE.tr hEh27
            refine W.eq (g2 := F0 m 74 ls [.int r28, .ref b19]) rfl ?_
            obtain ⟨hk29, hw⟩ := hw
            refine xb_call0 (D := D) (A := A) (σ := σ) (h := h27) (d := 2) (maxL := 2) (rest := []) (av := [.ref b19, .int r28]) (fun T hT X => by obtain ⟨cb9, ra9, rb9, rc9⟩ := xb_recv (ci := 7) hR rfl hk29 (by decide); exact xt_invV X hx hown (hts _ m_90ed97fb) (hts _ m_4d4ca759) (hts _ m_74154b54) (xt_sigOf (hts _ m_12c1e6f5)) nm_Machine_begin (by rw [hT]; exact ra9) rb9 rc9 (g := F0 m 74 ls [.int r28, .ref b19]) rfl (argsL := [.int r28]) (rest := []) rfl rfl (by rw [hb]; exact (xb_d D_H_instantiate 38 rfl))) (ok_Machine_begin l hfl D A σ b19 r28 h27 _ hw) (hml.trans hl.1.symm) (by rw [hb]; exact (xb_d D_H_instantiate 38 rfl)) (Nat.le_of_ble_eq_true rfl) (Nat.le_of_ble_eq_true rfl) (Nat.le_of_ble_eq_true rfl) (show (((k + kk3) + kk5) + kk9) ≤ MC by omega) (show (((n + nn3) + nn5) + nn9) ≤ MS by omega) (xt_w1 hB.1 m_12c1e6f5) (xt_cdOf hB.1 m_12c1e6f5) (hts _ m_73451f9b) hB hR hS hA (fun vv h30 H locs hq hEh30 hR hS => ?_)
            obtain ⟨rfl, hw⟩ := hq
            have hw := hw hEh30
            have hE := hE.tr hEh30
            refine W.eq (g2 := F0 m 77 ls []) rfl ?_
            exact am_H_instantiate_L77 l hfl D A σ MC MS h0 Qr Qt r9 h30 bc9 bs9 hw p e s m args below meth c hC H locs ls (((k + kk3) + kk5) + kk9) (((n + nn3) + nn5) + nn9) hE (lv_sub hl [0] rfl) hR hS (by omega) (by omega)
      · exact False.elim hq
    · exact xb_pass hlocks (fun x hx9 => by rw [htab] at hx9; first | (cases hx9; done) | (simp [tableOf] at hx9; subst hx9; decide) | (simp [tableOf] at hx9; rcases hx9 with rfl | rfl <;> decide) | (simp [tableOf] at hx9; rcases hx9 with rfl | rfl | rfl <;> decide)) (show ((k + kk3) + kk5) + bc5 ≤ MC by omega) (show ((n + nn3) + nn5) + bs5 ≤ MS by omega) (hE.tr hEh4) hR hS hex hq
  · exact xb_pass hlocks (fun x hx9 => by rw [htab] at hx9; first | (cases hx9; done) | (simp [tableOf] at hx9; subst hx9; decide) | (simp [tableOf] at hx9; rcases hx9 with rfl | rfl <;> decide) | (simp [tableOf] at hx9; rcases hx9 with rfl | rfl | rfl <;> decide)) (show (k + kk3) + bc3 ≤ MC by omega) (show (n + nn3) + bs3 ≤ MS by omega) (hE.tr hEh2) hR hS hex hq

