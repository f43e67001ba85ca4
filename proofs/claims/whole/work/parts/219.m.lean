set_option maxRecDepth 100000 in
def T_Format_root : List (Nat × Instr × Nat) := [(0, .aload_n 0, 1), (1, .lload_n 1, 1), (2, .invokevirtual 66, 3), (5, .ifCond .eq 5, 3), (8, .lload_n 1, 1), (9, .lreturn, 1), (10, .aload_n 0, 1), (11, .lload_n 1, 1), (12, .invokevirtual 42, 3), (15, .ifCond .ne 11, 3), (18, .aload_n 0, 1), (19, .lload_n 1, 1), (20, .invokevirtual 50, 3), (23, .ifCond .eq 8, 3), (26, .aload_n 0, 1), (27, .getfield 27, 3), (30, .lreturn, 1), (31, .aload_n 0, 1), (32, .lload_n 1, 1), (33, .invokevirtual 77, 3), (36, .ifCond .eq 5, 3), (39, .lload_n 1, 1), (40, .lreturn, 1), (41, .aload_n 0, 1), (42, .lload_n 1, 1), (43, .invokevirtual 80, 3), (46, .bipush 64, 2), (48, .aload_n 0, 1), (49, .getfield 9, 3), (52, .isub, 1), (53, .lshl, 1), (54, .lstore_n 3, 1), (55, .aload_n 0, 1), (56, .lload_n 1, 1), (57, .invokevirtual 83, 3), (60, .bipush 64, 2), (62, .aload_n 0, 1), (63, .getfield 9, 3), (66, .isub, 1), (67, .isub, 1), (68, .istore 5, 2), (70, .iload 5, 2), (72, .iconst 1, 1), (73, .iand, 1), (74, .ifCond .eq 10, 3), (77, .lload_n 3, 1), (78, .iconst 1, 1), (79, .lushr, 1), (80, .lstore_n 3, 1), (81, .iinc 5 1, 3), (84, .lconst 0, 1), (85, .lstore 6, 2), (87, .lconst 0, 1), (88, .lstore 8, 2), (90, .iconst 0, 1), (91, .istore 10, 2), (93, .iload 10, 2), (95, .bipush 60, 2), (97, .if_icmp .ge 59, 3), (100, .lload 8, 2), (102, .iconst 2, 1), (103, .lshl, 1), (104, .lload_n 3, 1), (105, .bipush 62, 2), (107, .lushr, 1), (108, .lor, 1), (109, .lstore 8, 2), (111, .lload_n 3, 1), (112, .iconst 2, 1), (113, .lshl, 1), (114, .lstore_n 3, 1), (115, .lload 6, 2), (117, .iconst 2, 1), (118, .lshl, 1), (119, .lconst 1, 1), (120, .lor, 1), (121, .lstore 11, 2), (123, .lload 6, 2), (125, .iconst 1, 1), (126, .lshl, 1), (127, .lstore 6, 2), (129, .lload 8, 2), (131, .lload 11, 2), (133, .lcmp, 1), (134, .ifCond .lt 16, 3), (137, .lload 8, 2), (139, .lload 11, 2), (141, .lsub, 1), (142, .lstore 8, 2), (144, .lload 6, 2), (146, .lconst 1, 1), (147, .lor, 1), (148, .lstore 6, 2), (150, .iinc 10 1, 3), (153, .goto (-60), 3), (156, .aload_n 0, 1), (157, .iconst 0, 1), (158, .iload 5, 2), (160, .iconst 1, 1), (161, .ishr, 1), (162, .bipush 29, 2), (164, .isub, 1), (165, .lload 6, 2), (167, .iconst 1, 1), (168, .lshl, 1), (169, .lload 8, 2), (171, .lconst 0, 1), (172, .lcmp, 1), (173, .ifCond .eq 7, 3), (176, .iconst 1, 1), (177, .goto 4, 3), (180, .iconst 0, 1), (181, .i2l, 1), (182, .lor, 1), (183, .invokevirtual 86, 3), (186, .lreturn, 1)]
theorem D_Format_root : ∀ q ∈ T_Format_root, decode b_Format_root q.1 = .ok (q.2.1, q.2.2) := by decide +kernel

set_option maxHeartbeats 4000000 in
set_option maxRecDepth 100000 in
theorem am_Format_root_L181 (l : Launch) (hfl : l.flags = pinnedFlags ++ [noTraceFlag]) (D : va_G) (A : Nat → Prop) (σ MC MS : Nat) (h0 : xb_H) (Qr : Int64 → xb_H → Prop) (y0 : Int32) (y1 : Int64) (y2 : Int32) (y3 : Int32) (y4 : Nat) (h : xb_H) (hw : w_Format_root_L181 Qr y0 y1 y2 y3 y4 h) : xb_am l D A σ 4 MC MS h0 (fun v h _ _ => ∃ r, v = some (.long r) ∧ Qr r h) (fun _ _ _ _ => False) y_Format_root.cls y_Format_root.name b_Format_root 13 ([] : List ExceptionTableEntry) (some .long) 181 [] [.int y0, .long y1, .int y2, .int y3, .ref y4] h 0 0 := by
  unfold w_Format_root_L181 at hw
  intro p e s m args below meth c hC H locs ls k n hE hl hR hS hk hn
  obtain ⟨hx, hb, hown, hlocks, htab, hml, hr, hB, hA, hnm⟩ := id hC
  have hts := hB.1.1.at args
  refine lv_i2l hx hb (xb_d D_Format_root 112 rfl) rfl ?_
  refine lv_lor hx hb (xb_d D_Format_root 113 rfl) ?_
  obtain ⟨hk1, hw⟩ := hw
  refine xb_call0 (D := D) (A := A) (σ := σ) (h := h) (d := 3) (maxL := 20) (rest := []) (av := [.ref y4, .int y3, .int y2, .long (y1 ||| (Int32.toInt64 y0))]) (fun T hT X => by obtain ⟨cb9, ra9, rb9, rc9⟩ := xb_recv (ci := 5) hR rfl hk1 (by decide); exact xt_invV X hx hown (hts _ m_08178f23) (hts _ m_78208889) (hts _ m_f8745567) (xt_sigOf (hts _ m_a1b373a2)) nm_Format_nearest (by rw [hT]; exact ra9) rb9 rc9 (g := F0 m 183 ls [.long (y1 ||| (Int32.toInt64 y0)), .int y2, .int y3, .ref y4]) rfl (argsL := [.int y3, .int y2, .long (y1 ||| (Int32.toInt64 y0))]) (rest := []) rfl rfl (by rw [hb]; exact (xb_d D_Format_root 114 rfl))) (ok_Format_nearest l hfl D A σ y4 y3 y2 (y1 ||| (Int32.toInt64 y0)) h _ hw) (hml.trans hl.1.symm) (by rw [hb]; exact (xb_d D_Format_root 114 rfl)) (Nat.le_of_ble_eq_true rfl) (Nat.le_of_ble_eq_true rfl) (Nat.le_of_ble_eq_true rfl) (show k ≤ MC by omega) (show n ≤ MS by omega) (xt_w1 hB.1 m_a1b373a2) (xt_cdOf hB.1 m_a1b373a2) (hts _ m_64857de5) hB hR hS hA (fun vv h2 H locs hq hEh2 hR hS => ?_)
  obtain ⟨r3, rfl, hw⟩ := hq
  have hw := hw hEh2
  have hE := hE.tr hEh2
  refine W.eq (g2 := F0 m 186 ls [.long r3]) rfl ?_
  exact xb_lret 0 0 hx hb hr hlocks (show k + 0 ≤ MC by omega) (show n + 0 ≤ MS by omega) hE hR hS (xb_d D_Format_root 115 rfl) hw

set_option maxHeartbeats 4000000 in
set_option maxRecDepth 100000 in
theorem am_Format_root_L150 (l : Launch) (hfl : l.flags = pinnedFlags ++ [noTraceFlag]) (D : va_G) (A : Nat → Prop) (σ MC MS : Nat) (h0 : xb_H) (Qr : Int64 → xb_H → Prop) (K93 : Nat → Int64 → Int32 → Int64 → Int64 → Int32 → xb_H → Prop) (hK93 : ∀ (x0 : Nat) (x3 : Int64) (x5 : Int32) (x6 : Int64) (x8 : Int64) (x10 : Int32) (h : xb_H), K93 x0 x3 x5 x6 x8 x10 h → xb_am l D A σ 4 MC MS h0 (fun v h _ _ => ∃ r, v = some (.long r) ∧ Qr r h) (fun _ _ _ _ => False) y_Format_root.cls y_Format_root.name b_Format_root 13 ([] : List ExceptionTableEntry) (some .long) 93 [(0, .ref x0), (3, .long x3), (5, .int x5), (6, .long x6), (8, .long x8), (10, .int x10)] [] h 0 0) (x0 : Nat) (x3 : Int64) (x5 : Int32) (x6 : Int64) (x8 : Int64) (x10 : Int32) (h : xb_H) (hw : w_Format_root_L150 K93 Qr x0 x3 x5 x6 x8 x10 h) : xb_am l D A σ 4 MC MS h0 (fun v h _ _ => ∃ r, v = some (.long r) ∧ Qr r h) (fun _ _ _ _ => False) y_Format_root.cls y_Format_root.name b_Format_root 13 ([] : List ExceptionTableEntry) (some .long) 150 [(0, .ref x0), (3, .long x3), (5, .int x5), (6, .long x6), (8, .long x8), (10, .int x10)] [] h 0 0 := by
  unfold w_Format_root_L150 at hw
  intro p e s m args below meth c hC H locs ls k n hE hl hR hS hk hn
  obtain ⟨hx, hb, hown, hlocks, htab, hml, hr, hB, hA, hnm⟩ := id hC
  have hts := hB.1.1.at args
  refine lv_iinc (v := (x10 + 1)) (k := 5) hx hb (xb_d D_Format_root 93 rfl) hl rfl (by first | rfl | decide) (by decide) rfl (fun ls hl => ?_)
  have hl : lv_has ls 13 [(10, .int (x10 + 1)), (0, .ref x0), (3, .long x3), (5, .int x5), (6, .long x6), (8, .long x8)] := hl
  refine lv_goto (tgt := 93) hx hb (xb_d D_Format_root 94 rfl) rfl ?_
  exact hK93 x0 x3 x5 x6 x8 (x10 + 1) h hw p e s m args below meth c hC H locs ls k n hE (lv_sub hl [1, 2, 3, 4, 5, 0] rfl) hR hS (by omega) (by omega)

set_option maxHeartbeats 4000000 in
set_option maxRecDepth 100000 in
theorem am_Format_root_L93 (l : Launch) (hfl : l.flags = pinnedFlags ++ [noTraceFlag]) (D : va_G) (A : Nat → Prop) (σ MC MS : Nat) (h0 : xb_H) (Qr : Int64 → xb_H → Prop) (n9 : Nat) : ∀ (x0 : Nat) (x3 : Int64) (x5 : Int32) (x6 : Int64) (x8 : Int64) (x10 : Int32) (h : xb_H), w_Format_root_L93 Qr n9 x0 x3 x5 x6 x8 x10 h → xb_am l D A σ 4 MC MS h0 (fun v h _ _ => ∃ r, v = some (.long r) ∧ Qr r h) (fun _ _ _ _ => False) y_Format_root.cls y_Format_root.name b_Format_root 13 ([] : List ExceptionTableEntry) (some .long) 93 [(0, .ref x0), (3, .long x3), (5, .int x5), (6, .long x6), (8, .long x8), (10, .int x10)] [] h 0 0 := by
  induction n9 with
  | zero => intro x0 x3 x5 x6 x8 x10 h hw; exact False.elim hw
  | succ n9 ih =>
    intro x0 x3 x5 x6 x8 x10 h hw
    unfold w_Format_root_L93 at hw
    intro p e s m args below meth c hC H locs ls k n hE hl hR hS hk hn
    obtain ⟨hx, hb, hown, hlocks, htab, hml, hr, hB, hA, hnm⟩ := id hC
    have hts := hB.1.1.at args
    refine lv_iload hx hb (xb_d D_Format_root 56 rfl) (lv_at hl 5 rfl) ?_
    refine lv_bipush (v := 60) hx hb (xb_d D_Format_root 57 rfl) (by decide) ?_
    refine lv_icmp_ge (tgt := 156) hx hb (xb_d D_Format_root 58 rfl) rfl (fun hc1 => ?_) (fun hc1 => ?_)
    · have hw := hw.1 hc1
      refine lv_aload_n hx hb (xb_d D_Format_root 95 rfl) rfl (lv_at hl 0 rfl) ?_
      refine lv_iconst (v := 0) hx hb (xb_d D_Format_root 96 rfl) (by decide) ?_
      refine lv_iload hx hb (xb_d D_Format_root 97 rfl) (lv_at hl 2 rfl) ?_
      refine lv_iconst (v := 1) hx hb (xb_d D_Format_root 98 rfl) (by decide) ?_
      refine lv_ishr hx hb (xb_d D_Format_root 99 rfl) ?_
      refine lv_bipush (v := 29) hx hb (xb_d D_Format_root 100 rfl) (by decide) ?_
      refine lv_isub hx hb (xb_d D_Format_root 101 rfl) ?_
      refine lv_lload hx hb (xb_d D_Format_root 102 rfl) (lv_at hl 3 rfl) ?_
      refine lv_iconst (v := 1) hx hb (xb_d D_Format_root 103 rfl) (by decide) ?_
      refine lv_lshl (v := (xb_lshl x6 1)) hx hb (xb_d D_Format_root 104 rfl) rfl ?_
      refine lv_lload hx hb (xb_d D_Format_root 105 rfl) (lv_at hl 4 rfl) ?_
      refine lv_lconst (v := 0) hx hb (xb_d D_Format_root 106 rfl) (by decide) ?_
      refine xb_lc_eq (tgt := 180) hx hb (xb_d D_Format_root 107 rfl) (xb_d D_Format_root 108 rfl) rfl (fun hc2 => ?_) (fun hc2 => ?_)
      · have hw := hw.1 hc2
        refine lv_iconst (v := 0) hx hb (xb_d D_Format_root 111 rfl) (by decide) ?_
        exact am_Format_root_L181 l hfl D A σ MC MS h0 Qr 0 (xb_lshl x6 1) ((x5 >>> (1 &&& 31)) - 29) 0 x0 h hw p e s m args below meth c hC H locs ls k n hE (lv_sub hl [] rfl) hR hS (by omega) (by omega)
      · have hw := hw.2 hc2
        refine lv_iconst (v := 1) hx hb (xb_d D_Format_root 109 rfl) (by decide) ?_
        refine lv_goto (tgt := 181) hx hb (xb_d D_Format_root 110 rfl) rfl ?_
        exact am_Format_root_L181 l hfl D A σ MC MS h0 Qr 1 (xb_lshl x6 1) ((x5 >>> (1 &&& 31)) - 29) 0 x0 h hw p e s m args below meth c hC H locs ls k n hE (lv_sub hl [] rfl) hR hS (by omega) (by omega)
    · have hw := hw.2 hc1
      refine lv_lload hx hb (xb_d D_Format_root 59 rfl) (lv_at hl 4 rfl) ?_
      refine lv_iconst (v := 2) hx hb (xb_d D_Format_root 60 rfl) (by decide) ?_
      refine lv_lshl (v := (xb_lshl x8 2)) hx hb (xb_d D_Format_root 61 rfl) rfl ?_
      refine lv_lload_n hx hb (xb_d D_Format_root 62 rfl) rfl (lv_at hl 1 rfl) ?_
      refine lv_bipush (v := 62) hx hb (xb_d D_Format_root 63 rfl) (by decide) ?_
      refine lv_lushr (v := (xb_lushr x3 62)) hx hb (xb_d D_Format_root 64 rfl) rfl ?_
      refine lv_lor hx hb (xb_d D_Format_root 65 rfl) ?_
      obtain ⟨v3, ev3⟩ : ∃ x : Int64, x = ((xb_lshl x8 2) ||| (xb_lushr x3 62)) := ⟨_, rfl⟩
      have hw := hw v3 ev3
      refine xt_numl (y := v3) ev3.symm ?_
      refine lv_lstore hx hb (xb_d D_Format_root 66 rfl) hl (by decide) rfl (fun ls hl => ?_)
      have hl : lv_has ls 13 [(8, .long v3), (0, .ref x0), (3, .long x3), (5, .int x5), (6, .long x6), (10, .int x10)] := hl
      refine lv_lload_n hx hb (xb_d D_Format_root 67 rfl) rfl (lv_at hl 2 rfl) ?_
      refine lv_iconst (v := 2) hx hb (xb_d D_Format_root 68 rfl) (by decide) ?_
      refine lv_lshl (v := (xb_lshl x3 2)) hx hb (xb_d D_Format_root 69 rfl) rfl ?_
      obtain ⟨v4, ev4⟩ : ∃ x : Int64, x = (xb_lshl x3 2) := ⟨_, rfl⟩
      have hw := hw v4 ev4
      refine xt_numl (y := v4) ev4.symm ?_
      refine lv_lstore_n hx hb (xb_d D_Format_root 70 rfl) rfl hl (by decide) rfl (fun ls hl => ?_)
      have hl : lv_has ls 13 [(3, .long v4), (8, .long v3), (0, .ref x0), (5, .int x5), (6, .long x6), (10, .int x10)] := hl
      refine lv_lload hx hb (xb_d D_Format_root 71 rfl) (lv_at hl 4 rfl) ?_
      refine lv_iconst (v := 2) hx hb (xb_d D_Format_root 72 rfl) (by decide) ?_
      refine lv_lshl (v := (xb_lshl x6 2)) hx hb (xb_d D_Format_root 73 rfl) rfl ?_
      refine lv_lconst (v := 1) hx hb (xb_d D_Format_root 74 rfl) (by decide) ?_
      refine lv_lor hx hb (xb_d D_Format_root 75 rfl) ?_
      obtain ⟨v5, ev5⟩ : ∃ x : Int64, x = ((xb_lshl x6 2) ||| 1) := ⟨_, rfl⟩
      have hw := hw v5 ev5
      refine xt_numl (y := v5) ev5.symm ?_
      refine lv_lstore hx hb (xb_d D_Format_root 76 rfl) hl (by decide) rfl (fun ls hl => ?_)
      have hl : lv_has ls 13 [(11, .long v5), (3, .long v4), (8, .long v3), (0, .ref x0), (5, .int x5), (6, .long x6), (10, .int x10)] := hl
      refine lv_lload hx hb (xb_d D_Format_root 77 rfl) (lv_at hl 5 rfl) ?_
      refine lv_iconst (v := 1) hx hb (xb_d D_Format_root 78 rfl) (by decide) ?_
      refine lv_lshl (v := (xb_lshl x6 1)) hx hb (xb_d D_Format_root 79 rfl) rfl ?_
      obtain ⟨v6, ev6⟩ : ∃ x : Int64, x = (xb_lshl x6 1) := ⟨_, rfl⟩
      have hw := hw v6 ev6
      refine xt_numl (y := v6) ev6.symm ?_
      refine lv_lstore hx hb (xb_d D_Format_root 80 rfl) hl (by decide) rfl (fun ls hl => ?_)
      have hl : lv_has ls 13 [(6, .long v6), (11, .long v5), (3, .long v4), (8, .long v3), (0, .ref x0), (5, .int x5), (10, .int x10)] := hl
      refine lv_lload hx hb (xb_d D_Format_root 81 rfl) (lv_at hl 3 rfl) ?_
      refine lv_lload hx hb (xb_d D_Format_root 82 rfl) (lv_at hl 1 rfl) ?_
      refine xb_lc_lt (tgt := 150) hx hb (xb_d D_Format_root 83 rfl) (xb_d D_Format_root 84 rfl) rfl (fun hc7 => ?_) (fun hc7 => ?_)
      · have hw := hw.1 hc7
        exact am_Format_root_L150 l hfl D A σ MC MS h0 Qr (w_Format_root_L93 Qr n9) ih x0 v4 x5 v6 v3 x10 h hw p e s m args below meth c hC H locs ls k n hE (lv_sub hl [4, 2, 5, 0, 3, 6] rfl) hR hS (by omega) (by omega)
      · have hw := hw.2 hc7
        refine lv_lload hx hb (xb_d D_Format_root 85 rfl) (lv_at hl 3 rfl) ?_
        refine lv_lload hx hb (xb_d D_Format_root 86 rfl) (lv_at hl 1 rfl) ?_
        refine lv_lsub hx hb (xb_d D_Format_root 87 rfl) ?_
        obtain ⟨v8, ev8⟩ : ∃ x : Int64, x = (v3 - v5) := ⟨_, rfl⟩
        have hw := hw v8 ev8
        refine xt_numl (y := v8) ev8.symm ?_
        refine lv_lstore hx hb (xb_d D_Format_root 88 rfl) hl (by decide) rfl (fun ls hl => ?_)
        have hl : lv_has ls 13 [(8, .long v8), (6, .long v6), (11, .long v5), (3, .long v4), (0, .ref x0), (5, .int x5), (10, .int x10)] := hl
        refine lv_lload hx hb (xb_d D_Format_root 89 rfl) (lv_at hl 1 rfl) ?_
        refine lv_lconst (v := 1) hx hb (xb_d D_Format_root 90 rfl) (by decide) ?_
        refine lv_lor hx hb (xb_d D_Format_root 91 rfl) ?_
        obtain ⟨v9, ev9⟩ : ∃ x : Int64, x = (v6 ||| 1) := ⟨_, rfl⟩
        have hw := hw v9 ev9
        refine xt_numl (y := v9) ev9.symm ?_
        refine lv_lstore hx hb (xb_d D_Format_root 92 rfl) hl (by decide) rfl (fun ls hl => ?_)
        have hl : lv_has ls 13 [(6, .long v9), (8, .long v8), (11, .long v5), (3, .long v4), (0, .ref x0), (5, .int x5), (10, .int x10)] := hl
        exact am_Format_root_L150 l hfl D A σ MC MS h0 Qr (w_Format_root_L93 Qr n9) ih x0 v4 x5 v9 v8 x10 h hw p e s m args below meth c hC H locs ls k n hE (lv_sub hl [4, 3, 5, 0, 1, 6] rfl) hR hS (by omega) (by omega)

set_option maxHeartbeats 4000000 in
set_option maxRecDepth 100000 in
theorem am_Format_root_L84 (l : Launch) (hfl : l.flags = pinnedFlags ++ [noTraceFlag]) (D : va_G) (A : Nat → Prop) (σ MC MS : Nat) (h0 : xb_H) (Qr : Int64 → xb_H → Prop) (x0 : Nat) (x3 : Int64) (x5 : Int32) (h : xb_H) (hw : w_Format_root_L84 Qr x0 x3 x5 h) : xb_am l D A σ 4 MC MS h0 (fun v h _ _ => ∃ r, v = some (.long r) ∧ Qr r h) (fun _ _ _ _ => False) y_Format_root.cls y_Format_root.name b_Format_root 13 ([] : List ExceptionTableEntry) (some .long) 84 [(0, .ref x0), (3, .long x3), (5, .int x5)] [] h 0 0 := by
  unfold w_Format_root_L84 at hw
  intro p e s m args below meth c hC H locs ls k n hE hl hR hS hk hn
  obtain ⟨hx, hb, hown, hlocks, htab, hml, hr, hB, hA, hnm⟩ := id hC
  have hts := hB.1.1.at args
  refine lv_lconst (v := 0) hx hb (xb_d D_Format_root 50 rfl) (by decide) ?_
  refine lv_lstore hx hb (xb_d D_Format_root 51 rfl) hl (by decide) rfl (fun ls hl => ?_)
  have hl : lv_has ls 13 [(6, .long 0), (0, .ref x0), (3, .long x3), (5, .int x5)] := hl
  refine lv_lconst (v := 0) hx hb (xb_d D_Format_root 52 rfl) (by decide) ?_
  refine lv_lstore hx hb (xb_d D_Format_root 53 rfl) hl (by decide) rfl (fun ls hl => ?_)
  have hl : lv_has ls 13 [(8, .long 0), (6, .long 0), (0, .ref x0), (3, .long x3), (5, .int x5)] := hl
  refine lv_iconst (v := 0) hx hb (xb_d D_Format_root 54 rfl) (by decide) ?_
  refine lv_istore hx hb (xb_d D_Format_root 55 rfl) hl (by decide) rfl (fun ls hl => ?_)
  have hl : lv_has ls 13 [(10, .int 0), (8, .long 0), (6, .long 0), (0, .ref x0), (3, .long x3), (5, .int x5)] := hl
  obtain ⟨n8, hw⟩ := hw
  exact am_Format_root_L93 l hfl D A σ MC MS h0 Qr n8 x0 x3 x5 0 0 0 h hw p e s m args below meth c hC H locs ls k n hE (lv_sub hl [3, 4, 5, 2, 1, 0] rfl) hR hS (by omega) (by omega)

set_option maxHeartbeats 4000000 in
set_option maxRecDepth 100000 in
theorem am_Format_root_L26 (l : Launch) (hfl : l.flags = pinnedFlags ++ [noTraceFlag]) (D : va_G) (A : Nat → Prop) (σ MC MS : Nat) (h0 : xb_H) (Qr : Int64 → xb_H → Prop) (x0 : Nat) (h : xb_H) (hw : w_Format_root_L26 Qr x0 h) : xb_am l D A σ 4 MC MS h0 (fun v h _ _ => ∃ r, v = some (.long r) ∧ Qr r h) (fun _ _ _ _ => False) y_Format_root.cls y_Format_root.name b_Format_root 13 ([] : List ExceptionTableEntry) (some .long) 26 [(0, .ref x0)] [] h 0 0 := by
  unfold w_Format_root_L26 at hw
  intro p e s m args below meth c hC H locs ls k n hE hl hR hS hk hn
  obtain ⟨hx, hb, hown, hlocks, htab, hml, hr, hB, hA, hnm⟩ := id hC
  have hts := hB.1.1.at args
  refine lv_aload_n hx hb (xb_d D_Format_root 14 rfl) rfl (lv_at hl 0 rfl) ?_
  obtain ⟨hk1, hw⟩ := hw
  refine xb_getL (C := R_Format) (T := F_Format) (N := 5) hx hb 5 4 hts fin_Format hown hR hk1 (by decide) rfl (by decide) rfl (hts _ m_291a6679) (fun _ h9 => h9) (xb_d D_Format_root 15 rfl) ?_
  exact xb_lret 0 0 hx hb hr hlocks (show k + 0 ≤ MC by omega) (show n + 0 ≤ MS by omega) hE hR hS (xb_d D_Format_root 16 rfl) hw

set_option maxHeartbeats 4000000 in
set_option maxRecDepth 100000 in
theorem ok_Format_root (l : Launch) (hfl : l.flags = pinnedFlags ++ [noTraceFlag]) (D : va_G) (A : Nat → Prop) (σ : Nat) (x0 : Nat) (x1 : Int64) (h : xb_H) (Qr : Int64 → xb_H → Prop) (hw : w_Format_root x0 x1 h Qr) : xb_Met l y_Format_root [.code y_Format_root b_Format_root 13 (some .long)] (xb_rm 4 0 0) (xb_Pc D A σ h [.ref x0, .long x1]) (xb_Qc D A h 0 0 (fun v h _ _ => ∃ r, v = some (.long r) ∧ Qr r h) (fun _ _ _ _ => False)) A := by
  refine xb_ofAm (cc := b_Format_root) (by decide) (Nat.le_of_ble_eq_true rfl) ?_
  unfold w_Format_root at hw
  show xb_am l D A σ 4 0 0 h (fun v h _ _ => ∃ r, v = some (.long r) ∧ Qr r h) (fun _ _ _ _ => False) y_Format_root.cls y_Format_root.name b_Format_root 13 ([] : List ExceptionTableEntry) (some .long) 0 [(0, .ref x0), (1, .long x1)] [] h 0 0
  obtain ⟨MC, hMC⟩ : ∃ x, x = 0 := ⟨_, rfl⟩
  obtain ⟨MS, hMS⟩ : ∃ x, x = 0 := ⟨_, rfl⟩
  rw [show xb_am l D A σ 4 0 0 = xb_am l D A σ 4 MC MS by rw [hMC, hMS]]
  obtain ⟨h0, hh0⟩ : ∃ x, x = h := ⟨_, rfl⟩
  rw [show xb_am l D A σ 4 MC MS h = xb_am l D A σ 4 MC MS h0 by rw [hh0]]
  intro p e s m args below meth c hC H locs ls k n hE hl hR hS hk hn
  obtain ⟨hx, hb, hown, hlocks, htab, hml, hr, hB, hA, hnm⟩ := id hC
  have hts := hB.1.1.at args
  refine lv_aload_n hx hb (xb_d D_Format_root 0 rfl) rfl (lv_at hl 0 rfl) ?_
  refine lv_lload_n hx hb (xb_d D_Format_root 1 rfl) rfl (lv_at hl 1 rfl) ?_
  obtain ⟨hk1, hw⟩ := hw
  refine xb_call0 (D := D) (A := A) (σ := σ) (h := h) (d := 2) (maxL := 3) (rest := []) (av := [.ref x0, .long x1]) (fun T hT X => by obtain ⟨cb9, ra9, rb9, rc9⟩ := xb_recv (ci := 5) hR rfl hk1 (by decide); exact xt_invV X hx hown (hts _ m_113bafb3) (hts _ m_ac384f2f) (hts _ m_7587e6d0) (xt_sigOf (hts _ m_8c0ed8f1)) nm_Format_isZero (by rw [hT]; exact ra9) rb9 rc9 (g := F0 m 2 ls [.long x1, .ref x0]) rfl (argsL := [.long x1]) (rest := []) rfl rfl (by rw [hb]; exact (xb_d D_Format_root 2 rfl))) (ok_Format_isZero l hfl D A σ x0 x1 h _ hw) (hml.trans hl.1.symm) (by rw [hb]; exact (xb_d D_Format_root 2 rfl)) (Nat.le_of_ble_eq_true rfl) (Nat.le_of_ble_eq_true rfl) (Nat.le_of_ble_eq_true rfl) (show k ≤ MC by omega) (show n ≤ MS by omega) (xt_w1 hB.1 m_8c0ed8f1) (xt_cdOf hB.1 m_8c0ed8f1) (hts _ m_64857de5) hB hR hS hA (fun vv h2 H locs hq hEh2 hR hS => ?_)
  obtain ⟨r3, rfl, hw⟩ := hq
  have hw := hw hEh2
  have hE := hE.tr hEh2
  refine W.eq (g2 := F0 m 5 ls [.int r3]) rfl ?_
  refine lv_if_eq (tgt := 10) hx hb (xb_d D_Format_root 3 rfl) rfl (fun hc4 => ?_) (fun hc4 => ?_)
  · have hw := hw.1 hc4
    refine lv_aload_n hx hb (xb_d D_Format_root 6 rfl) rfl (lv_at hl 0 rfl) ?_
    refine lv_lload_n hx hb (xb_d D_Format_root 7 rfl) rfl (lv_at hl 1 rfl) ?_
    have hk1 : xb_k h2 x0 = 6 := hEh2.k hk1
    refine xb_call0 (D := D) (A := A) (σ := σ) (h := h2) (d := 2) (maxL := 3) (rest := []) (av := [.ref x0, .long x1]) (fun T hT X => by obtain ⟨cb9, ra9, rb9, rc9⟩ := xb_recv (ci := 5) hR rfl hk1 (by decide); exact xt_invV X hx hown (hts _ m_e7d6b62e) (hts _ m_28f89ecd) (hts _ m_79f90d13) (xt_sigOf (hts _ m_2f81ed74)) nm_Format_isNan (by rw [hT]; exact ra9) rb9 rc9 (g := F0 m 12 ls [.long x1, .ref x0]) rfl (argsL := [.long x1]) (rest := []) rfl rfl (by rw [hb]; exact (xb_d D_Format_root 8 rfl))) (ok_Format_isNan l hfl D A σ x0 x1 h2 _ hw) (hml.trans hl.1.symm) (by rw [hb]; exact (xb_d D_Format_root 8 rfl)) (Nat.le_of_ble_eq_true rfl) (Nat.le_of_ble_eq_true rfl) (Nat.le_of_ble_eq_true rfl) (show k ≤ MC by omega) (show n ≤ MS by omega) (xt_w1 hB.1 m_2f81ed74) (xt_cdOf hB.1 m_2f81ed74) (hts _ m_64857de5) hB hR hS hA (fun vv h5 H locs hq hEh5 hR hS => ?_)
    obtain ⟨r6, rfl, hw⟩ := hq
    have hw := hw hEh5
    have hE := hE.tr hEh5
    refine W.eq (g2 := F0 m 15 ls [.int r6]) rfl ?_
    refine lv_if_ne (tgt := 26) hx hb (xb_d D_Format_root 9 rfl) rfl (fun hc7 => ?_) (fun hc7 => ?_)
    · have hw := hw.1 hc7
      exact am_Format_root_L26 l hfl D A σ MC MS h0 Qr x0 h5 hw p e s m args below meth c hC H locs ls k n hE (lv_sub hl [0] rfl) hR hS (by omega) (by omega)
    · have hw := hw.2 hc7
      refine lv_aload_n hx hb (xb_d D_Format_root 10 rfl) rfl (lv_at hl 0 rfl) ?_
      refine lv_lload_n hx hb (xb_d D_Format_root 11 rfl) rfl (lv_at hl 1 rfl) ?_
      have hk1 : xb_k h5 x0 = 6 := hEh5.k hk1
      refine xb_call0 (D := D) (A := A) (σ := σ) (h := h5) (d := 2) (maxL := 3) (rest := []) (av := [.ref x0, .long x1]) (fun T hT X => by obtain ⟨cb9, ra9, rb9, rc9⟩ := xb_recv (ci := 5) hR rfl hk1 (by decide); exact xt_invV X hx hown (hts _ m_e7046197) (hts _ m_9e016368) (hts _ m_42f2e51b) (xt_sigOf (hts _ m_6ee44111)) nm_Format_isNegative (by rw [hT]; exact ra9) rb9 rc9 (g := F0 m 20 ls [.long x1, .ref x0]) rfl (argsL := [.long x1]) (rest := []) rfl rfl (by rw [hb]; exact (xb_d D_Format_root 12 rfl))) (ok_Format_isNegative l hfl D A σ x0 x1 h5 _ hw) (hml.trans hl.1.symm) (by rw [hb]; exact (xb_d D_Format_root 12 rfl)) (Nat.le_of_ble_eq_true rfl) (Nat.le_of_ble_eq_true rfl) (Nat.le_of_ble_eq_true rfl) (show k ≤ MC by omega) (show n ≤ MS by omega) (xt_w1 hB.1 m_6ee44111) (xt_cdOf hB.1 m_6ee44111) (hts _ m_64857de5) hB hR hS hA (fun vv h8 H locs hq hEh8 hR hS => ?_)
      obtain ⟨r9, rfl, hw⟩ := hq
      have hw := hw hEh8
      have hE := hE.tr hEh8
      refine W.eq (g2 := F0 m 23 ls [.int r9]) rfl ?_
      refine lv_if_eq (tgt := 31) hx hb (xb_d D_Format_root 13 rfl) rfl (fun hc10 => ?_) (fun hc10 => ?_)
      · have hw := hw.1 hc10
        refine lv_aload_n hx hb (xb_d D_Format_root 17 rfl) rfl (lv_at hl 0 rfl) ?_
        refine lv_lload_n hx hb (xb_d D_Format_root 18 rfl) rfl (lv_at hl 1 rfl) ?_
        have hk1 : xb_k h8 x0 = 6 := hEh8.k hk1
        refine xb_call0 (D := D) (A := A) (σ := σ) (h := h8) (d := 2) (maxL := 3) (rest := []) (av := [.ref x0, .long x1]) (fun T hT X => by obtain ⟨cb9, ra9, rb9, rc9⟩ := xb_recv (ci := 5) hR rfl hk1 (by decide); exact xt_invV X hx hown (hts _ m_da28b66e) (hts _ m_a2bd27ec) (hts _ m_ea0426d6) (xt_sigOf (hts _ m_62c3a91f)) nm_Format_isInfinite (by rw [hT]; exact ra9) rb9 rc9 (g := F0 m 33 ls [.long x1, .ref x0]) rfl (argsL := [.long x1]) (rest := []) rfl rfl (by rw [hb]; exact (xb_d D_Format_root 19 rfl))) (ok_Format_isInfinite l hfl D A σ x0 x1 h8 _ hw) (hml.trans hl.1.symm) (by rw [hb]; exact (xb_d D_Format_root 19 rfl)) (Nat.le_of_ble_eq_true rfl) (Nat.le_of_ble_eq_true rfl) (Nat.le_of_ble_eq_true rfl) (show k ≤ MC by omega) (show n ≤ MS by omega) (xt_w1 hB.1 m_62c3a91f) (xt_cdOf hB.1 m_62c3a91f) (hts _ m_64857de5) hB hR hS hA (fun vv h11 H locs hq hEh11 hR hS => ?_)
        obtain ⟨r12, rfl, hw⟩ := hq
        have hw := hw hEh11
        have hE := hE.tr hEh11
        refine W.eq (g2 := F0 m 36 ls [.int r12]) rfl ?_
        refine lv_if_eq (tgt := 41) hx hb (xb_d D_Format_root 20 rfl) rfl (fun hc13 => ?_) (fun hc13 => ?_)
        · have hw := hw.1 hc13
          refine lv_aload_n hx hb (xb_d D_Format_root 23 rfl) rfl (lv_at hl 0 rfl) ?_
          refine lv_lload_n hx hb (xb_d D_Format_root 24 rfl) rfl (lv_at hl 1 rfl) ?_
          have hk1 : xb_k h11 x0 = 6 := hEh11.k hk1
          refine xb_call0 (D := D) (A := A) (σ := σ) (h := h11) (d := 3) (maxL := 7) (rest := []) (av := [.ref x0, .long x1]) (fun T hT X => by obtain ⟨cb9, ra9, rb9, rc9⟩ := xb_recv (ci := 5) hR rfl hk1 (by decide); exact xt_invV X hx hown (hts _ m_0dda6331) (hts _ m_40be2e6d) (hts _ m_7a64b857) (xt_sigOf (hts _ m_8bcfbce0)) nm_Format_mantissa (by rw [hT]; exact ra9) rb9 rc9 (g := F0 m 43 ls [.long x1, .ref x0]) rfl (argsL := [.long x1]) (rest := []) rfl rfl (by rw [hb]; exact (xb_d D_Format_root 25 rfl))) (ok_Format_mantissa l hfl D A σ x0 x1 h11 _ hw) (hml.trans hl.1.symm) (by rw [hb]; exact (xb_d D_Format_root 25 rfl)) (Nat.le_of_ble_eq_true rfl) (Nat.le_of_ble_eq_true rfl) (Nat.le_of_ble_eq_true rfl) (show k ≤ MC by omega) (show n ≤ MS by omega) (xt_w1 hB.1 m_8bcfbce0) (xt_cdOf hB.1 m_8bcfbce0) (hts _ m_64857de5) hB hR hS hA (fun vv h14 H locs hq hEh14 hR hS => ?_)
          obtain ⟨r15, rfl, hw⟩ := hq
          have hw := hw hEh14
          have hE := hE.tr hEh14
          refine W.eq (g2 := F0 m 46 ls [.long r15]) rfl ?_
          refine lv_bipush (v := 64) hx hb (xb_d D_Format_root 26 rfl) (by decide) ?_
          refine lv_aload_n hx hb (xb_d D_Format_root 27 rfl) rfl (lv_at hl 0 rfl) ?_
          have hk1 : xb_k h14 x0 = 6 := hEh14.k hk1
          refine xb_getI (C := R_Format) (T := F_Format) (N := 5) hx hb 5 0 hts fin_Format hown hR hk1 (by decide) rfl (by decide) rfl (hts _ m_019aecde) (fun _ h9 => h9) (xb_d D_Format_root 28 rfl) ?_
          refine lv_isub hx hb (xb_d D_Format_root 29 rfl) ?_
          refine lv_lshl (v := (xb_lshl r15 (64 - (xb_i h14 x0 0)))) hx hb (xb_d D_Format_root 30 rfl) rfl ?_
          obtain ⟨v16, ev16⟩ : ∃ x : Int64, x = (xb_lshl r15 (64 - (xb_i h14 x0 0))) := ⟨_, rfl⟩
          have hw := hw v16 ev16
          refine xt_numl (y := v16) ev16.symm ?_
          refine lv_lstore_n hx hb (xb_d D_Format_root 31 rfl) rfl hl (by decide) rfl (fun ls hl => ?_)
          have hl : lv_has ls 13 [(3, .long v16), (0, .ref x0), (1, .long x1)] := hl
          refine lv_aload_n hx hb (xb_d D_Format_root 32 rfl) rfl (lv_at hl 1 rfl) ?_
          refine lv_lload_n hx hb (xb_d D_Format_root 33 rfl) rfl (lv_at hl 2 rfl) ?_
          refine xb_call0 (D := D) (A := A) (σ := σ) (h := h14) (d := 3) (maxL := 7) (rest := []) (av := [.ref x0, .long x1]) (fun T hT X => by obtain ⟨cb9, ra9, rb9, rc9⟩ := xb_recv (ci := 5) hR rfl hk1 (by decide); exact xt_invV X hx hown (hts _ m_d0153205) (hts _ m_2d8986b1) (hts _ m_b1d90305) (xt_sigOf (hts _ m_980e1e39)) nm_Format_exponent (by rw [hT]; exact ra9) rb9 rc9 (g := F0 m 57 ls [.long x1, .ref x0]) rfl (argsL := [.long x1]) (rest := []) rfl rfl (by rw [hb]; exact (xb_d D_Format_root 34 rfl))) (ok_Format_exponent l hfl D A σ x0 x1 h14 _ hw) (hml.trans hl.1.symm) (by rw [hb]; exact (xb_d D_Format_root 34 rfl)) (Nat.le_of_ble_eq_true rfl) (Nat.le_of_ble_eq_true rfl) (Nat.le_of_ble_eq_true rfl) (show k ≤ MC by omega) (show n ≤ MS by omega) (xt_w1 hB.1 m_980e1e39) (xt_cdOf hB.1 m_980e1e39) (hts _ m_64857de5) hB hR hS hA (fun vv h17 H locs hq hEh17 hR hS => ?_)
          obtain ⟨r18, rfl, hw⟩ := hq
          have hw := hw hEh17
          have hE := hE.tr hEh17
          refine W.eq (g2 := F0 m 60 ls [.int r18]) rfl ?_
          refine lv_bipush (v := 64) hx hb (xb_d D_Format_root 35 rfl) (by decide) ?_
          refine lv_aload_n hx hb (xb_d D_Format_root 36 rfl) rfl (lv_at hl 1 rfl) ?_
          have hk1 : xb_k h17 x0 = 6 := hEh17.k hk1
          refine xb_getI (C := R_Format) (T := F_Format) (N := 5) hx hb 5 0 hts fin_Format hown hR hk1 (by decide) rfl (by decide) rfl (hts _ m_019aecde) (fun _ h9 => h9) (xb_d D_Format_root 37 rfl) ?_
          refine lv_isub hx hb (xb_d D_Format_root 38 rfl) ?_
          refine lv_isub hx hb (xb_d D_Format_root 39 rfl) ?_
          obtain ⟨v19, ev19⟩ : ∃ x : Int32, x = (r18 - (64 - (xb_i h17 x0 0))) := ⟨_, rfl⟩
          have hw := hw v19 ev19
          refine xt_numi (y := v19) ev19.symm ?_
          refine lv_istore hx hb (xb_d D_Format_root 40 rfl) hl (by decide) rfl (fun ls hl => ?_)
          have hl : lv_has ls 13 [(5, .int v19), (3, .long v16), (0, .ref x0), (1, .long x1)] := hl
          refine lv_iload hx hb (xb_d D_Format_root 41 rfl) (lv_at hl 0 rfl) ?_
          refine lv_iconst (v := 1) hx hb (xb_d D_Format_root 42 rfl) (by decide) ?_
          refine lv_iand hx hb (xb_d D_Format_root 43 rfl) ?_
          refine lv_if_eq (tgt := 84) hx hb (xb_d D_Format_root 44 rfl) rfl (fun hc20 => ?_) (fun hc20 => ?_)
          · have hw := hw.1 hc20
            exact am_Format_root_L84 l hfl D A σ MC MS h0 Qr x0 v16 v19 h17 hw p e s m args below meth c hC H locs ls k n hE (lv_sub hl [2, 1, 0] rfl) hR hS (by omega) (by omega)
          · have hw := hw.2 hc20
            refine lv_lload_n hx hb (xb_d D_Format_root 45 rfl) rfl (lv_at hl 1 rfl) ?_
            refine lv_iconst (v := 1) hx hb (xb_d D_Format_root 46 rfl) (by decide) ?_
            refine lv_lushr (v := (xb_lushr v16 1)) hx hb (xb_d D_Format_root 47 rfl) rfl ?_
            obtain ⟨v21, ev21⟩ : ∃ x : Int64, x = (xb_lushr v16 1) := ⟨_, rfl⟩
            have hw := hw v21 ev21
            refine xt_numl (y := v21) ev21.symm ?_
            refine lv_lstore_n hx hb (xb_d D_Format_root 48 rfl) rfl hl (by decide) rfl (fun ls hl => ?_)
            have hl : lv_has ls 13 [(3, .long v21), (5, .int v19), (0, .ref x0), (1, .long x1)] := hl
            refine lv_iinc (v := (v19 + 1)) (k := 1) hx hb (xb_d D_Format_root 49 rfl) hl rfl (by first | rfl | decide) (by decide) rfl (fun ls hl => ?_)
            have hl : lv_has ls 13 [(5, .int (v19 + 1)), (3, .long v21), (0, .ref x0), (1, .long x1)] := hl
            exact am_Format_root_L84 l hfl D A σ MC MS h0 Qr x0 v21 (v19 + 1) h17 hw p e s m args below meth c hC H locs ls k n hE (lv_sub hl [2, 1, 0] rfl) hR hS (by omega) (by omega)
        · have hw := hw.2 hc13
          refine lv_lload_n hx hb (xb_d D_Format_root 21 rfl) rfl (lv_at hl 1 rfl) ?_
          exact xb_lret 0 0 hx hb hr hlocks (show k + 0 ≤ MC by omega) (show n + 0 ≤ MS by omega) hE hR hS (xb_d D_Format_root 22 rfl) hw
      · have hw := hw.2 hc10
        exact am_Format_root_L26 l hfl D A σ MC MS h0 Qr x0 h8 hw p e s m args below meth c hC H locs ls k n hE (lv_sub hl [0] rfl) hR hS (by omega) (by omega)
  · have hw := hw.2 hc4
    refine lv_lload_n hx hb (xb_d D_Format_root 4 rfl) rfl (lv_at hl 1 rfl) ?_
    exact xb_lret 0 0 hx hb hr hlocks (show k + 0 ≤ MC by omega) (show n + 0 ≤ MS by omega) hE hR hS (xb_d D_Format_root 5 rfl) hw

theorem m_5b38b57a : (.methodLink "StackHost$Format" 106 y_Format_sumOfBounds : Cond) ∈ xt_tbl := xt_in (xt_t8 (List.mem_of_getElem? (i := 113) (by decide +kernel))) (by decide +kernel)
theorem m_8854fd66 : (.instanceMethod y_Format_sumOfBounds : Cond) ∈ xt_tbl := xt_in (xt_t8 (List.mem_of_getElem? (i := 115) (by decide +kernel))) (by decide +kernel)
theorem m_a1b1df80 : (.selects "StackHost$Format" y_Format_sumOfBounds y_Format_sumOfBounds : Cond) ∈ xt_tbl := xt_in (xt_v7 (q := (⟨"StackHost$Format", "sumOfBounds", "(JJ)J"⟩, 5)) (List.mem_of_getElem? (i := 14) (by decide +kernel))) (by decide +kernel)
theorem m_8cb76f05 : (.code y_Format_sumOfBounds b_Format_sumOfBounds 5 (some .long) : Cond) ∈ xt_tbl := xt_in (xt_t8 (List.mem_of_getElem? (i := 116) (by decide +kernel))) (by decide +kernel)
theorem m_80841200 : (.methodLink "StackHost$Format" 109 y_Format_lowered : Cond) ∈ xt_tbl := xt_in (xt_t8 (List.mem_of_getElem? (i := 117) (by decide +kernel))) (by decide +kernel)
theorem m_7caa7653 : (.static y_Format_lowered : Cond) ∈ xt_tbl := xt_in (xt_t8 (List.mem_of_getElem? (i := 118) (by decide +kernel))) (by decide +kernel)
theorem m_851c534f : (.code y_Format_lowered b_Format_lowered 5 (some .long) : Cond) ∈ xt_tbl := xt_in (xt_t8 (List.mem_of_getElem? (i := 119) (by decide +kernel))) (by decide +kernel)
theorem nm_Format_sumOfBounds : xt_nm y_Format_sumOfBounds 2 := ⟨by decide +kernel, by decide +kernel⟩
theorem nm_Format_lowered : xt_nm y_Format_lowered 2 := ⟨by decide +kernel, by decide +kernel⟩
set_option maxRecDepth 100000 in
def T_Format_sum : List (Nat × Instr × Nat) := [(0, .aload_n 0, 1), (1, .lload_n 1, 1), (2, .invokevirtual 77, 3), (5, .ifCond .ne 27, 3), (8, .aload_n 0, 1), (9, .lload_n 3, 1), (10, .invokevirtual 77, 3), (13, .ifCond .ne 19, 3), (16, .aload_n 0, 1), (17, .lload_n 1, 1), (18, .invokevirtual 66, 3), (21, .ifCond .ne 11, 3), (24, .aload_n 0, 1), (25, .lload_n 3, 1), (26, .invokevirtual 66, 3), (29, .ifCond .eq 10, 3), (32, .aload_n 0, 1), (33, .lload_n 1, 1), (34, .lload_n 3, 1), (35, .invokevirtual 106, 3), (38, .lreturn, 1), (39, .bipush 62, 2), (41, .aload_n 0, 1), (42, .getfield 9, 3), (45, .isub, 1), (46, .istore 5, 2), (48, .aload_n 0, 1), (49, .lload_n 1, 1), (50, .invokevirtual 80, 3), (53, .iload 5, 2), (55, .lshl, 1), (56, .lstore 6, 2), (58, .aload_n 0, 1), (59, .lload_n 3, 1), (60, .invokevirtual 80, 3), (63, .iload 5, 2), (65, .lshl, 1), (66, .lstore 8, 2), (68, .aload_n 0, 1), (69, .lload_n 1, 1), (70, .invokevirtual 83, 3), (73, .aload_n 0, 1), (74, .lload_n 3, 1), (75, .invokevirtual 83, 3), (78, .isub, 1), (79, .istore 10, 2), (81, .iload 10, 2), (83, .ifCond .lt 15, 3), (86, .lload 8, 2), (88, .iload 10, 2), (90, .invokestatic 109, 3), (93, .lstore 8, 2), (95, .goto 13, 3), (98, .lload 6, 2), (100, .iload 10, 2), (102, .ineg, 1), (103, .invokestatic 109, 3), (106, .lstore 6, 2), (108, .aload_n 0, 1), (109, .lload_n 1, 1), (110, .invokevirtual 50, 3), (113, .ifCond .eq 9, 3), (116, .lload 6, 2), (118, .lneg, 1), (119, .goto 5, 3), (122, .lload 6, 2), (124, .aload_n 0, 1), (125, .lload_n 3, 1), (126, .invokevirtual 50, 3), (129, .ifCond .eq 9, 3), (132, .lload 8, 2), (134, .lneg, 1), (135, .goto 5, 3), (138, .lload 8, 2), (140, .ladd, 1), (141, .lstore 11, 2), (143, .lload 11, 2), (145, .lconst 0, 1), (146, .lcmp, 1), (147, .ifCond .ne 5, 3), (150, .lconst 0, 1), (151, .lreturn, 1), (152, .aload_n 0, 1), (153, .lload_n 1, 1), (154, .invokevirtual 83, 3), (157, .aload_n 0, 1), (158, .lload_n 3, 1), (159, .invokevirtual 83, 3), (162, .invokestatic 36, 3), (165, .iload 5, 2), (167, .isub, 1), (168, .istore 13, 2), (170, .aload_n 0, 1), (171, .lload 11, 2), (173, .lconst 0, 1), (174, .lcmp, 1), (175, .ifCond .ge 7, 3), (178, .iconst 1, 1), (179, .goto 4, 3), (182, .iconst 0, 1), (183, .iload 13, 2), (185, .lload 11, 2), (187, .lconst 0, 1), (188, .lcmp, 1), (189, .ifCond .ge 9, 3), (192, .lload 11, 2), (194, .lneg, 1), (195, .goto 5, 3), (198, .lload 11, 2), (200, .invokevirtual 86, 3), (203, .lreturn, 1)]
theorem D_Format_sum : ∀ q ∈ T_Format_sum, decode b_Format_sum q.1 = .ok (q.2.1, q.2.2) := by decide +kernel

set_option maxHeartbeats 4000000 in
set_option maxRecDepth 100000 in
theorem am_Format_sum_L200 (l : Launch) (hfl : l.flags = pinnedFlags ++ [noTraceFlag]) (D : va_G) (A : Nat → Prop) (σ MC MS : Nat) (h0 : xb_H) (Qr : Int64 → xb_H → Prop) (y0 : Int64) (y1 : Int32) (y2 : Int32) (y3 : Nat) (h : xb_H) (hw : w_Format_sum_L200 Qr y0 y1 y2 y3 h) : xb_am l D A σ 4 MC MS h0 (fun v h _ _ => ∃ r, v = some (.long r) ∧ Qr r h) (fun _ _ _ _ => False) y_Format_sum.cls y_Format_sum.name b_Format_sum 14 ([] : List ExceptionTableEntry) (some .long) 200 [] [.long y0, .int y1, .int y2, .ref y3] h 0 0 := by
  unfold w_Format_sum_L200 at hw
  intro p e s m args below meth c hC H locs ls k n hE hl hR hS hk hn
  obtain ⟨hx, hb, hown, hlocks, htab, hml, hr, hB, hA, hnm⟩ := id hC
  have hts := hB.1.1.at args
  obtain ⟨hk1, hw⟩ := hw
  refine xb_call0 (D := D) (A := A) (σ := σ) (h := h) (d := 3) (maxL := 20) (rest := []) (av := [.ref y3, .int y2, .int y1, .long y0]) (fun T hT X => by obtain ⟨cb9, ra9, rb9, rc9⟩ := xb_recv (ci := 5) hR rfl hk1 (by decide); exact xt_invV X hx hown (hts _ m_08178f23) (hts _ m_78208889) (hts _ m_f8745567) (xt_sigOf (hts _ m_a1b373a2)) nm_Format_nearest (by rw [hT]; exact ra9) rb9 rc9 (g := F0 m 200 ls [.long y0, .int y1, .int y2, .ref y3]) rfl (argsL := [.int y2, .int y1, .long y0]) (rest := []) rfl rfl (by rw [hb]; exact (xb_d D_Format_sum 109 rfl))) (ok_Format_nearest l hfl D A σ y3 y2 y1 y0 h _ hw) (hml.trans hl.1.symm) (by rw [hb]; exact (xb_d D_Format_sum 109 rfl)) (Nat.le_of_ble_eq_true rfl) (Nat.le_of_ble_eq_true rfl) (Nat.le_of_ble_eq_true rfl) (show k ≤ MC by omega) (show n ≤ MS by omega) (xt_w1 hB.1 m_a1b373a2) (xt_cdOf hB.1 m_a1b373a2) (hts _ m_64857de5) hB hR hS hA (fun vv h2 H locs hq hEh2 hR hS => ?_)
  obtain ⟨r3, rfl, hw⟩ := hq
  have hw := hw hEh2
  have hE := hE.tr hEh2
  refine W.eq (g2 := F0 m 203 ls [.long r3]) rfl ?_
  exact xb_lret 0 0 hx hb hr hlocks (show k + 0 ≤ MC by omega) (show n + 0 ≤ MS by omega) hE hR hS (xb_d D_Format_sum 110 rfl) hw

set_option maxHeartbeats 4000000 in
set_option maxRecDepth 100000 in
theorem am_Format_sum_L183 (l : Launch) (hfl : l.flags = pinnedFlags ++ [noTraceFlag]) (D : va_G) (A : Nat → Prop) (σ MC MS : Nat) (h0 : xb_H) (Qr : Int64 → xb_H → Prop) (x11 : Int64) (x13 : Int32) (y0 : Int32) (y1 : Nat) (h : xb_H) (hw : w_Format_sum_L183 Qr x11 x13 y0 y1 h) : xb_am l D A σ 4 MC MS h0 (fun v h _ _ => ∃ r, v = some (.long r) ∧ Qr r h) (fun _ _ _ _ => False) y_Format_sum.cls y_Format_sum.name b_Format_sum 14 ([] : List ExceptionTableEntry) (some .long) 183 [(11, .long x11), (13, .int x13)] [.int y0, .ref y1] h 0 0 := by
  unfold w_Format_sum_L183 at hw
  intro p e s m args below meth c hC H locs ls k n hE hl hR hS hk hn
  obtain ⟨hx, hb, hown, hlocks, htab, hml, hr, hB, hA, hnm⟩ := id hC
  have hts := hB.1.1.at args
  refine lv_iload hx hb (xb_d D_Format_sum 100 rfl) (lv_at hl 1 rfl) ?_
  refine lv_lload hx hb (xb_d D_Format_sum 101 rfl) (lv_at hl 0 rfl) ?_
  refine lv_lconst (v := 0) hx hb (xb_d D_Format_sum 102 rfl) (by decide) ?_
  refine xb_lc_ge (tgt := 198) hx hb (xb_d D_Format_sum 103 rfl) (xb_d D_Format_sum 104 rfl) rfl (fun hc1 => ?_) (fun hc1 => ?_)
  · have hw := hw.1 hc1
    refine lv_lload hx hb (xb_d D_Format_sum 108 rfl) (lv_at hl 0 rfl) ?_
    exact am_Format_sum_L200 l hfl D A σ MC MS h0 Qr x11 x13 y0 y1 h hw p e s m args below meth c hC H locs ls k n hE (lv_sub hl [] rfl) hR hS (by omega) (by omega)
  · have hw := hw.2 hc1
    refine lv_lload hx hb (xb_d D_Format_sum 105 rfl) (lv_at hl 0 rfl) ?_
    refine lv_lneg hx hb (xb_d D_Format_sum 106 rfl) ?_
    refine lv_goto (tgt := 200) hx hb (xb_d D_Format_sum 107 rfl) rfl ?_
    exact am_Format_sum_L200 l hfl D A σ MC MS h0 Qr (-x11) x13 y0 y1 h hw p e s m args below meth c hC H locs ls k n hE (lv_sub hl [] rfl) hR hS (by omega) (by omega)

set_option maxHeartbeats 4000000 in
set_option maxRecDepth 100000 in
theorem am_Format_sum_L140 (l : Launch) (hfl : l.flags = pinnedFlags ++ [noTraceFlag]) (D : va_G) (A : Nat → Prop) (σ MC MS : Nat) (h0 : xb_H) (Qr : Int64 → xb_H → Prop) (x0 : Nat) (x1 : Int64) (x3 : Int64) (x5 : Int32) (y0 : Int64) (y1 : Int64) (h : xb_H) (hw : w_Format_sum_L140 Qr x0 x1 x3 x5 y0 y1 h) : xb_am l D A σ 4 MC MS h0 (fun v h _ _ => ∃ r, v = some (.long r) ∧ Qr r h) (fun _ _ _ _ => False) y_Format_sum.cls y_Format_sum.name b_Format_sum 14 ([] : List ExceptionTableEntry) (some .long) 140 [(0, .ref x0), (1, .long x1), (3, .long x3), (5, .int x5)] [.long y0, .long y1] h 0 0 := by
  unfold w_Format_sum_L140 at hw
  intro p e s m args below meth c hC H locs ls k n hE hl hR hS hk hn
  obtain ⟨hx, hb, hown, hlocks, htab, hml, hr, hB, hA, hnm⟩ := id hC
  have hts := hB.1.1.at args
  refine lv_ladd hx hb (xb_d D_Format_sum 74 rfl) ?_
  obtain ⟨v1, ev1⟩ : ∃ x : Int64, x = (y1 + y0) := ⟨_, rfl⟩
  have hw := hw v1 ev1
  refine xt_numl (y := v1) ev1.symm ?_
  refine lv_lstore hx hb (xb_d D_Format_sum 75 rfl) hl (by decide) rfl (fun ls hl => ?_)
  have hl : lv_has ls 14 [(11, .long v1), (0, .ref x0), (1, .long x1), (3, .long x3), (5, .int x5)] := hl
  refine lv_lload hx hb (xb_d D_Format_sum 76 rfl) (lv_at hl 0 rfl) ?_
  refine lv_lconst (v := 0) hx hb (xb_d D_Format_sum 77 rfl) (by decide) ?_
  refine xb_lc_ne (tgt := 152) hx hb (xb_d D_Format_sum 78 rfl) (xb_d D_Format_sum 79 rfl) rfl (fun hc2 => ?_) (fun hc2 => ?_)
  · have hw := hw.1 hc2
    refine lv_aload_n hx hb (xb_d D_Format_sum 82 rfl) rfl (lv_at hl 1 rfl) ?_
    refine lv_lload_n hx hb (xb_d D_Format_sum 83 rfl) rfl (lv_at hl 2 rfl) ?_
    obtain ⟨hk3, hw⟩ := hw
    refine xb_call0 (D := D) (A := A) (σ := σ) (h := h) (d := 3) (maxL := 7) (rest := []) (av := [.ref x0, .long x1]) (fun T hT X => by obtain ⟨cb9, ra9, rb9, rc9⟩ := xb_recv (ci := 5) hR rfl hk3 (by decide); exact xt_invV X hx hown (hts _ m_d0153205) (hts _ m_2d8986b1) (hts _ m_b1d90305) (xt_sigOf (hts _ m_980e1e39)) nm_Format_exponent (by rw [hT]; exact ra9) rb9 rc9 (g := F0 m 154 ls [.long x1, .ref x0]) rfl (argsL := [.long x1]) (rest := []) rfl rfl (by rw [hb]; exact (xb_d D_Format_sum 84 rfl))) (ok_Format_exponent l hfl D A σ x0 x1 h _ hw) (hml.trans hl.1.symm) (by rw [hb]; exact (xb_d D_Format_sum 84 rfl)) (Nat.le_of_ble_eq_true rfl) (Nat.le_of_ble_eq_true rfl) (Nat.le_of_ble_eq_true rfl) (show k ≤ MC by omega) (show n ≤ MS by omega) (xt_w1 hB.1 m_980e1e39) (xt_cdOf hB.1 m_980e1e39) (hts _ m_64857de5) hB hR hS hA (fun vv h4 H locs hq hEh4 hR hS => ?_)
    obtain ⟨r5, rfl, hw⟩ := hq
    have hw := hw hEh4
    have hE := hE.tr hEh4
    refine W.eq (g2 := F0 m 157 ls [.int r5]) rfl ?_
    refine lv_aload_n hx hb (xb_d D_Format_sum 85 rfl) rfl (lv_at hl 1 rfl) ?_
    refine lv_lload_n hx hb (xb_d D_Format_sum 86 rfl) rfl (lv_at hl 3 rfl) ?_
    have hk3 : xb_k h4 x0 = 6 := hEh4.k hk3
    refine xb_call0 (D := D) (A := A) (σ := σ) (h := h4) (d := 3) (maxL := 7) (rest := [.int r5]) (av := [.ref x0, .long x3]) (fun T hT X => by obtain ⟨cb9, ra9, rb9, rc9⟩ := xb_recv (ci := 5) hR rfl hk3 (by decide); exact xt_invV X hx hown (hts _ m_d0153205) (hts _ m_2d8986b1) (hts _ m_b1d90305) (xt_sigOf (hts _ m_980e1e39)) nm_Format_exponent (by rw [hT]; exact ra9) rb9 rc9 (g := F0 m 159 ls [.long x3, .ref x0, .int r5]) rfl (argsL := [.long x3]) (rest := [.int r5]) rfl rfl (by rw [hb]; exact (xb_d D_Format_sum 87 rfl))) (ok_Format_exponent l hfl D A σ x0 x3 h4 _ hw) (hml.trans hl.1.symm) (by rw [hb]; exact (xb_d D_Format_sum 87 rfl)) (Nat.le_of_ble_eq_true rfl) (Nat.le_of_ble_eq_true rfl) (Nat.le_of_ble_eq_true rfl) (show k ≤ MC by omega) (show n ≤ MS by omega) (xt_w1 hB.1 m_980e1e39) (xt_cdOf hB.1 m_980e1e39) (hts _ m_64857de5) hB hR hS hA (fun vv h6 H locs hq hEh6 hR hS => ?_)
    obtain ⟨r7, rfl, hw⟩ := hq
    have hw := hw hEh6
    have hE := hE.tr hEh6
    refine W.eq (g2 := F0 m 162 ls [.int r7, .int r5]) rfl ?_
    refine va_mmax hx hb (hml.trans hl.1.symm) hown (hts _ m_887454fc) (hts _ m_80a2ec50) (hts _ m_868a9286) (hts _ m_b6349a14) (by show 1 ≤ 8 + _; omega) (Nat.le_trans (Nat.le_of_ble_eq_true rfl : _ ≤ 60) (by show 60 ≤ 120 + _; omega)) (show k ≤ MC by omega) (show n ≤ MS by omega) (xb_d D_Format_sum 88 rfl) ?_
    refine lv_iload hx hb (xb_d D_Format_sum 89 rfl) (lv_at hl 4 rfl) ?_
    refine lv_isub hx hb (xb_d D_Format_sum 90 rfl) ?_
    obtain ⟨v8, ev8⟩ : ∃ x : Int32, x = ((if r5 < r7 then r7 else r5) - x5) := ⟨_, rfl⟩
    have hw := hw v8 ev8
    refine xt_numi (y := v8) ev8.symm ?_
    refine lv_istore hx hb (xb_d D_Format_sum 91 rfl) hl (by decide) rfl (fun ls hl => ?_)
    have hl : lv_has ls 14 [(13, .int v8), (11, .long v1), (0, .ref x0), (1, .long x1), (3, .long x3), (5, .int x5)] := hl
    refine lv_aload_n hx hb (xb_d D_Format_sum 92 rfl) rfl (lv_at hl 2 rfl) ?_
    refine lv_lload hx hb (xb_d D_Format_sum 93 rfl) (lv_at hl 1 rfl) ?_
    refine lv_lconst (v := 0) hx hb (xb_d D_Format_sum 94 rfl) (by decide) ?_
    refine xb_lc_ge (tgt := 182) hx hb (xb_d D_Format_sum 95 rfl) (xb_d D_Format_sum 96 rfl) rfl (fun hc9 => ?_) (fun hc9 => ?_)
    · have hw := hw.1 hc9
      refine lv_iconst (v := 0) hx hb (xb_d D_Format_sum 99 rfl) (by decide) ?_
      exact am_Format_sum_L183 l hfl D A σ MC MS h0 Qr v1 v8 0 x0 h6 hw p e s m args below meth c hC H locs ls k n hE (lv_sub hl [1, 0] rfl) hR hS (by omega) (by omega)
    · have hw := hw.2 hc9
      refine lv_iconst (v := 1) hx hb (xb_d D_Format_sum 97 rfl) (by decide) ?_
      refine lv_goto (tgt := 183) hx hb (xb_d D_Format_sum 98 rfl) rfl ?_
      exact am_Format_sum_L183 l hfl D A σ MC MS h0 Qr v1 v8 1 x0 h6 hw p e s m args below meth c hC H locs ls k n hE (lv_sub hl [1, 0] rfl) hR hS (by omega) (by omega)
  · have hw := hw.2 hc2
    refine lv_lconst (v := 0) hx hb (xb_d D_Format_sum 80 rfl) (by decide) ?_
    exact xb_lret 0 0 hx hb hr hlocks (show k + 0 ≤ MC by omega) (show n + 0 ≤ MS by omega) hE hR hS (xb_d D_Format_sum 81 rfl) hw

set_option maxHeartbeats 4000000 in
set_option maxRecDepth 100000 in
theorem am_Format_sum_L124 (l : Launch) (hfl : l.flags = pinnedFlags ++ [noTraceFlag]) (D : va_G) (A : Nat → Prop) (σ MC MS : Nat) (h0 : xb_H) (Qr : Int64 → xb_H → Prop) (x0 : Nat) (x1 : Int64) (x3 : Int64) (x5 : Int32) (x8 : Int64) (y0 : Int64) (h : xb_H) (hw : w_Format_sum_L124 Qr x0 x1 x3 x5 x8 y0 h) : xb_am l D A σ 4 MC MS h0 (fun v h _ _ => ∃ r, v = some (.long r) ∧ Qr r h) (fun _ _ _ _ => False) y_Format_sum.cls y_Format_sum.name b_Format_sum 14 ([] : List ExceptionTableEntry) (some .long) 124 [(0, .ref x0), (1, .long x1), (3, .long x3), (5, .int x5), (8, .long x8)] [.long y0] h 0 0 := by
  unfold w_Format_sum_L124 at hw
  intro p e s m args below meth c hC H locs ls k n hE hl hR hS hk hn
  obtain ⟨hx, hb, hown, hlocks, htab, hml, hr, hB, hA, hnm⟩ := id hC
  have hts := hB.1.1.at args
  refine lv_aload_n hx hb (xb_d D_Format_sum 66 rfl) rfl (lv_at hl 0 rfl) ?_
  refine lv_lload_n hx hb (xb_d D_Format_sum 67 rfl) rfl (lv_at hl 2 rfl) ?_
  obtain ⟨hk1, hw⟩ := hw
  refine xb_call0 (D := D) (A := A) (σ := σ) (h := h) (d := 2) (maxL := 3) (rest := [.long y0]) (av := [.ref x0, .long x3]) (fun T hT X => by obtain ⟨cb9, ra9, rb9, rc9⟩ := xb_recv (ci := 5) hR rfl hk1 (by decide); exact xt_invV X hx hown (hts _ m_e7046197) (hts _ m_9e016368) (hts _ m_42f2e51b) (xt_sigOf (hts _ m_6ee44111)) nm_Format_isNegative (by rw [hT]; exact ra9) rb9 rc9 (g := F0 m 126 ls [.long x3, .ref x0, .long y0]) rfl (argsL := [.long x3]) (rest := [.long y0]) rfl rfl (by rw [hb]; exact (xb_d D_Format_sum 68 rfl))) (ok_Format_isNegative l hfl D A σ x0 x3 h _ hw) (hml.trans hl.1.symm) (by rw [hb]; exact (xb_d D_Format_sum 68 rfl)) (Nat.le_of_ble_eq_true rfl) (Nat.le_of_ble_eq_true rfl) (Nat.le_of_ble_eq_true rfl) (show k ≤ MC by omega) (show n ≤ MS by omega) (xt_w1 hB.1 m_6ee44111) (xt_cdOf hB.1 m_6ee44111) (hts _ m_64857de5) hB hR hS hA (fun vv h2 H locs hq hEh2 hR hS => ?_)
  obtain ⟨r3, rfl, hw⟩ := hq
  have hw := hw hEh2
  have hE := hE.tr hEh2
  refine W.eq (g2 := F0 m 129 ls [.int r3, .long y0]) rfl ?_
  refine lv_if_eq (tgt := 138) hx hb (xb_d D_Format_sum 69 rfl) rfl (fun hc4 => ?_) (fun hc4 => ?_)
  · have hw := hw.1 hc4
    refine lv_lload hx hb (xb_d D_Format_sum 73 rfl) (lv_at hl 4 rfl) ?_
    exact am_Format_sum_L140 l hfl D A σ MC MS h0 Qr x0 x1 x3 x5 x8 y0 h2 hw p e s m args below meth c hC H locs ls k n hE (lv_sub hl [0, 1, 2, 3] rfl) hR hS (by omega) (by omega)
  · have hw := hw.2 hc4
    refine lv_lload hx hb (xb_d D_Format_sum 70 rfl) (lv_at hl 4 rfl) ?_
    refine lv_lneg hx hb (xb_d D_Format_sum 71 rfl) ?_
    refine lv_goto (tgt := 140) hx hb (xb_d D_Format_sum 72 rfl) rfl ?_
    exact am_Format_sum_L140 l hfl D A σ MC MS h0 Qr x0 x1 x3 x5 (-x8) y0 h2 hw p e s m args below meth c hC H locs ls k n hE (lv_sub hl [0, 1, 2, 3] rfl) hR hS (by omega) (by omega)

set_option maxHeartbeats 4000000 in
set_option maxRecDepth 100000 in
theorem am_Format_sum_L108 (l : Launch) (hfl : l.flags = pinnedFlags ++ [noTraceFlag]) (D : va_G) (A : Nat → Prop) (σ MC MS : Nat) (h0 : xb_H) (Qr : Int64 → xb_H → Prop) (x0 : Nat) (x1 : Int64) (x3 : Int64) (x5 : Int32) (x6 : Int64) (x8 : Int64) (h : xb_H) (hw : w_Format_sum_L108 Qr x0 x1 x3 x5 x6 x8 h) : xb_am l D A σ 4 MC MS h0 (fun v h _ _ => ∃ r, v = some (.long r) ∧ Qr r h) (fun _ _ _ _ => False) y_Format_sum.cls y_Format_sum.name b_Format_sum 14 ([] : List ExceptionTableEntry) (some .long) 108 [(0, .ref x0), (1, .long x1), (3, .long x3), (5, .int x5), (6, .long x6), (8, .long x8)] [] h 0 0 := by
  unfold w_Format_sum_L108 at hw
  intro p e s m args below meth c hC H locs ls k n hE hl hR hS hk hn
  obtain ⟨hx, hb, hown, hlocks, htab, hml, hr, hB, hA, hnm⟩ := id hC
  have hts := hB.1.1.at args
  refine lv_aload_n hx hb (xb_d D_Format_sum 58 rfl) rfl (lv_at hl 0 rfl) ?_
  refine lv_lload_n hx hb (xb_d D_Format_sum 59 rfl) rfl (lv_at hl 1 rfl) ?_
  obtain ⟨hk1, hw⟩ := hw
  refine xb_call0 (D := D) (A := A) (σ := σ) (h := h) (d := 2) (maxL := 3) (rest := []) (av := [.ref x0, .long x1]) (fun T hT X => by obtain ⟨cb9, ra9, rb9, rc9⟩ := xb_recv (ci := 5) hR rfl hk1 (by decide); exact xt_invV X hx hown (hts _ m_e7046197) (hts _ m_9e016368) (hts _ m_42f2e51b) (xt_sigOf (hts _ m_6ee44111)) nm_Format_isNegative (by rw [hT]; exact ra9) rb9 rc9 (g := F0 m 110 ls [.long x1, .ref x0]) rfl (argsL := [.long x1]) (rest := []) rfl rfl (by rw [hb]; exact (xb_d D_Format_sum 60 rfl))) (ok_Format_isNegative l hfl D A σ x0 x1 h _ hw) (hml.trans hl.1.symm) (by rw [hb]; exact (xb_d D_Format_sum 60 rfl)) (Nat.le_of_ble_eq_true rfl) (Nat.le_of_ble_eq_true rfl) (Nat.le_of_ble_eq_true rfl) (show k ≤ MC by omega) (show n ≤ MS by omega) (xt_w1 hB.1 m_6ee44111) (xt_cdOf hB.1 m_6ee44111) (hts _ m_64857de5) hB hR hS hA (fun vv h2 H locs hq hEh2 hR hS => ?_)
  obtain ⟨r3, rfl, hw⟩ := hq
  have hw := hw hEh2
  have hE := hE.tr hEh2
  refine W.eq (g2 := F0 m 113 ls [.int r3]) rfl ?_
  refine lv_if_eq (tgt := 122) hx hb (xb_d D_Format_sum 61 rfl) rfl (fun hc4 => ?_) (fun hc4 => ?_)
  · have hw := hw.1 hc4
    refine lv_lload hx hb (xb_d D_Format_sum 65 rfl) (lv_at hl 4 rfl) ?_
    exact am_Format_sum_L124 l hfl D A σ MC MS h0 Qr x0 x1 x3 x5 x8 x6 h2 hw p e s m args below meth c hC H locs ls k n hE (lv_sub hl [0, 1, 2, 3, 5] rfl) hR hS (by omega) (by omega)
  · have hw := hw.2 hc4
    refine lv_lload hx hb (xb_d D_Format_sum 62 rfl) (lv_at hl 4 rfl) ?_
    refine lv_lneg hx hb (xb_d D_Format_sum 63 rfl) ?_
    refine lv_goto (tgt := 124) hx hb (xb_d D_Format_sum 64 rfl) rfl ?_
    exact am_Format_sum_L124 l hfl D A σ MC MS h0 Qr x0 x1 x3 x5 x8 (-x6) h2 hw p e s m args below meth c hC H locs ls k n hE (lv_sub hl [0, 1, 2, 3, 5] rfl) hR hS (by omega) (by omega)

set_option maxHeartbeats 4000000 in
set_option maxRecDepth 100000 in
theorem am_Format_sum_L32 (l : Launch) (hfl : l.flags = pinnedFlags ++ [noTraceFlag]) (D : va_G) (A : Nat → Prop) (σ MC MS : Nat) (h0 : xb_H) (Qr : Int64 → xb_H → Prop) (x0 : Nat) (x1 : Int64) (x3 : Int64) (h : xb_H) (hw : w_Format_sum_L32 Qr x0 x1 x3 h) : xb_am l D A σ 4 MC MS h0 (fun v h _ _ => ∃ r, v = some (.long r) ∧ Qr r h) (fun _ _ _ _ => False) y_Format_sum.cls y_Format_sum.name b_Format_sum 14 ([] : List ExceptionTableEntry) (some .long) 32 [(0, .ref x0), (1, .long x1), (3, .long x3)] [] h 0 0 := by
  unfold w_Format_sum_L32 at hw
  intro p e s m args below meth c hC H locs ls k n hE hl hR hS hk hn
  obtain ⟨hx, hb, hown, hlocks, htab, hml, hr, hB, hA, hnm⟩ := id hC
  have hts := hB.1.1.at args
  refine lv_aload_n hx hb (xb_d D_Format_sum 16 rfl) rfl (lv_at hl 0 rfl) ?_
  refine lv_lload_n hx hb (xb_d D_Format_sum 17 rfl) rfl (lv_at hl 1 rfl) ?_
  refine lv_lload_n hx hb (xb_d D_Format_sum 18 rfl) rfl (lv_at hl 2 rfl) ?_
  obtain ⟨hk1, hw⟩ := hw
  refine xb_call0 (D := D) (A := A) (σ := σ) (h := h) (d := 3) (maxL := 5) (rest := []) (av := [.ref x0, .long x1, .long x3]) (fun T hT X => by obtain ⟨cb9, ra9, rb9, rc9⟩ := xb_recv (ci := 5) hR rfl hk1 (by decide); exact xt_invV X hx hown (hts _ m_5b38b57a) (hts _ m_8854fd66) (hts _ m_a1b1df80) (xt_sigOf (hts _ m_8cb76f05)) nm_Format_sumOfBounds (by rw [hT]; exact ra9) rb9 rc9 (g := F0 m 35 ls [.long x3, .long x1, .ref x0]) rfl (argsL := [.long x1, .long x3]) (rest := []) rfl rfl (by rw [hb]; exact (xb_d D_Format_sum 19 rfl))) (ok_Format_sumOfBounds l hfl D A σ x0 x1 x3 h _ hw) (hml.trans hl.1.symm) (by rw [hb]; exact (xb_d D_Format_sum 19 rfl)) (Nat.le_of_ble_eq_true rfl) (Nat.le_of_ble_eq_true rfl) (Nat.le_of_ble_eq_true rfl) (show k ≤ MC by omega) (show n ≤ MS by omega) (xt_w1 hB.1 m_8cb76f05) (xt_cdOf hB.1 m_8cb76f05) (hts _ m_64857de5) hB hR hS hA (fun vv h2 H locs hq hEh2 hR hS => ?_)
  obtain ⟨r3, rfl, hw⟩ := hq
  have hw := hw hEh2
  have hE := hE.tr hEh2
  refine W.eq (g2 := F0 m 38 ls [.long r3]) rfl ?_
  exact xb_lret 0 0 hx hb hr hlocks (show k + 0 ≤ MC by omega) (show n + 0 ≤ MS by omega) hE hR hS (xb_d D_Format_sum 20 rfl) hw

set_option maxHeartbeats 4000000 in
set_option maxRecDepth 100000 in
theorem ok_Format_sum (l : Launch) (hfl : l.flags = pinnedFlags ++ [noTraceFlag]) (D : va_G) (A : Nat → Prop) (σ : Nat) (x0 : Nat) (x1 : Int64) (x3 : Int64) (h : xb_H) (Qr : Int64 → xb_H → Prop) (hw : w_Format_sum x0 x1 x3 h Qr) : xb_Met l y_Format_sum [.code y_Format_sum b_Format_sum 14 (some .long)] (xb_rm 4 0 0) (xb_Pc D A σ h [.ref x0, .long x1, .long x3]) (xb_Qc D A h 0 0 (fun v h _ _ => ∃ r, v = some (.long r) ∧ Qr r h) (fun _ _ _ _ => False)) A := by
  refine xb_ofAm (cc := b_Format_sum) (by decide) (Nat.le_of_ble_eq_true rfl) ?_
  unfold w_Format_sum at hw
  show xb_am l D A σ 4 0 0 h (fun v h _ _ => ∃ r, v = some (.long r) ∧ Qr r h) (fun _ _ _ _ => False) y_Format_sum.cls y_Format_sum.name b_Format_sum 14 ([] : List ExceptionTableEntry) (some .long) 0 [(0, .ref x0), (1, .long x1), (3, .long x3)] [] h 0 0
  obtain ⟨MC, hMC⟩ : ∃ x, x = 0 := ⟨_, rfl⟩
  obtain ⟨MS, hMS⟩ : ∃ x, x = 0 := ⟨_, rfl⟩
  rw [show xb_am l D A σ 4 0 0 = xb_am l D A σ 4 MC MS by rw [hMC, hMS]]
  obtain ⟨h0, hh0⟩ : ∃ x, x = h := ⟨_, rfl⟩
  rw [show xb_am l D A σ 4 MC MS h = xb_am l D A σ 4 MC MS h0 by rw [hh0]]
  intro p e s m args below meth c hC H locs ls k n hE hl hR hS hk hn
  obtain ⟨hx, hb, hown, hlocks, htab, hml, hr, hB, hA, hnm⟩ := id hC
  have hts := hB.1.1.at args
  refine lv_aload_n hx hb (xb_d D_Format_sum 0 rfl) rfl (lv_at hl 0 rfl) ?_
  refine lv_lload_n hx hb (xb_d D_Format_sum 1 rfl) rfl (lv_at hl 1 rfl) ?_
  obtain ⟨hk1, hw⟩ := hw
  refine xb_call0 (D := D) (A := A) (σ := σ) (h := h) (d := 2) (maxL := 3) (rest := []) (av := [.ref x0, .long x1]) (fun T hT X => by obtain ⟨cb9, ra9, rb9, rc9⟩ := xb_recv (ci := 5) hR rfl hk1 (by decide); exact xt_invV X hx hown (hts _ m_da28b66e) (hts _ m_a2bd27ec) (hts _ m_ea0426d6) (xt_sigOf (hts _ m_62c3a91f)) nm_Format_isInfinite (by rw [hT]; exact ra9) rb9 rc9 (g := F0 m 2 ls [.long x1, .ref x0]) rfl (argsL := [.long x1]) (rest := []) rfl rfl (by rw [hb]; exact (xb_d D_Format_sum 2 rfl))) (ok_Format_isInfinite l hfl D A σ x0 x1 h _ hw) (hml.trans hl.1.symm) (by rw [hb]; exact (xb_d D_Format_sum 2 rfl)) (Nat.le_of_ble_eq_true rfl) (Nat.le_of_ble_eq_true rfl) (Nat.le_of_ble_eq_true rfl) (show k ≤ MC by omega) (show n ≤ MS by omega) (xt_w1 hB.1 m_62c3a91f) (xt_cdOf hB.1 m_62c3a91f) (hts _ m_64857de5) hB hR hS hA (fun vv h2 H locs hq hEh2 hR hS => ?_)
  obtain ⟨r3, rfl, hw⟩ := hq
  have hw := hw hEh2
  have hE := hE.tr hEh2
  refine W.eq (g2 := F0 m 5 ls [.int r3]) rfl ?_
  refine lv_if_ne (tgt := 32) hx hb (xb_d D_Format_sum 3 rfl) rfl (fun hc4 => ?_) (fun hc4 => ?_)
  · have hw := hw.1 hc4
    exact am_Format_sum_L32 l hfl D A σ MC MS h0 Qr x0 x1 x3 h2 hw p e s m args below meth c hC H locs ls k n hE (lv_sub hl [0, 1, 2] rfl) hR hS (by omega) (by omega)
  · have hw := hw.2 hc4
    refine lv_aload_n hx hb (xb_d D_Format_sum 4 rfl) rfl (lv_at hl 0 rfl) ?_
    refine lv_lload_n hx hb (xb_d D_Format_sum 5 rfl) rfl (lv_at hl 2 rfl) ?_
    have hk1 : xb_k h2 x0 = 6 := hEh2.k hk1
    refine xb_call0 (D := D) (A := A) (σ := σ) (h := h2) (d := 2) (maxL := 3) (rest := []) (av := [.ref x0, .long x3]) (fun T hT X => by obtain ⟨cb9, ra9, rb9, rc9⟩ := xb_recv (ci := 5) hR rfl hk1 (by decide); exact xt_invV X hx hown (hts _ m_da28b66e) (hts _ m_a2bd27ec) (hts _ m_ea0426d6) (xt_sigOf (hts _ m_62c3a91f)) nm_Format_isInfinite (by rw [hT]; exact ra9) rb9 rc9 (g := F0 m 10 ls [.long x3, .ref x0]) rfl (argsL := [.long x3]) (rest := []) rfl rfl (by rw [hb]; exact (xb_d D_Format_sum 6 rfl))) (ok_Format_isInfinite l hfl D A σ x0 x3 h2 _ hw) (hml.trans hl.1.symm) (by rw [hb]; exact (xb_d D_Format_sum 6 rfl)) (Nat.le_of_ble_eq_true rfl) (Nat.le_of_ble_eq_true rfl) (Nat.le_of_ble_eq_true rfl) (show k ≤ MC by omega) (show n ≤ MS by omega) (xt_w1 hB.1 m_62c3a91f) (xt_cdOf hB.1 m_62c3a91f) (hts _ m_64857de5) hB hR hS hA (fun vv h5 H locs hq hEh5 hR hS => ?_)
    obtain ⟨r6, rfl, hw⟩ := hq
    have hw := hw hEh5
    have hE := hE.tr hEh5
    refine W.eq (g2 := F0 m 13 ls [.int r6]) rfl ?_
    refine lv_if_ne (tgt := 32) hx hb (xb_d D_Format_sum 7 rfl) rfl (fun hc7 => ?_) (fun hc7 => ?_)
    · have hw := hw.1 hc7
      exact am_Format_sum_L32 l hfl D A σ MC MS h0 Qr x0 x1 x3 h5 hw p e s m args below meth c hC H locs ls k n hE (lv_sub hl [0, 1, 2] rfl) hR hS (by omega) (by omega)
    · have hw := hw.2 hc7
      refine lv_aload_n hx hb (xb_d D_Format_sum 8 rfl) rfl (lv_at hl 0 rfl) ?_
      refine lv_lload_n hx hb (xb_d D_Format_sum 9 rfl) rfl (lv_at hl 1 rfl) ?_
      have hk1 : xb_k h5 x0 = 6 := hEh5.k hk1
      refine xb_call0 (D := D) (A := A) (σ := σ) (h := h5) (d := 2) (maxL := 3) (rest := []) (av := [.ref x0, .long x1]) (fun T hT X => by obtain ⟨cb9, ra9, rb9, rc9⟩ := xb_recv (ci := 5) hR rfl hk1 (by decide); exact xt_invV X hx hown (hts _ m_113bafb3) (hts _ m_ac384f2f) (hts _ m_7587e6d0) (xt_sigOf (hts _ m_8c0ed8f1)) nm_Format_isZero (by rw [hT]; exact ra9) rb9 rc9 (g := F0 m 18 ls [.long x1, .ref x0]) rfl (argsL := [.long x1]) (rest := []) rfl rfl (by rw [hb]; exact (xb_d D_Format_sum 10 rfl))) (ok_Format_isZero l hfl D A σ x0 x1 h5 _ hw) (hml.trans hl.1.symm) (by rw [hb]; exact (xb_d D_Format_sum 10 rfl)) (Nat.le_of_ble_eq_true rfl) (Nat.le_of_ble_eq_true rfl) (Nat.le_of_ble_eq_true rfl) (show k ≤ MC by omega) (show n ≤ MS by omega) (xt_w1 hB.1 m_8c0ed8f1) (xt_cdOf hB.1 m_8c0ed8f1) (hts _ m_64857de5) hB hR hS hA (fun vv h8 H locs hq hEh8 hR hS => ?_)
      obtain ⟨r9, rfl, hw⟩ := hq
      have hw := hw hEh8
      have hE := hE.tr hEh8
      refine W.eq (g2 := F0 m 21 ls [.int r9]) rfl ?_
      refine lv_if_ne (tgt := 32) hx hb (xb_d D_Format_sum 11 rfl) rfl (fun hc10 => ?_) (fun hc10 => ?_)
      · have hw := hw.1 hc10
        exact am_Format_sum_L32 l hfl D A σ MC MS h0 Qr x0 x1 x3 h8 hw p e s m args below meth c hC H locs ls k n hE (lv_sub hl [0, 1, 2] rfl) hR hS (by omega) (by omega)
      · have hw := hw.2 hc10
        refine lv_aload_n hx hb (xb_d D_Format_sum 12 rfl) rfl (lv_at hl 0 rfl) ?_
        refine lv_lload_n hx hb (xb_d D_Format_sum 13 rfl) rfl (lv_at hl 2 rfl) ?_
        have hk1 : xb_k h8 x0 = 6 := hEh8.k hk1
        refine xb_call0 (D := D) (A := A) (σ := σ) (h := h8) (d := 2) (maxL := 3) (rest := []) (av := [.ref x0, .long x3]) (fun T hT X => by obtain ⟨cb9, ra9, rb9, rc9⟩ := xb_recv (ci := 5) hR rfl hk1 (by decide); exact xt_invV X hx hown (hts _ m_113bafb3) (hts _ m_ac384f2f) (hts _ m_7587e6d0) (xt_sigOf (hts _ m_8c0ed8f1)) nm_Format_isZero (by rw [hT]; exact ra9) rb9 rc9 (g := F0 m 26 ls [.long x3, .ref x0]) rfl (argsL := [.long x3]) (rest := []) rfl rfl (by rw [hb]; exact (xb_d D_Format_sum 14 rfl))) (ok_Format_isZero l hfl D A σ x0 x3 h8 _ hw) (hml.trans hl.1.symm) (by rw [hb]; exact (xb_d D_Format_sum 14 rfl)) (Nat.le_of_ble_eq_true rfl) (Nat.le_of_ble_eq_true rfl) (Nat.le_of_ble_eq_true rfl) (show k ≤ MC by omega) (show n ≤ MS by omega) (xt_w1 hB.1 m_8c0ed8f1) (xt_cdOf hB.1 m_8c0ed8f1) (hts _ m_64857de5) hB hR hS hA (fun vv h11 H locs hq hEh11 hR hS => ?_)
        obtain ⟨r12, rfl, hw⟩ := hq
        have hw := hw hEh11
        have hE := hE.tr hEh11
        refine W.eq (g2 := F0 m 29 ls [.int r12]) rfl ?_
        refine lv_if_eq (tgt := 39) hx hb (xb_d D_Format_sum 15 rfl) rfl (fun hc13 => ?_) (fun hc13 => ?_)
        · have hw := hw.1 hc13
          refine lv_bipush (v := 62) hx hb (xb_d D_Format_sum 21 rfl) (by decide) ?_
          refine lv_aload_n hx hb (xb_d D_Format_sum 22 rfl) rfl (lv_at hl 0 rfl) ?_
          have hk1 : xb_k h11 x0 = 6 := hEh11.k hk1
          refine xb_getI (C := R_Format) (T := F_Format) (N := 5) hx hb 5 0 hts fin_Format hown hR hk1 (by decide) rfl (by decide) rfl (hts _ m_019aecde) (fun _ h9 => h9) (xb_d D_Format_sum 23 rfl) ?_
          refine lv_isub hx hb (xb_d D_Format_sum 24 rfl) ?_
          obtain ⟨v14, ev14⟩ : ∃ x : Int32, x = (62 - (xb_i h11 x0 0)) := ⟨_, rfl⟩
          have hw := hw v14 ev14
          refine xt_numi (y := v14) ev14.symm ?_
          refine lv_istore hx hb (xb_d D_Format_sum 25 rfl) hl (by decide) rfl (fun ls hl => ?_)
          have hl : lv_has ls 14 [(5, .int v14), (0, .ref x0), (1, .long x1), (3, .long x3)] := hl
          refine lv_aload_n hx hb (xb_d D_Format_sum 26 rfl) rfl (lv_at hl 1 rfl) ?_
          refine lv_lload_n hx hb (xb_d D_Format_sum 27 rfl) rfl (lv_at hl 2 rfl) ?_
          refine xb_call0 (D := D) (A := A) (σ := σ) (h := h11) (d := 3) (maxL := 7) (rest := []) (av := [.ref x0, .long x1]) (fun T hT X => by obtain ⟨cb9, ra9, rb9, rc9⟩ := xb_recv (ci := 5) hR rfl hk1 (by decide); exact xt_invV X hx hown (hts _ m_0dda6331) (hts _ m_40be2e6d) (hts _ m_7a64b857) (xt_sigOf (hts _ m_8bcfbce0)) nm_Format_mantissa (by rw [hT]; exact ra9) rb9 rc9 (g := F0 m 50 ls [.long x1, .ref x0]) rfl (argsL := [.long x1]) (rest := []) rfl rfl (by rw [hb]; exact (xb_d D_Format_sum 28 rfl))) (ok_Format_mantissa l hfl D A σ x0 x1 h11 _ hw) (hml.trans hl.1.symm) (by rw [hb]; exact (xb_d D_Format_sum 28 rfl)) (Nat.le_of_ble_eq_true rfl) (Nat.le_of_ble_eq_true rfl) (Nat.le_of_ble_eq_true rfl) (show k ≤ MC by omega) (show n ≤ MS by omega) (xt_w1 hB.1 m_8bcfbce0) (xt_cdOf hB.1 m_8bcfbce0) (hts _ m_64857de5) hB hR hS hA (fun vv h15 H locs hq hEh15 hR hS => ?_)
          obtain ⟨r16, rfl, hw⟩ := hq
          have hw := hw hEh15
          have hE := hE.tr hEh15
          refine W.eq (g2 := F0 m 53 ls [.long r16]) rfl ?_
          refine lv_iload hx hb (xb_d D_Format_sum 29 rfl) (lv_at hl 0 rfl) ?_
          refine lv_lshl (v := (xb_lshl r16 v14)) hx hb (xb_d D_Format_sum 30 rfl) rfl ?_
          obtain ⟨v17, ev17⟩ : ∃ x : Int64, x = (xb_lshl r16 v14) := ⟨_, rfl⟩
          have hw := hw v17 ev17
          refine xt_numl (y := v17) ev17.symm ?_
          refine lv_lstore hx hb (xb_d D_Format_sum 31 rfl) hl (by decide) rfl (fun ls hl => ?_)
          have hl : lv_has ls 14 [(6, .long v17), (5, .int v14), (0, .ref x0), (1, .long x1), (3, .long x3)] := hl
          refine lv_aload_n hx hb (xb_d D_Format_sum 32 rfl) rfl (lv_at hl 2 rfl) ?_
          refine lv_lload_n hx hb (xb_d D_Format_sum 33 rfl) rfl (lv_at hl 4 rfl) ?_
          have hk1 : xb_k h15 x0 = 6 := hEh15.k hk1
          refine xb_call0 (D := D) (A := A) (σ := σ) (h := h15) (d := 3) (maxL := 7) (rest := []) (av := [.ref x0, .long x3]) (fun T hT X => by obtain ⟨cb9, ra9, rb9, rc9⟩ := xb_recv (ci := 5) hR rfl hk1 (by decide); exact xt_invV X hx hown (hts _ m_0dda6331) (hts _ m_40be2e6d) (hts _ m_7a64b857) (xt_sigOf (hts _ m_8bcfbce0)) nm_Format_mantissa (by rw [hT]; exact ra9) rb9 rc9 (g := F0 m 60 ls [.long x3, .ref x0]) rfl (argsL := [.long x3]) (rest := []) rfl rfl (by rw [hb]; exact (xb_d D_Format_sum 34 rfl))) (ok_Format_mantissa l hfl D A σ x0 x3 h15 _ hw) (hml.trans hl.1.symm) (by rw [hb]; exact (xb_d D_Format_sum 34 rfl)) (Nat.le_of_ble_eq_true rfl) (Nat.le_of_ble_eq_true rfl) (Nat.le_of_ble_eq_true rfl) (show k ≤ MC by omega) (show n ≤ MS by omega) (xt_w1 hB.1 m_8bcfbce0) (xt_cdOf hB.1 m_8bcfbce0) (hts _ m_64857de5) hB hR hS hA (fun vv h18 H locs hq hEh18 hR hS => ?_)
          obtain ⟨r19, rfl, hw⟩ := hq
          have hw := hw hEh18
          have hE := hE.tr hEh18
          refine W.eq (g2 := F0 m 63 ls [.long r19]) rfl ?_
          refine lv_iload hx hb (xb_d D_Format_sum 35 rfl) (lv_at hl 1 rfl) ?_
          refine lv_lshl (v := (xb_lshl r19 v14)) hx hb (xb_d D_Format_sum 36 rfl) rfl ?_
          obtain ⟨v20, ev20⟩ : ∃ x : Int64, x = (xb_lshl r19 v14) := ⟨_, rfl⟩
          have hw := hw v20 ev20
          refine xt_numl (y := v20) ev20.symm ?_
          refine lv_lstore hx hb (xb_d D_Format_sum 37 rfl) hl (by decide) rfl (fun ls hl => ?_)
          have hl : lv_has ls 14 [(8, .long v20), (6, .long v17), (5, .int v14), (0, .ref x0), (1, .long x1), (3, .long x3)] := hl
          refine lv_aload_n hx hb (xb_d D_Format_sum 38 rfl) rfl (lv_at hl 3 rfl) ?_
          refine lv_lload_n hx hb (xb_d D_Format_sum 39 rfl) rfl (lv_at hl 4 rfl) ?_
          have hk1 : xb_k h18 x0 = 6 := hEh18.k hk1
          refine xb_call0 (D := D) (A := A) (σ := σ) (h := h18) (d := 3) (maxL := 7) (rest := []) (av := [.ref x0, .long x1]) (fun T hT X => by obtain ⟨cb9, ra9, rb9, rc9⟩ := xb_recv (ci := 5) hR rfl hk1 (by decide); exact xt_invV X hx hown (hts _ m_d0153205) (hts _ m_2d8986b1) (hts _ m_b1d90305) (xt_sigOf (hts _ m_980e1e39)) nm_Format_exponent (by rw [hT]; exact ra9) rb9 rc9 (g := F0 m 70 ls [.long x1, .ref x0]) rfl (argsL := [.long x1]) (rest := []) rfl rfl (by rw [hb]; exact (xb_d D_Format_sum 40 rfl))) (ok_Format_exponent l hfl D A σ x0 x1 h18 _ hw) (hml.trans hl.1.symm) (by rw [hb]; exact (xb_d D_Format_sum 40 rfl)) (Nat.le_of_ble_eq_true rfl) (Nat.le_of_ble_eq_true rfl) (Nat.le_of_ble_eq_true rfl) (show k ≤ MC by omega) (show n ≤ MS by omega) (xt_w1 hB.1 m_980e1e39) (xt_cdOf hB.1 m_980e1e39) (hts _ m_64857de5) hB hR hS hA (fun vv h21 H locs hq hEh21 hR hS => ?_)
          obtain ⟨r22, rfl, hw⟩ := hq
          have hw := hw hEh21
          have hE := hE.tr hEh21
          refine W.eq (g2 := F0 m 73 ls [.int r22]) rfl ?_
          refine lv_aload_n hx hb (xb_d D_Format_sum 41 rfl) rfl (lv_at hl 3 rfl) ?_
          refine lv_lload_n hx hb (xb_d D_Format_sum 42 rfl) rfl (lv_at hl 5 rfl) ?_
          have hk1 : xb_k h21 x0 = 6 := hEh21.k hk1
          refine xb_call0 (D := D) (A := A) (σ := σ) (h := h21) (d := 3) (maxL := 7) (rest := [.int r22]) (av := [.ref x0, .long x3]) (fun T hT X => by obtain ⟨cb9, ra9, rb9, rc9⟩ := xb_recv (ci := 5) hR rfl hk1 (by decide); exact xt_invV X hx hown (hts _ m_d0153205) (hts _ m_2d8986b1) (hts _ m_b1d90305) (xt_sigOf (hts _ m_980e1e39)) nm_Format_exponent (by rw [hT]; exact ra9) rb9 rc9 (g := F0 m 75 ls [.long x3, .ref x0, .int r22]) rfl (argsL := [.long x3]) (rest := [.int r22]) rfl rfl (by rw [hb]; exact (xb_d D_Format_sum 43 rfl))) (ok_Format_exponent l hfl D A σ x0 x3 h21 _ hw) (hml.trans hl.1.symm) (by rw [hb]; exact (xb_d D_Format_sum 43 rfl)) (Nat.le_of_ble_eq_true rfl) (Nat.le_of_ble_eq_true rfl) (Nat.le_of_ble_eq_true rfl) (show k ≤ MC by omega) (show n ≤ MS by omega) (xt_w1 hB.1 m_980e1e39) (xt_cdOf hB.1 m_980e1e39) (hts _ m_64857de5) hB hR hS hA (fun vv h23 H locs hq hEh23 hR hS => ?_)
          obtain ⟨r24, rfl, hw⟩ := hq
          have hw := hw hEh23
          have hE := hE.tr hEh23
          refine W.eq (g2 := F0 m 78 ls [.int r24, .int r22]) rfl ?_
          refine lv_isub hx hb (xb_d D_Format_sum 44 rfl) ?_
          obtain ⟨v25, ev25⟩ : ∃ x : Int32, x = (r22 - r24) := ⟨_, rfl⟩
          have hw := hw v25 ev25
          refine xt_numi (y := v25) ev25.symm ?_
          refine lv_istore hx hb (xb_d D_Format_sum 45 rfl) hl (by decide) rfl (fun ls hl => ?_)
          have hl : lv_has ls 14 [(10, .int v25), (8, .long v20), (6, .long v17), (5, .int v14), (0, .ref x0), (1, .long x1), (3, .long x3)] := hl
          refine lv_iload hx hb (xb_d D_Format_sum 46 rfl) (lv_at hl 0 rfl) ?_
          refine lv_if_lt (tgt := 98) hx hb (xb_d D_Format_sum 47 rfl) rfl (fun hc26 => ?_) (fun hc26 => ?_)
          · have hw := hw.1 hc26
            refine lv_lload hx hb (xb_d D_Format_sum 53 rfl) (lv_at hl 2 rfl) ?_
            refine lv_iload hx hb (xb_d D_Format_sum 54 rfl) (lv_at hl 0 rfl) ?_
            refine lv_ineg hx hb (xb_d D_Format_sum 55 rfl) ?_
            refine xb_call0 (D := D) (A := A) (σ := σ) (h := h23) (d := 2) (maxL := 5) (rest := []) (av := [.long v17, .int (-v25)]) (fun T hT X => xt_invS X hx hown (hts _ m_80841200) (hts _ m_7caa7653) (hts _ m_64857de5) (xt_sgS (hts _ m_851c534f)).1 (xt_sgS (hts _ m_851c534f)).2 nm_Format_lowered (g := F0 m 103 ls [.int (-v25), .long v17]) rfl (argsL := [.long v17, .int (-v25)]) (rest := []) rfl rfl (by rw [hb]; exact (xb_d D_Format_sum 56 rfl))) (ok_Format_lowered l hfl D A σ v17 (-v25) h23 _ hw) (hml.trans hl.1.symm) (by rw [hb]; exact (xb_d D_Format_sum 56 rfl)) (Nat.le_of_ble_eq_true rfl) (Nat.le_of_ble_eq_true rfl) (Nat.le_of_ble_eq_true rfl) (show k ≤ MC by omega) (show n ≤ MS by omega) (xt_w1 hB.1 m_851c534f) (xt_cdOf hB.1 m_851c534f) (hts _ m_64857de5) hB hR hS hA (fun vv h27 H locs hq hEh27 hR hS => ?_)
            obtain ⟨r28, rfl, hw⟩ := hq
            have hw := hw hEh27
            have hE := hE.tr hEh27
            refine W.eq (g2 := F0 m 106 ls [.long r28]) rfl ?_
            refine lv_lstore hx hb (xb_d D_Format_sum 57 rfl) hl (by decide) rfl (fun ls hl => ?_)
            have hl : lv_has ls 14 [(6, .long r28), (10, .int v25), (8, .long v20), (5, .int v14), (0, .ref x0), (1, .long x1), (3, .long x3)] := hl
            exact am_Format_sum_L108 l hfl D A σ MC MS h0 Qr x0 x1 x3 v14 r28 v20 h27 hw p e s m args below meth c hC H locs ls k n hE (lv_sub hl [4, 5, 6, 3, 0, 2] rfl) hR hS (by omega) (by omega)
          · have hw := hw.2 hc26
            refine lv_lload hx hb (xb_d D_Format_sum 48 rfl) (lv_at hl 1 rfl) ?_
            refine lv_iload hx hb (xb_d D_Format_sum 49 rfl) (lv_at hl 0 rfl) ?_
            refine xb_call0 (D := D) (A := A) (σ := σ) (h := h23) (d := 2) (maxL := 5) (rest := []) (av := [.long v20, .int v25]) (fun T hT X => xt_invS X hx hown (hts _ m_80841200) (hts _ m_7caa7653) (hts _ m_64857de5) (xt_sgS (hts _ m_851c534f)).1 (xt_sgS (hts _ m_851c534f)).2 nm_Format_lowered (g := F0 m 90 ls [.int v25, .long v20]) rfl (argsL := [.long v20, .int v25]) (rest := []) rfl rfl (by rw [hb]; exact (xb_d D_Format_sum 50 rfl))) (ok_Format_lowered l hfl D A σ v20 v25 h23 _ hw) (hml.trans hl.1.symm) (by rw [hb]; exact (xb_d D_Format_sum 50 rfl)) (Nat.le_of_ble_eq_true rfl) (Nat.le_of_ble_eq_true rfl) (Nat.le_of_ble_eq_true rfl) (show k ≤ MC by omega) (show n ≤ MS by omega) (xt_w1 hB.1 m_851c534f) (xt_cdOf hB.1 m_851c534f) (hts _ m_64857de5) hB hR hS hA (fun vv h29 H locs hq hEh29 hR hS => ?_)
            obtain ⟨r30, rfl, hw⟩ := hq
            have hw := hw hEh29
            have hE := hE.tr hEh29
            refine W.eq (g2 := F0 m 93 ls [.long r30]) rfl ?_
            refine lv_lstore hx hb (xb_d D_Format_sum 51 rfl) hl (by decide) rfl (fun ls hl => ?_)
            have hl : lv_has ls 14 [(8, .long r30), (10, .int v25), (6, .long v17), (5, .int v14), (0, .ref x0), (1, .long x1), (3, .long x3)] := hl
            refine lv_goto (tgt := 108) hx hb (xb_d D_Format_sum 52 rfl) rfl ?_
            exact am_Format_sum_L108 l hfl D A σ MC MS h0 Qr x0 x1 x3 v14 v17 r30 h29 hw p e s m args below meth c hC H locs ls k n hE (lv_sub hl [4, 5, 6, 3, 2, 0] rfl) hR hS (by omega) (by omega)
        · have hw := hw.2 hc13
          exact am_Format_sum_L32 l hfl D A σ MC MS h0 Qr x0 x1 x3 h11 hw p e s m args below meth c hC H locs ls k n hE (lv_sub hl [0, 1, 2] rfl) hR hS (by omega) (by omega)

theorem m_12f2e813 : (.methodLink "StackHost$Format" 118 y_Format_wholePart : Cond) ∈ xt_tbl := xt_in (xt_t8 (List.mem_of_getElem? (i := 32) (by decide +kernel))) (by decide +kernel)
theorem m_a11ea4dc : (.instanceMethod y_Format_wholePart : Cond) ∈ xt_tbl := xt_in (xt_t8 (List.mem_of_getElem? (i := 33) (by decide +kernel))) (by decide +kernel)
theorem m_e5b75821 : (.selects "StackHost$Format" y_Format_wholePart y_Format_wholePart : Cond) ∈ xt_tbl := xt_in (xt_t8 (List.mem_of_getElem? (i := 34) (by decide +kernel))) (by decide +kernel)
theorem m_0c5f14ae : (.code y_Format_wholePart b_Format_wholePart 9 (some .long) : Cond) ∈ xt_tbl := xt_in (xt_t8 (List.mem_of_getElem? (i := 35) (by decide +kernel))) (by decide +kernel)
theorem nm_Format_wholePart : xt_nm y_Format_wholePart 1 := ⟨by decide +kernel, by decide +kernel⟩
set_option maxRecDepth 100000 in
def T_Format_trapOfWhole : List (Nat × Instr × Nat) := [(0, .aload_n 0, 1), (1, .lload_n 1, 1), (2, .invokevirtual 42, 3), (5, .ifCond .eq 5, 3), (8, .iconst 5, 1), (9, .ireturn, 1), (10, .aload_n 0, 1), (11, .lload_n 1, 1), (12, .invokevirtual 63, 3), (15, .bipush 64, 2), (17, .if_icmp .lt 5, 3), (20, .iconst 4, 1), (21, .ireturn, 1), (22, .aload_n 0, 1), (23, .lload_n 1, 1), (24, .invokevirtual 118, 3), (27, .lstore 5, 2), (29, .aload_n 0, 1), (30, .lload_n 1, 1), (31, .invokevirtual 50, 3), (34, .istore 7, 2), (36, .iload 4, 2), (38, .ifCond .ne 49, 3), (41, .iload 7, 2), (43, .ifCond .eq 18, 3), (46, .lload 5, 2), (48, .lconst 0, 1), (49, .lcmp, 1), (50, .ifCond .ne 7, 3), (53, .iconst 1, 1), (54, .goto 28, 3), (57, .iconst 0, 1), (58, .goto 24, 3), (61, .iload_n 3, 1), (62, .bipush 64, 2), (64, .if_icmp .eq 13, 3), (67, .lload 5, 2), (69, .bipush 32, 2), (71, .lushr, 1), (72, .lconst 0, 1), (73, .lcmp, 1), (74, .ifCond .ne 7, 3), (77, .iconst 1, 1), (78, .goto 4, 3), (81, .iconst 0, 1), (82, .istore 8, 2), (84, .goto 37, 3), (87, .lload 5, 2), (89, .iload_n 3, 1), (90, .iconst 1, 1), (91, .isub, 1), (92, .lushr, 1), (93, .lconst 0, 1), (94, .lcmp, 1), (95, .ifCond .eq 19, 3), (98, .iload 7, 2), (100, .ifCond .eq 18, 3), (103, .lload 5, 2), (105, .lconst 1, 1), (106, .iload_n 3, 1), (107, .iconst 1, 1), (108, .isub, 1), (109, .lshl, 1), (110, .lcmp, 1), (111, .ifCond .ne 7, 3), (114, .iconst 1, 1), (115, .goto 4, 3), (118, .iconst 0, 1), (119, .istore 8, 2), (121, .iload 8, 2), (123, .ifCond .eq 7, 3), (126, .iconst 0, 1), (127, .goto 4, 3), (130, .iconst 4, 1), (131, .ireturn, 1)]
theorem D_Format_trapOfWhole : ∀ q ∈ T_Format_trapOfWhole, decode b_Format_trapOfWhole q.1 = .ok (q.2.1, q.2.2) := by decide +kernel

set_option maxHeartbeats 4000000 in
set_option maxRecDepth 100000 in
theorem am_Format_trapOfWhole_L131 (l : Launch) (hfl : l.flags = pinnedFlags ++ [noTraceFlag]) (D : va_G) (A : Nat → Prop) (σ MC MS : Nat) (h0 : xb_H) (Qr : Int32 → xb_H → Prop) (y0 : Int32) (h : xb_H) (hw : w_Format_trapOfWhole_L131 Qr y0 h) : xb_am l D A σ 4 MC MS h0 (fun v h _ _ => ∃ r, v = some (.int r) ∧ Qr r h) (fun _ _ _ _ => False) y_Format_trapOfWhole.cls y_Format_trapOfWhole.name b_Format_trapOfWhole 9 ([] : List ExceptionTableEntry) (some .int) 131 [] [.int y0] h 0 0 := by
  unfold w_Format_trapOfWhole_L131 at hw
  intro p e s m args below meth c hC H locs ls k n hE hl hR hS hk hn
  obtain ⟨hx, hb, hown, hlocks, htab, hml, hr, hB, hA, hnm⟩ := id hC
  have hts := hB.1.1.at args
  exact xb_iret 0 0 hx hb hr hlocks (show k + 0 ≤ MC by omega) (show n + 0 ≤ MS by omega) hE hR hS (xb_d D_Format_trapOfWhole 74 rfl) hw

set_option maxHeartbeats 4000000 in
set_option maxRecDepth 100000 in
theorem am_Format_trapOfWhole_L121 (l : Launch) (hfl : l.flags = pinnedFlags ++ [noTraceFlag]) (D : va_G) (A : Nat → Prop) (σ MC MS : Nat) (h0 : xb_H) (Qr : Int32 → xb_H → Prop) (x8 : Int32) (h : xb_H) (hw : w_Format_trapOfWhole_L121 Qr x8 h) : xb_am l D A σ 4 MC MS h0 (fun v h _ _ => ∃ r, v = some (.int r) ∧ Qr r h) (fun _ _ _ _ => False) y_Format_trapOfWhole.cls y_Format_trapOfWhole.name b_Format_trapOfWhole 9 ([] : List ExceptionTableEntry) (some .int) 121 [(8, .int x8)] [] h 0 0 := by
  unfold w_Format_trapOfWhole_L121 at hw
  intro p e s m args below meth c hC H locs ls k n hE hl hR hS hk hn
  obtain ⟨hx, hb, hown, hlocks, htab, hml, hr, hB, hA, hnm⟩ := id hC
  have hts := hB.1.1.at args
  refine lv_iload hx hb (xb_d D_Format_trapOfWhole 69 rfl) (lv_at hl 0 rfl) ?_
  refine lv_if_eq (tgt := 130) hx hb (xb_d D_Format_trapOfWhole 70 rfl) rfl (fun hc1 => ?_) (fun hc1 => ?_)
  · have hw := hw.1 hc1
    refine lv_iconst (v := 4) hx hb (xb_d D_Format_trapOfWhole 73 rfl) (by decide) ?_
    exact am_Format_trapOfWhole_L131 l hfl D A σ MC MS h0 Qr 4 h hw p e s m args below meth c hC H locs ls k n hE (lv_sub hl [] rfl) hR hS (by omega) (by omega)
  · have hw := hw.2 hc1
    refine lv_iconst (v := 0) hx hb (xb_d D_Format_trapOfWhole 71 rfl) (by decide) ?_
    refine lv_goto (tgt := 131) hx hb (xb_d D_Format_trapOfWhole 72 rfl) rfl ?_
    exact am_Format_trapOfWhole_L131 l hfl D A σ MC MS h0 Qr 0 h hw p e s m args below meth c hC H locs ls k n hE (lv_sub hl [] rfl) hR hS (by omega) (by omega)

set_option maxHeartbeats 4000000 in
set_option maxRecDepth 100000 in
theorem am_Format_trapOfWhole_L119 (l : Launch) (hfl : l.flags = pinnedFlags ++ [noTraceFlag]) (D : va_G) (A : Nat → Prop) (σ MC MS : Nat) (h0 : xb_H) (Qr : Int32 → xb_H → Prop) (y0 : Int32) (h : xb_H) (hw : w_Format_trapOfWhole_L119 Qr y0 h) : xb_am l D A σ 4 MC MS h0 (fun v h _ _ => ∃ r, v = some (.int r) ∧ Qr r h) (fun _ _ _ _ => False) y_Format_trapOfWhole.cls y_Format_trapOfWhole.name b_Format_trapOfWhole 9 ([] : List ExceptionTableEntry) (some .int) 119 [] [.int y0] h 0 0 := by
  unfold w_Format_trapOfWhole_L119 at hw
  intro p e s m args below meth c hC H locs ls k n hE hl hR hS hk hn
  obtain ⟨hx, hb, hown, hlocks, htab, hml, hr, hB, hA, hnm⟩ := id hC
  have hts := hB.1.1.at args
  refine lv_istore hx hb (xb_d D_Format_trapOfWhole 68 rfl) hl (by decide) rfl (fun ls hl => ?_)
  have hl : lv_has ls 9 [(8, .int y0)] := hl
  exact am_Format_trapOfWhole_L121 l hfl D A σ MC MS h0 Qr y0 h hw p e s m args below meth c hC H locs ls k n hE (lv_sub hl [0] rfl) hR hS (by omega) (by omega)

set_option maxHeartbeats 4000000 in
set_option maxRecDepth 100000 in
theorem am_Format_trapOfWhole_L118 (l : Launch) (hfl : l.flags = pinnedFlags ++ [noTraceFlag]) (D : va_G) (A : Nat → Prop) (σ MC MS : Nat) (h0 : xb_H) (Qr : Int32 → xb_H → Prop) (h : xb_H) (hw : w_Format_trapOfWhole_L118 Qr h) : xb_am l D A σ 4 MC MS h0 (fun v h _ _ => ∃ r, v = some (.int r) ∧ Qr r h) (fun _ _ _ _ => False) y_Format_trapOfWhole.cls y_Format_trapOfWhole.name b_Format_trapOfWhole 9 ([] : List ExceptionTableEntry) (some .int) 118 [] [] h 0 0 := by
  unfold w_Format_trapOfWhole_L118 at hw
  intro p e s m args below meth c hC H locs ls k n hE hl hR hS hk hn
  obtain ⟨hx, hb, hown, hlocks, htab, hml, hr, hB, hA, hnm⟩ := id hC
  have hts := hB.1.1.at args
  refine lv_iconst (v := 0) hx hb (xb_d D_Format_trapOfWhole 67 rfl) (by decide) ?_
  exact am_Format_trapOfWhole_L119 l hfl D A σ MC MS h0 Qr 0 h hw p e s m args below meth c hC H locs ls k n hE (lv_sub hl [] rfl) hR hS (by omega) (by omega)

set_option maxHeartbeats 4000000 in
set_option maxRecDepth 100000 in
theorem am_Format_trapOfWhole_L114 (l : Launch) (hfl : l.flags = pinnedFlags ++ [noTraceFlag]) (D : va_G) (A : Nat → Prop) (σ MC MS : Nat) (h0 : xb_H) (Qr : Int32 → xb_H → Prop) (h : xb_H) (hw : w_Format_trapOfWhole_L114 Qr h) : xb_am l D A σ 4 MC MS h0 (fun v h _ _ => ∃ r, v = some (.int r) ∧ Qr r h) (fun _ _ _ _ => False) y_Format_trapOfWhole.cls y_Format_trapOfWhole.name b_Format_trapOfWhole 9 ([] : List ExceptionTableEntry) (some .int) 114 [] [] h 0 0 := by
  unfold w_Format_trapOfWhole_L114 at hw
  intro p e s m args below meth c hC H locs ls k n hE hl hR hS hk hn
  obtain ⟨hx, hb, hown, hlocks, htab, hml, hr, hB, hA, hnm⟩ := id hC
  have hts := hB.1.1.at args
  refine lv_iconst (v := 1) hx hb (xb_d D_Format_trapOfWhole 65 rfl) (by decide) ?_
  refine lv_goto (tgt := 119) hx hb (xb_d D_Format_trapOfWhole 66 rfl) rfl ?_
  exact am_Format_trapOfWhole_L119 l hfl D A σ MC MS h0 Qr 1 h hw p e s m args below meth c hC H locs ls k n hE (lv_sub hl [] rfl) hR hS (by omega) (by omega)

set_option maxHeartbeats 4000000 in
set_option maxRecDepth 100000 in
theorem am_Format_trapOfWhole_L82 (l : Launch) (hfl : l.flags = pinnedFlags ++ [noTraceFlag]) (D : va_G) (A : Nat → Prop) (σ MC MS : Nat) (h0 : xb_H) (Qr : Int32 → xb_H → Prop) (y0 : Int32) (h : xb_H) (hw : w_Format_trapOfWhole_L82 Qr y0 h) : xb_am l D A σ 4 MC MS h0 (fun v h _ _ => ∃ r, v = some (.int r) ∧ Qr r h) (fun _ _ _ _ => False) y_Format_trapOfWhole.cls y_Format_trapOfWhole.name b_Format_trapOfWhole 9 ([] : List ExceptionTableEntry) (some .int) 82 [] [.int y0] h 0 0 := by
  unfold w_Format_trapOfWhole_L82 at hw
  intro p e s m args below meth c hC H locs ls k n hE hl hR hS hk hn
  obtain ⟨hx, hb, hown, hlocks, htab, hml, hr, hB, hA, hnm⟩ := id hC
  have hts := hB.1.1.at args
  refine lv_istore hx hb (xb_d D_Format_trapOfWhole 45 rfl) hl (by decide) rfl (fun ls hl => ?_)
  have hl : lv_has ls 9 [(8, .int y0)] := hl
  refine lv_goto (tgt := 121) hx hb (xb_d D_Format_trapOfWhole 46 rfl) rfl ?_
  exact am_Format_trapOfWhole_L121 l hfl D A σ MC MS h0 Qr y0 h hw p e s m args below meth c hC H locs ls k n hE (lv_sub hl [0] rfl) hR hS (by omega) (by omega)

set_option maxHeartbeats 4000000 in
set_option maxRecDepth 100000 in
theorem am_Format_trapOfWhole_L77 (l : Launch) (hfl : l.flags = pinnedFlags ++ [noTraceFlag]) (D : va_G) (A : Nat → Prop) (σ MC MS : Nat) (h0 : xb_H) (Qr : Int32 → xb_H → Prop) (h : xb_H) (hw : w_Format_trapOfWhole_L77 Qr h) : xb_am l D A σ 4 MC MS h0 (fun v h _ _ => ∃ r, v = some (.int r) ∧ Qr r h) (fun _ _ _ _ => False) y_Format_trapOfWhole.cls y_Format_trapOfWhole.name b_Format_trapOfWhole 9 ([] : List ExceptionTableEntry) (some .int) 77 [] [] h 0 0 := by
  unfold w_Format_trapOfWhole_L77 at hw
  intro p e s m args below meth c hC H locs ls k n hE hl hR hS hk hn
  obtain ⟨hx, hb, hown, hlocks, htab, hml, hr, hB, hA, hnm⟩ := id hC
  have hts := hB.1.1.at args
  refine lv_iconst (v := 1) hx hb (xb_d D_Format_trapOfWhole 42 rfl) (by decide) ?_
  refine lv_goto (tgt := 82) hx hb (xb_d D_Format_trapOfWhole 43 rfl) rfl ?_
  exact am_Format_trapOfWhole_L82 l hfl D A σ MC MS h0 Qr 1 h hw p e s m args below meth c hC H locs ls k n hE (lv_sub hl [] rfl) hR hS (by omega) (by omega)

set_option maxHeartbeats 4000000 in
set_option maxRecDepth 100000 in
theorem ok_Format_trapOfWhole (l : Launch) (hfl : l.flags = pinnedFlags ++ [noTraceFlag]) (D : va_G) (A : Nat → Prop) (σ : Nat) (x0 : Nat) (x1 : Int64) (x3 : Int32) (x4 : Int32) (h : xb_H) (Qr : Int32 → xb_H → Prop) (hw : w_Format_trapOfWhole x0 x1 x3 x4 h Qr) : xb_Met l y_Format_trapOfWhole [.code y_Format_trapOfWhole b_Format_trapOfWhole 9 (some .int)] (xb_rm 4 0 0) (xb_Pc D A σ h [.ref x0, .long x1, .int x3, .int x4]) (xb_Qc D A h 0 0 (fun v h _ _ => ∃ r, v = some (.int r) ∧ Qr r h) (fun _ _ _ _ => False)) A := by
  refine xb_ofAm (cc := b_Format_trapOfWhole) (by decide) (Nat.le_of_ble_eq_true rfl) ?_
  unfold w_Format_trapOfWhole at hw
  show xb_am l D A σ 4 0 0 h (fun v h _ _ => ∃ r, v = some (.int r) ∧ Qr r h) (fun _ _ _ _ => False) y_Format_trapOfWhole.cls y_Format_trapOfWhole.name b_Format_trapOfWhole 9 ([] : List ExceptionTableEntry) (some .int) 0 [(0, .ref x0), (1, .long x1), (3, .int x3), (4, .int x4)] [] h 0 0
  obtain ⟨MC, hMC⟩ : ∃ x, x = 0 := ⟨_, rfl⟩
  obtain ⟨MS, hMS⟩ : ∃ x, x = 0 := ⟨_, rfl⟩
  rw [show xb_am l D A σ 4 0 0 = xb_am l D A σ 4 MC MS by rw [hMC, hMS]]
  obtain ⟨h0, hh0⟩ : ∃ x, x = h := ⟨_, rfl⟩
  rw [show xb_am l D A σ 4 MC MS h = xb_am l D A σ 4 MC MS h0 by rw [hh0]]
  intro p e s m args below meth c hC H locs ls k n hE hl hR hS hk hn
  obtain ⟨hx, hb, hown, hlocks, htab, hml, hr, hB, hA, hnm⟩ := id hC
  have hts := hB.1.1.at args
  refine lv_aload_n hx hb (xb_d D_Format_trapOfWhole 0 rfl) rfl (lv_at hl 0 rfl) ?_
  refine lv_lload_n hx hb (xb_d D_Format_trapOfWhole 1 rfl) rfl (lv_at hl 1 rfl) ?_
  obtain ⟨hk1, hw⟩ := hw
  refine xb_call0 (D := D) (A := A) (σ := σ) (h := h) (d := 2) (maxL := 3) (rest := []) (av := [.ref x0, .long x1]) (fun T hT X => by obtain ⟨cb9, ra9, rb9, rc9⟩ := xb_recv (ci := 5) hR rfl hk1 (by decide); exact xt_invV X hx hown (hts _ m_e7d6b62e) (hts _ m_28f89ecd) (hts _ m_79f90d13) (xt_sigOf (hts _ m_2f81ed74)) nm_Format_isNan (by rw [hT]; exact ra9) rb9 rc9 (g := F0 m 2 ls [.long x1, .ref x0]) rfl (argsL := [.long x1]) (rest := []) rfl rfl (by rw [hb]; exact (xb_d D_Format_trapOfWhole 2 rfl))) (ok_Format_isNan l hfl D A σ x0 x1 h _ hw) (hml.trans hl.1.symm) (by rw [hb]; exact (xb_d D_Format_trapOfWhole 2 rfl)) (Nat.le_of_ble_eq_true rfl) (Nat.le_of_ble_eq_true rfl) (Nat.le_of_ble_eq_true rfl) (show k ≤ MC by omega) (show n ≤ MS by omega) (xt_w1 hB.1 m_2f81ed74) (xt_cdOf hB.1 m_2f81ed74) (hts _ m_64857de5) hB hR hS hA (fun vv h2 H locs hq hEh2 hR hS => ?_)
  obtain ⟨r3, rfl, hw⟩ := hq
  have hw := hw hEh2
  have hE := hE.tr hEh2
  refine W.eq (g2 := F0 m 5 ls [.int r3]) rfl ?_
  refine lv_if_eq (tgt := 10) hx hb (xb_d D_Format_trapOfWhole 3 rfl) rfl (fun hc4 => ?_) (fun hc4 => ?_)
  · have hw := hw.1 hc4
    refine lv_aload_n hx hb (xb_d D_Format_trapOfWhole 6 rfl) rfl (lv_at hl 0 rfl) ?_
    refine lv_lload_n hx hb (xb_d D_Format_trapOfWhole 7 rfl) rfl (lv_at hl 1 rfl) ?_
    have hk1 : xb_k h2 x0 = 6 := hEh2.k hk1
    refine xb_call0 (D := D) (A := A) (σ := σ) (h := h2) (d := 2) (maxL := 3) (rest := []) (av := [.ref x0, .long x1]) (fun T hT X => by obtain ⟨cb9, ra9, rb9, rc9⟩ := xb_recv (ci := 5) hR rfl hk1 (by decide); exact xt_invV X hx hown (hts _ m_790c0ce9) (hts _ m_493d47bb) (hts _ m_ec26896d) (xt_sigOf (hts _ m_93bb879e)) nm_Format_power (by rw [hT]; exact ra9) rb9 rc9 (g := F0 m 12 ls [.long x1, .ref x0]) rfl (argsL := [.long x1]) (rest := []) rfl rfl (by rw [hb]; exact (xb_d D_Format_trapOfWhole 8 rfl))) (ok_Format_power l hfl D A σ x0 x1 h2 _ hw) (hml.trans hl.1.symm) (by rw [hb]; exact (xb_d D_Format_trapOfWhole 8 rfl)) (Nat.le_of_ble_eq_true rfl) (Nat.le_of_ble_eq_true rfl) (Nat.le_of_ble_eq_true rfl) (show k ≤ MC by omega) (show n ≤ MS by omega) (xt_w1 hB.1 m_93bb879e) (xt_cdOf hB.1 m_93bb879e) (hts _ m_64857de5) hB hR hS hA (fun vv h5 H locs hq hEh5 hR hS => ?_)
    obtain ⟨r6, rfl, hw⟩ := hq
    have hw := hw hEh5
    have hE := hE.tr hEh5
    refine W.eq (g2 := F0 m 15 ls [.int r6]) rfl ?_
    refine lv_bipush (v := 64) hx hb (xb_d D_Format_trapOfWhole 9 rfl) (by decide) ?_
    refine lv_icmp_lt (tgt := 22) hx hb (xb_d D_Format_trapOfWhole 10 rfl) rfl (fun hc7 => ?_) (fun hc7 => ?_)
    · have hw := hw.1 hc7
      refine lv_aload_n hx hb (xb_d D_Format_trapOfWhole 13 rfl) rfl (lv_at hl 0 rfl) ?_
      refine lv_lload_n hx hb (xb_d D_Format_trapOfWhole 14 rfl) rfl (lv_at hl 1 rfl) ?_
      have hk1 : xb_k h5 x0 = 6 := hEh5.k hk1
      refine xb_call0 (D := D) (A := A) (σ := σ) (h := h5) (d := 3) (maxL := 9) (rest := []) (av := [.ref x0, .long x1]) (fun T hT X => by obtain ⟨cb9, ra9, rb9, rc9⟩ := xb_recv (ci := 5) hR rfl hk1 (by decide); exact xt_invV X hx hown (hts _ m_12f2e813) (hts _ m_a11ea4dc) (hts _ m_e5b75821) (xt_sigOf (hts _ m_0c5f14ae)) nm_Format_wholePart (by rw [hT]; exact ra9) rb9 rc9 (g := F0 m 24 ls [.long x1, .ref x0]) rfl (argsL := [.long x1]) (rest := []) rfl rfl (by rw [hb]; exact (xb_d D_Format_trapOfWhole 15 rfl))) (ok_Format_wholePart l hfl D A σ x0 x1 h5 _ hw) (hml.trans hl.1.symm) (by rw [hb]; exact (xb_d D_Format_trapOfWhole 15 rfl)) (Nat.le_of_ble_eq_true rfl) (Nat.le_of_ble_eq_true rfl) (Nat.le_of_ble_eq_true rfl) (show k ≤ MC by omega) (show n ≤ MS by omega) (xt_w1 hB.1 m_0c5f14ae) (xt_cdOf hB.1 m_0c5f14ae) (hts _ m_64857de5) hB hR hS hA (fun vv h8 H locs hq hEh8 hR hS => ?_)
      obtain ⟨r9, rfl, hw⟩ := hq
      have hw := hw hEh8
      have hE := hE.tr hEh8
      refine W.eq (g2 := F0 m 27 ls [.long r9]) rfl ?_
      refine lv_lstore hx hb (xb_d D_Format_trapOfWhole 16 rfl) hl (by decide) rfl (fun ls hl => ?_)
      have hl : lv_has ls 9 [(5, .long r9), (0, .ref x0), (1, .long x1), (3, .int x3), (4, .int x4)] := hl
      refine lv_aload_n hx hb (xb_d D_Format_trapOfWhole 17 rfl) rfl (lv_at hl 1 rfl) ?_
      refine lv_lload_n hx hb (xb_d D_Format_trapOfWhole 18 rfl) rfl (lv_at hl 2 rfl) ?_
      have hk1 : xb_k h8 x0 = 6 := hEh8.k hk1
      refine xb_call0 (D := D) (A := A) (σ := σ) (h := h8) (d := 2) (maxL := 3) (rest := []) (av := [.ref x0, .long x1]) (fun T hT X => by obtain ⟨cb9, ra9, rb9, rc9⟩ := xb_recv (ci := 5) hR rfl hk1 (by decide); exact xt_invV X hx hown (hts _ m_e7046197) (hts _ m_9e016368) (hts _ m_42f2e51b) (xt_sigOf (hts _ m_6ee44111)) nm_Format_isNegative (by rw [hT]; exact ra9) rb9 rc9 (g := F0 m 31 ls [.long x1, .ref x0]) rfl (argsL := [.long x1]) (rest := []) rfl rfl (by rw [hb]; exact (xb_d D_Format_trapOfWhole 19 rfl))) (ok_Format_isNegative l hfl D A σ x0 x1 h8 _ hw) (hml.trans hl.1.symm) (by rw [hb]; exact (xb_d D_Format_trapOfWhole 19 rfl)) (Nat.le_of_ble_eq_true rfl) (Nat.le_of_ble_eq_true rfl) (Nat.le_of_ble_eq_true rfl) (show k ≤ MC by omega) (show n ≤ MS by omega) (xt_w1 hB.1 m_6ee44111) (xt_cdOf hB.1 m_6ee44111) (hts _ m_64857de5) hB hR hS hA (fun vv h10 H locs hq hEh10 hR hS => ?_)
      obtain ⟨r11, rfl, hw⟩ := hq
      have hw := hw hEh10
      have hE := hE.tr hEh10
      refine W.eq (g2 := F0 m 34 ls [.int r11]) rfl ?_
      refine lv_istore hx hb (xb_d D_Format_trapOfWhole 20 rfl) hl (by decide) rfl (fun ls hl => ?_)
      have hl : lv_has ls 9 [(7, .int r11), (5, .long r9), (0, .ref x0), (1, .long x1), (3, .int x3), (4, .int x4)] := hl
      refine lv_iload hx hb (xb_d D_Format_trapOfWhole 21 rfl) (lv_at hl 5 rfl) ?_
      refine lv_if_ne (tgt := 87) hx hb (xb_d D_Format_trapOfWhole 22 rfl) rfl (fun hc12 => ?_) (fun hc12 => ?_)
      · have hw := hw.1 hc12
        refine lv_lload hx hb (xb_d D_Format_trapOfWhole 47 rfl) (lv_at hl 1 rfl) ?_
        refine lv_iload_n hx hb (xb_d D_Format_trapOfWhole 48 rfl) rfl (lv_at hl 4 rfl) ?_
        refine lv_iconst (v := 1) hx hb (xb_d D_Format_trapOfWhole 49 rfl) (by decide) ?_
        refine lv_isub hx hb (xb_d D_Format_trapOfWhole 50 rfl) ?_
        refine lv_lushr (v := (xb_lushr r9 (x3 - 1))) hx hb (xb_d D_Format_trapOfWhole 51 rfl) rfl ?_
        refine lv_lconst (v := 0) hx hb (xb_d D_Format_trapOfWhole 52 rfl) (by decide) ?_
        refine xb_lc_eq (tgt := 114) hx hb (xb_d D_Format_trapOfWhole 53 rfl) (xb_d D_Format_trapOfWhole 54 rfl) rfl (fun hc13 => ?_) (fun hc13 => ?_)
        · have hw := hw.1 hc13
          exact am_Format_trapOfWhole_L114 l hfl D A σ MC MS h0 Qr h10 hw p e s m args below meth c hC H locs ls k n hE (lv_sub hl [] rfl) hR hS (by omega) (by omega)
        · have hw := hw.2 hc13
          refine lv_iload hx hb (xb_d D_Format_trapOfWhole 55 rfl) (lv_at hl 0 rfl) ?_
          refine lv_if_eq (tgt := 118) hx hb (xb_d D_Format_trapOfWhole 56 rfl) rfl (fun hc14 => ?_) (fun hc14 => ?_)
          · have hw := hw.1 hc14
            exact am_Format_trapOfWhole_L118 l hfl D A σ MC MS h0 Qr h10 hw p e s m args below meth c hC H locs ls k n hE (lv_sub hl [] rfl) hR hS (by omega) (by omega)
          · have hw := hw.2 hc14
            refine lv_lload hx hb (xb_d D_Format_trapOfWhole 57 rfl) (lv_at hl 1 rfl) ?_
            refine lv_lconst (v := 1) hx hb (xb_d D_Format_trapOfWhole 58 rfl) (by decide) ?_
            refine lv_iload_n hx hb (xb_d D_Format_trapOfWhole 59 rfl) rfl (lv_at hl 4 rfl) ?_
            refine lv_iconst (v := 1) hx hb (xb_d D_Format_trapOfWhole 60 rfl) (by decide) ?_
            refine lv_isub hx hb (xb_d D_Format_trapOfWhole 61 rfl) ?_
            refine lv_lshl (v := (xb_lshl 1 (x3 - 1))) hx hb (xb_d D_Format_trapOfWhole 62 rfl) rfl ?_
            refine xb_lc_ne (tgt := 118) hx hb (xb_d D_Format_trapOfWhole 63 rfl) (xb_d D_Format_trapOfWhole 64 rfl) rfl (fun hc15 => ?_) (fun hc15 => ?_)
            · have hw := hw.1 hc15
              exact am_Format_trapOfWhole_L118 l hfl D A σ MC MS h0 Qr h10 hw p e s m args below meth c hC H locs ls k n hE (lv_sub hl [] rfl) hR hS (by omega) (by omega)
            · have hw := hw.2 hc15
              exact am_Format_trapOfWhole_L114 l hfl D A σ MC MS h0 Qr h10 hw p e s m args below meth c hC H locs ls k n hE (lv_sub hl [] rfl) hR hS (by omega) (by omega)
      · have hw := hw.2 hc12
        refine lv_iload hx hb (xb_d D_Format_trapOfWhole 23 rfl) (lv_at hl 0 rfl) ?_
        refine lv_if_eq (tgt := 61) hx hb (xb_d D_Format_trapOfWhole 24 rfl) rfl (fun hc16 => ?_) (fun hc16 => ?_)
        · have hw := hw.1 hc16
          refine lv_iload_n hx hb (xb_d D_Format_trapOfWhole 33 rfl) rfl (lv_at hl 4 rfl) ?_
          refine lv_bipush (v := 64) hx hb (xb_d D_Format_trapOfWhole 34 rfl) (by decide) ?_
          refine lv_icmp_eq (tgt := 77) hx hb (xb_d D_Format_trapOfWhole 35 rfl) rfl (fun hc17 => ?_) (fun hc17 => ?_)
          · have hw := hw.1 hc17
            exact am_Format_trapOfWhole_L77 l hfl D A σ MC MS h0 Qr h10 hw p e s m args below meth c hC H locs ls k n hE (lv_sub hl [] rfl) hR hS (by omega) (by omega)
          · have hw := hw.2 hc17
            refine lv_lload hx hb (xb_d D_Format_trapOfWhole 36 rfl) (lv_at hl 1 rfl) ?_
            refine lv_bipush (v := 32) hx hb (xb_d D_Format_trapOfWhole 37 rfl) (by decide) ?_
            refine lv_lushr (v := (xb_lushr r9 32)) hx hb (xb_d D_Format_trapOfWhole 38 rfl) rfl ?_
            refine lv_lconst (v := 0) hx hb (xb_d D_Format_trapOfWhole 39 rfl) (by decide) ?_
            refine xb_lc_ne (tgt := 81) hx hb (xb_d D_Format_trapOfWhole 40 rfl) (xb_d D_Format_trapOfWhole 41 rfl) rfl (fun hc18 => ?_) (fun hc18 => ?_)
            · have hw := hw.1 hc18
              refine lv_iconst (v := 0) hx hb (xb_d D_Format_trapOfWhole 44 rfl) (by decide) ?_
              exact am_Format_trapOfWhole_L82 l hfl D A σ MC MS h0 Qr 0 h10 hw p e s m args below meth c hC H locs ls k n hE (lv_sub hl [] rfl) hR hS (by omega) (by omega)
            · have hw := hw.2 hc18
              exact am_Format_trapOfWhole_L77 l hfl D A σ MC MS h0 Qr h10 hw p e s m args below meth c hC H locs ls k n hE (lv_sub hl [] rfl) hR hS (by omega) (by omega)
        · have hw := hw.2 hc16
          refine lv_lload hx hb (xb_d D_Format_trapOfWhole 25 rfl) (lv_at hl 1 rfl) ?_
          refine lv_lconst (v := 0) hx hb (xb_d D_Format_trapOfWhole 26 rfl) (by decide) ?_
          refine xb_lc_ne (tgt := 57) hx hb (xb_d D_Format_trapOfWhole 27 rfl) (xb_d D_Format_trapOfWhole 28 rfl) rfl (fun hc19 => ?_) (fun hc19 => ?_)
          · have hw := hw.1 hc19
            refine lv_iconst (v := 0) hx hb (xb_d D_Format_trapOfWhole 31 rfl) (by decide) ?_
            refine lv_goto (tgt := 82) hx hb (xb_d D_Format_trapOfWhole 32 rfl) rfl ?_
            exact am_Format_trapOfWhole_L82 l hfl D A σ MC MS h0 Qr 0 h10 hw p e s m args below meth c hC H locs ls k n hE (lv_sub hl [] rfl) hR hS (by omega) (by omega)
          · have hw := hw.2 hc19
            refine lv_iconst (v := 1) hx hb (xb_d D_Format_trapOfWhole 29 rfl) (by decide) ?_
            refine lv_goto (tgt := 82) hx hb (xb_d D_Format_trapOfWhole 30 rfl) rfl ?_
            exact am_Format_trapOfWhole_L82 l hfl D A σ MC MS h0 Qr 1 h10 hw p e s m args below meth c hC H locs ls k n hE (lv_sub hl [] rfl) hR hS (by omega) (by omega)
    · have hw := hw.2 hc7
      refine lv_iconst (v := 4) hx hb (xb_d D_Format_trapOfWhole 11 rfl) (by decide) ?_
      exact xb_iret 0 0 hx hb hr hlocks (show k + 0 ≤ MC by omega) (show n + 0 ≤ MS by omega) hE hR hS (xb_d D_Format_trapOfWhole 12 rfl) hw
  · have hw := hw.2 hc4
    refine lv_iconst (v := 5) hx hb (xb_d D_Format_trapOfWhole 4 rfl) (by decide) ?_
    exact xb_iret 0 0 hx hb hr hlocks (show k + 0 ≤ MC by omega) (show n + 0 ≤ MS by omega) hE hR hS (xb_d D_Format_trapOfWhole 5 rfl) hw

theorem m_2169ca30 : (.methodLink "StackHost$Machine" 169 y_Machine_enter : Cond) ∈ xt_tbl := xt_in (xt_t7 (List.mem_of_getElem? (i := 230) (by decide +kernel))) (by decide +kernel)
theorem m_e9857fea : (.instanceMethod y_Machine_enter : Cond) ∈ xt_tbl := xt_in (xt_t7 (List.mem_of_getElem? (i := 232) (by decide +kernel))) (by decide +kernel)
theorem m_6e9e1f90 : (.selects "StackHost$Machine" y_Machine_enter y_Machine_enter : Cond) ∈ xt_tbl := xt_in (xt_v6 (q := (⟨"StackHost$Machine", "enter", "(I)V"⟩, 18)) (List.mem_of_getElem? (i := 9) (by decide +kernel))) (by decide +kernel)
theorem m_6008b1ed : (.code y_Machine_enter b_Machine_enter 2 none : Cond) ∈ xt_tbl := xt_in (xt_t7 (List.mem_of_getElem? (i := 233) (by decide +kernel))) (by decide +kernel)
theorem m_982264a8 : (.methodLink "StackHost$Machine" 179 y_Machine_finish : Cond) ∈ xt_tbl := xt_in (xt_t7 (List.mem_of_getElem? (i := 220) (by decide +kernel))) (by decide +kernel)
theorem m_f9ad050c : (.instanceMethod y_Machine_finish : Cond) ∈ xt_tbl := xt_in (xt_t7 (List.mem_of_getElem? (i := 222) (by decide +kernel))) (by decide +kernel)
theorem m_68070468 : (.selects "StackHost$Machine" y_Machine_finish y_Machine_finish : Cond) ∈ xt_tbl := xt_in (xt_v6 (q := (⟨"StackHost$Machine", "finish", "(J)V"⟩, 18)) (List.mem_of_getElem? (i := 8) (by decide +kernel))) (by decide +kernel)
theorem m_3e244fcc : (.code y_Machine_finish b_Machine_finish 3 none : Cond) ∈ xt_tbl := xt_in (xt_t7 (List.mem_of_getElem? (i := 223) (by decide +kernel))) (by decide +kernel)
theorem m_fe0066c0 : (.methodLink "StackHost$Machine" 163 y_StackModule_typeOf : Cond) ∈ xt_tbl := xt_in (xt_t7 (List.mem_of_getElem? (i := 228) (by decide +kernel))) (by decide +kernel)
theorem m_db6ed393 : (.methodLink "StackHost$Machine" 194 y_StackModule_hasResult : Cond) ∈ xt_tbl := xt_in (xt_t8 (List.mem_of_getElem? (i := 3) (by decide +kernel))) (by decide +kernel)
theorem nm_Machine_enter : xt_nm y_Machine_enter 1 := ⟨by decide +kernel, by decide +kernel⟩
theorem nm_Machine_finish : xt_nm y_Machine_finish 1 := ⟨by decide +kernel, by decide +kernel⟩
set_option maxRecDepth 100000 in
def T_Machine_endCall : List (Nat × Instr × Nat) := [(0, .aload_n 0, 1), (1, .getfield 117, 3), (4, .getfield 139, 3), (7, .astore_n 1, 1), (8, .aload_n 0, 1), (9, .getfield 39, 3), (12, .aload_n 0, 1), (13, .getfield 50, 3), (16, .iconst 1, 1), (17, .isub, 1), (18, .iconst 5, 1), (19, .imul, 1), (20, .iconst 1, 1), (21, .iadd, 1), (22, .iaload, 1), (23, .istore_n 2, 1), (24, .aload_n 1, 1), (25, .aload_n 1, 1), (26, .iload_n 2, 1), (27, .invokevirtual 163, 3), (30, .invokevirtual 194, 3), (33, .istore_n 3, 1), (34, .iload_n 3, 1), (35, .ifCond .eq 17, 3), (38, .aload_n 0, 1), (39, .getfield 35, 3), (42, .aload_n 0, 1), (43, .getfield 53, 3), (46, .iconst 1, 1), (47, .isub, 1), (48, .laload, 1), (49, .goto 4, 3), (52, .lconst 0, 1), (53, .lstore 4, 2), (55, .aload_n 0, 1), (56, .aload_n 0, 1), (57, .getfield 188, 3), (60, .putfield 53, 3), (63, .aload_n 0, 1), (64, .dup, 1), (65, .getfield 50, 3), (68, .iconst 1, 1), (69, .isub, 1), (70, .putfield 50, 3), (73, .aload_n 0, 1), (74, .getfield 50, 3), (77, .ifCond .ne 10, 3), (80, .aload_n 0, 1), (81, .lload 4, 2), (83, .invokevirtual 179, 3), (86, .return_, 1), (87, .aload_n 0, 1), (88, .getfield 50, 3), (91, .iconst 1, 1), (92, .isub, 1), (93, .iconst 5, 1), (94, .imul, 1), (95, .istore 6, 2), (97, .aload_n 0, 1), (98, .iload 6, 2), (100, .invokevirtual 169, 3), (103, .aload_n 0, 1), (104, .aload_n 0, 1), (105, .getfield 39, 3), (108, .iload 6, 2), (110, .iconst 2, 1), (111, .iadd, 1), (112, .iaload, 1), (113, .putfield 108, 3), (116, .iload_n 3, 1), (117, .ifCond .eq 9, 3), (120, .aload_n 0, 1), (121, .lload 4, 2), (123, .invokevirtual 198, 3), (126, .return_, 1)]
theorem D_Machine_endCall : ∀ q ∈ T_Machine_endCall, decode b_Machine_endCall q.1 = .ok (q.2.1, q.2.2) := by decide +kernel

set_option maxHeartbeats 4000000 in
set_option maxRecDepth 100000 in
theorem am_Machine_endCall_L126 (l : Launch) (hfl : l.flags = pinnedFlags ++ [noTraceFlag]) (D : va_G) (A : Nat → Prop) (σ MC MS : Nat) (h0 : xb_H) (Qr : xb_H → Prop) (h : xb_H) (hw : w_Machine_endCall_L126 Qr h) : xb_am l D A σ 4 MC MS h0 (fun v h _ _ => v = none ∧ Qr h) (fun _ _ _ _ => False) y_Machine_endCall.cls y_Machine_endCall.name b_Machine_endCall 7 ([] : List ExceptionTableEntry) none 126 [] [] h 0 0 := by
  unfold w_Machine_endCall_L126 at hw
  intro p e s m args below meth c hC H locs ls k n hE hl hR hS hk hn
  obtain ⟨hx, hb, hown, hlocks, htab, hml, hr, hB, hA, hnm⟩ := id hC
  have hts := hB.1.1.at args
  exact xb_vret 0 0 hx hb hr hlocks (show k + 0 ≤ MC by omega) (show n + 0 ≤ MS by omega) hE hR hS (xb_d D_Machine_endCall 74 rfl) hw

set_option maxHeartbeats 4000000 in
set_option maxRecDepth 100000 in
theorem am_Machine_endCall_L53 (l : Launch) (hfl : l.flags = pinnedFlags ++ [noTraceFlag]) (D : va_G) (A : Nat → Prop) (σ MC MS : Nat) (h0 : xb_H) (Qr : xb_H → Prop) (x0 : Nat) (x3 : Int32) (y0 : Int64) (h : xb_H) (hw : w_Machine_endCall_L53 Qr x0 x3 y0 h) : xb_am l D A σ 4 MC MS h0 (fun v h _ _ => v = none ∧ Qr h) (fun _ _ _ _ => False) y_Machine_endCall.cls y_Machine_endCall.name b_Machine_endCall 7 ([] : List ExceptionTableEntry) none 53 [(0, .ref x0), (3, .int x3)] [.long y0] h 0 0 := by
  unfold w_Machine_endCall_L53 at hw
  intro p e s m args below meth c hC H locs ls k n hE hl hR hS hk hn
  obtain ⟨hx, hb, hown, hlocks, htab, hml, hr, hB, hA, hnm⟩ := id hC
  have hts := hB.1.1.at args
  refine lv_lstore hx hb (xb_d D_Machine_endCall 33 rfl) hl (by decide) rfl (fun ls hl => ?_)
  have hl : lv_has ls 7 [(4, .long y0), (0, .ref x0), (3, .int x3)] := hl
  refine lv_aload_n hx hb (xb_d D_Machine_endCall 34 rfl) rfl (lv_at hl 1 rfl) ?_
  refine lv_aload_n hx hb (xb_d D_Machine_endCall 35 rfl) rfl (lv_at hl 1 rfl) ?_
  obtain ⟨hk1, hw⟩ := hw
  refine xb_getI (C := R_Machine) (T := F_Machine) (N := 18) hx hb 7 16 hts fin_Machine hown hR hk1 (by decide) rfl (by decide) rfl (hts _ m_502dfafe) (fun _ h9 => h9) (xb_d D_Machine_endCall 36 rfl) ?_
  refine xb_putI (C := R_Machine) (T := F_Machine) (N := 18) (ty := .int) (x := (xb_i h x0 16)) hx hb 7 10 hts fin_Machine t_Machine t_Machine_ok n_Machine hown hR hS hk1 (by decide) rfl (by decide) rfl (hts _ m_79cf62f6) (fun _ h9 => h9) rfl (by decide +kernel) rfl rfl (xb_d D_Machine_endCall 37 rfl) (fun H locs hR hS => ?_)
  obtain ⟨h2, eh2⟩ : ∃ x : xb_H, x = xb_I h x0 10 (xb_i h x0 16) := ⟨_, rfl⟩
  rw [← eh2] at hR
  have hw := hw h2 eh2
  have hE : xb_ext h0 h2 := by rw [eh2]; exact hE
  refine lv_aload_n hx hb (xb_d D_Machine_endCall 38 rfl) rfl (lv_at hl 1 rfl) ?_
  refine lv_dup hx hb (xb_d D_Machine_endCall 39 rfl) rfl ?_
  have hk1 : xb_k h2 x0 = 8 := by rw [eh2]; exact hk1
  refine xb_getI (C := R_Machine) (T := F_Machine) (N := 18) hx hb 7 4 hts fin_Machine hown hR hk1 (by decide) rfl (by decide) rfl (hts _ m_61f414b6) (fun _ h9 => h9) (xb_d D_Machine_endCall 40 rfl) ?_
  refine lv_iconst (v := 1) hx hb (xb_d D_Machine_endCall 41 rfl) (by decide) ?_
  refine lv_isub hx hb (xb_d D_Machine_endCall 42 rfl) ?_
  refine xb_putI (C := R_Machine) (T := F_Machine) (N := 18) (ty := .int) (x := ((xb_i h2 x0 4) - 1)) hx hb 7 4 hts fin_Machine t_Machine t_Machine_ok n_Machine hown hR hS hk1 (by decide) rfl (by decide) rfl (hts _ m_61f414b6) (fun _ h9 => h9) rfl (by decide +kernel) rfl rfl (xb_d D_Machine_endCall 43 rfl) (fun H locs hR hS => ?_)
  obtain ⟨h3, eh3⟩ : ∃ x : xb_H, x = xb_I h2 x0 4 ((xb_i h2 x0 4) - 1) := ⟨_, rfl⟩
  rw [← eh3] at hR
  have hw := hw h3 eh3
  have hE : xb_ext h0 h3 := by rw [eh3]; exact hE
  refine lv_aload_n hx hb (xb_d D_Machine_endCall 44 rfl) rfl (lv_at hl 1 rfl) ?_
  have hk1 : xb_k h3 x0 = 8 := by rw [eh3]; exact hk1
  refine xb_getI (C := R_Machine) (T := F_Machine) (N := 18) hx hb 7 4 hts fin_Machine hown hR hk1 (by decide) rfl (by decide) rfl (hts _ m_61f414b6) (fun _ h9 => h9) (xb_d D_Machine_endCall 45 rfl) ?_
  refine lv_if_ne (tgt := 87) hx hb (xb_d D_Machine_endCall 46 rfl) rfl (fun hc4 => ?_) (fun hc4 => ?_)
  · have hw := hw.1 hc4
    refine lv_aload_n hx hb (xb_d D_Machine_endCall 51 rfl) rfl (lv_at hl 1 rfl) ?_
    refine xb_getI (C := R_Machine) (T := F_Machine) (N := 18) hx hb 7 4 hts fin_Machine hown hR hk1 (by decide) rfl (by decide) rfl (hts _ m_61f414b6) (fun _ h9 => h9) (xb_d D_Machine_endCall 52 rfl) ?_
    refine lv_iconst (v := 1) hx hb (xb_d D_Machine_endCall 53 rfl) (by decide) ?_
    refine lv_isub hx hb (xb_d D_Machine_endCall 54 rfl) ?_
    refine lv_iconst (v := 5) hx hb (xb_d D_Machine_endCall 55 rfl) (by decide) ?_
    refine lv_imul hx hb (xb_d D_Machine_endCall 56 rfl) ?_
    obtain ⟨v5, ev5⟩ : ∃ x : Int32, x = (((xb_i h3 x0 4) - 1) * 5) := ⟨_, rfl⟩
    have hw := hw v5 ev5
    refine xt_numi (y := v5) ev5.symm ?_
    refine lv_istore hx hb (xb_d D_Machine_endCall 57 rfl) hl (by decide) rfl (fun ls hl => ?_)
    have hl : lv_has ls 7 [(6, .int v5), (4, .long y0), (0, .ref x0), (3, .int x3)] := hl
    refine lv_aload_n hx hb (xb_d D_Machine_endCall 58 rfl) rfl (lv_at hl 2 rfl) ?_
    refine lv_iload hx hb (xb_d D_Machine_endCall 59 rfl) (lv_at hl 0 rfl) ?_
    refine xb_call0 (D := D) (A := A) (σ := σ) (h := h3) (d := 2) (maxL := 2) (rest := []) (av := [.ref x0, .int v5]) (fun T hT X => by obtain ⟨cb9, ra9, rb9, rc9⟩ := xb_recv (ci := 7) hR rfl hk1 (by decide); exact xt_invV X hx hown (hts _ m_2169ca30) (hts _ m_e9857fea) (hts _ m_6e9e1f90) (xt_sigOf (hts _ m_6008b1ed)) nm_Machine_enter (by rw [hT]; exact ra9) rb9 rc9 (g := F0 m 100 ls [.int v5, .ref x0]) rfl (argsL := [.int v5]) (rest := []) rfl rfl (by rw [hb]; exact (xb_d D_Machine_endCall 60 rfl))) (ok_Machine_enter l hfl D A σ x0 v5 h3 _ hw) (hml.trans hl.1.symm) (by rw [hb]; exact (xb_d D_Machine_endCall 60 rfl)) (Nat.le_of_ble_eq_true rfl) (Nat.le_of_ble_eq_true rfl) (Nat.le_of_ble_eq_true rfl) (show k ≤ MC by omega) (show n ≤ MS by omega) (xt_w1 hB.1 m_6008b1ed) (xt_cdOf hB.1 m_6008b1ed) (hts _ m_73451f9b) hB hR hS hA (fun vv h6 H locs hq hEh6 hR hS => ?_)
    obtain ⟨rfl, hw⟩ := hq
    have hw := hw hEh6
    have hE := hE.tr hEh6
    refine W.eq (g2 := F0 m 103 ls []) rfl ?_
    refine lv_aload_n hx hb (xb_d D_Machine_endCall 61 rfl) rfl (lv_at hl 2 rfl) ?_
    refine lv_aload_n hx hb (xb_d D_Machine_endCall 62 rfl) rfl (lv_at hl 2 rfl) ?_
    have hk1 : xb_k h6 x0 = 8 := hEh6.k hk1
    refine xb_getP (C := R_Machine) (T := F_Machine) (N := 18) hx hb 7 11 hts fin_Machine hown hR hk1 (by decide) rfl (by decide) rfl (hts _ m_ca1fb183) (fun _ h9 => h9) (xb_d D_Machine_endCall 63 rfl) ?_
    obtain ⟨b8, eb8, hw⟩ := hw
    refine xb_some eb8 ?_
    refine lv_iload hx hb (xb_d D_Machine_endCall 64 rfl) (lv_at hl 0 rfl) ?_
    refine lv_iconst (v := 2) hx hb (xb_d D_Machine_endCall 65 rfl) (by decide) ?_
    refine lv_iadd hx hb (xb_d D_Machine_endCall 66 rfl) ?_
    obtain ⟨hk10, hw⟩ := hw
    obtain ⟨hi9, hw⟩ := hw
    refine xb_iald hx hb hR hk10 hi9 (xb_d D_Machine_endCall 67 rfl) ?_
    refine xb_putI (C := R_Machine) (T := F_Machine) (N := 18) (ty := .int) (x := (xb_i h6 b8 (Int32.toNatClampNeg (v5 + 2)))) hx hb 7 15 hts fin_Machine t_Machine t_Machine_ok n_Machine hown hR hS hk1 (by decide) rfl (by decide) rfl (hts _ m_6a595805) (fun _ h9 => h9) rfl (by decide +kernel) rfl rfl (xb_d D_Machine_endCall 68 rfl) (fun H locs hR hS => ?_)
    obtain ⟨h11, eh11⟩ : ∃ x : xb_H, x = xb_I h6 x0 15 (xb_i h6 b8 (Int32.toNatClampNeg (v5 + 2))) := ⟨_, rfl⟩
    rw [← eh11] at hR
    have hw := hw h11 eh11
    have hE : xb_ext h0 h11 := by rw [eh11]; exact hE
    refine lv_iload_n hx hb (xb_d D_Machine_endCall 69 rfl) rfl (lv_at hl 3 rfl) ?_
    refine lv_if_eq (tgt := 126) hx hb (xb_d D_Machine_endCall 70 rfl) rfl (fun hc12 => ?_) (fun hc12 => ?_)
    · have hw := hw.1 hc12
      exact am_Machine_endCall_L126 l hfl D A σ MC MS h0 Qr h11 hw p e s m args below meth c hC H locs ls k n hE (lv_sub hl [] rfl) hR hS (by omega) (by omega)
    · have hw := hw.2 hc12
      refine lv_aload_n hx hb (xb_d D_Machine_endCall 71 rfl) rfl (lv_at hl 2 rfl) ?_
      refine lv_lload hx hb (xb_d D_Machine_endCall 72 rfl) (lv_at hl 1 rfl) ?_
      have hk1 : xb_k h11 x0 = 8 := by rw [eh11]; exact hk1
      refine xb_call0 (D := D) (A := A) (σ := σ) (h := h11) (d := 2) (maxL := 3) (rest := []) (av := [.ref x0, .long y0]) (fun T hT X => by obtain ⟨cb9, ra9, rb9, rc9⟩ := xb_recv (ci := 7) hR rfl hk1 (by decide); exact xt_invV X hx hown (hts _ m_b93b25cc) (hts _ m_5256b489) (hts _ m_b846adde) (xt_sigOf (hts _ m_ea231fcd)) nm_Machine_putValue (by rw [hT]; exact ra9) rb9 rc9 (g := F0 m 123 ls [.long y0, .ref x0]) rfl (argsL := [.long y0]) (rest := []) rfl rfl (by rw [hb]; exact (xb_d D_Machine_endCall 73 rfl))) (ok_Machine_putValue l hfl D A σ x0 y0 h11 _ hw) (hml.trans hl.1.symm) (by rw [hb]; exact (xb_d D_Machine_endCall 73 rfl)) (Nat.le_of_ble_eq_true rfl) (Nat.le_of_ble_eq_true rfl) (Nat.le_of_ble_eq_true rfl) (show k ≤ MC by omega) (show n ≤ MS by omega) (xt_w1 hB.1 m_ea231fcd) (xt_cdOf hB.1 m_ea231fcd) (hts _ m_73451f9b) hB hR hS hA (fun vv h13 H locs hq hEh13 hR hS => ?_)
      obtain ⟨rfl, hw⟩ := hq
      have hw := hw hEh13
      have hE := hE.tr hEh13
      refine W.eq (g2 := F0 m 126 ls []) rfl ?_
      exact am_Machine_endCall_L126 l hfl D A σ MC MS h0 Qr h13 hw p e s m args below meth c hC H locs ls k n hE (lv_sub hl [] rfl) hR hS (by omega) (by omega)
  · have hw := hw.2 hc4
    refine lv_aload_n hx hb (xb_d D_Machine_endCall 47 rfl) rfl (lv_at hl 1 rfl) ?_
    refine lv_lload hx hb (xb_d D_Machine_endCall 48 rfl) (lv_at hl 0 rfl) ?_
    refine xb_call0 (D := D) (A := A) (σ := σ) (h := h3) (d := 2) (maxL := 3) (rest := []) (av := [.ref x0, .long y0]) (fun T hT X => by obtain ⟨cb9, ra9, rb9, rc9⟩ := xb_recv (ci := 7) hR rfl hk1 (by decide); exact xt_invV X hx hown (hts _ m_982264a8) (hts _ m_f9ad050c) (hts _ m_68070468) (xt_sigOf (hts _ m_3e244fcc)) nm_Machine_finish (by rw [hT]; exact ra9) rb9 rc9 (g := F0 m 83 ls [.long y0, .ref x0]) rfl (argsL := [.long y0]) (rest := []) rfl rfl (by rw [hb]; exact (xb_d D_Machine_endCall 49 rfl))) (ok_Machine_finish l hfl D A σ x0 y0 h3 _ hw) (hml.trans hl.1.symm) (by rw [hb]; exact (xb_d D_Machine_endCall 49 rfl)) (Nat.le_of_ble_eq_true rfl) (Nat.le_of_ble_eq_true rfl) (Nat.le_of_ble_eq_true rfl) (show k ≤ MC by omega) (show n ≤ MS by omega) (xt_w1 hB.1 m_3e244fcc) (xt_cdOf hB.1 m_3e244fcc) (hts _ m_73451f9b) hB hR hS hA (fun vv h15 H locs hq hEh15 hR hS => ?_)
    obtain ⟨rfl, hw⟩ := hq
    have hw := hw hEh15
    have hE := hE.tr hEh15
    refine W.eq (g2 := F0 m 86 ls []) rfl ?_
    exact xb_vret 0 0 hx hb hr hlocks (show k + 0 ≤ MC by omega) (show n + 0 ≤ MS by omega) hE hR hS (xb_d D_Machine_endCall 50 rfl) hw

set_option maxHeartbeats 4000000 in
set_option maxRecDepth 100000 in
theorem ok_Machine_endCall (l : Launch) (hfl : l.flags = pinnedFlags ++ [noTraceFlag]) (D : va_G) (A : Nat → Prop) (σ : Nat) (x0 : Nat) (h : xb_H) (Qr : xb_H → Prop) (hw : w_Machine_endCall x0 h Qr) : xb_Met l y_Machine_endCall [.code y_Machine_endCall b_Machine_endCall 7 none] (xb_rm 4 0 0) (xb_Pc D A σ h [.ref x0]) (xb_Qc D A h 0 0 (fun v h _ _ => v = none ∧ Qr h) (fun _ _ _ _ => False)) A := by
  refine xb_ofAm (cc := b_Machine_endCall) (by decide) (Nat.le_of_ble_eq_true rfl) ?_
  unfold w_Machine_endCall at hw
  show xb_am l D A σ 4 0 0 h (fun v h _ _ => v = none ∧ Qr h) (fun _ _ _ _ => False) y_Machine_endCall.cls y_Machine_endCall.name b_Machine_endCall 7 ([] : List ExceptionTableEntry) none 0 [(0, .ref x0)] [] h 0 0
  obtain ⟨MC, hMC⟩ : ∃ x, x = 0 := ⟨_, rfl⟩
  obtain ⟨MS, hMS⟩ : ∃ x, x = 0 := ⟨_, rfl⟩
  rw [show xb_am l D A σ 4 0 0 = xb_am l D A σ 4 MC MS by rw [hMC, hMS]]
  obtain ⟨h0, hh0⟩ : ∃ x, x = h := ⟨_, rfl⟩
  rw [show xb_am l D A σ 4 MC MS h = xb_am l D A σ 4 MC MS h0 by rw [hh0]]
  intro p e s m args below meth c hC H locs ls k n hE hl hR hS hk hn
  obtain ⟨hx, hb, hown, hlocks, htab, hml, hr, hB, hA, hnm⟩ := id hC
  have hts := hB.1.1.at args
  refine lv_aload_n hx hb (xb_d D_Machine_endCall 0 rfl) rfl (lv_at hl 0 rfl) ?_
  obtain ⟨hk1, hw⟩ := hw
  refine xb_getP (C := R_Machine) (T := F_Machine) (N := 18) hx hb 7 12 hts fin_Machine hown hR hk1 (by decide) rfl (by decide) rfl (hts _ m_a347cb26) (fun _ h9 => h9) (xb_d D_Machine_endCall 1 rfl) ?_
  obtain ⟨b2, eb2, hw⟩ := hw
  refine xb_some eb2 ?_
  obtain ⟨hk3, hw⟩ := hw
  refine xb_getP (C := R_Instance) (T := F_Instance) (N := 8) hx hb 10 1 hts fin_Instance hown hR hk3 (by decide) rfl (by decide) rfl (hts _ m_142b55ed) (fun _ h9 => h9) (xb_d D_Machine_endCall 2 rfl) ?_
  obtain ⟨b4, eb4, hw⟩ := hw
  refine xb_some eb4 ?_
  refine lv_astore_n hx hb (xb_d D_Machine_endCall 3 rfl) rfl hl (by decide) rfl (fun ls hl => ?_)
  have hl : lv_has ls 7 [(1, .ref b4), (0, .ref x0)] := hl
  refine lv_aload_n hx hb (xb_d D_Machine_endCall 4 rfl) rfl (lv_at hl 1 rfl) ?_
  refine xb_getP (C := R_Machine) (T := F_Machine) (N := 18) hx hb 7 11 hts fin_Machine hown hR hk1 (by decide) rfl (by decide) rfl (hts _ m_ca1fb183) (fun _ h9 => h9) (xb_d D_Machine_endCall 5 rfl) ?_
  obtain ⟨b5, eb5, hw⟩ := hw
  refine xb_some eb5 ?_
  refine lv_aload_n hx hb (xb_d D_Machine_endCall 6 rfl) rfl (lv_at hl 1 rfl) ?_
  refine xb_getI (C := R_Machine) (T := F_Machine) (N := 18) hx hb 7 4 hts fin_Machine hown hR hk1 (by decide) rfl (by decide) rfl (hts _ m_61f414b6) (fun _ h9 => h9) (xb_d D_Machine_endCall 7 rfl) ?_
  refine lv_iconst (v := 1) hx hb (xb_d D_Machine_endCall 8 rfl) (by decide) ?_
  refine lv_isub hx hb (xb_d D_Machine_endCall 9 rfl) ?_
  refine lv_iconst (v := 5) hx hb (xb_d D_Machine_endCall 10 rfl) (by decide) ?_
  refine lv_imul hx hb (xb_d D_Machine_endCall 11 rfl) ?_
  refine lv_iconst (v := 1) hx hb (xb_d D_Machine_endCall 12 rfl) (by decide) ?_
  refine lv_iadd hx hb (xb_d D_Machine_endCall 13 rfl) ?_
  obtain ⟨hk7, hw⟩ := hw
  obtain ⟨hi6, hw⟩ := hw
  refine xb_iald hx hb hR hk7 hi6 (xb_d D_Machine_endCall 14 rfl) ?_
  obtain ⟨v8, ev8⟩ : ∃ x : Int32, x = (xb_i h b5 (Int32.toNatClampNeg ((((xb_i h x0 4) - 1) * 5) + 1))) := ⟨_, rfl⟩
  have hw := hw v8 ev8
  refine xt_numi (y := v8) ev8.symm ?_
  refine lv_istore_n hx hb (xb_d D_Machine_endCall 15 rfl) rfl hl (by decide) rfl (fun ls hl => ?_)
  have hl : lv_has ls 7 [(2, .int v8), (1, .ref b4), (0, .ref x0)] := hl
  refine lv_aload_n hx hb (xb_d D_Machine_endCall 16 rfl) rfl (lv_at hl 1 rfl) ?_
  refine lv_aload_n hx hb (xb_d D_Machine_endCall 17 rfl) rfl (lv_at hl 1 rfl) ?_
  refine lv_iload_n hx hb (xb_d D_Machine_endCall 18 rfl) rfl (lv_at hl 0 rfl) ?_
  obtain ⟨hk9, hw⟩ := hw
  refine xb_call0 (D := D) (A := A) (σ := σ) (h := h) (d := 3) (maxL := 2) (rest := [.ref b4]) (av := [.ref b4, .int v8]) (fun T hT X => by obtain ⟨cb9, ra9, rb9, rc9⟩ := xb_recv (ci := 2) hR rfl hk9 (by decide); exact xt_invV X hx hown (hts _ m_fe0066c0) (hts _ m_eb5729e5) (hts _ m_9cf0d8be) (xt_sigOf (hts _ m_42e2443a)) nm_StackModule_typeOf (by rw [hT]; exact ra9) rb9 rc9 (g := F0 m 27 ls [.int v8, .ref b4, .ref b4]) rfl (argsL := [.int v8]) (rest := [.ref b4]) rfl rfl (by rw [hb]; exact (xb_d D_Machine_endCall 19 rfl))) (ok_StackModule_typeOf l hfl D A σ b4 v8 h _ hw) (hml.trans hl.1.symm) (by rw [hb]; exact (xb_d D_Machine_endCall 19 rfl)) (Nat.le_of_ble_eq_true rfl) (Nat.le_of_ble_eq_true rfl) (Nat.le_of_ble_eq_true rfl) (show k ≤ MC by omega) (show n ≤ MS by omega) (xt_w1 hB.1 m_42e2443a) (xt_cdOf hB.1 m_42e2443a) (hts _ m_9c375545) hB hR hS hA (fun vv h10 H locs hq hEh10 hR hS => ?_)
  obtain ⟨r11, rfl, hw⟩ := hq
  have hw := hw hEh10
  have hE := hE.tr hEh10
  refine W.eq (g2 := F0 m 30 ls [.int r11, .ref b4]) rfl ?_
  have hk9 : xb_k h10 b4 = 3 := hEh10.k hk9
  refine xb_call0 (D := D) (A := A) (σ := σ) (h := h10) (d := 3) (maxL := 2) (rest := []) (av := [.ref b4, .int r11]) (fun T hT X => by obtain ⟨cb9, ra9, rb9, rc9⟩ := xb_recv (ci := 2) hR rfl hk9 (by decide); exact xt_invV X hx hown (hts _ m_db6ed393) (hts _ m_00587e6f) (hts _ m_d605b1a5) (xt_sigOf (hts _ m_ac93cd0b)) nm_StackModule_hasResult (by rw [hT]; exact ra9) rb9 rc9 (g := F0 m 30 ls [.int r11, .ref b4]) rfl (argsL := [.int r11]) (rest := []) rfl rfl (by rw [hb]; exact (xb_d D_Machine_endCall 20 rfl))) (ok_StackModule_hasResult l hfl D A σ b4 r11 h10 _ hw) (hml.trans hl.1.symm) (by rw [hb]; exact (xb_d D_Machine_endCall 20 rfl)) (Nat.le_of_ble_eq_true rfl) (Nat.le_of_ble_eq_true rfl) (Nat.le_of_ble_eq_true rfl) (show k ≤ MC by omega) (show n ≤ MS by omega) (xt_w1 hB.1 m_ac93cd0b) (xt_cdOf hB.1 m_ac93cd0b) (hts _ m_9c375545) hB hR hS hA (fun vv h12 H locs hq hEh12 hR hS => ?_)
  obtain ⟨r13, rfl, hw⟩ := hq
  have hw := hw hEh12
  have hE := hE.tr hEh12
  refine W.eq (g2 := F0 m 33 ls [.int r13]) rfl ?_
  refine lv_istore_n hx hb (xb_d D_Machine_endCall 21 rfl) rfl hl (by decide) rfl (fun ls hl => ?_)
  have hl : lv_has ls 7 [(3, .int r13), (2, .int v8), (1, .ref b4), (0, .ref x0)] := hl
  refine lv_iload_n hx hb (xb_d D_Machine_endCall 22 rfl) rfl (lv_at hl 0 rfl) ?_
  refine lv_if_eq (tgt := 52) hx hb (xb_d D_Machine_endCall 23 rfl) rfl (fun hc14 => ?_) (fun hc14 => ?_)
  · have hw := hw.1 hc14
    refine lv_lconst (v := 0) hx hb (xb_d D_Machine_endCall 32 rfl) (by decide) ?_
    exact am_Machine_endCall_L53 l hfl D A σ MC MS h0 Qr x0 r13 0 h12 hw p e s m args below meth c hC H locs ls k n hE (lv_sub hl [3, 0] rfl) hR hS (by omega) (by omega)
  · have hw := hw.2 hc14
    refine lv_aload_n hx hb (xb_d D_Machine_endCall 24 rfl) rfl (lv_at hl 3 rfl) ?_
    have hk1 : xb_k h10 x0 = 8 := hEh10.k hk1
    have hk1 : xb_k h12 x0 = 8 := hEh12.k hk1
    refine xb_getP (C := R_Machine) (T := F_Machine) (N := 18) hx hb 7 9 hts fin_Machine hown hR hk1 (by decide) rfl (by decide) rfl (hts _ m_6904195b) (fun _ h9 => h9) (xb_d D_Machine_endCall 25 rfl) ?_
    obtain ⟨b15, eb15, hw⟩ := hw
    refine xb_some eb15 ?_
    refine lv_aload_n hx hb (xb_d D_Machine_endCall 26 rfl) rfl (lv_at hl 3 rfl) ?_
    refine xb_getI (C := R_Machine) (T := F_Machine) (N := 18) hx hb 7 10 hts fin_Machine hown hR hk1 (by decide) rfl (by decide) rfl (hts _ m_79cf62f6) (fun _ h9 => h9) (xb_d D_Machine_endCall 27 rfl) ?_
    refine lv_iconst (v := 1) hx hb (xb_d D_Machine_endCall 28 rfl) (by decide) ?_
    refine lv_isub hx hb (xb_d D_Machine_endCall 29 rfl) ?_
    obtain ⟨hk17, hw⟩ := hw
    obtain ⟨hi16, hw⟩ := hw
    refine xb_lald hx hb hR hk17 hi16 (xb_d D_Machine_endCall 30 rfl) ?_
    refine lv_goto (tgt := 53) hx hb (xb_d D_Machine_endCall 31 rfl) rfl ?_
    exact am_Machine_endCall_L53 l hfl D A σ MC MS h0 Qr x0 r13 (xb_l h12 b15 (Int32.toNatClampNeg ((xb_i h12 x0 10) - 1))) h12 hw p e s m args below meth c hC H locs ls k n hE (lv_sub hl [3, 0] rfl) hR hS (by omega) (by omega)

theorem m_87de7cde : (.methodLink "StackHost$Machine" 319 y_Whole_trapOf : Cond) ∈ xt_tbl := xt_in (xt_t8 (List.mem_of_getElem? (i := 179) (by decide +kernel))) (by decide +kernel)
theorem m_8958e44d : (.static y_Whole_trapOf : Cond) ∈ xt_tbl := xt_in (xt_t8 (List.mem_of_getElem? (i := 180) (by decide +kernel))) (by decide +kernel)
theorem m_26bff918 : (.code y_Whole_trapOf b_Whole_trapOf 3 (some .int) : Cond) ∈ xt_tbl := xt_in (xt_t8 (List.mem_of_getElem? (i := 181) (by decide +kernel))) (by decide +kernel)
theorem m_58bf8737 : (.methodLink "StackHost$Machine" 323 y_Whole_reckonShort : Cond) ∈ xt_tbl := xt_in (xt_t8 (List.mem_of_getElem? (i := 182) (by decide +kernel))) (by decide +kernel)
theorem m_fef20738 : (.static y_Whole_reckonShort : Cond) ∈ xt_tbl := xt_in (xt_t8 (List.mem_of_getElem? (i := 183) (by decide +kernel))) (by decide +kernel)
theorem m_ccb58f61 : (.code y_Whole_reckonShort b_Whole_reckonShort 3 (some .int) : Cond) ∈ xt_tbl := xt_in (xt_t8 (List.mem_of_getElem? (i := 184) (by decide +kernel))) (by decide +kernel)
theorem m_8f5db99d : (.methodLink "StackHost$Machine" 156 y_Machine_fall : Cond) ∈ xt_tbl := xt_in (xt_t7 (List.mem_of_getElem? (i := 215) (by decide +kernel))) (by decide +kernel)
theorem m_0ddc8afe : (.instanceMethod y_Machine_fall : Cond) ∈ xt_tbl := xt_in (xt_t7 (List.mem_of_getElem? (i := 217) (by decide +kernel))) (by decide +kernel)
theorem m_f5561462 : (.selects "StackHost$Machine" y_Machine_fall y_Machine_fall : Cond) ∈ xt_tbl := xt_in (xt_v6 (q := (⟨"StackHost$Machine", "fall", "(I)V"⟩, 18)) (List.mem_of_getElem? (i := 7) (by decide +kernel))) (by decide +kernel)
theorem m_f0d4fd47 : (.code y_Machine_fall b_Machine_fall 3 none : Cond) ∈ xt_tbl := xt_in (xt_t7 (List.mem_of_getElem? (i := 218) (by decide +kernel))) (by decide +kernel)
theorem m_a6c2974f : (.constant "StackHost$Machine" 318 (-2147483648) : Cond) ∈ xt_tbl := xt_in (xt_t8 (List.mem_of_getElem? (i := 178) (by decide +kernel))) (by decide +kernel)
theorem m_f7f2804e : (.methodLink "StackHost$Machine" 315 y_Whole_countShort : Cond) ∈ xt_tbl := xt_in (xt_t8 (List.mem_of_getElem? (i := 167) (by decide +kernel))) (by decide +kernel)
theorem m_569fe569 : (.static y_Whole_countShort : Cond) ∈ xt_tbl := xt_in (xt_t8 (List.mem_of_getElem? (i := 168) (by decide +kernel))) (by decide +kernel)
theorem m_22b18125 : (.code y_Whole_countShort b_Whole_countShort 2 (some .int) : Cond) ∈ xt_tbl := xt_in (xt_t8 (List.mem_of_getElem? (i := 169) (by decide +kernel))) (by decide +kernel)
theorem nm_Whole_trapOf : xt_nm y_Whole_trapOf 3 := ⟨by decide +kernel, by decide +kernel⟩
theorem nm_Whole_reckonShort : xt_nm y_Whole_reckonShort 3 := ⟨by decide +kernel, by decide +kernel⟩
theorem nm_Machine_fall : xt_nm y_Machine_fall 1 := ⟨by decide +kernel, by decide +kernel⟩
theorem nm_Whole_countShort : xt_nm y_Whole_countShort 2 := ⟨by decide +kernel, by decide +kernel⟩
set_option maxRecDepth 100000 in
def T_Machine_reckonShort : List (Nat × Instr × Nat) := [(0, .aload_n 0, 1), (1, .getfield 35, 3), (4, .aload_n 0, 1), (5, .getfield 53, 3), (8, .iconst 1, 1), (9, .isub, 1), (10, .laload, 1), (11, .l2i, 1), (12, .istore_n 2, 1), (13, .iload_n 1, 1), (14, .bipush 105, 2), (16, .if_icmp .gt 24, 3), (19, .aload_n 0, 1), (20, .getfield 35, 3), (23, .aload_n 0, 1), (24, .getfield 53, 3), (27, .iconst 1, 1), (28, .isub, 1), (29, .iload_n 1, 1), (30, .bipush 103, 2), (32, .isub, 1), (33, .iload_n 2, 1), (34, .invokestatic 315, 3), (37, .i2l, 1), (38, .lastore, 1), (39, .return_, 1), (40, .aload_n 0, 1), (41, .getfield 35, 3), (44, .aload_n 0, 1), (45, .getfield 53, 3), (48, .iconst 2, 1), (49, .isub, 1), (50, .laload, 1), (51, .l2i, 1), (52, .istore_n 3, 1), (53, .iload_n 1, 1), (54, .bipush 106, 2), (56, .isub, 1), (57, .istore 4, 2), (59, .iload 4, 2), (61, .iload_n 2, 1), (62, .ifCond .ne 7, 3), (65, .iconst 1, 1), (66, .goto 4, 3), (69, .iconst 0, 1), (70, .iload_n 3, 1), (71, .ldc_w 318, 3), (74, .if_icmp .ne 12, 3), (77, .iload_n 2, 1), (78, .iconst (-1), 1), (79, .if_icmp .ne 7, 3), (82, .iconst 1, 1), (83, .goto 4, 3), (86, .iconst 0, 1), (87, .invokestatic 319, 3), (90, .istore 5, 2), (92, .iload 5, 2), (94, .ifCond .eq 10, 3), (97, .aload_n 0, 1), (98, .iload 5, 2), (100, .invokevirtual 156, 3), (103, .return_, 1), (104, .aload_n 0, 1), (105, .dup, 1), (106, .getfield 53, 3), (109, .iconst 1, 1), (110, .isub, 1), (111, .putfield 53, 3), (114, .aload_n 0, 1), (115, .getfield 35, 3), (118, .aload_n 0, 1), (119, .getfield 53, 3), (122, .iconst 1, 1), (123, .isub, 1), (124, .iload 4, 2), (126, .iload_n 3, 1), (127, .iload_n 2, 1), (128, .invokestatic 323, 3), (131, .i2l, 1), (132, .ldc2_w 74, 3), (135, .land, 1), (136, .lastore, 1), (137, .return_, 1)]
theorem D_Machine_reckonShort : ∀ q ∈ T_Machine_reckonShort, decode b_Machine_reckonShort q.1 = .ok (q.2.1, q.2.2) := by decide +kernel

set_option maxHeartbeats 4000000 in
set_option maxRecDepth 100000 in
theorem am_Machine_reckonShort_L87 (l : Launch) (hfl : l.flags = pinnedFlags ++ [noTraceFlag]) (D : va_G) (A : Nat → Prop) (σ MC MS : Nat) (h0 : xb_H) (Qr : xb_H → Prop) (x0 : Nat) (x2 : Int32) (x3 : Int32) (x4 : Int32) (y0 : Int32) (y1 : Int32) (y2 : Int32) (h : xb_H) (hw : w_Machine_reckonShort_L87 Qr x0 x2 x3 x4 y0 y1 y2 h) : xb_am l D A σ 4 MC MS h0 (fun v h _ _ => v = none ∧ Qr h) (fun _ _ _ _ => False) y_Machine_reckonShort.cls y_Machine_reckonShort.name b_Machine_reckonShort 6 ([] : List ExceptionTableEntry) none 87 [(0, .ref x0), (2, .int x2), (3, .int x3), (4, .int x4)] [.int y0, .int y1, .int y2] h 0 0 := by
  unfold w_Machine_reckonShort_L87 at hw
  intro p e s m args below meth c hC H locs ls k n hE hl hR hS hk hn
  obtain ⟨hx, hb, hown, hlocks, htab, hml, hr, hB, hA, hnm⟩ := id hC
  have hts := hB.1.1.at args
  refine xb_call0 (D := D) (A := A) (σ := σ) (h := h) (d := 2) (maxL := 3) (rest := []) (av := [.int y2, .int y1, .int y0]) (fun T hT X => xt_invS X hx hown (hts _ m_87de7cde) (hts _ m_8958e44d) (hts _ m_912e4ef6) (xt_sgS (hts _ m_26bff918)).1 (xt_sgS (hts _ m_26bff918)).2 nm_Whole_trapOf (g := F0 m 87 ls [.int y0, .int y1, .int y2]) rfl (argsL := [.int y2, .int y1, .int y0]) (rest := []) rfl rfl (by rw [hb]; exact (xb_d D_Machine_reckonShort 54 rfl))) (ok_Whole_trapOf l hfl D A σ y2 y1 y0 h _ hw) (hml.trans hl.1.symm) (by rw [hb]; exact (xb_d D_Machine_reckonShort 54 rfl)) (Nat.le_of_ble_eq_true rfl) (Nat.le_of_ble_eq_true rfl) (Nat.le_of_ble_eq_true rfl) (show k ≤ MC by omega) (show n ≤ MS by omega) (xt_w1 hB.1 m_26bff918) (xt_cdOf hB.1 m_26bff918) (hts _ m_912e4ef6) hB hR hS hA (fun vv h1 H locs hq hEh1 hR hS => ?_)
  obtain ⟨r2, rfl, hw⟩ := hq
  have hw := hw hEh1
  have hE := hE.tr hEh1
  refine W.eq (g2 := F0 m 90 ls [.int r2]) rfl ?_
  refine lv_istore hx hb (xb_d D_Machine_reckonShort 55 rfl) hl (by decide) rfl (fun ls hl => ?_)
  have hl : lv_has ls 6 [(5, .int r2), (0, .ref x0), (2, .int x2), (3, .int x3), (4, .int x4)] := hl
  refine lv_iload hx hb (xb_d D_Machine_reckonShort 56 rfl) (lv_at hl 0 rfl) ?_
  refine lv_if_eq (tgt := 104) hx hb (xb_d D_Machine_reckonShort 57 rfl) rfl (fun hc3 => ?_) (fun hc3 => ?_)
  · have hw := hw.1 hc3
    refine lv_aload_n hx hb (xb_d D_Machine_reckonShort 62 rfl) rfl (lv_at hl 1 rfl) ?_
    refine lv_dup hx hb (xb_d D_Machine_reckonShort 63 rfl) rfl ?_
    obtain ⟨hk4, hw⟩ := hw
    refine xb_getI (C := R_Machine) (T := F_Machine) (N := 18) hx hb 7 10 hts fin_Machine hown hR hk4 (by decide) rfl (by decide) rfl (hts _ m_79cf62f6) (fun _ h9 => h9) (xb_d D_Machine_reckonShort 64 rfl) ?_
    refine lv_iconst (v := 1) hx hb (xb_d D_Machine_reckonShort 65 rfl) (by decide) ?_
    refine lv_isub hx hb (xb_d D_Machine_reckonShort 66 rfl) ?_
    refine xb_putI (C := R_Machine) (T := F_Machine) (N := 18) (ty := .int) (x := ((xb_i h1 x0 10) - 1)) hx hb 7 10 hts fin_Machine t_Machine t_Machine_ok n_Machine hown hR hS hk4 (by decide) rfl (by decide) rfl (hts _ m_79cf62f6) (fun _ h9 => h9) rfl (by decide +kernel) rfl rfl (xb_d D_Machine_reckonShort 67 rfl) (fun H locs hR hS => ?_)
    obtain ⟨h5, eh5⟩ : ∃ x : xb_H, x = xb_I h1 x0 10 ((xb_i h1 x0 10) - 1) := ⟨_, rfl⟩
    rw [← eh5] at hR
    have hw := hw h5 eh5
    have hE : xb_ext h0 h5 := by rw [eh5]; exact hE
    refine lv_aload_n hx hb (xb_d D_Machine_reckonShort 68 rfl) rfl (lv_at hl 1 rfl) ?_
    have hk4 : xb_k h5 x0 = 8 := by rw [eh5]; exact hk4
    refine xb_getP (C := R_Machine) (T := F_Machine) (N := 18) hx hb 7 9 hts fin_Machine hown hR hk4 (by decide) rfl (by decide) rfl (hts _ m_6904195b) (fun _ h9 => h9) (xb_d D_Machine_reckonShort 69 rfl) ?_
    obtain ⟨b6, eb6, hw⟩ := hw
    refine xb_some eb6 ?_
    refine lv_aload_n hx hb (xb_d D_Machine_reckonShort 70 rfl) rfl (lv_at hl 1 rfl) ?_
    refine xb_getI (C := R_Machine) (T := F_Machine) (N := 18) hx hb 7 10 hts fin_Machine hown hR hk4 (by decide) rfl (by decide) rfl (hts _ m_79cf62f6) (fun _ h9 => h9) (xb_d D_Machine_reckonShort 71 rfl) ?_
    refine lv_iconst (v := 1) hx hb (xb_d D_Machine_reckonShort 72 rfl) (by decide) ?_
    refine lv_isub hx hb (xb_d D_Machine_reckonShort 73 rfl) ?_
    refine lv_iload hx hb (xb_d D_Machine_reckonShort 74 rfl) (lv_at hl 4 rfl) ?_
    refine lv_iload_n hx hb (xb_d D_Machine_reckonShort 75 rfl) rfl (lv_at hl 3 rfl) ?_
    refine lv_iload_n hx hb (xb_d D_Machine_reckonShort 76 rfl) rfl (lv_at hl 2 rfl) ?_
    refine xb_call0 (D := D) (A := A) (σ := σ) (h := h5) (d := 3) (maxL := 3) (rest := [.int ((xb_i h5 x0 10) - 1), .ref b6]) (av := [.int x4, .int x3, .int x2]) (fun T hT X => xt_invS X hx hown (hts _ m_58bf8737) (hts _ m_fef20738) (hts _ m_912e4ef6) (xt_sgS (hts _ m_ccb58f61)).1 (xt_sgS (hts _ m_ccb58f61)).2 nm_Whole_reckonShort (g := F0 m 128 ls [.int x2, .int x3, .int x4, .int ((xb_i h5 x0 10) - 1), .ref b6]) rfl (argsL := [.int x4, .int x3, .int x2]) (rest := [.int ((xb_i h5 x0 10) - 1), .ref b6]) rfl rfl (by rw [hb]; exact (xb_d D_Machine_reckonShort 77 rfl))) (ok_Whole_reckonShort l hfl D A σ x4 x3 x2 h5 _ hw) (hml.trans hl.1.symm) (by rw [hb]; exact (xb_d D_Machine_reckonShort 77 rfl)) (Nat.le_of_ble_eq_true rfl) (Nat.le_of_ble_eq_true rfl) (Nat.le_of_ble_eq_true rfl) (show k ≤ MC by omega) (show n ≤ MS by omega) (xt_w1 hB.1 m_ccb58f61) (xt_cdOf hB.1 m_ccb58f61) (hts _ m_912e4ef6) hB hR hS hA (fun vv h7 H locs hq hEh7 hR hS => ?_)
    obtain ⟨r8, rfl, hw⟩ := hq
    have hw := hw hEh7
    have hE := hE.tr hEh7
    refine W.eq (g2 := F0 m 131 ls [.int r8, .int ((xb_i h5 x0 10) - 1), .ref b6]) rfl ?_
    refine lv_i2l hx hb (xb_d D_Machine_reckonShort 78 rfl) rfl ?_
    refine lv_ldc2 (v := 4294967295) hx hb hown (hts _ m_2b0551dd) (xb_d D_Machine_reckonShort 79 rfl) ?_
    refine lv_land hx hb (xb_d D_Machine_reckonShort 80 rfl) ?_
    obtain ⟨hk9, hw⟩ := hw
    obtain ⟨hi10, hw⟩ := hw
    refine xb_last hx hb hR hS hk9 hi10 (xb_d D_Machine_reckonShort 81 rfl) (fun H locs hR hS => ?_)
    obtain ⟨h11, eh11⟩ : ∃ x : xb_H, x = xb_L h7 b6 (Int32.toNatClampNeg ((xb_i h5 x0 10) - 1)) ((Int32.toInt64 r8) &&& 4294967295) := ⟨_, rfl⟩
    rw [← eh11] at hR
    have hw := hw h11 eh11
    have hE : xb_ext h0 h11 := by rw [eh11]; exact hE
    exact xb_vret 0 0 hx hb hr hlocks (show k + 0 ≤ MC by omega) (show n + 0 ≤ MS by omega) hE hR hS (xb_d D_Machine_reckonShort 82 rfl) hw
  · have hw := hw.2 hc3
    refine lv_aload_n hx hb (xb_d D_Machine_reckonShort 58 rfl) rfl (lv_at hl 1 rfl) ?_
    refine lv_iload hx hb (xb_d D_Machine_reckonShort 59 rfl) (lv_at hl 0 rfl) ?_
    obtain ⟨hk12, hw⟩ := hw
    refine xb_call0 (D := D) (A := A) (σ := σ) (h := h1) (d := 2) (maxL := 3) (rest := []) (av := [.ref x0, .int r2]) (fun T hT X => by obtain ⟨cb9, ra9, rb9, rc9⟩ := xb_recv (ci := 7) hR rfl hk12 (by decide); exact xt_invV X hx hown (hts _ m_8f5db99d) (hts _ m_0ddc8afe) (hts _ m_f5561462) (xt_sigOf (hts _ m_f0d4fd47)) nm_Machine_fall (by rw [hT]; exact ra9) rb9 rc9 (g := F0 m 100 ls [.int r2, .ref x0]) rfl (argsL := [.int r2]) (rest := []) rfl rfl (by rw [hb]; exact (xb_d D_Machine_reckonShort 60 rfl))) (ok_Machine_fall l hfl D A σ x0 r2 h1 _ hw) (hml.trans hl.1.symm) (by rw [hb]; exact (xb_d D_Machine_reckonShort 60 rfl)) (Nat.le_of_ble_eq_true rfl) (Nat.le_of_ble_eq_true rfl) (Nat.le_of_ble_eq_true rfl) (show k ≤ MC by omega) (show n ≤ MS by omega) (xt_w1 hB.1 m_f0d4fd47) (xt_cdOf hB.1 m_f0d4fd47) (hts _ m_73451f9b) hB hR hS hA (fun vv h13 H locs hq hEh13 hR hS => ?_)
    obtain ⟨rfl, hw⟩ := hq
    have hw := hw hEh13
    have hE := hE.tr hEh13
    refine W.eq (g2 := F0 m 103 ls []) rfl ?_
    exact xb_vret 0 0 hx hb hr hlocks (show k + 0 ≤ MC by omega) (show n + 0 ≤ MS by omega) hE hR hS (xb_d D_Machine_reckonShort 61 rfl) hw

set_option maxHeartbeats 4000000 in
set_option maxRecDepth 100000 in
theorem am_Machine_reckonShort_L86 (l : Launch) (hfl : l.flags = pinnedFlags ++ [noTraceFlag]) (D : va_G) (A : Nat → Prop) (σ MC MS : Nat) (h0 : xb_H) (Qr : xb_H → Prop) (x0 : Nat) (x2 : Int32) (x3 : Int32) (x4 : Int32) (y0 : Int32) (y1 : Int32) (h : xb_H) (hw : w_Machine_reckonShort_L86 Qr x0 x2 x3 x4 y0 y1 h) : xb_am l D A σ 4 MC MS h0 (fun v h _ _ => v = none ∧ Qr h) (fun _ _ _ _ => False) y_Machine_reckonShort.cls y_Machine_reckonShort.name b_Machine_reckonShort 6 ([] : List ExceptionTableEntry) none 86 [(0, .ref x0), (2, .int x2), (3, .int x3), (4, .int x4)] [.int y0, .int y1] h 0 0 := by
  unfold w_Machine_reckonShort_L86 at hw
  intro p e s m args below meth c hC H locs ls k n hE hl hR hS hk hn
  obtain ⟨hx, hb, hown, hlocks, htab, hml, hr, hB, hA, hnm⟩ := id hC
  have hts := hB.1.1.at args
  refine lv_iconst (v := 0) hx hb (xb_d D_Machine_reckonShort 53 rfl) (by decide) ?_
  exact am_Machine_reckonShort_L87 l hfl D A σ MC MS h0 Qr x0 x2 x3 x4 0 y0 y1 h hw p e s m args below meth c hC H locs ls k n hE (lv_sub hl [0, 1, 2, 3] rfl) hR hS (by omega) (by omega)

set_option maxHeartbeats 4000000 in
set_option maxRecDepth 100000 in
theorem am_Machine_reckonShort_L70 (l : Launch) (hfl : l.flags = pinnedFlags ++ [noTraceFlag]) (D : va_G) (A : Nat → Prop) (σ MC MS : Nat) (h0 : xb_H) (Qr : xb_H → Prop) (x0 : Nat) (x2 : Int32) (x3 : Int32) (x4 : Int32) (y0 : Int32) (y1 : Int32) (h : xb_H) (hw : w_Machine_reckonShort_L70 Qr x0 x2 x3 x4 y0 y1 h) : xb_am l D A σ 4 MC MS h0 (fun v h _ _ => v = none ∧ Qr h) (fun _ _ _ _ => False) y_Machine_reckonShort.cls y_Machine_reckonShort.name b_Machine_reckonShort 6 ([] : List ExceptionTableEntry) none 70 [(0, .ref x0), (2, .int x2), (3, .int x3), (4, .int x4)] [.int y0, .int y1] h 0 0 := by
  unfold w_Machine_reckonShort_L70 at hw
  intro p e s m args below meth c hC H locs ls k n hE hl hR hS hk hn
  obtain ⟨hx, hb, hown, hlocks, htab, hml, hr, hB, hA, hnm⟩ := id hC
  have hts := hB.1.1.at args
  refine lv_iload_n hx hb (xb_d D_Machine_reckonShort 45 rfl) rfl (lv_at hl 2 rfl) ?_
  refine lv_ldcw (v := (-2147483648)) hx hb hown (hts _ m_a6c2974f) (xb_d D_Machine_reckonShort 46 rfl) ?_
  refine lv_icmp_ne (tgt := 86) hx hb (xb_d D_Machine_reckonShort 47 rfl) rfl (fun hc1 => ?_) (fun hc1 => ?_)
  · have hw := hw.1 hc1
    exact am_Machine_reckonShort_L86 l hfl D A σ MC MS h0 Qr x0 x2 x3 x4 y0 y1 h hw p e s m args below meth c hC H locs ls k n hE (lv_sub hl [0, 1, 2, 3] rfl) hR hS (by omega) (by omega)
  · have hw := hw.2 hc1
    refine lv_iload_n hx hb (xb_d D_Machine_reckonShort 48 rfl) rfl (lv_at hl 1 rfl) ?_
    refine lv_iconst (v := (-1)) hx hb (xb_d D_Machine_reckonShort 49 rfl) (by decide) ?_
    refine lv_icmp_ne (tgt := 86) hx hb (xb_d D_Machine_reckonShort 50 rfl) rfl (fun hc2 => ?_) (fun hc2 => ?_)
    · have hw := hw.1 hc2
      exact am_Machine_reckonShort_L86 l hfl D A σ MC MS h0 Qr x0 x2 x3 x4 y0 y1 h hw p e s m args below meth c hC H locs ls k n hE (lv_sub hl [0, 1, 2, 3] rfl) hR hS (by omega) (by omega)
    · have hw := hw.2 hc2
      refine lv_iconst (v := 1) hx hb (xb_d D_Machine_reckonShort 51 rfl) (by decide) ?_
      refine lv_goto (tgt := 87) hx hb (xb_d D_Machine_reckonShort 52 rfl) rfl ?_
      exact am_Machine_reckonShort_L87 l hfl D A σ MC MS h0 Qr x0 x2 x3 x4 1 y0 y1 h hw p e s m args below meth c hC H locs ls k n hE (lv_sub hl [0, 1, 2, 3] rfl) hR hS (by omega) (by omega)

set_option maxHeartbeats 4000000 in
set_option maxRecDepth 100000 in
theorem ok_Machine_reckonShort (l : Launch) (hfl : l.flags = pinnedFlags ++ [noTraceFlag]) (D : va_G) (A : Nat → Prop) (σ : Nat) (x0 : Nat) (x1 : Int32) (h : xb_H) (Qr : xb_H → Prop) (hw : w_Machine_reckonShort x0 x1 h Qr) : xb_Met l y_Machine_reckonShort [.code y_Machine_reckonShort b_Machine_reckonShort 6 none] (xb_rm 4 0 0) (xb_Pc D A σ h [.ref x0, .int x1]) (xb_Qc D A h 0 0 (fun v h _ _ => v = none ∧ Qr h) (fun _ _ _ _ => False)) A := by
  refine xb_ofAm (cc := b_Machine_reckonShort) (by decide) (Nat.le_of_ble_eq_true rfl) ?_
  unfold w_Machine_reckonShort at hw
  show xb_am l D A σ 4 0 0 h (fun v h _ _ => v = none ∧ Qr h) (fun _ _ _ _ => False) y_Machine_reckonShort.cls y_Machine_reckonShort.name b_Machine_reckonShort 6 ([] : List ExceptionTableEntry) none 0 [(0, .ref x0), (1, .int x1)] [] h 0 0
  obtain ⟨MC, hMC⟩ : ∃ x, x = 0 := ⟨_, rfl⟩
  obtain ⟨MS, hMS⟩ : ∃ x, x = 0 := ⟨_, rfl⟩
  rw [show xb_am l D A σ 4 0 0 = xb_am l D A σ 4 MC MS by rw [hMC, hMS]]
  obtain ⟨h0, hh0⟩ : ∃ x, x = h := ⟨_, rfl⟩
  rw [show xb_am l D A σ 4 MC MS h = xb_am l D A σ 4 MC MS h0 by rw [hh0]]
  intro p e s m args below meth c hC H locs ls k n hE hl hR hS hk hn
  obtain ⟨hx, hb, hown, hlocks, htab, hml, hr, hB, hA, hnm⟩ := id hC
  have hts := hB.1.1.at args
  refine lv_aload_n hx hb (xb_d D_Machine_reckonShort 0 rfl) rfl (lv_at hl 0 rfl) ?_
  obtain ⟨hk1, hw⟩ := hw
  refine xb_getP (C := R_Machine) (T := F_Machine) (N := 18) hx hb 7 9 hts fin_Machine hown hR hk1 (by decide) rfl (by decide) rfl (hts _ m_6904195b) (fun _ h9 => h9) (xb_d D_Machine_reckonShort 1 rfl) ?_
  obtain ⟨b2, eb2, hw⟩ := hw
  refine xb_some eb2 ?_
  refine lv_aload_n hx hb (xb_d D_Machine_reckonShort 2 rfl) rfl (lv_at hl 0 rfl) ?_
  refine xb_getI (C := R_Machine) (T := F_Machine) (N := 18) hx hb 7 10 hts fin_Machine hown hR hk1 (by decide) rfl (by decide) rfl (hts _ m_79cf62f6) (fun _ h9 => h9) (xb_d D_Machine_reckonShort 3 rfl) ?_
  refine lv_iconst (v := 1) hx hb (xb_d D_Machine_reckonShort 4 rfl) (by decide) ?_
  refine lv_isub hx hb (xb_d D_Machine_reckonShort 5 rfl) ?_
  obtain ⟨hk4, hw⟩ := hw
  obtain ⟨hi3, hw⟩ := hw
  refine xb_lald hx hb hR hk4 hi3 (xb_d D_Machine_reckonShort 6 rfl) ?_
  refine lv_l2i hx hb (xb_d D_Machine_reckonShort 7 rfl) rfl ?_
  obtain ⟨v5, ev5⟩ : ∃ x : Int32, x = (Int64.toInt32 (xb_l h b2 (Int32.toNatClampNeg ((xb_i h x0 10) - 1)))) := ⟨_, rfl⟩
  have hw := hw v5 ev5
  refine xt_numi (y := v5) ev5.symm ?_
  refine lv_istore_n hx hb (xb_d D_Machine_reckonShort 8 rfl) rfl hl (by decide) rfl (fun ls hl => ?_)
  have hl : lv_has ls 6 [(2, .int v5), (0, .ref x0), (1, .int x1)] := hl
  refine lv_iload_n hx hb (xb_d D_Machine_reckonShort 9 rfl) rfl (lv_at hl 2 rfl) ?_
  refine lv_bipush (v := 105) hx hb (xb_d D_Machine_reckonShort 10 rfl) (by decide) ?_
  refine lv_icmp_gt (tgt := 40) hx hb (xb_d D_Machine_reckonShort 11 rfl) rfl (fun hc6 => ?_) (fun hc6 => ?_)
  · have hw := hw.1 hc6
    refine lv_aload_n hx hb (xb_d D_Machine_reckonShort 26 rfl) rfl (lv_at hl 1 rfl) ?_
    refine xb_getP (C := R_Machine) (T := F_Machine) (N := 18) hx hb 7 9 hts fin_Machine hown hR hk1 (by decide) rfl (by decide) rfl (hts _ m_6904195b) (fun _ h9 => h9) (xb_d D_Machine_reckonShort 27 rfl) ?_
    obtain ⟨b7, eb7, hw⟩ := hw
    refine xb_some eb7 ?_
    refine lv_aload_n hx hb (xb_d D_Machine_reckonShort 28 rfl) rfl (lv_at hl 1 rfl) ?_
    refine xb_getI (C := R_Machine) (T := F_Machine) (N := 18) hx hb 7 10 hts fin_Machine hown hR hk1 (by decide) rfl (by decide) rfl (hts _ m_79cf62f6) (fun _ h9 => h9) (xb_d D_Machine_reckonShort 29 rfl) ?_
    refine lv_iconst (v := 2) hx hb (xb_d D_Machine_reckonShort 30 rfl) (by decide) ?_
    refine lv_isub hx hb (xb_d D_Machine_reckonShort 31 rfl) ?_
    obtain ⟨hk9, hw⟩ := hw
    obtain ⟨hi8, hw⟩ := hw
    refine xb_lald hx hb hR hk9 hi8 (xb_d D_Machine_reckonShort 32 rfl) ?_
    refine lv_l2i hx hb (xb_d D_Machine_reckonShort 33 rfl) rfl ?_
    obtain ⟨v10, ev10⟩ : ∃ x : Int32, x = (Int64.toInt32 (xb_l h b7 (Int32.toNatClampNeg ((xb_i h x0 10) - 2)))) := ⟨_, rfl⟩
    have hw := hw v10 ev10
    refine xt_numi (y := v10) ev10.symm ?_
    refine lv_istore_n hx hb (xb_d D_Machine_reckonShort 34 rfl) rfl hl (by decide) rfl (fun ls hl => ?_)
    have hl : lv_has ls 6 [(3, .int v10), (2, .int v5), (0, .ref x0), (1, .int x1)] := hl
    refine lv_iload_n hx hb (xb_d D_Machine_reckonShort 35 rfl) rfl (lv_at hl 3 rfl) ?_
    refine lv_bipush (v := 106) hx hb (xb_d D_Machine_reckonShort 36 rfl) (by decide) ?_
    refine lv_isub hx hb (xb_d D_Machine_reckonShort 37 rfl) ?_
    obtain ⟨v11, ev11⟩ : ∃ x : Int32, x = (x1 - 106) := ⟨_, rfl⟩
    have hw := hw v11 ev11
    refine xt_numi (y := v11) ev11.symm ?_
    refine lv_istore hx hb (xb_d D_Machine_reckonShort 38 rfl) hl (by decide) rfl (fun ls hl => ?_)
    have hl : lv_has ls 6 [(4, .int v11), (3, .int v10), (2, .int v5), (0, .ref x0), (1, .int x1)] := hl
    refine lv_iload hx hb (xb_d D_Machine_reckonShort 39 rfl) (lv_at hl 0 rfl) ?_
    refine lv_iload_n hx hb (xb_d D_Machine_reckonShort 40 rfl) rfl (lv_at hl 2 rfl) ?_
    refine lv_if_ne (tgt := 69) hx hb (xb_d D_Machine_reckonShort 41 rfl) rfl (fun hc12 => ?_) (fun hc12 => ?_)
    · have hw := hw.1 hc12
      refine lv_iconst (v := 0) hx hb (xb_d D_Machine_reckonShort 44 rfl) (by decide) ?_
      exact am_Machine_reckonShort_L70 l hfl D A σ MC MS h0 Qr x0 v5 v10 v11 0 v11 h hw p e s m args below meth c hC H locs ls k n hE (lv_sub hl [3, 2, 1, 0] rfl) hR hS (by omega) (by omega)
    · have hw := hw.2 hc12
      refine lv_iconst (v := 1) hx hb (xb_d D_Machine_reckonShort 42 rfl) (by decide) ?_
      refine lv_goto (tgt := 70) hx hb (xb_d D_Machine_reckonShort 43 rfl) rfl ?_
      exact am_Machine_reckonShort_L70 l hfl D A σ MC MS h0 Qr x0 v5 v10 v11 1 v11 h hw p e s m args below meth c hC H locs ls k n hE (lv_sub hl [3, 2, 1, 0] rfl) hR hS (by omega) (by omega)
  · have hw := hw.2 hc6
    refine lv_aload_n hx hb (xb_d D_Machine_reckonShort 12 rfl) rfl (lv_at hl 1 rfl) ?_
    refine xb_getP (C := R_Machine) (T := F_Machine) (N := 18) hx hb 7 9 hts fin_Machine hown hR hk1 (by decide) rfl (by decide) rfl (hts _ m_6904195b) (fun _ h9 => h9) (xb_d D_Machine_reckonShort 13 rfl) ?_
    obtain ⟨b13, eb13, hw⟩ := hw
    refine xb_some eb13 ?_
    refine lv_aload_n hx hb (xb_d D_Machine_reckonShort 14 rfl) rfl (lv_at hl 1 rfl) ?_
    refine xb_getI (C := R_Machine) (T := F_Machine) (N := 18) hx hb 7 10 hts fin_Machine hown hR hk1 (by decide) rfl (by decide) rfl (hts _ m_79cf62f6) (fun _ h9 => h9) (xb_d D_Machine_reckonShort 15 rfl) ?_
    refine lv_iconst (v := 1) hx hb (xb_d D_Machine_reckonShort 16 rfl) (by decide) ?_
    refine lv_isub hx hb (xb_d D_Machine_reckonShort 17 rfl) ?_
    refine lv_iload_n hx hb (xb_d D_Machine_reckonShort 18 rfl) rfl (lv_at hl 2 rfl) ?_
    refine lv_bipush (v := 103) hx hb (xb_d D_Machine_reckonShort 19 rfl) (by decide) ?_
    refine lv_isub hx hb (xb_d D_Machine_reckonShort 20 rfl) ?_
    refine lv_iload_n hx hb (xb_d D_Machine_reckonShort 21 rfl) rfl (lv_at hl 0 rfl) ?_
    refine xb_call0 (D := D) (A := A) (σ := σ) (h := h) (d := 3) (maxL := 2) (rest := [.int ((xb_i h x0 10) - 1), .ref b13]) (av := [.int (x1 - 103), .int v5]) (fun T hT X => xt_invS X hx hown (hts _ m_f7f2804e) (hts _ m_569fe569) (hts _ m_912e4ef6) (xt_sgS (hts _ m_22b18125)).1 (xt_sgS (hts _ m_22b18125)).2 nm_Whole_countShort (g := F0 m 34 ls [.int v5, .int (x1 - 103), .int ((xb_i h x0 10) - 1), .ref b13]) rfl (argsL := [.int (x1 - 103), .int v5]) (rest := [.int ((xb_i h x0 10) - 1), .ref b13]) rfl rfl (by rw [hb]; exact (xb_d D_Machine_reckonShort 22 rfl))) (ok_Whole_countShort l hfl D A σ (x1 - 103) v5 h _ hw) (hml.trans hl.1.symm) (by rw [hb]; exact (xb_d D_Machine_reckonShort 22 rfl)) (Nat.le_of_ble_eq_true rfl) (Nat.le_of_ble_eq_true rfl) (Nat.le_of_ble_eq_true rfl) (show k ≤ MC by omega) (show n ≤ MS by omega) (xt_w1 hB.1 m_22b18125) (xt_cdOf hB.1 m_22b18125) (hts _ m_912e4ef6) hB hR hS hA (fun vv h14 H locs hq hEh14 hR hS => ?_)
    obtain ⟨r15, rfl, hw⟩ := hq
    have hw := hw hEh14
    have hE := hE.tr hEh14
    refine W.eq (g2 := F0 m 37 ls [.int r15, .int ((xb_i h x0 10) - 1), .ref b13]) rfl ?_
    refine lv_i2l hx hb (xb_d D_Machine_reckonShort 23 rfl) rfl ?_
    obtain ⟨hk16, hw⟩ := hw
    obtain ⟨hi17, hw⟩ := hw
    refine xb_last hx hb hR hS hk16 hi17 (xb_d D_Machine_reckonShort 24 rfl) (fun H locs hR hS => ?_)
    obtain ⟨h18, eh18⟩ : ∃ x : xb_H, x = xb_L h14 b13 (Int32.toNatClampNeg ((xb_i h x0 10) - 1)) (Int32.toInt64 r15) := ⟨_, rfl⟩
    rw [← eh18] at hR
    have hw := hw h18 eh18
    have hE : xb_ext h0 h18 := by rw [eh18]; exact hE
    exact xb_vret 0 0 hx hb hr hlocks (show k + 0 ≤ MC by omega) (show n + 0 ≤ MS by omega) hE hR hS (xb_d D_Machine_reckonShort 25 rfl) hw

