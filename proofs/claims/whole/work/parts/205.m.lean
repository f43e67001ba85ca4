set_option maxRecDepth 100000 in
def T_Exact_count : List (Nat × Instr × Nat) := [(0, .iconst 0, 1), (1, .istore 4, 2), (3, .iconst 0, 1), (4, .istore 5, 2), (6, .iload_n 2, 1), (7, .istore 6, 2), (9, .iload_n 2, 1), (10, .istore 7, 2), (12, .iconst 0, 1), (13, .istore 8, 2), (15, .iload 8, 2), (17, .iload_n 2, 1), (18, .if_icmp .ge 81, 3), (21, .lload_n 0, 1), (22, .iload 8, 2), (24, .lshr, 1), (25, .lconst 1, 1), (26, .land, 1), (27, .lconst 1, 1), (28, .lcmp, 1), (29, .ifCond .ne 7, 3), (32, .iconst 1, 1), (33, .goto 4, 3), (36, .iconst 0, 1), (37, .istore 9, 2), (39, .iload 9, 2), (41, .ifCond .eq 10, 3), (44, .iload 5, 2), (46, .iconst 1, 1), (47, .iadd, 1), (48, .goto 5, 3), (51, .iload 5, 2), (53, .istore 5, 2), (55, .iload 9, 2), (57, .ifCond .eq 12, 3), (60, .iload_n 2, 1), (61, .iconst 1, 1), (62, .isub, 1), (63, .iload 8, 2), (65, .isub, 1), (66, .goto 5, 3), (69, .iload 6, 2), (71, .istore 6, 2), (73, .iload 9, 2), (75, .ifCond .eq 14, 3), (78, .iload 7, 2), (80, .iload_n 2, 1), (81, .if_icmp .ne 8, 3), (84, .iload 8, 2), (86, .goto 5, 3), (89, .iload 7, 2), (91, .istore 7, 2), (93, .iinc 8 1, 3), (96, .goto (-81), 3), (99, .iload_n 3, 1), (100, .ifCond .ne 8, 3), (103, .iload 6, 2), (105, .goto 15, 3), (108, .iload_n 3, 1), (109, .iconst 1, 1), (110, .if_icmp .ne 8, 3), (113, .iload 7, 2), (115, .goto 5, 3), (118, .iload 5, 2), (120, .istore 4, 2), (122, .iload 4, 2), (124, .ireturn, 1)]
theorem D_Exact_count : ∀ q ∈ T_Exact_count, decode b_Exact_count q.1 = .ok (q.2.1, q.2.2) := by decide +kernel

set_option maxHeartbeats 4000000 in
set_option maxRecDepth 100000 in
theorem am_Exact_count_L120 (l : Launch) (hfl : l.flags = pinnedFlags ++ [noTraceFlag]) (D : va_G) (A : Nat → Prop) (σ MC MS : Nat) (h0 : xb_H) (Qr : Int32 → xb_H → Prop) (y0 : Int32) (h : xb_H) (hw : w_Exact_count_L120 Qr y0 h) : xb_am l D A σ 2 MC MS h0 (fun v h _ _ => ∃ r, v = some (.int r) ∧ Qr r h) (fun _ _ _ _ => False) y_Exact_count.cls y_Exact_count.name b_Exact_count 10 ([] : List ExceptionTableEntry) (some .int) 120 [] [.int y0] h 0 0 := by
  unfold w_Exact_count_L120 at hw
  intro p e s m args below meth c hC H locs ls k n hE hl hR hS hk hn
  obtain ⟨hx, hb, hown, hlocks, htab, hml, hr, hB, hA, hnm⟩ := id hC
  have hts := hB.1.1.at args
  refine lv_istore hx hb (xb_d D_Exact_count 64 rfl) hl (by decide) rfl (fun ls hl => ?_)
  have hl : lv_has ls 10 [(4, .int y0)] := hl
  refine lv_iload hx hb (xb_d D_Exact_count 65 rfl) (lv_at hl 0 rfl) ?_
  exact xb_iret 0 0 hx hb hr hlocks (show k + 0 ≤ MC by omega) (show n + 0 ≤ MS by omega) hE hR hS (xb_d D_Exact_count 66 rfl) hw

set_option maxHeartbeats 4000000 in
set_option maxRecDepth 100000 in
theorem am_Exact_count_L91 (l : Launch) (hfl : l.flags = pinnedFlags ++ [noTraceFlag]) (D : va_G) (A : Nat → Prop) (σ MC MS : Nat) (h0 : xb_H) (Qr : Int32 → xb_H → Prop) (K15 : Int64 → Int32 → Int32 → Int32 → Int32 → Int32 → Int32 → xb_H → Prop) (hK15 : ∀ (x0 : Int64) (x2 : Int32) (x3 : Int32) (x5 : Int32) (x6 : Int32) (x7 : Int32) (x8 : Int32) (h : xb_H), K15 x0 x2 x3 x5 x6 x7 x8 h → xb_am l D A σ 2 MC MS h0 (fun v h _ _ => ∃ r, v = some (.int r) ∧ Qr r h) (fun _ _ _ _ => False) y_Exact_count.cls y_Exact_count.name b_Exact_count 10 ([] : List ExceptionTableEntry) (some .int) 15 [(0, .long x0), (2, .int x2), (3, .int x3), (5, .int x5), (6, .int x6), (7, .int x7), (8, .int x8)] [] h 0 0) (x0 : Int64) (x2 : Int32) (x3 : Int32) (x5 : Int32) (x6 : Int32) (x8 : Int32) (y0 : Int32) (h : xb_H) (hw : w_Exact_count_L91 K15 Qr x0 x2 x3 x5 x6 x8 y0 h) : xb_am l D A σ 2 MC MS h0 (fun v h _ _ => ∃ r, v = some (.int r) ∧ Qr r h) (fun _ _ _ _ => False) y_Exact_count.cls y_Exact_count.name b_Exact_count 10 ([] : List ExceptionTableEntry) (some .int) 91 [(0, .long x0), (2, .int x2), (3, .int x3), (5, .int x5), (6, .int x6), (8, .int x8)] [.int y0] h 0 0 := by
  unfold w_Exact_count_L91 at hw
  intro p e s m args below meth c hC H locs ls k n hE hl hR hS hk hn
  obtain ⟨hx, hb, hown, hlocks, htab, hml, hr, hB, hA, hnm⟩ := id hC
  have hts := hB.1.1.at args
  refine lv_istore hx hb (xb_d D_Exact_count 51 rfl) hl (by decide) rfl (fun ls hl => ?_)
  have hl : lv_has ls 10 [(7, .int y0), (0, .long x0), (2, .int x2), (3, .int x3), (5, .int x5), (6, .int x6), (8, .int x8)] := hl
  refine lv_iinc (v := (x8 + 1)) (k := 6) hx hb (xb_d D_Exact_count 52 rfl) hl rfl (by first | rfl | decide) (by decide) rfl (fun ls hl => ?_)
  have hl : lv_has ls 10 [(8, .int (x8 + 1)), (7, .int y0), (0, .long x0), (2, .int x2), (3, .int x3), (5, .int x5), (6, .int x6)] := hl
  refine lv_goto (tgt := 15) hx hb (xb_d D_Exact_count 53 rfl) rfl ?_
  exact hK15 x0 x2 x3 x5 x6 y0 (x8 + 1) h hw p e s m args below meth c hC H locs ls k n hE (lv_sub hl [2, 3, 4, 5, 6, 1, 0] rfl) hR hS (by omega) (by omega)

set_option maxHeartbeats 4000000 in
set_option maxRecDepth 100000 in
theorem am_Exact_count_L89 (l : Launch) (hfl : l.flags = pinnedFlags ++ [noTraceFlag]) (D : va_G) (A : Nat → Prop) (σ MC MS : Nat) (h0 : xb_H) (Qr : Int32 → xb_H → Prop) (K15 : Int64 → Int32 → Int32 → Int32 → Int32 → Int32 → Int32 → xb_H → Prop) (hK15 : ∀ (x0 : Int64) (x2 : Int32) (x3 : Int32) (x5 : Int32) (x6 : Int32) (x7 : Int32) (x8 : Int32) (h : xb_H), K15 x0 x2 x3 x5 x6 x7 x8 h → xb_am l D A σ 2 MC MS h0 (fun v h _ _ => ∃ r, v = some (.int r) ∧ Qr r h) (fun _ _ _ _ => False) y_Exact_count.cls y_Exact_count.name b_Exact_count 10 ([] : List ExceptionTableEntry) (some .int) 15 [(0, .long x0), (2, .int x2), (3, .int x3), (5, .int x5), (6, .int x6), (7, .int x7), (8, .int x8)] [] h 0 0) (x0 : Int64) (x2 : Int32) (x3 : Int32) (x5 : Int32) (x6 : Int32) (x7 : Int32) (x8 : Int32) (h : xb_H) (hw : w_Exact_count_L89 K15 Qr x0 x2 x3 x5 x6 x7 x8 h) : xb_am l D A σ 2 MC MS h0 (fun v h _ _ => ∃ r, v = some (.int r) ∧ Qr r h) (fun _ _ _ _ => False) y_Exact_count.cls y_Exact_count.name b_Exact_count 10 ([] : List ExceptionTableEntry) (some .int) 89 [(0, .long x0), (2, .int x2), (3, .int x3), (5, .int x5), (6, .int x6), (7, .int x7), (8, .int x8)] [] h 0 0 := by
  unfold w_Exact_count_L89 at hw
  intro p e s m args below meth c hC H locs ls k n hE hl hR hS hk hn
  obtain ⟨hx, hb, hown, hlocks, htab, hml, hr, hB, hA, hnm⟩ := id hC
  have hts := hB.1.1.at args
  refine lv_iload hx hb (xb_d D_Exact_count 50 rfl) (lv_at hl 5 rfl) ?_
  exact am_Exact_count_L91 l hfl D A σ MC MS h0 Qr K15 hK15 x0 x2 x3 x5 x6 x8 x7 h hw p e s m args below meth c hC H locs ls k n hE (lv_sub hl [0, 1, 2, 3, 4, 6] rfl) hR hS (by omega) (by omega)

set_option maxHeartbeats 4000000 in
set_option maxRecDepth 100000 in
theorem am_Exact_count_L71 (l : Launch) (hfl : l.flags = pinnedFlags ++ [noTraceFlag]) (D : va_G) (A : Nat → Prop) (σ MC MS : Nat) (h0 : xb_H) (Qr : Int32 → xb_H → Prop) (K15 : Int64 → Int32 → Int32 → Int32 → Int32 → Int32 → Int32 → xb_H → Prop) (hK15 : ∀ (x0 : Int64) (x2 : Int32) (x3 : Int32) (x5 : Int32) (x6 : Int32) (x7 : Int32) (x8 : Int32) (h : xb_H), K15 x0 x2 x3 x5 x6 x7 x8 h → xb_am l D A σ 2 MC MS h0 (fun v h _ _ => ∃ r, v = some (.int r) ∧ Qr r h) (fun _ _ _ _ => False) y_Exact_count.cls y_Exact_count.name b_Exact_count 10 ([] : List ExceptionTableEntry) (some .int) 15 [(0, .long x0), (2, .int x2), (3, .int x3), (5, .int x5), (6, .int x6), (7, .int x7), (8, .int x8)] [] h 0 0) (x0 : Int64) (x2 : Int32) (x3 : Int32) (x5 : Int32) (x7 : Int32) (x8 : Int32) (x9 : Int32) (y0 : Int32) (h : xb_H) (hw : w_Exact_count_L71 K15 Qr x0 x2 x3 x5 x7 x8 x9 y0 h) : xb_am l D A σ 2 MC MS h0 (fun v h _ _ => ∃ r, v = some (.int r) ∧ Qr r h) (fun _ _ _ _ => False) y_Exact_count.cls y_Exact_count.name b_Exact_count 10 ([] : List ExceptionTableEntry) (some .int) 71 [(0, .long x0), (2, .int x2), (3, .int x3), (5, .int x5), (7, .int x7), (8, .int x8), (9, .int x9)] [.int y0] h 0 0 := by
  unfold w_Exact_count_L71 at hw
  intro p e s m args below meth c hC H locs ls k n hE hl hR hS hk hn
  obtain ⟨hx, hb, hown, hlocks, htab, hml, hr, hB, hA, hnm⟩ := id hC
  have hts := hB.1.1.at args
  refine lv_istore hx hb (xb_d D_Exact_count 42 rfl) hl (by decide) rfl (fun ls hl => ?_)
  have hl : lv_has ls 10 [(6, .int y0), (0, .long x0), (2, .int x2), (3, .int x3), (5, .int x5), (7, .int x7), (8, .int x8), (9, .int x9)] := hl
  refine lv_iload hx hb (xb_d D_Exact_count 43 rfl) (lv_at hl 7 rfl) ?_
  refine lv_if_eq (tgt := 89) hx hb (xb_d D_Exact_count 44 rfl) rfl (fun hc1 => ?_) (fun hc1 => ?_)
  · have hw := hw.1 hc1
    exact am_Exact_count_L89 l hfl D A σ MC MS h0 Qr K15 hK15 x0 x2 x3 x5 y0 x7 x8 h hw p e s m args below meth c hC H locs ls k n hE (lv_sub hl [1, 2, 3, 4, 0, 5, 6] rfl) hR hS (by omega) (by omega)
  · have hw := hw.2 hc1
    refine lv_iload hx hb (xb_d D_Exact_count 45 rfl) (lv_at hl 5 rfl) ?_
    refine lv_iload_n hx hb (xb_d D_Exact_count 46 rfl) rfl (lv_at hl 2 rfl) ?_
    refine lv_icmp_ne (tgt := 89) hx hb (xb_d D_Exact_count 47 rfl) rfl (fun hc2 => ?_) (fun hc2 => ?_)
    · have hw := hw.1 hc2
      exact am_Exact_count_L89 l hfl D A σ MC MS h0 Qr K15 hK15 x0 x2 x3 x5 y0 x7 x8 h hw p e s m args below meth c hC H locs ls k n hE (lv_sub hl [1, 2, 3, 4, 0, 5, 6] rfl) hR hS (by omega) (by omega)
    · have hw := hw.2 hc2
      refine lv_iload hx hb (xb_d D_Exact_count 48 rfl) (lv_at hl 6 rfl) ?_
      refine lv_goto (tgt := 91) hx hb (xb_d D_Exact_count 49 rfl) rfl ?_
      exact am_Exact_count_L91 l hfl D A σ MC MS h0 Qr K15 hK15 x0 x2 x3 x5 y0 x8 x8 h hw p e s m args below meth c hC H locs ls k n hE (lv_sub hl [1, 2, 3, 4, 0, 6] rfl) hR hS (by omega) (by omega)

set_option maxHeartbeats 4000000 in
set_option maxRecDepth 100000 in
theorem am_Exact_count_L53 (l : Launch) (hfl : l.flags = pinnedFlags ++ [noTraceFlag]) (D : va_G) (A : Nat → Prop) (σ MC MS : Nat) (h0 : xb_H) (Qr : Int32 → xb_H → Prop) (K15 : Int64 → Int32 → Int32 → Int32 → Int32 → Int32 → Int32 → xb_H → Prop) (hK15 : ∀ (x0 : Int64) (x2 : Int32) (x3 : Int32) (x5 : Int32) (x6 : Int32) (x7 : Int32) (x8 : Int32) (h : xb_H), K15 x0 x2 x3 x5 x6 x7 x8 h → xb_am l D A σ 2 MC MS h0 (fun v h _ _ => ∃ r, v = some (.int r) ∧ Qr r h) (fun _ _ _ _ => False) y_Exact_count.cls y_Exact_count.name b_Exact_count 10 ([] : List ExceptionTableEntry) (some .int) 15 [(0, .long x0), (2, .int x2), (3, .int x3), (5, .int x5), (6, .int x6), (7, .int x7), (8, .int x8)] [] h 0 0) (x0 : Int64) (x2 : Int32) (x3 : Int32) (x6 : Int32) (x7 : Int32) (x8 : Int32) (x9 : Int32) (y0 : Int32) (h : xb_H) (hw : w_Exact_count_L53 K15 Qr x0 x2 x3 x6 x7 x8 x9 y0 h) : xb_am l D A σ 2 MC MS h0 (fun v h _ _ => ∃ r, v = some (.int r) ∧ Qr r h) (fun _ _ _ _ => False) y_Exact_count.cls y_Exact_count.name b_Exact_count 10 ([] : List ExceptionTableEntry) (some .int) 53 [(0, .long x0), (2, .int x2), (3, .int x3), (6, .int x6), (7, .int x7), (8, .int x8), (9, .int x9)] [.int y0] h 0 0 := by
  unfold w_Exact_count_L53 at hw
  intro p e s m args below meth c hC H locs ls k n hE hl hR hS hk hn
  obtain ⟨hx, hb, hown, hlocks, htab, hml, hr, hB, hA, hnm⟩ := id hC
  have hts := hB.1.1.at args
  refine lv_istore hx hb (xb_d D_Exact_count 32 rfl) hl (by decide) rfl (fun ls hl => ?_)
  have hl : lv_has ls 10 [(5, .int y0), (0, .long x0), (2, .int x2), (3, .int x3), (6, .int x6), (7, .int x7), (8, .int x8), (9, .int x9)] := hl
  refine lv_iload hx hb (xb_d D_Exact_count 33 rfl) (lv_at hl 7 rfl) ?_
  refine lv_if_eq (tgt := 69) hx hb (xb_d D_Exact_count 34 rfl) rfl (fun hc1 => ?_) (fun hc1 => ?_)
  · have hw := hw.1 hc1
    refine lv_iload hx hb (xb_d D_Exact_count 41 rfl) (lv_at hl 4 rfl) ?_
    exact am_Exact_count_L71 l hfl D A σ MC MS h0 Qr K15 hK15 x0 x2 x3 y0 x7 x8 x9 x6 h hw p e s m args below meth c hC H locs ls k n hE (lv_sub hl [1, 2, 3, 0, 5, 6, 7] rfl) hR hS (by omega) (by omega)
  · have hw := hw.2 hc1
    refine lv_iload_n hx hb (xb_d D_Exact_count 35 rfl) rfl (lv_at hl 2 rfl) ?_
    refine lv_iconst (v := 1) hx hb (xb_d D_Exact_count 36 rfl) (by decide) ?_
    refine lv_isub hx hb (xb_d D_Exact_count 37 rfl) ?_
    refine lv_iload hx hb (xb_d D_Exact_count 38 rfl) (lv_at hl 6 rfl) ?_
    refine lv_isub hx hb (xb_d D_Exact_count 39 rfl) ?_
    refine lv_goto (tgt := 71) hx hb (xb_d D_Exact_count 40 rfl) rfl ?_
    exact am_Exact_count_L71 l hfl D A σ MC MS h0 Qr K15 hK15 x0 x2 x3 y0 x7 x8 x9 ((x2 - 1) - x8) h hw p e s m args below meth c hC H locs ls k n hE (lv_sub hl [1, 2, 3, 0, 5, 6, 7] rfl) hR hS (by omega) (by omega)

set_option maxHeartbeats 4000000 in
set_option maxRecDepth 100000 in
theorem am_Exact_count_L37 (l : Launch) (hfl : l.flags = pinnedFlags ++ [noTraceFlag]) (D : va_G) (A : Nat → Prop) (σ MC MS : Nat) (h0 : xb_H) (Qr : Int32 → xb_H → Prop) (K15 : Int64 → Int32 → Int32 → Int32 → Int32 → Int32 → Int32 → xb_H → Prop) (hK15 : ∀ (x0 : Int64) (x2 : Int32) (x3 : Int32) (x5 : Int32) (x6 : Int32) (x7 : Int32) (x8 : Int32) (h : xb_H), K15 x0 x2 x3 x5 x6 x7 x8 h → xb_am l D A σ 2 MC MS h0 (fun v h _ _ => ∃ r, v = some (.int r) ∧ Qr r h) (fun _ _ _ _ => False) y_Exact_count.cls y_Exact_count.name b_Exact_count 10 ([] : List ExceptionTableEntry) (some .int) 15 [(0, .long x0), (2, .int x2), (3, .int x3), (5, .int x5), (6, .int x6), (7, .int x7), (8, .int x8)] [] h 0 0) (x0 : Int64) (x2 : Int32) (x3 : Int32) (x5 : Int32) (x6 : Int32) (x7 : Int32) (x8 : Int32) (y0 : Int32) (h : xb_H) (hw : w_Exact_count_L37 K15 Qr x0 x2 x3 x5 x6 x7 x8 y0 h) : xb_am l D A σ 2 MC MS h0 (fun v h _ _ => ∃ r, v = some (.int r) ∧ Qr r h) (fun _ _ _ _ => False) y_Exact_count.cls y_Exact_count.name b_Exact_count 10 ([] : List ExceptionTableEntry) (some .int) 37 [(0, .long x0), (2, .int x2), (3, .int x3), (5, .int x5), (6, .int x6), (7, .int x7), (8, .int x8)] [.int y0] h 0 0 := by
  unfold w_Exact_count_L37 at hw
  intro p e s m args below meth c hC H locs ls k n hE hl hR hS hk hn
  obtain ⟨hx, hb, hown, hlocks, htab, hml, hr, hB, hA, hnm⟩ := id hC
  have hts := hB.1.1.at args
  refine lv_istore hx hb (xb_d D_Exact_count 24 rfl) hl (by decide) rfl (fun ls hl => ?_)
  have hl : lv_has ls 10 [(9, .int y0), (0, .long x0), (2, .int x2), (3, .int x3), (5, .int x5), (6, .int x6), (7, .int x7), (8, .int x8)] := hl
  refine lv_iload hx hb (xb_d D_Exact_count 25 rfl) (lv_at hl 0 rfl) ?_
  refine lv_if_eq (tgt := 51) hx hb (xb_d D_Exact_count 26 rfl) rfl (fun hc1 => ?_) (fun hc1 => ?_)
  · have hw := hw.1 hc1
    refine lv_iload hx hb (xb_d D_Exact_count 31 rfl) (lv_at hl 4 rfl) ?_
    exact am_Exact_count_L53 l hfl D A σ MC MS h0 Qr K15 hK15 x0 x2 x3 x6 x7 x8 y0 x5 h hw p e s m args below meth c hC H locs ls k n hE (lv_sub hl [1, 2, 3, 5, 6, 7, 0] rfl) hR hS (by omega) (by omega)
  · have hw := hw.2 hc1
    refine lv_iload hx hb (xb_d D_Exact_count 27 rfl) (lv_at hl 4 rfl) ?_
    refine lv_iconst (v := 1) hx hb (xb_d D_Exact_count 28 rfl) (by decide) ?_
    refine lv_iadd hx hb (xb_d D_Exact_count 29 rfl) ?_
    refine lv_goto (tgt := 53) hx hb (xb_d D_Exact_count 30 rfl) rfl ?_
    exact am_Exact_count_L53 l hfl D A σ MC MS h0 Qr K15 hK15 x0 x2 x3 x6 x7 x8 y0 (x5 + 1) h hw p e s m args below meth c hC H locs ls k n hE (lv_sub hl [1, 2, 3, 5, 6, 7, 0] rfl) hR hS (by omega) (by omega)

set_option maxHeartbeats 4000000 in
set_option maxRecDepth 100000 in
theorem am_Exact_count_L15 (l : Launch) (hfl : l.flags = pinnedFlags ++ [noTraceFlag]) (D : va_G) (A : Nat → Prop) (σ MC MS : Nat) (h0 : xb_H) (Qr : Int32 → xb_H → Prop) (n9 : Nat) : ∀ (x0 : Int64) (x2 : Int32) (x3 : Int32) (x5 : Int32) (x6 : Int32) (x7 : Int32) (x8 : Int32) (h : xb_H), w_Exact_count_L15 Qr n9 x0 x2 x3 x5 x6 x7 x8 h → xb_am l D A σ 2 MC MS h0 (fun v h _ _ => ∃ r, v = some (.int r) ∧ Qr r h) (fun _ _ _ _ => False) y_Exact_count.cls y_Exact_count.name b_Exact_count 10 ([] : List ExceptionTableEntry) (some .int) 15 [(0, .long x0), (2, .int x2), (3, .int x3), (5, .int x5), (6, .int x6), (7, .int x7), (8, .int x8)] [] h 0 0 := by
  induction n9 with
  | zero => intro x0 x2 x3 x5 x6 x7 x8 h hw; exact False.elim hw
  | succ n9 ih =>
    intro x0 x2 x3 x5 x6 x7 x8 h hw
    unfold w_Exact_count_L15 at hw
    intro p e s m args below meth c hC H locs ls k n hE hl hR hS hk hn
    obtain ⟨hx, hb, hown, hlocks, htab, hml, hr, hB, hA, hnm⟩ := id hC
    have hts := hB.1.1.at args
    refine lv_iload hx hb (xb_d D_Exact_count 10 rfl) (lv_at hl 6 rfl) ?_
    refine lv_iload_n hx hb (xb_d D_Exact_count 11 rfl) rfl (lv_at hl 1 rfl) ?_
    refine lv_icmp_ge (tgt := 99) hx hb (xb_d D_Exact_count 12 rfl) rfl (fun hc1 => ?_) (fun hc1 => ?_)
    · have hw := hw.1 hc1
      refine lv_iload_n hx hb (xb_d D_Exact_count 54 rfl) rfl (lv_at hl 2 rfl) ?_
      refine lv_if_ne (tgt := 108) hx hb (xb_d D_Exact_count 55 rfl) rfl (fun hc2 => ?_) (fun hc2 => ?_)
      · have hw := hw.1 hc2
        refine lv_iload_n hx hb (xb_d D_Exact_count 58 rfl) rfl (lv_at hl 2 rfl) ?_
        refine lv_iconst (v := 1) hx hb (xb_d D_Exact_count 59 rfl) (by decide) ?_
        refine lv_icmp_ne (tgt := 118) hx hb (xb_d D_Exact_count 60 rfl) rfl (fun hc3 => ?_) (fun hc3 => ?_)
        · have hw := hw.1 hc3
          refine lv_iload hx hb (xb_d D_Exact_count 63 rfl) (lv_at hl 3 rfl) ?_
          exact am_Exact_count_L120 l hfl D A σ MC MS h0 Qr x5 h hw p e s m args below meth c hC H locs ls k n hE (lv_sub hl [] rfl) hR hS (by omega) (by omega)
        · have hw := hw.2 hc3
          refine lv_iload hx hb (xb_d D_Exact_count 61 rfl) (lv_at hl 5 rfl) ?_
          refine lv_goto (tgt := 120) hx hb (xb_d D_Exact_count 62 rfl) rfl ?_
          exact am_Exact_count_L120 l hfl D A σ MC MS h0 Qr x7 h hw p e s m args below meth c hC H locs ls k n hE (lv_sub hl [] rfl) hR hS (by omega) (by omega)
      · have hw := hw.2 hc2
        refine lv_iload hx hb (xb_d D_Exact_count 56 rfl) (lv_at hl 4 rfl) ?_
        refine lv_goto (tgt := 120) hx hb (xb_d D_Exact_count 57 rfl) rfl ?_
        exact am_Exact_count_L120 l hfl D A σ MC MS h0 Qr x6 h hw p e s m args below meth c hC H locs ls k n hE (lv_sub hl [] rfl) hR hS (by omega) (by omega)
    · have hw := hw.2 hc1
      refine lv_lload_n hx hb (xb_d D_Exact_count 13 rfl) rfl (lv_at hl 0 rfl) ?_
      refine lv_iload hx hb (xb_d D_Exact_count 14 rfl) (lv_at hl 6 rfl) ?_
      refine lv_lshr (v := (xb_lshr x0 x8)) hx hb (xb_d D_Exact_count 15 rfl) rfl ?_
      refine lv_lconst (v := 1) hx hb (xb_d D_Exact_count 16 rfl) (by decide) ?_
      refine lv_land hx hb (xb_d D_Exact_count 17 rfl) ?_
      refine lv_lconst (v := 1) hx hb (xb_d D_Exact_count 18 rfl) (by decide) ?_
      refine xb_lc_ne (tgt := 36) hx hb (xb_d D_Exact_count 19 rfl) (xb_d D_Exact_count 20 rfl) rfl (fun hc4 => ?_) (fun hc4 => ?_)
      · have hw := hw.1 hc4
        refine lv_iconst (v := 0) hx hb (xb_d D_Exact_count 23 rfl) (by decide) ?_
        exact am_Exact_count_L37 l hfl D A σ MC MS h0 Qr (w_Exact_count_L15 Qr n9) ih x0 x2 x3 x5 x6 x7 x8 0 h hw p e s m args below meth c hC H locs ls k n hE (lv_sub hl [0, 1, 2, 3, 4, 5, 6] rfl) hR hS (by omega) (by omega)
      · have hw := hw.2 hc4
        refine lv_iconst (v := 1) hx hb (xb_d D_Exact_count 21 rfl) (by decide) ?_
        refine lv_goto (tgt := 37) hx hb (xb_d D_Exact_count 22 rfl) rfl ?_
        exact am_Exact_count_L37 l hfl D A σ MC MS h0 Qr (w_Exact_count_L15 Qr n9) ih x0 x2 x3 x5 x6 x7 x8 1 h hw p e s m args below meth c hC H locs ls k n hE (lv_sub hl [0, 1, 2, 3, 4, 5, 6] rfl) hR hS (by omega) (by omega)

set_option maxHeartbeats 4000000 in
set_option maxRecDepth 100000 in
theorem ok_Exact_count (l : Launch) (hfl : l.flags = pinnedFlags ++ [noTraceFlag]) (D : va_G) (A : Nat → Prop) (σ : Nat) (x0 : Int64) (x2 : Int32) (x3 : Int32) (h : xb_H) (Qr : Int32 → xb_H → Prop) (hw : w_Exact_count x0 x2 x3 h Qr) : xb_Met l y_Exact_count [.code y_Exact_count b_Exact_count 10 (some .int)] (xb_rm 2 0 0) (xb_Pc D A σ h [.long x0, .int x2, .int x3]) (xb_Qc D A h 0 0 (fun v h _ _ => ∃ r, v = some (.int r) ∧ Qr r h) (fun _ _ _ _ => False)) A := by
  refine xb_ofAm (cc := b_Exact_count) (by decide) (Nat.le_of_ble_eq_true rfl) ?_
  unfold w_Exact_count at hw
  show xb_am l D A σ 2 0 0 h (fun v h _ _ => ∃ r, v = some (.int r) ∧ Qr r h) (fun _ _ _ _ => False) y_Exact_count.cls y_Exact_count.name b_Exact_count 10 ([] : List ExceptionTableEntry) (some .int) 0 [(0, .long x0), (2, .int x2), (3, .int x3)] [] h 0 0
  obtain ⟨MC, hMC⟩ : ∃ x, x = 0 := ⟨_, rfl⟩
  obtain ⟨MS, hMS⟩ : ∃ x, x = 0 := ⟨_, rfl⟩
  rw [show xb_am l D A σ 2 0 0 = xb_am l D A σ 2 MC MS by rw [hMC, hMS]]
  obtain ⟨h0, hh0⟩ : ∃ x, x = h := ⟨_, rfl⟩
  rw [show xb_am l D A σ 2 MC MS h = xb_am l D A σ 2 MC MS h0 by rw [hh0]]
  intro p e s m args below meth c hC H locs ls k n hE hl hR hS hk hn
  obtain ⟨hx, hb, hown, hlocks, htab, hml, hr, hB, hA, hnm⟩ := id hC
  have hts := hB.1.1.at args
  refine lv_iconst (v := 0) hx hb (xb_d D_Exact_count 0 rfl) (by decide) ?_
  refine lv_istore hx hb (xb_d D_Exact_count 1 rfl) hl (by decide) rfl (fun ls hl => ?_)
  have hl : lv_has ls 10 [(4, .int 0), (0, .long x0), (2, .int x2), (3, .int x3)] := hl
  refine lv_iconst (v := 0) hx hb (xb_d D_Exact_count 2 rfl) (by decide) ?_
  refine lv_istore hx hb (xb_d D_Exact_count 3 rfl) hl (by decide) rfl (fun ls hl => ?_)
  have hl : lv_has ls 10 [(5, .int 0), (4, .int 0), (0, .long x0), (2, .int x2), (3, .int x3)] := hl
  refine lv_iload_n hx hb (xb_d D_Exact_count 4 rfl) rfl (lv_at hl 3 rfl) ?_
  refine lv_istore hx hb (xb_d D_Exact_count 5 rfl) hl (by decide) rfl (fun ls hl => ?_)
  have hl : lv_has ls 10 [(6, .int x2), (5, .int 0), (4, .int 0), (0, .long x0), (2, .int x2), (3, .int x3)] := hl
  refine lv_iload_n hx hb (xb_d D_Exact_count 6 rfl) rfl (lv_at hl 4 rfl) ?_
  refine lv_istore hx hb (xb_d D_Exact_count 7 rfl) hl (by decide) rfl (fun ls hl => ?_)
  have hl : lv_has ls 10 [(7, .int x2), (6, .int x2), (5, .int 0), (4, .int 0), (0, .long x0), (2, .int x2), (3, .int x3)] := hl
  refine lv_iconst (v := 0) hx hb (xb_d D_Exact_count 8 rfl) (by decide) ?_
  refine lv_istore hx hb (xb_d D_Exact_count 9 rfl) hl (by decide) rfl (fun ls hl => ?_)
  have hl : lv_has ls 10 [(8, .int 0), (7, .int x2), (6, .int x2), (5, .int 0), (4, .int 0), (0, .long x0), (2, .int x2), (3, .int x3)] := hl
  obtain ⟨n8, hw⟩ := hw
  exact am_Exact_count_L15 l hfl D A σ MC MS h0 Qr n8 x0 x2 x3 0 x2 x2 0 h hw p e s m args below meth c hC H locs ls k n hE (lv_sub hl [5, 6, 7, 3, 2, 1, 0] rfl) hR hS (by omega) (by omega)

theorem m_71f7a53b : (.fieldLink "StackHostModel$Exact" 47 "StackHostModel$Exact" "bias" "I" : Cond) ∈ xt_tbl := xt_in (xt_t9 (List.mem_of_getElem? (i := 112) (by decide +kernel))) (by decide +kernel)
theorem m_904a6bc5 : (.fieldLink "StackHostModel$Exact" 44 "StackHostModel$Exact" "fraction" "I" : Cond) ∈ xt_tbl := xt_in (xt_t9 (List.mem_of_getElem? (i := 111) (by decide +kernel))) (by decide +kernel)
theorem m_30b212e4 : (.fieldLink "StackHostModel$Exact" 41 "StackHostModel$Exact" "width" "I" : Cond) ∈ xt_tbl := xt_in (xt_t9 (List.mem_of_getElem? (i := 110) (by decide +kernel))) (by decide +kernel)
set_option maxRecDepth 100000 in
def T_Exact_format : List (Nat × Instr × Nat) := [(0, .aload_n 0, 1), (1, .iload_n 1, 1), (2, .putfield 41, 3), (5, .aload_n 0, 1), (6, .iload_n 1, 1), (7, .bipush 32, 2), (9, .if_icmp .ne 8, 3), (12, .bipush 23, 2), (14, .goto 5, 3), (17, .bipush 52, 2), (19, .putfield 44, 3), (22, .aload_n 0, 1), (23, .iload_n 1, 1), (24, .bipush 32, 2), (26, .if_icmp .ne 8, 3), (29, .bipush 127, 2), (31, .goto 6, 3), (34, .sipush 1023, 3), (37, .putfield 47, 3), (40, .return_, 1)]
theorem D_Exact_format : ∀ q ∈ T_Exact_format, decode b_Exact_format q.1 = .ok (q.2.1, q.2.2) := by decide +kernel

set_option maxHeartbeats 4000000 in
set_option maxRecDepth 100000 in
theorem am_Exact_format_L37 (l : Launch) (hfl : l.flags = pinnedFlags ++ [noTraceFlag]) (D : va_G) (A : Nat → Prop) (σ MC MS : Nat) (h0 : xb_H) (Qr : xb_H → Prop) (y0 : Int32) (y1 : Nat) (h : xb_H) (hw : w_Exact_format_L37 Qr y0 y1 h) : xb_am l D A σ 2 MC MS h0 (fun v h _ _ => v = none ∧ Qr h) (fun _ _ _ _ => False) y_Exact_format.cls y_Exact_format.name b_Exact_format 2 ([] : List ExceptionTableEntry) none 37 [] [.int y0, .ref y1] h 0 0 := by
  unfold w_Exact_format_L37 at hw
  intro p e s m args below meth c hC H locs ls k n hE hl hR hS hk hn
  obtain ⟨hx, hb, hown, hlocks, htab, hml, hr, hB, hA, hnm⟩ := id hC
  have hts := hB.1.1.at args
  obtain ⟨hk1, hw⟩ := hw
  refine xb_putI (C := R_Exact) (T := F_Exact) (N := 11) (ty := .int) (x := y0) hx hb 9 7 hts fin_Exact t_Exact t_Exact_ok n_Exact hown hR hS hk1 (by decide) rfl (by decide) rfl (hts _ m_71f7a53b) (fun _ h9 => h9) rfl (by decide +kernel) rfl rfl (xb_d D_Exact_format 18 rfl) (fun H locs hR hS => ?_)
  obtain ⟨h2, eh2⟩ : ∃ x : xb_H, x = xb_I h y1 7 y0 := ⟨_, rfl⟩
  rw [← eh2] at hR
  have hw := hw h2 eh2
  have hE : xb_ext h0 h2 := by rw [eh2]; exact hE
  exact xb_vret 0 0 hx hb hr hlocks (show k + 0 ≤ MC by omega) (show n + 0 ≤ MS by omega) hE hR hS (xb_d D_Exact_format 19 rfl) hw

set_option maxHeartbeats 4000000 in
set_option maxRecDepth 100000 in
theorem am_Exact_format_L19 (l : Launch) (hfl : l.flags = pinnedFlags ++ [noTraceFlag]) (D : va_G) (A : Nat → Prop) (σ MC MS : Nat) (h0 : xb_H) (Qr : xb_H → Prop) (x0 : Nat) (x1 : Int32) (y0 : Int32) (y1 : Nat) (h : xb_H) (hw : w_Exact_format_L19 Qr x0 x1 y0 y1 h) : xb_am l D A σ 2 MC MS h0 (fun v h _ _ => v = none ∧ Qr h) (fun _ _ _ _ => False) y_Exact_format.cls y_Exact_format.name b_Exact_format 2 ([] : List ExceptionTableEntry) none 19 [(0, .ref x0), (1, .int x1)] [.int y0, .ref y1] h 0 0 := by
  unfold w_Exact_format_L19 at hw
  intro p e s m args below meth c hC H locs ls k n hE hl hR hS hk hn
  obtain ⟨hx, hb, hown, hlocks, htab, hml, hr, hB, hA, hnm⟩ := id hC
  have hts := hB.1.1.at args
  obtain ⟨hk1, hw⟩ := hw
  refine xb_putI (C := R_Exact) (T := F_Exact) (N := 11) (ty := .int) (x := y0) hx hb 9 6 hts fin_Exact t_Exact t_Exact_ok n_Exact hown hR hS hk1 (by decide) rfl (by decide) rfl (hts _ m_904a6bc5) (fun _ h9 => h9) rfl (by decide +kernel) rfl rfl (xb_d D_Exact_format 10 rfl) (fun H locs hR hS => ?_)
  obtain ⟨h2, eh2⟩ : ∃ x : xb_H, x = xb_I h y1 6 y0 := ⟨_, rfl⟩
  rw [← eh2] at hR
  have hw := hw h2 eh2
  have hE : xb_ext h0 h2 := by rw [eh2]; exact hE
  refine lv_aload_n hx hb (xb_d D_Exact_format 11 rfl) rfl (lv_at hl 0 rfl) ?_
  refine lv_iload_n hx hb (xb_d D_Exact_format 12 rfl) rfl (lv_at hl 1 rfl) ?_
  refine lv_bipush (v := 32) hx hb (xb_d D_Exact_format 13 rfl) (by decide) ?_
  refine lv_icmp_ne (tgt := 34) hx hb (xb_d D_Exact_format 14 rfl) rfl (fun hc3 => ?_) (fun hc3 => ?_)
  · have hw := hw.1 hc3
    refine lv_sipush (v := 1023) hx hb (xb_d D_Exact_format 17 rfl) (by decide) ?_
    exact am_Exact_format_L37 l hfl D A σ MC MS h0 Qr 1023 x0 h2 hw p e s m args below meth c hC H locs ls k n hE (lv_sub hl [] rfl) hR hS (by omega) (by omega)
  · have hw := hw.2 hc3
    refine lv_bipush (v := 127) hx hb (xb_d D_Exact_format 15 rfl) (by decide) ?_
    refine lv_goto (tgt := 37) hx hb (xb_d D_Exact_format 16 rfl) rfl ?_
    exact am_Exact_format_L37 l hfl D A σ MC MS h0 Qr 127 x0 h2 hw p e s m args below meth c hC H locs ls k n hE (lv_sub hl [] rfl) hR hS (by omega) (by omega)

set_option maxHeartbeats 4000000 in
set_option maxRecDepth 100000 in
theorem ok_Exact_format (l : Launch) (hfl : l.flags = pinnedFlags ++ [noTraceFlag]) (D : va_G) (A : Nat → Prop) (σ : Nat) (x0 : Nat) (x1 : Int32) (h : xb_H) (Qr : xb_H → Prop) (hw : w_Exact_format x0 x1 h Qr) : xb_Met l y_Exact_format [.code y_Exact_format b_Exact_format 2 none] (xb_rm 2 0 0) (xb_Pc D A σ h [.ref x0, .int x1]) (xb_Qc D A h 0 0 (fun v h _ _ => v = none ∧ Qr h) (fun _ _ _ _ => False)) A := by
  refine xb_ofAm (cc := b_Exact_format) (by decide) (Nat.le_of_ble_eq_true rfl) ?_
  unfold w_Exact_format at hw
  show xb_am l D A σ 2 0 0 h (fun v h _ _ => v = none ∧ Qr h) (fun _ _ _ _ => False) y_Exact_format.cls y_Exact_format.name b_Exact_format 2 ([] : List ExceptionTableEntry) none 0 [(0, .ref x0), (1, .int x1)] [] h 0 0
  obtain ⟨MC, hMC⟩ : ∃ x, x = 0 := ⟨_, rfl⟩
  obtain ⟨MS, hMS⟩ : ∃ x, x = 0 := ⟨_, rfl⟩
  rw [show xb_am l D A σ 2 0 0 = xb_am l D A σ 2 MC MS by rw [hMC, hMS]]
  obtain ⟨h0, hh0⟩ : ∃ x, x = h := ⟨_, rfl⟩
  rw [show xb_am l D A σ 2 MC MS h = xb_am l D A σ 2 MC MS h0 by rw [hh0]]
  intro p e s m args below meth c hC H locs ls k n hE hl hR hS hk hn
  obtain ⟨hx, hb, hown, hlocks, htab, hml, hr, hB, hA, hnm⟩ := id hC
  have hts := hB.1.1.at args
  refine lv_aload_n hx hb (xb_d D_Exact_format 0 rfl) rfl (lv_at hl 0 rfl) ?_
  refine lv_iload_n hx hb (xb_d D_Exact_format 1 rfl) rfl (lv_at hl 1 rfl) ?_
  obtain ⟨hk1, hw⟩ := hw
  refine xb_putI (C := R_Exact) (T := F_Exact) (N := 11) (ty := .int) (x := x1) hx hb 9 5 hts fin_Exact t_Exact t_Exact_ok n_Exact hown hR hS hk1 (by decide) rfl (by decide) rfl (hts _ m_30b212e4) (fun _ h9 => h9) rfl (by decide +kernel) rfl rfl (xb_d D_Exact_format 2 rfl) (fun H locs hR hS => ?_)
  obtain ⟨h2, eh2⟩ : ∃ x : xb_H, x = xb_I h x0 5 x1 := ⟨_, rfl⟩
  rw [← eh2] at hR
  have hw := hw h2 eh2
  have hE : xb_ext h0 h2 := by rw [eh2]; exact hE
  refine lv_aload_n hx hb (xb_d D_Exact_format 3 rfl) rfl (lv_at hl 0 rfl) ?_
  refine lv_iload_n hx hb (xb_d D_Exact_format 4 rfl) rfl (lv_at hl 1 rfl) ?_
  refine lv_bipush (v := 32) hx hb (xb_d D_Exact_format 5 rfl) (by decide) ?_
  refine lv_icmp_ne (tgt := 17) hx hb (xb_d D_Exact_format 6 rfl) rfl (fun hc3 => ?_) (fun hc3 => ?_)
  · have hw := hw.1 hc3
    refine lv_bipush (v := 52) hx hb (xb_d D_Exact_format 9 rfl) (by decide) ?_
    exact am_Exact_format_L19 l hfl D A σ MC MS h0 Qr x0 x1 52 x0 h2 hw p e s m args below meth c hC H locs ls k n hE (lv_sub hl [0, 1] rfl) hR hS (by omega) (by omega)
  · have hw := hw.2 hc3
    refine lv_bipush (v := 23) hx hb (xb_d D_Exact_format 7 rfl) (by decide) ?_
    refine lv_goto (tgt := 19) hx hb (xb_d D_Exact_format 8 rfl) rfl ?_
    exact am_Exact_format_L19 l hfl D A σ MC MS h0 Qr x0 x1 23 x0 h2 hw p e s m args below meth c hC H locs ls k n hE (lv_sub hl [0, 1] rfl) hR hS (by omega) (by omega)

set_option maxRecDepth 100000 in
def T_Exact_highest : List (Nat × Instr × Nat) := [(0, .aload_n 0, 1), (1, .getfield 19, 3), (4, .istore_n 1, 1), (5, .iload_n 1, 1), (6, .aload_n 0, 1), (7, .getfield 15, 3), (10, .if_icmp .lt 18, 3), (13, .aload_n 0, 1), (14, .getfield 9, 3), (17, .iload_n 1, 1), (18, .baload, 1), (19, .ifCond .ne 9, 3), (22, .iinc 1 (-1), 3), (25, .goto (-20), 3), (28, .iload_n 1, 1), (29, .aload_n 0, 1), (30, .getfield 15, 3), (33, .if_icmp .lt 7, 3), (36, .iload_n 1, 1), (37, .goto 4, 3), (40, .iconst (-1), 1), (41, .ireturn, 1)]
theorem D_Exact_highest : ∀ q ∈ T_Exact_highest, decode b_Exact_highest q.1 = .ok (q.2.1, q.2.2) := by decide +kernel

set_option maxHeartbeats 4000000 in
set_option maxRecDepth 100000 in
theorem am_Exact_highest_L41 (l : Launch) (hfl : l.flags = pinnedFlags ++ [noTraceFlag]) (D : va_G) (A : Nat → Prop) (σ MC MS : Nat) (h0 : xb_H) (Qr : Int32 → xb_H → Prop) (y0 : Int32) (h : xb_H) (hw : w_Exact_highest_L41 Qr y0 h) : xb_am l D A σ 2 MC MS h0 (fun v h _ _ => ∃ r, v = some (.int r) ∧ Qr r h) (fun _ _ _ _ => False) y_Exact_highest.cls y_Exact_highest.name b_Exact_highest 2 ([] : List ExceptionTableEntry) (some .int) 41 [] [.int y0] h 0 0 := by
  unfold w_Exact_highest_L41 at hw
  intro p e s m args below meth c hC H locs ls k n hE hl hR hS hk hn
  obtain ⟨hx, hb, hown, hlocks, htab, hml, hr, hB, hA, hnm⟩ := id hC
  have hts := hB.1.1.at args
  exact xb_iret 0 0 hx hb hr hlocks (show k + 0 ≤ MC by omega) (show n + 0 ≤ MS by omega) hE hR hS (xb_d D_Exact_highest 21 rfl) hw

set_option maxHeartbeats 4000000 in
set_option maxRecDepth 100000 in
theorem am_Exact_highest_L28 (l : Launch) (hfl : l.flags = pinnedFlags ++ [noTraceFlag]) (D : va_G) (A : Nat → Prop) (σ MC MS : Nat) (h0 : xb_H) (Qr : Int32 → xb_H → Prop) (x0 : Nat) (x1 : Int32) (h : xb_H) (hw : w_Exact_highest_L28 Qr x0 x1 h) : xb_am l D A σ 2 MC MS h0 (fun v h _ _ => ∃ r, v = some (.int r) ∧ Qr r h) (fun _ _ _ _ => False) y_Exact_highest.cls y_Exact_highest.name b_Exact_highest 2 ([] : List ExceptionTableEntry) (some .int) 28 [(0, .ref x0), (1, .int x1)] [] h 0 0 := by
  unfold w_Exact_highest_L28 at hw
  intro p e s m args below meth c hC H locs ls k n hE hl hR hS hk hn
  obtain ⟨hx, hb, hown, hlocks, htab, hml, hr, hB, hA, hnm⟩ := id hC
  have hts := hB.1.1.at args
  refine lv_iload_n hx hb (xb_d D_Exact_highest 14 rfl) rfl (lv_at hl 1 rfl) ?_
  refine lv_aload_n hx hb (xb_d D_Exact_highest 15 rfl) rfl (lv_at hl 0 rfl) ?_
  obtain ⟨hk1, hw⟩ := hw
  refine xb_getI (C := R_Exact) (T := F_Exact) (N := 11) hx hb 9 2 hts fin_Exact hown hR hk1 (by decide) rfl (by decide) rfl (hts _ m_2f5dbefd) (fun _ h9 => h9) (xb_d D_Exact_highest 16 rfl) ?_
  refine lv_icmp_lt (tgt := 40) hx hb (xb_d D_Exact_highest 17 rfl) rfl (fun hc2 => ?_) (fun hc2 => ?_)
  · have hw := hw.1 hc2
    refine lv_iconst (v := (-1)) hx hb (xb_d D_Exact_highest 20 rfl) (by decide) ?_
    exact am_Exact_highest_L41 l hfl D A σ MC MS h0 Qr (-1) h hw p e s m args below meth c hC H locs ls k n hE (lv_sub hl [] rfl) hR hS (by omega) (by omega)
  · have hw := hw.2 hc2
    refine lv_iload_n hx hb (xb_d D_Exact_highest 18 rfl) rfl (lv_at hl 1 rfl) ?_
    refine lv_goto (tgt := 41) hx hb (xb_d D_Exact_highest 19 rfl) rfl ?_
    exact am_Exact_highest_L41 l hfl D A σ MC MS h0 Qr x1 h hw p e s m args below meth c hC H locs ls k n hE (lv_sub hl [] rfl) hR hS (by omega) (by omega)

set_option maxHeartbeats 4000000 in
set_option maxRecDepth 100000 in
theorem am_Exact_highest_L5 (l : Launch) (hfl : l.flags = pinnedFlags ++ [noTraceFlag]) (D : va_G) (A : Nat → Prop) (σ MC MS : Nat) (h0 : xb_H) (Qr : Int32 → xb_H → Prop) (n9 : Nat) : ∀ (x0 : Nat) (x1 : Int32) (h : xb_H), w_Exact_highest_L5 Qr n9 x0 x1 h → xb_am l D A σ 2 MC MS h0 (fun v h _ _ => ∃ r, v = some (.int r) ∧ Qr r h) (fun _ _ _ _ => False) y_Exact_highest.cls y_Exact_highest.name b_Exact_highest 2 ([] : List ExceptionTableEntry) (some .int) 5 [(0, .ref x0), (1, .int x1)] [] h 0 0 := by
  induction n9 with
  | zero => intro x0 x1 h hw; exact False.elim hw
  | succ n9 ih =>
    intro x0 x1 h hw
    unfold w_Exact_highest_L5 at hw
    intro p e s m args below meth c hC H locs ls k n hE hl hR hS hk hn
    obtain ⟨hx, hb, hown, hlocks, htab, hml, hr, hB, hA, hnm⟩ := id hC
    have hts := hB.1.1.at args
    refine lv_iload_n hx hb (xb_d D_Exact_highest 3 rfl) rfl (lv_at hl 1 rfl) ?_
    refine lv_aload_n hx hb (xb_d D_Exact_highest 4 rfl) rfl (lv_at hl 0 rfl) ?_
    obtain ⟨hk1, hw⟩ := hw
    refine xb_getI (C := R_Exact) (T := F_Exact) (N := 11) hx hb 9 2 hts fin_Exact hown hR hk1 (by decide) rfl (by decide) rfl (hts _ m_2f5dbefd) (fun _ h9 => h9) (xb_d D_Exact_highest 5 rfl) ?_
    refine lv_icmp_lt (tgt := 28) hx hb (xb_d D_Exact_highest 6 rfl) rfl (fun hc2 => ?_) (fun hc2 => ?_)
    · have hw := hw.1 hc2
      exact am_Exact_highest_L28 l hfl D A σ MC MS h0 Qr x0 x1 h hw p e s m args below meth c hC H locs ls k n hE (lv_sub hl [0, 1] rfl) hR hS (by omega) (by omega)
    · have hw := hw.2 hc2
      refine lv_aload_n hx hb (xb_d D_Exact_highest 7 rfl) rfl (lv_at hl 0 rfl) ?_
      refine xb_getP (C := R_Exact) (T := F_Exact) (N := 11) hx hb 9 1 hts fin_Exact hown hR hk1 (by decide) rfl (by decide) rfl (hts _ m_3ef37fb8) (fun _ h9 => h9) (xb_d D_Exact_highest 8 rfl) ?_
      obtain ⟨b3, eb3, hw⟩ := hw
      refine xb_some eb3 ?_
      refine lv_iload_n hx hb (xb_d D_Exact_highest 9 rfl) rfl (lv_at hl 1 rfl) ?_
      obtain ⟨hk5, hw⟩ := hw
      obtain ⟨hi4, hw⟩ := hw
      refine xb_bald hx hb hR hk5 hi4 (xb_d D_Exact_highest 10 rfl) ?_
      refine lv_if_ne (tgt := 28) hx hb (xb_d D_Exact_highest 11 rfl) rfl (fun hc6 => ?_) (fun hc6 => ?_)
      · have hw := hw.1 hc6
        exact am_Exact_highest_L28 l hfl D A σ MC MS h0 Qr x0 x1 h hw p e s m args below meth c hC H locs ls k n hE (lv_sub hl [0, 1] rfl) hR hS (by omega) (by omega)
      · have hw := hw.2 hc6
        refine lv_iinc (v := (x1 + (-1))) (k := 1) hx hb (xb_d D_Exact_highest 12 rfl) hl rfl (by first | rfl | decide) (by decide) rfl (fun ls hl => ?_)
        have hl : lv_has ls 2 [(1, .int (x1 + (-1))), (0, .ref x0)] := hl
        refine lv_goto (tgt := 5) hx hb (xb_d D_Exact_highest 13 rfl) rfl ?_
        exact ih x0 (x1 + (-1)) h hw p e s m args below meth c hC H locs ls k n hE (lv_sub hl [1, 0] rfl) hR hS (by omega) (by omega)

set_option maxHeartbeats 4000000 in
set_option maxRecDepth 100000 in
theorem ok_Exact_highest (l : Launch) (hfl : l.flags = pinnedFlags ++ [noTraceFlag]) (D : va_G) (A : Nat → Prop) (σ : Nat) (x0 : Nat) (h : xb_H) (Qr : Int32 → xb_H → Prop) (hw : w_Exact_highest x0 h Qr) : xb_Met l y_Exact_highest [.code y_Exact_highest b_Exact_highest 2 (some .int)] (xb_rm 2 0 0) (xb_Pc D A σ h [.ref x0]) (xb_Qc D A h 0 0 (fun v h _ _ => ∃ r, v = some (.int r) ∧ Qr r h) (fun _ _ _ _ => False)) A := by
  refine xb_ofAm (cc := b_Exact_highest) (by decide) (Nat.le_of_ble_eq_true rfl) ?_
  unfold w_Exact_highest at hw
  show xb_am l D A σ 2 0 0 h (fun v h _ _ => ∃ r, v = some (.int r) ∧ Qr r h) (fun _ _ _ _ => False) y_Exact_highest.cls y_Exact_highest.name b_Exact_highest 2 ([] : List ExceptionTableEntry) (some .int) 0 [(0, .ref x0)] [] h 0 0
  obtain ⟨MC, hMC⟩ : ∃ x, x = 0 := ⟨_, rfl⟩
  obtain ⟨MS, hMS⟩ : ∃ x, x = 0 := ⟨_, rfl⟩
  rw [show xb_am l D A σ 2 0 0 = xb_am l D A σ 2 MC MS by rw [hMC, hMS]]
  obtain ⟨h0, hh0⟩ : ∃ x, x = h := ⟨_, rfl⟩
  rw [show xb_am l D A σ 2 MC MS h = xb_am l D A σ 2 MC MS h0 by rw [hh0]]
  intro p e s m args below meth c hC H locs ls k n hE hl hR hS hk hn
  obtain ⟨hx, hb, hown, hlocks, htab, hml, hr, hB, hA, hnm⟩ := id hC
  have hts := hB.1.1.at args
  refine lv_aload_n hx hb (xb_d D_Exact_highest 0 rfl) rfl (lv_at hl 0 rfl) ?_
  obtain ⟨hk1, hw⟩ := hw
  refine xb_getI (C := R_Exact) (T := F_Exact) (N := 11) hx hb 9 3 hts fin_Exact hown hR hk1 (by decide) rfl (by decide) rfl (hts _ m_ee80a7fc) (fun _ h9 => h9) (xb_d D_Exact_highest 1 rfl) ?_
  obtain ⟨v2, ev2⟩ : ∃ x : Int32, x = (xb_i h x0 3) := ⟨_, rfl⟩
  have hw := hw v2 ev2
  refine xt_numi (y := v2) ev2.symm ?_
  refine lv_istore_n hx hb (xb_d D_Exact_highest 2 rfl) rfl hl (by decide) rfl (fun ls hl => ?_)
  have hl : lv_has ls 2 [(1, .int v2), (0, .ref x0)] := hl
  obtain ⟨n8, hw⟩ := hw
  exact am_Exact_highest_L5 l hfl D A σ MC MS h0 Qr n8 x0 v2 h hw p e s m args below meth c hC H locs ls k n hE (lv_sub hl [1, 0] rfl) hR hS (by omega) (by omega)

set_option maxRecDepth 100000 in
def T_Exact_isBelow : List (Nat × Instr × Nat) := [(0, .aload_n 0, 1), (1, .getfield 33, 3), (4, .istore_n 2, 1), (5, .aload_n 0, 1), (6, .getfield 15, 3), (9, .istore_n 3, 1), (10, .iload_n 3, 1), (11, .iload_n 1, 1), (12, .if_icmp .ge 36, 3), (15, .iload_n 3, 1), (16, .aload_n 0, 1), (17, .getfield 19, 3), (20, .if_icmp .gt 28, 3), (23, .iload_n 2, 1), (24, .ifCond .ne 12, 3), (27, .aload_n 0, 1), (28, .getfield 9, 3), (31, .iload_n 3, 1), (32, .baload, 1), (33, .ifCond .eq 7, 3), (36, .iconst 1, 1), (37, .goto 4, 3), (40, .iconst 0, 1), (41, .istore_n 2, 1), (42, .iinc 3 1, 3), (45, .goto (-35), 3), (48, .iload_n 2, 1), (49, .ireturn, 1)]
theorem D_Exact_isBelow : ∀ q ∈ T_Exact_isBelow, decode b_Exact_isBelow q.1 = .ok (q.2.1, q.2.2) := by decide +kernel

set_option maxHeartbeats 4000000 in
set_option maxRecDepth 100000 in
theorem am_Exact_isBelow_L48 (l : Launch) (hfl : l.flags = pinnedFlags ++ [noTraceFlag]) (D : va_G) (A : Nat → Prop) (σ MC MS : Nat) (h0 : xb_H) (Qr : Int32 → xb_H → Prop) (x2 : Int32) (h : xb_H) (hw : w_Exact_isBelow_L48 Qr x2 h) : xb_am l D A σ 2 MC MS h0 (fun v h _ _ => ∃ r, v = some (.int r) ∧ Qr r h) (fun _ _ _ _ => False) y_Exact_isBelow.cls y_Exact_isBelow.name b_Exact_isBelow 4 ([] : List ExceptionTableEntry) (some .boolean) 48 [(2, .int x2)] [] h 0 0 := by
  unfold w_Exact_isBelow_L48 at hw
  intro p e s m args below meth c hC H locs ls k n hE hl hR hS hk hn
  obtain ⟨hx, hb, hown, hlocks, htab, hml, hr, hB, hA, hnm⟩ := id hC
  have hts := hB.1.1.at args
  refine lv_iload_n hx hb (xb_d D_Exact_isBelow 26 rfl) rfl (lv_at hl 0 rfl) ?_
  exact xb_zret 0 0 hx hb hr hlocks (show k + 0 ≤ MC by omega) (show n + 0 ≤ MS by omega) hw.1 hE hR hS (xb_d D_Exact_isBelow 27 rfl) hw.2

set_option maxHeartbeats 4000000 in
set_option maxRecDepth 100000 in
theorem am_Exact_isBelow_L41 (l : Launch) (hfl : l.flags = pinnedFlags ++ [noTraceFlag]) (D : va_G) (A : Nat → Prop) (σ MC MS : Nat) (h0 : xb_H) (Qr : Int32 → xb_H → Prop) (K10 : Nat → Int32 → Int32 → Int32 → xb_H → Prop) (hK10 : ∀ (x0 : Nat) (x1 : Int32) (x2 : Int32) (x3 : Int32) (h : xb_H), K10 x0 x1 x2 x3 h → xb_am l D A σ 2 MC MS h0 (fun v h _ _ => ∃ r, v = some (.int r) ∧ Qr r h) (fun _ _ _ _ => False) y_Exact_isBelow.cls y_Exact_isBelow.name b_Exact_isBelow 4 ([] : List ExceptionTableEntry) (some .boolean) 10 [(0, .ref x0), (1, .int x1), (2, .int x2), (3, .int x3)] [] h 0 0) (x0 : Nat) (x1 : Int32) (x3 : Int32) (y0 : Int32) (h : xb_H) (hw : w_Exact_isBelow_L41 K10 Qr x0 x1 x3 y0 h) : xb_am l D A σ 2 MC MS h0 (fun v h _ _ => ∃ r, v = some (.int r) ∧ Qr r h) (fun _ _ _ _ => False) y_Exact_isBelow.cls y_Exact_isBelow.name b_Exact_isBelow 4 ([] : List ExceptionTableEntry) (some .boolean) 41 [(0, .ref x0), (1, .int x1), (3, .int x3)] [.int y0] h 0 0 := by
  unfold w_Exact_isBelow_L41 at hw
  intro p e s m args below meth c hC H locs ls k n hE hl hR hS hk hn
  obtain ⟨hx, hb, hown, hlocks, htab, hml, hr, hB, hA, hnm⟩ := id hC
  have hts := hB.1.1.at args
  refine lv_istore_n hx hb (xb_d D_Exact_isBelow 23 rfl) rfl hl (by decide) rfl (fun ls hl => ?_)
  have hl : lv_has ls 4 [(2, .int y0), (0, .ref x0), (1, .int x1), (3, .int x3)] := hl
  refine lv_iinc (v := (x3 + 1)) (k := 3) hx hb (xb_d D_Exact_isBelow 24 rfl) hl rfl (by first | rfl | decide) (by decide) rfl (fun ls hl => ?_)
  have hl : lv_has ls 4 [(3, .int (x3 + 1)), (2, .int y0), (0, .ref x0), (1, .int x1)] := hl
  refine lv_goto (tgt := 10) hx hb (xb_d D_Exact_isBelow 25 rfl) rfl ?_
  exact hK10 x0 x1 y0 (x3 + 1) h hw p e s m args below meth c hC H locs ls k n hE (lv_sub hl [2, 3, 1, 0] rfl) hR hS (by omega) (by omega)

set_option maxHeartbeats 4000000 in
set_option maxRecDepth 100000 in
theorem am_Exact_isBelow_L36 (l : Launch) (hfl : l.flags = pinnedFlags ++ [noTraceFlag]) (D : va_G) (A : Nat → Prop) (σ MC MS : Nat) (h0 : xb_H) (Qr : Int32 → xb_H → Prop) (K10 : Nat → Int32 → Int32 → Int32 → xb_H → Prop) (hK10 : ∀ (x0 : Nat) (x1 : Int32) (x2 : Int32) (x3 : Int32) (h : xb_H), K10 x0 x1 x2 x3 h → xb_am l D A σ 2 MC MS h0 (fun v h _ _ => ∃ r, v = some (.int r) ∧ Qr r h) (fun _ _ _ _ => False) y_Exact_isBelow.cls y_Exact_isBelow.name b_Exact_isBelow 4 ([] : List ExceptionTableEntry) (some .boolean) 10 [(0, .ref x0), (1, .int x1), (2, .int x2), (3, .int x3)] [] h 0 0) (x0 : Nat) (x1 : Int32) (x3 : Int32) (h : xb_H) (hw : w_Exact_isBelow_L36 K10 Qr x0 x1 x3 h) : xb_am l D A σ 2 MC MS h0 (fun v h _ _ => ∃ r, v = some (.int r) ∧ Qr r h) (fun _ _ _ _ => False) y_Exact_isBelow.cls y_Exact_isBelow.name b_Exact_isBelow 4 ([] : List ExceptionTableEntry) (some .boolean) 36 [(0, .ref x0), (1, .int x1), (3, .int x3)] [] h 0 0 := by
  unfold w_Exact_isBelow_L36 at hw
  intro p e s m args below meth c hC H locs ls k n hE hl hR hS hk hn
  obtain ⟨hx, hb, hown, hlocks, htab, hml, hr, hB, hA, hnm⟩ := id hC
  have hts := hB.1.1.at args
  refine lv_iconst (v := 1) hx hb (xb_d D_Exact_isBelow 20 rfl) (by decide) ?_
  refine lv_goto (tgt := 41) hx hb (xb_d D_Exact_isBelow 21 rfl) rfl ?_
  exact am_Exact_isBelow_L41 l hfl D A σ MC MS h0 Qr K10 hK10 x0 x1 x3 1 h hw p e s m args below meth c hC H locs ls k n hE (lv_sub hl [0, 1, 2] rfl) hR hS (by omega) (by omega)

set_option maxHeartbeats 4000000 in
set_option maxRecDepth 100000 in
theorem am_Exact_isBelow_L10 (l : Launch) (hfl : l.flags = pinnedFlags ++ [noTraceFlag]) (D : va_G) (A : Nat → Prop) (σ MC MS : Nat) (h0 : xb_H) (Qr : Int32 → xb_H → Prop) (n9 : Nat) : ∀ (x0 : Nat) (x1 : Int32) (x2 : Int32) (x3 : Int32) (h : xb_H), w_Exact_isBelow_L10 Qr n9 x0 x1 x2 x3 h → xb_am l D A σ 2 MC MS h0 (fun v h _ _ => ∃ r, v = some (.int r) ∧ Qr r h) (fun _ _ _ _ => False) y_Exact_isBelow.cls y_Exact_isBelow.name b_Exact_isBelow 4 ([] : List ExceptionTableEntry) (some .boolean) 10 [(0, .ref x0), (1, .int x1), (2, .int x2), (3, .int x3)] [] h 0 0 := by
  induction n9 with
  | zero => intro x0 x1 x2 x3 h hw; exact False.elim hw
  | succ n9 ih =>
    intro x0 x1 x2 x3 h hw
    unfold w_Exact_isBelow_L10 at hw
    intro p e s m args below meth c hC H locs ls k n hE hl hR hS hk hn
    obtain ⟨hx, hb, hown, hlocks, htab, hml, hr, hB, hA, hnm⟩ := id hC
    have hts := hB.1.1.at args
    refine lv_iload_n hx hb (xb_d D_Exact_isBelow 6 rfl) rfl (lv_at hl 3 rfl) ?_
    refine lv_iload_n hx hb (xb_d D_Exact_isBelow 7 rfl) rfl (lv_at hl 1 rfl) ?_
    refine lv_icmp_ge (tgt := 48) hx hb (xb_d D_Exact_isBelow 8 rfl) rfl (fun hc1 => ?_) (fun hc1 => ?_)
    · have hw := hw.1 hc1
      exact am_Exact_isBelow_L48 l hfl D A σ MC MS h0 Qr x2 h hw p e s m args below meth c hC H locs ls k n hE (lv_sub hl [2] rfl) hR hS (by omega) (by omega)
    · have hw := hw.2 hc1
      refine lv_iload_n hx hb (xb_d D_Exact_isBelow 9 rfl) rfl (lv_at hl 3 rfl) ?_
      refine lv_aload_n hx hb (xb_d D_Exact_isBelow 10 rfl) rfl (lv_at hl 0 rfl) ?_
      obtain ⟨hk2, hw⟩ := hw
      refine xb_getI (C := R_Exact) (T := F_Exact) (N := 11) hx hb 9 3 hts fin_Exact hown hR hk2 (by decide) rfl (by decide) rfl (hts _ m_ee80a7fc) (fun _ h9 => h9) (xb_d D_Exact_isBelow 11 rfl) ?_
      refine lv_icmp_gt (tgt := 48) hx hb (xb_d D_Exact_isBelow 12 rfl) rfl (fun hc3 => ?_) (fun hc3 => ?_)
      · have hw := hw.1 hc3
        exact am_Exact_isBelow_L48 l hfl D A σ MC MS h0 Qr x2 h hw p e s m args below meth c hC H locs ls k n hE (lv_sub hl [2] rfl) hR hS (by omega) (by omega)
      · have hw := hw.2 hc3
        refine lv_iload_n hx hb (xb_d D_Exact_isBelow 13 rfl) rfl (lv_at hl 2 rfl) ?_
        refine lv_if_ne (tgt := 36) hx hb (xb_d D_Exact_isBelow 14 rfl) rfl (fun hc4 => ?_) (fun hc4 => ?_)
        · have hw := hw.1 hc4
          exact am_Exact_isBelow_L36 l hfl D A σ MC MS h0 Qr (w_Exact_isBelow_L10 Qr n9) ih x0 x1 x3 h hw p e s m args below meth c hC H locs ls k n hE (lv_sub hl [0, 1, 3] rfl) hR hS (by omega) (by omega)
        · have hw := hw.2 hc4
          refine lv_aload_n hx hb (xb_d D_Exact_isBelow 15 rfl) rfl (lv_at hl 0 rfl) ?_
          refine xb_getP (C := R_Exact) (T := F_Exact) (N := 11) hx hb 9 1 hts fin_Exact hown hR hk2 (by decide) rfl (by decide) rfl (hts _ m_3ef37fb8) (fun _ h9 => h9) (xb_d D_Exact_isBelow 16 rfl) ?_
          obtain ⟨b5, eb5, hw⟩ := hw
          refine xb_some eb5 ?_
          refine lv_iload_n hx hb (xb_d D_Exact_isBelow 17 rfl) rfl (lv_at hl 3 rfl) ?_
          obtain ⟨hk7, hw⟩ := hw
          obtain ⟨hi6, hw⟩ := hw
          refine xb_bald hx hb hR hk7 hi6 (xb_d D_Exact_isBelow 18 rfl) ?_
          refine lv_if_eq (tgt := 40) hx hb (xb_d D_Exact_isBelow 19 rfl) rfl (fun hc8 => ?_) (fun hc8 => ?_)
          · have hw := hw.1 hc8
            refine lv_iconst (v := 0) hx hb (xb_d D_Exact_isBelow 22 rfl) (by decide) ?_
            exact am_Exact_isBelow_L41 l hfl D A σ MC MS h0 Qr (w_Exact_isBelow_L10 Qr n9) ih x0 x1 x3 0 h hw p e s m args below meth c hC H locs ls k n hE (lv_sub hl [0, 1, 3] rfl) hR hS (by omega) (by omega)
          · have hw := hw.2 hc8
            exact am_Exact_isBelow_L36 l hfl D A σ MC MS h0 Qr (w_Exact_isBelow_L10 Qr n9) ih x0 x1 x3 h hw p e s m args below meth c hC H locs ls k n hE (lv_sub hl [0, 1, 3] rfl) hR hS (by omega) (by omega)

set_option maxHeartbeats 4000000 in
set_option maxRecDepth 100000 in
theorem ok_Exact_isBelow (l : Launch) (hfl : l.flags = pinnedFlags ++ [noTraceFlag]) (D : va_G) (A : Nat → Prop) (σ : Nat) (x0 : Nat) (x1 : Int32) (h : xb_H) (Qr : Int32 → xb_H → Prop) (hw : w_Exact_isBelow x0 x1 h Qr) : xb_Met l y_Exact_isBelow [.code y_Exact_isBelow b_Exact_isBelow 4 (some .boolean)] (xb_rm 2 0 0) (xb_Pc D A σ h [.ref x0, .int x1]) (xb_Qc D A h 0 0 (fun v h _ _ => ∃ r, v = some (.int r) ∧ Qr r h) (fun _ _ _ _ => False)) A := by
  refine xb_ofAm (cc := b_Exact_isBelow) (by decide) (Nat.le_of_ble_eq_true rfl) ?_
  unfold w_Exact_isBelow at hw
  show xb_am l D A σ 2 0 0 h (fun v h _ _ => ∃ r, v = some (.int r) ∧ Qr r h) (fun _ _ _ _ => False) y_Exact_isBelow.cls y_Exact_isBelow.name b_Exact_isBelow 4 ([] : List ExceptionTableEntry) (some .boolean) 0 [(0, .ref x0), (1, .int x1)] [] h 0 0
  obtain ⟨MC, hMC⟩ : ∃ x, x = 0 := ⟨_, rfl⟩
  obtain ⟨MS, hMS⟩ : ∃ x, x = 0 := ⟨_, rfl⟩
  rw [show xb_am l D A σ 2 0 0 = xb_am l D A σ 2 MC MS by rw [hMC, hMS]]
  obtain ⟨h0, hh0⟩ : ∃ x, x = h := ⟨_, rfl⟩
  rw [show xb_am l D A σ 2 MC MS h = xb_am l D A σ 2 MC MS h0 by rw [hh0]]
  intro p e s m args below meth c hC H locs ls k n hE hl hR hS hk hn
  obtain ⟨hx, hb, hown, hlocks, htab, hml, hr, hB, hA, hnm⟩ := id hC
  have hts := hB.1.1.at args
  refine lv_aload_n hx hb (xb_d D_Exact_isBelow 0 rfl) rfl (lv_at hl 0 rfl) ?_
  obtain ⟨hk1, hw⟩ := hw
  refine xb_getI (C := R_Exact) (T := F_Exact) (N := 11) hx hb 9 4 hts fin_Exact hown hR hk1 (by decide) rfl (by decide) rfl (hts _ m_5c37ff4e) (fun _ h9 => h9) (xb_d D_Exact_isBelow 1 rfl) ?_
  obtain ⟨v2, ev2⟩ : ∃ x : Int32, x = (xb_i h x0 4) := ⟨_, rfl⟩
  have hw := hw v2 ev2
  refine xt_numi (y := v2) ev2.symm ?_
  refine lv_istore_n hx hb (xb_d D_Exact_isBelow 2 rfl) rfl hl (by decide) rfl (fun ls hl => ?_)
  have hl : lv_has ls 4 [(2, .int v2), (0, .ref x0), (1, .int x1)] := hl
  refine lv_aload_n hx hb (xb_d D_Exact_isBelow 3 rfl) rfl (lv_at hl 1 rfl) ?_
  refine xb_getI (C := R_Exact) (T := F_Exact) (N := 11) hx hb 9 2 hts fin_Exact hown hR hk1 (by decide) rfl (by decide) rfl (hts _ m_2f5dbefd) (fun _ h9 => h9) (xb_d D_Exact_isBelow 4 rfl) ?_
  obtain ⟨v3, ev3⟩ : ∃ x : Int32, x = (xb_i h x0 2) := ⟨_, rfl⟩
  have hw := hw v3 ev3
  refine xt_numi (y := v3) ev3.symm ?_
  refine lv_istore_n hx hb (xb_d D_Exact_isBelow 5 rfl) rfl hl (by decide) rfl (fun ls hl => ?_)
  have hl : lv_has ls 4 [(3, .int v3), (2, .int v2), (0, .ref x0), (1, .int x1)] := hl
  obtain ⟨n8, hw⟩ := hw
  exact am_Exact_isBelow_L10 l hfl D A σ MC MS h0 Qr n8 x0 x1 v2 v3 h hw p e s m args below meth c hC H locs ls k n hE (lv_sub hl [2, 3, 1, 0] rfl) hR hS (by omega) (by omega)

set_option maxRecDepth 100000 in
def T_Exact_isIn : List (Nat × Instr × Nat) := [(0, .iload_n 0, 1), (1, .iload_n 1, 1), (2, .if_icmp .lt 12, 3), (5, .iload_n 0, 1), (6, .iload_n 2, 1), (7, .if_icmp .gt 7, 3), (10, .iconst 1, 1), (11, .goto 4, 3), (14, .iconst 0, 1), (15, .ireturn, 1)]
theorem D_Exact_isIn : ∀ q ∈ T_Exact_isIn, decode b_Exact_isIn q.1 = .ok (q.2.1, q.2.2) := by decide +kernel

set_option maxHeartbeats 4000000 in
set_option maxRecDepth 100000 in
theorem am_Exact_isIn_L15 (l : Launch) (hfl : l.flags = pinnedFlags ++ [noTraceFlag]) (D : va_G) (A : Nat → Prop) (σ MC MS : Nat) (h0 : xb_H) (Qr : Int32 → xb_H → Prop) (y0 : Int32) (h : xb_H) (hw : w_Exact_isIn_L15 Qr y0 h) : xb_am l D A σ 2 MC MS h0 (fun v h _ _ => ∃ r, v = some (.int r) ∧ Qr r h) (fun _ _ _ _ => False) y_Exact_isIn.cls y_Exact_isIn.name b_Exact_isIn 3 ([] : List ExceptionTableEntry) (some .boolean) 15 [] [.int y0] h 0 0 := by
  unfold w_Exact_isIn_L15 at hw
  intro p e s m args below meth c hC H locs ls k n hE hl hR hS hk hn
  obtain ⟨hx, hb, hown, hlocks, htab, hml, hr, hB, hA, hnm⟩ := id hC
  have hts := hB.1.1.at args
  exact xb_zret 0 0 hx hb hr hlocks (show k + 0 ≤ MC by omega) (show n + 0 ≤ MS by omega) hw.1 hE hR hS (xb_d D_Exact_isIn 9 rfl) hw.2

set_option maxHeartbeats 4000000 in
set_option maxRecDepth 100000 in
theorem am_Exact_isIn_L14 (l : Launch) (hfl : l.flags = pinnedFlags ++ [noTraceFlag]) (D : va_G) (A : Nat → Prop) (σ MC MS : Nat) (h0 : xb_H) (Qr : Int32 → xb_H → Prop) (h : xb_H) (hw : w_Exact_isIn_L14 Qr h) : xb_am l D A σ 2 MC MS h0 (fun v h _ _ => ∃ r, v = some (.int r) ∧ Qr r h) (fun _ _ _ _ => False) y_Exact_isIn.cls y_Exact_isIn.name b_Exact_isIn 3 ([] : List ExceptionTableEntry) (some .boolean) 14 [] [] h 0 0 := by
  unfold w_Exact_isIn_L14 at hw
  intro p e s m args below meth c hC H locs ls k n hE hl hR hS hk hn
  obtain ⟨hx, hb, hown, hlocks, htab, hml, hr, hB, hA, hnm⟩ := id hC
  have hts := hB.1.1.at args
  refine lv_iconst (v := 0) hx hb (xb_d D_Exact_isIn 8 rfl) (by decide) ?_
  exact am_Exact_isIn_L15 l hfl D A σ MC MS h0 Qr 0 h hw p e s m args below meth c hC H locs ls k n hE (lv_sub hl [] rfl) hR hS (by omega) (by omega)

set_option maxHeartbeats 4000000 in
set_option maxRecDepth 100000 in
theorem ok_Exact_isIn (l : Launch) (hfl : l.flags = pinnedFlags ++ [noTraceFlag]) (D : va_G) (A : Nat → Prop) (σ : Nat) (x0 : Int32) (x1 : Int32) (x2 : Int32) (h : xb_H) (Qr : Int32 → xb_H → Prop) (hw : w_Exact_isIn x0 x1 x2 h Qr) : xb_Met l y_Exact_isIn [.code y_Exact_isIn b_Exact_isIn 3 (some .boolean)] (xb_rm 2 0 0) (xb_Pc D A σ h [.int x0, .int x1, .int x2]) (xb_Qc D A h 0 0 (fun v h _ _ => ∃ r, v = some (.int r) ∧ Qr r h) (fun _ _ _ _ => False)) A := by
  refine xb_ofAm (cc := b_Exact_isIn) (by decide) (Nat.le_of_ble_eq_true rfl) ?_
  unfold w_Exact_isIn at hw
  show xb_am l D A σ 2 0 0 h (fun v h _ _ => ∃ r, v = some (.int r) ∧ Qr r h) (fun _ _ _ _ => False) y_Exact_isIn.cls y_Exact_isIn.name b_Exact_isIn 3 ([] : List ExceptionTableEntry) (some .boolean) 0 [(0, .int x0), (1, .int x1), (2, .int x2)] [] h 0 0
  obtain ⟨MC, hMC⟩ : ∃ x, x = 0 := ⟨_, rfl⟩
  obtain ⟨MS, hMS⟩ : ∃ x, x = 0 := ⟨_, rfl⟩
  rw [show xb_am l D A σ 2 0 0 = xb_am l D A σ 2 MC MS by rw [hMC, hMS]]
  obtain ⟨h0, hh0⟩ : ∃ x, x = h := ⟨_, rfl⟩
  rw [show xb_am l D A σ 2 MC MS h = xb_am l D A σ 2 MC MS h0 by rw [hh0]]
  intro p e s m args below meth c hC H locs ls k n hE hl hR hS hk hn
  obtain ⟨hx, hb, hown, hlocks, htab, hml, hr, hB, hA, hnm⟩ := id hC
  have hts := hB.1.1.at args
  refine lv_iload_n hx hb (xb_d D_Exact_isIn 0 rfl) rfl (lv_at hl 0 rfl) ?_
  refine lv_iload_n hx hb (xb_d D_Exact_isIn 1 rfl) rfl (lv_at hl 1 rfl) ?_
  refine lv_icmp_lt (tgt := 14) hx hb (xb_d D_Exact_isIn 2 rfl) rfl (fun hc1 => ?_) (fun hc1 => ?_)
  · have hw := hw.1 hc1
    exact am_Exact_isIn_L14 l hfl D A σ MC MS h0 Qr h hw p e s m args below meth c hC H locs ls k n hE (lv_sub hl [] rfl) hR hS (by omega) (by omega)
  · have hw := hw.2 hc1
    refine lv_iload_n hx hb (xb_d D_Exact_isIn 3 rfl) rfl (lv_at hl 0 rfl) ?_
    refine lv_iload_n hx hb (xb_d D_Exact_isIn 4 rfl) rfl (lv_at hl 2 rfl) ?_
    refine lv_icmp_gt (tgt := 14) hx hb (xb_d D_Exact_isIn 5 rfl) rfl (fun hc2 => ?_) (fun hc2 => ?_)
    · have hw := hw.1 hc2
      exact am_Exact_isIn_L14 l hfl D A σ MC MS h0 Qr h hw p e s m args below meth c hC H locs ls k n hE (lv_sub hl [] rfl) hR hS (by omega) (by omega)
    · have hw := hw.2 hc2
      refine lv_iconst (v := 1) hx hb (xb_d D_Exact_isIn 6 rfl) (by decide) ?_
      refine lv_goto (tgt := 15) hx hb (xb_d D_Exact_isIn 7 rfl) rfl ?_
      exact am_Exact_isIn_L15 l hfl D A σ MC MS h0 Qr 1 h hw p e s m args below meth c hC H locs ls k n hE (lv_sub hl [] rfl) hR hS (by omega) (by omega)

set_option maxRecDepth 100000 in
def T_Exact_isMinus : List (Nat × Instr × Nat) := [(0, .lload_n 1, 1), (1, .aload_n 0, 1), (2, .getfield 41, 3), (5, .iconst 1, 1), (6, .isub, 1), (7, .lshr, 1), (8, .lconst 1, 1), (9, .land, 1), (10, .lconst 1, 1), (11, .lcmp, 1), (12, .ifCond .ne 7, 3), (15, .iconst 1, 1), (16, .goto 4, 3), (19, .iconst 0, 1), (20, .ireturn, 1)]
theorem D_Exact_isMinus : ∀ q ∈ T_Exact_isMinus, decode b_Exact_isMinus q.1 = .ok (q.2.1, q.2.2) := by decide +kernel

set_option maxHeartbeats 4000000 in
set_option maxRecDepth 100000 in
theorem am_Exact_isMinus_L20 (l : Launch) (hfl : l.flags = pinnedFlags ++ [noTraceFlag]) (D : va_G) (A : Nat → Prop) (σ MC MS : Nat) (h0 : xb_H) (Qr : Int32 → xb_H → Prop) (y0 : Int32) (h : xb_H) (hw : w_Exact_isMinus_L20 Qr y0 h) : xb_am l D A σ 2 MC MS h0 (fun v h _ _ => ∃ r, v = some (.int r) ∧ Qr r h) (fun _ _ _ _ => False) y_Exact_isMinus.cls y_Exact_isMinus.name b_Exact_isMinus 3 ([] : List ExceptionTableEntry) (some .boolean) 20 [] [.int y0] h 0 0 := by
  unfold w_Exact_isMinus_L20 at hw
  intro p e s m args below meth c hC H locs ls k n hE hl hR hS hk hn
  obtain ⟨hx, hb, hown, hlocks, htab, hml, hr, hB, hA, hnm⟩ := id hC
  have hts := hB.1.1.at args
  exact xb_zret 0 0 hx hb hr hlocks (show k + 0 ≤ MC by omega) (show n + 0 ≤ MS by omega) hw.1 hE hR hS (xb_d D_Exact_isMinus 14 rfl) hw.2

set_option maxHeartbeats 4000000 in
set_option maxRecDepth 100000 in
theorem ok_Exact_isMinus (l : Launch) (hfl : l.flags = pinnedFlags ++ [noTraceFlag]) (D : va_G) (A : Nat → Prop) (σ : Nat) (x0 : Nat) (x1 : Int64) (h : xb_H) (Qr : Int32 → xb_H → Prop) (hw : w_Exact_isMinus x0 x1 h Qr) : xb_Met l y_Exact_isMinus [.code y_Exact_isMinus b_Exact_isMinus 3 (some .boolean)] (xb_rm 2 0 0) (xb_Pc D A σ h [.ref x0, .long x1]) (xb_Qc D A h 0 0 (fun v h _ _ => ∃ r, v = some (.int r) ∧ Qr r h) (fun _ _ _ _ => False)) A := by
  refine xb_ofAm (cc := b_Exact_isMinus) (by decide) (Nat.le_of_ble_eq_true rfl) ?_
  unfold w_Exact_isMinus at hw
  show xb_am l D A σ 2 0 0 h (fun v h _ _ => ∃ r, v = some (.int r) ∧ Qr r h) (fun _ _ _ _ => False) y_Exact_isMinus.cls y_Exact_isMinus.name b_Exact_isMinus 3 ([] : List ExceptionTableEntry) (some .boolean) 0 [(0, .ref x0), (1, .long x1)] [] h 0 0
  obtain ⟨MC, hMC⟩ : ∃ x, x = 0 := ⟨_, rfl⟩
  obtain ⟨MS, hMS⟩ : ∃ x, x = 0 := ⟨_, rfl⟩
  rw [show xb_am l D A σ 2 0 0 = xb_am l D A σ 2 MC MS by rw [hMC, hMS]]
  obtain ⟨h0, hh0⟩ : ∃ x, x = h := ⟨_, rfl⟩
  rw [show xb_am l D A σ 2 MC MS h = xb_am l D A σ 2 MC MS h0 by rw [hh0]]
  intro p e s m args below meth c hC H locs ls k n hE hl hR hS hk hn
  obtain ⟨hx, hb, hown, hlocks, htab, hml, hr, hB, hA, hnm⟩ := id hC
  have hts := hB.1.1.at args
  refine lv_lload_n hx hb (xb_d D_Exact_isMinus 0 rfl) rfl (lv_at hl 1 rfl) ?_
  refine lv_aload_n hx hb (xb_d D_Exact_isMinus 1 rfl) rfl (lv_at hl 0 rfl) ?_
  obtain ⟨hk1, hw⟩ := hw
  refine xb_getI (C := R_Exact) (T := F_Exact) (N := 11) hx hb 9 5 hts fin_Exact hown hR hk1 (by decide) rfl (by decide) rfl (hts _ m_30b212e4) (fun _ h9 => h9) (xb_d D_Exact_isMinus 2 rfl) ?_
  refine lv_iconst (v := 1) hx hb (xb_d D_Exact_isMinus 3 rfl) (by decide) ?_
  refine lv_isub hx hb (xb_d D_Exact_isMinus 4 rfl) ?_
  refine lv_lshr (v := (xb_lshr x1 ((xb_i h x0 5) - 1))) hx hb (xb_d D_Exact_isMinus 5 rfl) rfl ?_
  refine lv_lconst (v := 1) hx hb (xb_d D_Exact_isMinus 6 rfl) (by decide) ?_
  refine lv_land hx hb (xb_d D_Exact_isMinus 7 rfl) ?_
  refine lv_lconst (v := 1) hx hb (xb_d D_Exact_isMinus 8 rfl) (by decide) ?_
  refine xb_lc_ne (tgt := 19) hx hb (xb_d D_Exact_isMinus 9 rfl) (xb_d D_Exact_isMinus 10 rfl) rfl (fun hc2 => ?_) (fun hc2 => ?_)
  · have hw := hw.1 hc2
    refine lv_iconst (v := 0) hx hb (xb_d D_Exact_isMinus 13 rfl) (by decide) ?_
    exact am_Exact_isMinus_L20 l hfl D A σ MC MS h0 Qr 0 h hw p e s m args below meth c hC H locs ls k n hE (lv_sub hl [] rfl) hR hS (by omega) (by omega)
  · have hw := hw.2 hc2
    refine lv_iconst (v := 1) hx hb (xb_d D_Exact_isMinus 11 rfl) (by decide) ?_
    refine lv_goto (tgt := 20) hx hb (xb_d D_Exact_isMinus 12 rfl) rfl ?_
    exact am_Exact_isMinus_L20 l hfl D A σ MC MS h0 Qr 1 h hw p e s m args below meth c hC H locs ls k n hE (lv_sub hl [] rfl) hR hS (by omega) (by omega)

theorem m_9070420a : (.constantLong "StackHostModel$Exact" 50 2 : Cond) ∈ xt_tbl := xt_in (xt_t12 (List.mem_of_getElem? (i := 226) (by decide +kernel))) (by decide +kernel)
set_option maxRecDepth 100000 in
def T_Exact_moved : List (Nat × Instr × Nat) := [(0, .lload_n 2, 1), (1, .lstore 5, 2), (3, .iconst 0, 1), (4, .istore 7, 2), (6, .iload 7, 2), (8, .iload 4, 2), (10, .if_icmp .ge 63, 3), (13, .iload_n 0, 1), (14, .bipush 13, 2), (16, .if_icmp .ne 12, 3), (19, .ldc2_w 50, 3), (22, .lload 5, 2), (24, .lmul, 1), (25, .goto 7, 3), (28, .lload 5, 2), (30, .iconst 1, 1), (31, .lushr, 1), (32, .lstore 5, 2), (34, .iload_n 0, 1), (35, .bipush 14, 2), (37, .if_icmp .ne 26, 3), (40, .lload_n 2, 1), (41, .iload_n 1, 1), (42, .iconst 1, 1), (43, .isub, 1), (44, .lshr, 1), (45, .lconst 1, 1), (46, .land, 1), (47, .lconst 1, 1), (48, .lcmp, 1), (49, .ifCond .ne 14, 3), (52, .lload 5, 2), (54, .lconst 1, 1), (55, .iload_n 1, 1), (56, .iconst 1, 1), (57, .isub, 1), (58, .lshl, 1), (59, .lor, 1), (60, .goto 5, 3), (63, .lload 5, 2), (65, .lstore 5, 2), (67, .iinc 7 1, 3), (70, .goto (-64), 3), (73, .lload 5, 2), (75, .lreturn, 1)]
theorem D_Exact_moved : ∀ q ∈ T_Exact_moved, decode b_Exact_moved q.1 = .ok (q.2.1, q.2.2) := by decide +kernel

set_option maxHeartbeats 4000000 in
set_option maxRecDepth 100000 in
theorem am_Exact_moved_L65 (l : Launch) (hfl : l.flags = pinnedFlags ++ [noTraceFlag]) (D : va_G) (A : Nat → Prop) (σ MC MS : Nat) (h0 : xb_H) (Qr : Int64 → xb_H → Prop) (K6 : Int32 → Int32 → Int64 → Int32 → Int64 → Int32 → xb_H → Prop) (hK6 : ∀ (x0 : Int32) (x1 : Int32) (x2 : Int64) (x4 : Int32) (x5 : Int64) (x7 : Int32) (h : xb_H), K6 x0 x1 x2 x4 x5 x7 h → xb_am l D A σ 2 MC MS h0 (fun v h _ _ => ∃ r, v = some (.long r) ∧ Qr r h) (fun _ _ _ _ => False) y_Exact_moved.cls y_Exact_moved.name b_Exact_moved 8 ([] : List ExceptionTableEntry) (some .long) 6 [(0, .int x0), (1, .int x1), (2, .long x2), (4, .int x4), (5, .long x5), (7, .int x7)] [] h 0 0) (x0 : Int32) (x1 : Int32) (x2 : Int64) (x4 : Int32) (x7 : Int32) (y0 : Int64) (h : xb_H) (hw : w_Exact_moved_L65 K6 Qr x0 x1 x2 x4 x7 y0 h) : xb_am l D A σ 2 MC MS h0 (fun v h _ _ => ∃ r, v = some (.long r) ∧ Qr r h) (fun _ _ _ _ => False) y_Exact_moved.cls y_Exact_moved.name b_Exact_moved 8 ([] : List ExceptionTableEntry) (some .long) 65 [(0, .int x0), (1, .int x1), (2, .long x2), (4, .int x4), (7, .int x7)] [.long y0] h 0 0 := by
  unfold w_Exact_moved_L65 at hw
  intro p e s m args below meth c hC H locs ls k n hE hl hR hS hk hn
  obtain ⟨hx, hb, hown, hlocks, htab, hml, hr, hB, hA, hnm⟩ := id hC
  have hts := hB.1.1.at args
  refine lv_lstore hx hb (xb_d D_Exact_moved 40 rfl) hl (by decide) rfl (fun ls hl => ?_)
  have hl : lv_has ls 8 [(5, .long y0), (0, .int x0), (1, .int x1), (2, .long x2), (4, .int x4), (7, .int x7)] := hl
  refine lv_iinc (v := (x7 + 1)) (k := 5) hx hb (xb_d D_Exact_moved 41 rfl) hl rfl (by first | rfl | decide) (by decide) rfl (fun ls hl => ?_)
  have hl : lv_has ls 8 [(7, .int (x7 + 1)), (5, .long y0), (0, .int x0), (1, .int x1), (2, .long x2), (4, .int x4)] := hl
  refine lv_goto (tgt := 6) hx hb (xb_d D_Exact_moved 42 rfl) rfl ?_
  exact hK6 x0 x1 x2 x4 y0 (x7 + 1) h hw p e s m args below meth c hC H locs ls k n hE (lv_sub hl [2, 3, 4, 5, 1, 0] rfl) hR hS (by omega) (by omega)

set_option maxHeartbeats 4000000 in
set_option maxRecDepth 100000 in
theorem am_Exact_moved_L63 (l : Launch) (hfl : l.flags = pinnedFlags ++ [noTraceFlag]) (D : va_G) (A : Nat → Prop) (σ MC MS : Nat) (h0 : xb_H) (Qr : Int64 → xb_H → Prop) (K6 : Int32 → Int32 → Int64 → Int32 → Int64 → Int32 → xb_H → Prop) (hK6 : ∀ (x0 : Int32) (x1 : Int32) (x2 : Int64) (x4 : Int32) (x5 : Int64) (x7 : Int32) (h : xb_H), K6 x0 x1 x2 x4 x5 x7 h → xb_am l D A σ 2 MC MS h0 (fun v h _ _ => ∃ r, v = some (.long r) ∧ Qr r h) (fun _ _ _ _ => False) y_Exact_moved.cls y_Exact_moved.name b_Exact_moved 8 ([] : List ExceptionTableEntry) (some .long) 6 [(0, .int x0), (1, .int x1), (2, .long x2), (4, .int x4), (5, .long x5), (7, .int x7)] [] h 0 0) (x0 : Int32) (x1 : Int32) (x2 : Int64) (x4 : Int32) (x5 : Int64) (x7 : Int32) (h : xb_H) (hw : w_Exact_moved_L63 K6 Qr x0 x1 x2 x4 x5 x7 h) : xb_am l D A σ 2 MC MS h0 (fun v h _ _ => ∃ r, v = some (.long r) ∧ Qr r h) (fun _ _ _ _ => False) y_Exact_moved.cls y_Exact_moved.name b_Exact_moved 8 ([] : List ExceptionTableEntry) (some .long) 63 [(0, .int x0), (1, .int x1), (2, .long x2), (4, .int x4), (5, .long x5), (7, .int x7)] [] h 0 0 := by
  unfold w_Exact_moved_L63 at hw
  intro p e s m args below meth c hC H locs ls k n hE hl hR hS hk hn
  obtain ⟨hx, hb, hown, hlocks, htab, hml, hr, hB, hA, hnm⟩ := id hC
  have hts := hB.1.1.at args
  refine lv_lload hx hb (xb_d D_Exact_moved 39 rfl) (lv_at hl 4 rfl) ?_
  exact am_Exact_moved_L65 l hfl D A σ MC MS h0 Qr K6 hK6 x0 x1 x2 x4 x7 x5 h hw p e s m args below meth c hC H locs ls k n hE (lv_sub hl [0, 1, 2, 3, 5] rfl) hR hS (by omega) (by omega)

set_option maxHeartbeats 4000000 in
set_option maxRecDepth 100000 in
theorem am_Exact_moved_L32 (l : Launch) (hfl : l.flags = pinnedFlags ++ [noTraceFlag]) (D : va_G) (A : Nat → Prop) (σ MC MS : Nat) (h0 : xb_H) (Qr : Int64 → xb_H → Prop) (K6 : Int32 → Int32 → Int64 → Int32 → Int64 → Int32 → xb_H → Prop) (hK6 : ∀ (x0 : Int32) (x1 : Int32) (x2 : Int64) (x4 : Int32) (x5 : Int64) (x7 : Int32) (h : xb_H), K6 x0 x1 x2 x4 x5 x7 h → xb_am l D A σ 2 MC MS h0 (fun v h _ _ => ∃ r, v = some (.long r) ∧ Qr r h) (fun _ _ _ _ => False) y_Exact_moved.cls y_Exact_moved.name b_Exact_moved 8 ([] : List ExceptionTableEntry) (some .long) 6 [(0, .int x0), (1, .int x1), (2, .long x2), (4, .int x4), (5, .long x5), (7, .int x7)] [] h 0 0) (x0 : Int32) (x1 : Int32) (x2 : Int64) (x4 : Int32) (x7 : Int32) (y0 : Int64) (h : xb_H) (hw : w_Exact_moved_L32 K6 Qr x0 x1 x2 x4 x7 y0 h) : xb_am l D A σ 2 MC MS h0 (fun v h _ _ => ∃ r, v = some (.long r) ∧ Qr r h) (fun _ _ _ _ => False) y_Exact_moved.cls y_Exact_moved.name b_Exact_moved 8 ([] : List ExceptionTableEntry) (some .long) 32 [(0, .int x0), (1, .int x1), (2, .long x2), (4, .int x4), (7, .int x7)] [.long y0] h 0 0 := by
  unfold w_Exact_moved_L32 at hw
  intro p e s m args below meth c hC H locs ls k n hE hl hR hS hk hn
  obtain ⟨hx, hb, hown, hlocks, htab, hml, hr, hB, hA, hnm⟩ := id hC
  have hts := hB.1.1.at args
  refine lv_lstore hx hb (xb_d D_Exact_moved 17 rfl) hl (by decide) rfl (fun ls hl => ?_)
  have hl : lv_has ls 8 [(5, .long y0), (0, .int x0), (1, .int x1), (2, .long x2), (4, .int x4), (7, .int x7)] := hl
  refine lv_iload_n hx hb (xb_d D_Exact_moved 18 rfl) rfl (lv_at hl 1 rfl) ?_
  refine lv_bipush (v := 14) hx hb (xb_d D_Exact_moved 19 rfl) (by decide) ?_
  refine lv_icmp_ne (tgt := 63) hx hb (xb_d D_Exact_moved 20 rfl) rfl (fun hc1 => ?_) (fun hc1 => ?_)
  · have hw := hw.1 hc1
    exact am_Exact_moved_L63 l hfl D A σ MC MS h0 Qr K6 hK6 x0 x1 x2 x4 y0 x7 h hw p e s m args below meth c hC H locs ls k n hE (lv_sub hl [1, 2, 3, 4, 0, 5] rfl) hR hS (by omega) (by omega)
  · have hw := hw.2 hc1
    refine lv_lload_n hx hb (xb_d D_Exact_moved 21 rfl) rfl (lv_at hl 3 rfl) ?_
    refine lv_iload_n hx hb (xb_d D_Exact_moved 22 rfl) rfl (lv_at hl 2 rfl) ?_
    refine lv_iconst (v := 1) hx hb (xb_d D_Exact_moved 23 rfl) (by decide) ?_
    refine lv_isub hx hb (xb_d D_Exact_moved 24 rfl) ?_
    refine lv_lshr (v := (xb_lshr x2 (x1 - 1))) hx hb (xb_d D_Exact_moved 25 rfl) rfl ?_
    refine lv_lconst (v := 1) hx hb (xb_d D_Exact_moved 26 rfl) (by decide) ?_
    refine lv_land hx hb (xb_d D_Exact_moved 27 rfl) ?_
    refine lv_lconst (v := 1) hx hb (xb_d D_Exact_moved 28 rfl) (by decide) ?_
    refine xb_lc_ne (tgt := 63) hx hb (xb_d D_Exact_moved 29 rfl) (xb_d D_Exact_moved 30 rfl) rfl (fun hc2 => ?_) (fun hc2 => ?_)
    · have hw := hw.1 hc2
      exact am_Exact_moved_L63 l hfl D A σ MC MS h0 Qr K6 hK6 x0 x1 x2 x4 y0 x7 h hw p e s m args below meth c hC H locs ls k n hE (lv_sub hl [1, 2, 3, 4, 0, 5] rfl) hR hS (by omega) (by omega)
    · have hw := hw.2 hc2
      refine lv_lload hx hb (xb_d D_Exact_moved 31 rfl) (lv_at hl 0 rfl) ?_
      refine lv_lconst (v := 1) hx hb (xb_d D_Exact_moved 32 rfl) (by decide) ?_
      refine lv_iload_n hx hb (xb_d D_Exact_moved 33 rfl) rfl (lv_at hl 2 rfl) ?_
      refine lv_iconst (v := 1) hx hb (xb_d D_Exact_moved 34 rfl) (by decide) ?_
      refine lv_isub hx hb (xb_d D_Exact_moved 35 rfl) ?_
      refine lv_lshl (v := (xb_lshl 1 (x1 - 1))) hx hb (xb_d D_Exact_moved 36 rfl) rfl ?_
      refine lv_lor hx hb (xb_d D_Exact_moved 37 rfl) ?_
      refine lv_goto (tgt := 65) hx hb (xb_d D_Exact_moved 38 rfl) rfl ?_
      exact am_Exact_moved_L65 l hfl D A σ MC MS h0 Qr K6 hK6 x0 x1 x2 x4 x7 (y0 ||| (xb_lshl 1 (x1 - 1))) h hw p e s m args below meth c hC H locs ls k n hE (lv_sub hl [1, 2, 3, 4, 5] rfl) hR hS (by omega) (by omega)

set_option maxHeartbeats 4000000 in
set_option maxRecDepth 100000 in
theorem am_Exact_moved_L6 (l : Launch) (hfl : l.flags = pinnedFlags ++ [noTraceFlag]) (D : va_G) (A : Nat → Prop) (σ MC MS : Nat) (h0 : xb_H) (Qr : Int64 → xb_H → Prop) (n9 : Nat) : ∀ (x0 : Int32) (x1 : Int32) (x2 : Int64) (x4 : Int32) (x5 : Int64) (x7 : Int32) (h : xb_H), w_Exact_moved_L6 Qr n9 x0 x1 x2 x4 x5 x7 h → xb_am l D A σ 2 MC MS h0 (fun v h _ _ => ∃ r, v = some (.long r) ∧ Qr r h) (fun _ _ _ _ => False) y_Exact_moved.cls y_Exact_moved.name b_Exact_moved 8 ([] : List ExceptionTableEntry) (some .long) 6 [(0, .int x0), (1, .int x1), (2, .long x2), (4, .int x4), (5, .long x5), (7, .int x7)] [] h 0 0 := by
  induction n9 with
  | zero => intro x0 x1 x2 x4 x5 x7 h hw; exact False.elim hw
  | succ n9 ih =>
    intro x0 x1 x2 x4 x5 x7 h hw
    unfold w_Exact_moved_L6 at hw
    intro p e s m args below meth c hC H locs ls k n hE hl hR hS hk hn
    obtain ⟨hx, hb, hown, hlocks, htab, hml, hr, hB, hA, hnm⟩ := id hC
    have hts := hB.1.1.at args
    refine lv_iload hx hb (xb_d D_Exact_moved 4 rfl) (lv_at hl 5 rfl) ?_
    refine lv_iload hx hb (xb_d D_Exact_moved 5 rfl) (lv_at hl 3 rfl) ?_
    refine lv_icmp_ge (tgt := 73) hx hb (xb_d D_Exact_moved 6 rfl) rfl (fun hc1 => ?_) (fun hc1 => ?_)
    · have hw := hw.1 hc1
      refine lv_lload hx hb (xb_d D_Exact_moved 43 rfl) (lv_at hl 4 rfl) ?_
      exact xb_lret 0 0 hx hb hr hlocks (show k + 0 ≤ MC by omega) (show n + 0 ≤ MS by omega) hE hR hS (xb_d D_Exact_moved 44 rfl) hw
    · have hw := hw.2 hc1
      refine lv_iload_n hx hb (xb_d D_Exact_moved 7 rfl) rfl (lv_at hl 0 rfl) ?_
      refine lv_bipush (v := 13) hx hb (xb_d D_Exact_moved 8 rfl) (by decide) ?_
      refine lv_icmp_ne (tgt := 28) hx hb (xb_d D_Exact_moved 9 rfl) rfl (fun hc2 => ?_) (fun hc2 => ?_)
      · have hw := hw.1 hc2
        refine lv_lload hx hb (xb_d D_Exact_moved 14 rfl) (lv_at hl 4 rfl) ?_
        refine lv_iconst (v := 1) hx hb (xb_d D_Exact_moved 15 rfl) (by decide) ?_
        refine lv_lushr (v := (xb_lushr x5 1)) hx hb (xb_d D_Exact_moved 16 rfl) rfl ?_
        exact am_Exact_moved_L32 l hfl D A σ MC MS h0 Qr (w_Exact_moved_L6 Qr n9) ih x0 x1 x2 x4 x7 (xb_lushr x5 1) h hw p e s m args below meth c hC H locs ls k n hE (lv_sub hl [0, 1, 2, 3, 5] rfl) hR hS (by omega) (by omega)
      · have hw := hw.2 hc2
        refine lv_ldc2 (v := 2) hx hb hown (hts _ m_9070420a) (xb_d D_Exact_moved 10 rfl) ?_
        refine lv_lload hx hb (xb_d D_Exact_moved 11 rfl) (lv_at hl 4 rfl) ?_
        refine lv_lmul hx hb (xb_d D_Exact_moved 12 rfl) ?_
        refine lv_goto (tgt := 32) hx hb (xb_d D_Exact_moved 13 rfl) rfl ?_
        exact am_Exact_moved_L32 l hfl D A σ MC MS h0 Qr (w_Exact_moved_L6 Qr n9) ih x0 x1 x2 x4 x7 (2 * x5) h hw p e s m args below meth c hC H locs ls k n hE (lv_sub hl [0, 1, 2, 3, 5] rfl) hR hS (by omega) (by omega)

set_option maxHeartbeats 4000000 in
set_option maxRecDepth 100000 in
theorem ok_Exact_moved (l : Launch) (hfl : l.flags = pinnedFlags ++ [noTraceFlag]) (D : va_G) (A : Nat → Prop) (σ : Nat) (x0 : Int32) (x1 : Int32) (x2 : Int64) (x4 : Int32) (h : xb_H) (Qr : Int64 → xb_H → Prop) (hw : w_Exact_moved x0 x1 x2 x4 h Qr) : xb_Met l y_Exact_moved [.code y_Exact_moved b_Exact_moved 8 (some .long)] (xb_rm 2 0 0) (xb_Pc D A σ h [.int x0, .int x1, .long x2, .int x4]) (xb_Qc D A h 0 0 (fun v h _ _ => ∃ r, v = some (.long r) ∧ Qr r h) (fun _ _ _ _ => False)) A := by
  refine xb_ofAm (cc := b_Exact_moved) (by decide) (Nat.le_of_ble_eq_true rfl) ?_
  unfold w_Exact_moved at hw
  show xb_am l D A σ 2 0 0 h (fun v h _ _ => ∃ r, v = some (.long r) ∧ Qr r h) (fun _ _ _ _ => False) y_Exact_moved.cls y_Exact_moved.name b_Exact_moved 8 ([] : List ExceptionTableEntry) (some .long) 0 [(0, .int x0), (1, .int x1), (2, .long x2), (4, .int x4)] [] h 0 0
  obtain ⟨MC, hMC⟩ : ∃ x, x = 0 := ⟨_, rfl⟩
  obtain ⟨MS, hMS⟩ : ∃ x, x = 0 := ⟨_, rfl⟩
  rw [show xb_am l D A σ 2 0 0 = xb_am l D A σ 2 MC MS by rw [hMC, hMS]]
  obtain ⟨h0, hh0⟩ : ∃ x, x = h := ⟨_, rfl⟩
  rw [show xb_am l D A σ 2 MC MS h = xb_am l D A σ 2 MC MS h0 by rw [hh0]]
  intro p e s m args below meth c hC H locs ls k n hE hl hR hS hk hn
  obtain ⟨hx, hb, hown, hlocks, htab, hml, hr, hB, hA, hnm⟩ := id hC
  have hts := hB.1.1.at args
  refine lv_lload_n hx hb (xb_d D_Exact_moved 0 rfl) rfl (lv_at hl 2 rfl) ?_
  refine lv_lstore hx hb (xb_d D_Exact_moved 1 rfl) hl (by decide) rfl (fun ls hl => ?_)
  have hl : lv_has ls 8 [(5, .long x2), (0, .int x0), (1, .int x1), (2, .long x2), (4, .int x4)] := hl
  refine lv_iconst (v := 0) hx hb (xb_d D_Exact_moved 2 rfl) (by decide) ?_
  refine lv_istore hx hb (xb_d D_Exact_moved 3 rfl) hl (by decide) rfl (fun ls hl => ?_)
  have hl : lv_has ls 8 [(7, .int 0), (5, .long x2), (0, .int x0), (1, .int x1), (2, .long x2), (4, .int x4)] := hl
  obtain ⟨n8, hw⟩ := hw
  exact am_Exact_moved_L6 l hfl D A σ MC MS h0 Qr n8 x0 x1 x2 x4 x2 0 h hw p e s m args below meth c hC H locs ls k n hE (lv_sub hl [2, 3, 4, 5, 1, 0] rfl) hR hS (by omega) (by omega)

theorem m_4725d912 : (.constantLong "StackHostModel$Exact" 70 9221120237041090560 : Cond) ∈ xt_tbl := xt_in (xt_t13 (List.mem_of_getElem? (i := 52) (by decide +kernel))) (by decide +kernel)
theorem m_a05f3762 : (.constantLong "StackHostModel$Exact" 68 2143289344 : Cond) ∈ xt_tbl := xt_in (xt_t13 (List.mem_of_getElem? (i := 51) (by decide +kernel))) (by decide +kernel)
set_option maxRecDepth 100000 in
def T_Exact_noNumber : List (Nat × Instr × Nat) := [(0, .aload_n 0, 1), (1, .getfield 41, 3), (4, .bipush 32, 2), (6, .if_icmp .ne 9, 3), (9, .ldc2_w 68, 3), (12, .goto 6, 3), (15, .ldc2_w 70, 3), (18, .lreturn, 1)]
theorem D_Exact_noNumber : ∀ q ∈ T_Exact_noNumber, decode b_Exact_noNumber q.1 = .ok (q.2.1, q.2.2) := by decide +kernel

set_option maxHeartbeats 4000000 in
set_option maxRecDepth 100000 in
theorem am_Exact_noNumber_L18 (l : Launch) (hfl : l.flags = pinnedFlags ++ [noTraceFlag]) (D : va_G) (A : Nat → Prop) (σ MC MS : Nat) (h0 : xb_H) (Qr : Int64 → xb_H → Prop) (y0 : Int64) (h : xb_H) (hw : w_Exact_noNumber_L18 Qr y0 h) : xb_am l D A σ 2 MC MS h0 (fun v h _ _ => ∃ r, v = some (.long r) ∧ Qr r h) (fun _ _ _ _ => False) y_Exact_noNumber.cls y_Exact_noNumber.name b_Exact_noNumber 1 ([] : List ExceptionTableEntry) (some .long) 18 [] [.long y0] h 0 0 := by
  unfold w_Exact_noNumber_L18 at hw
  intro p e s m args below meth c hC H locs ls k n hE hl hR hS hk hn
  obtain ⟨hx, hb, hown, hlocks, htab, hml, hr, hB, hA, hnm⟩ := id hC
  have hts := hB.1.1.at args
  exact xb_lret 0 0 hx hb hr hlocks (show k + 0 ≤ MC by omega) (show n + 0 ≤ MS by omega) hE hR hS (xb_d D_Exact_noNumber 7 rfl) hw

set_option maxHeartbeats 4000000 in
set_option maxRecDepth 100000 in
theorem ok_Exact_noNumber (l : Launch) (hfl : l.flags = pinnedFlags ++ [noTraceFlag]) (D : va_G) (A : Nat → Prop) (σ : Nat) (x0 : Nat) (h : xb_H) (Qr : Int64 → xb_H → Prop) (hw : w_Exact_noNumber x0 h Qr) : xb_Met l y_Exact_noNumber [.code y_Exact_noNumber b_Exact_noNumber 1 (some .long)] (xb_rm 2 0 0) (xb_Pc D A σ h [.ref x0]) (xb_Qc D A h 0 0 (fun v h _ _ => ∃ r, v = some (.long r) ∧ Qr r h) (fun _ _ _ _ => False)) A := by
  refine xb_ofAm (cc := b_Exact_noNumber) (by decide) (Nat.le_of_ble_eq_true rfl) ?_
  unfold w_Exact_noNumber at hw
  show xb_am l D A σ 2 0 0 h (fun v h _ _ => ∃ r, v = some (.long r) ∧ Qr r h) (fun _ _ _ _ => False) y_Exact_noNumber.cls y_Exact_noNumber.name b_Exact_noNumber 1 ([] : List ExceptionTableEntry) (some .long) 0 [(0, .ref x0)] [] h 0 0
  obtain ⟨MC, hMC⟩ : ∃ x, x = 0 := ⟨_, rfl⟩
  obtain ⟨MS, hMS⟩ : ∃ x, x = 0 := ⟨_, rfl⟩
  rw [show xb_am l D A σ 2 0 0 = xb_am l D A σ 2 MC MS by rw [hMC, hMS]]
  obtain ⟨h0, hh0⟩ : ∃ x, x = h := ⟨_, rfl⟩
  rw [show xb_am l D A σ 2 MC MS h = xb_am l D A σ 2 MC MS h0 by rw [hh0]]
  intro p e s m args below meth c hC H locs ls k n hE hl hR hS hk hn
  obtain ⟨hx, hb, hown, hlocks, htab, hml, hr, hB, hA, hnm⟩ := id hC
  have hts := hB.1.1.at args
  refine lv_aload_n hx hb (xb_d D_Exact_noNumber 0 rfl) rfl (lv_at hl 0 rfl) ?_
  obtain ⟨hk1, hw⟩ := hw
  refine xb_getI (C := R_Exact) (T := F_Exact) (N := 11) hx hb 9 5 hts fin_Exact hown hR hk1 (by decide) rfl (by decide) rfl (hts _ m_30b212e4) (fun _ h9 => h9) (xb_d D_Exact_noNumber 1 rfl) ?_
  refine lv_bipush (v := 32) hx hb (xb_d D_Exact_noNumber 2 rfl) (by decide) ?_
  refine lv_icmp_ne (tgt := 15) hx hb (xb_d D_Exact_noNumber 3 rfl) rfl (fun hc2 => ?_) (fun hc2 => ?_)
  · have hw := hw.1 hc2
    refine lv_ldc2 (v := 9221120237041090560) hx hb hown (hts _ m_4725d912) (xb_d D_Exact_noNumber 6 rfl) ?_
    exact am_Exact_noNumber_L18 l hfl D A σ MC MS h0 Qr 9221120237041090560 h hw p e s m args below meth c hC H locs ls k n hE (lv_sub hl [] rfl) hR hS (by omega) (by omega)
  · have hw := hw.2 hc2
    refine lv_ldc2 (v := 2143289344) hx hb hown (hts _ m_a05f3762) (xb_d D_Exact_noNumber 4 rfl) ?_
    refine lv_goto (tgt := 18) hx hb (xb_d D_Exact_noNumber 5 rfl) rfl ?_
    exact am_Exact_noNumber_L18 l hfl D A σ MC MS h0 Qr 2143289344 h hw p e s m args below meth c hC H locs ls k n hE (lv_sub hl [] rfl) hR hS (by omega) (by omega)

set_option maxRecDepth 100000 in
def T_Exact_reach : List (Nat × Instr × Nat) := [(0, .aload_n 0, 1), (1, .iload_n 1, 1), (2, .aload_n 0, 1), (3, .getfield 15, 3), (6, .if_icmp .ge 7, 3), (9, .iload_n 1, 1), (10, .goto 7, 3), (13, .aload_n 0, 1), (14, .getfield 15, 3), (17, .putfield 15, 3), (20, .aload_n 0, 1), (21, .iload_n 2, 1), (22, .aload_n 0, 1), (23, .getfield 19, 3), (26, .if_icmp .le 7, 3), (29, .iload_n 2, 1), (30, .goto 7, 3), (33, .aload_n 0, 1), (34, .getfield 19, 3), (37, .putfield 19, 3), (40, .return_, 1)]
theorem D_Exact_reach : ∀ q ∈ T_Exact_reach, decode b_Exact_reach q.1 = .ok (q.2.1, q.2.2) := by decide +kernel

set_option maxHeartbeats 4000000 in
set_option maxRecDepth 100000 in
theorem am_Exact_reach_L37 (l : Launch) (hfl : l.flags = pinnedFlags ++ [noTraceFlag]) (D : va_G) (A : Nat → Prop) (σ MC MS : Nat) (h0 : xb_H) (Qr : xb_H → Prop) (y0 : Int32) (y1 : Nat) (h : xb_H) (hw : w_Exact_reach_L37 Qr y0 y1 h) : xb_am l D A σ 2 MC MS h0 (fun v h _ _ => v = none ∧ Qr h) (fun _ _ _ _ => False) y_Exact_reach.cls y_Exact_reach.name b_Exact_reach 3 ([] : List ExceptionTableEntry) none 37 [] [.int y0, .ref y1] h 0 0 := by
  unfold w_Exact_reach_L37 at hw
  intro p e s m args below meth c hC H locs ls k n hE hl hR hS hk hn
  obtain ⟨hx, hb, hown, hlocks, htab, hml, hr, hB, hA, hnm⟩ := id hC
  have hts := hB.1.1.at args
  obtain ⟨hk1, hw⟩ := hw
  refine xb_putI (C := R_Exact) (T := F_Exact) (N := 11) (ty := .int) (x := y0) hx hb 9 3 hts fin_Exact t_Exact t_Exact_ok n_Exact hown hR hS hk1 (by decide) rfl (by decide) rfl (hts _ m_ee80a7fc) (fun _ h9 => h9) rfl (by decide +kernel) rfl rfl (xb_d D_Exact_reach 19 rfl) (fun H locs hR hS => ?_)
  obtain ⟨h2, eh2⟩ : ∃ x : xb_H, x = xb_I h y1 3 y0 := ⟨_, rfl⟩
  rw [← eh2] at hR
  have hw := hw h2 eh2
  have hE : xb_ext h0 h2 := by rw [eh2]; exact hE
  exact xb_vret 0 0 hx hb hr hlocks (show k + 0 ≤ MC by omega) (show n + 0 ≤ MS by omega) hE hR hS (xb_d D_Exact_reach 20 rfl) hw

set_option maxHeartbeats 4000000 in
set_option maxRecDepth 100000 in
theorem am_Exact_reach_L17 (l : Launch) (hfl : l.flags = pinnedFlags ++ [noTraceFlag]) (D : va_G) (A : Nat → Prop) (σ MC MS : Nat) (h0 : xb_H) (Qr : xb_H → Prop) (x0 : Nat) (x2 : Int32) (y0 : Int32) (y1 : Nat) (h : xb_H) (hw : w_Exact_reach_L17 Qr x0 x2 y0 y1 h) : xb_am l D A σ 2 MC MS h0 (fun v h _ _ => v = none ∧ Qr h) (fun _ _ _ _ => False) y_Exact_reach.cls y_Exact_reach.name b_Exact_reach 3 ([] : List ExceptionTableEntry) none 17 [(0, .ref x0), (2, .int x2)] [.int y0, .ref y1] h 0 0 := by
  unfold w_Exact_reach_L17 at hw
  intro p e s m args below meth c hC H locs ls k n hE hl hR hS hk hn
  obtain ⟨hx, hb, hown, hlocks, htab, hml, hr, hB, hA, hnm⟩ := id hC
  have hts := hB.1.1.at args
  obtain ⟨hk1, hw⟩ := hw
  refine xb_putI (C := R_Exact) (T := F_Exact) (N := 11) (ty := .int) (x := y0) hx hb 9 2 hts fin_Exact t_Exact t_Exact_ok n_Exact hown hR hS hk1 (by decide) rfl (by decide) rfl (hts _ m_2f5dbefd) (fun _ h9 => h9) rfl (by decide +kernel) rfl rfl (xb_d D_Exact_reach 9 rfl) (fun H locs hR hS => ?_)
  obtain ⟨h2, eh2⟩ : ∃ x : xb_H, x = xb_I h y1 2 y0 := ⟨_, rfl⟩
  rw [← eh2] at hR
  have hw := hw h2 eh2
  have hE : xb_ext h0 h2 := by rw [eh2]; exact hE
  refine lv_aload_n hx hb (xb_d D_Exact_reach 10 rfl) rfl (lv_at hl 0 rfl) ?_
  refine lv_iload_n hx hb (xb_d D_Exact_reach 11 rfl) rfl (lv_at hl 1 rfl) ?_
  refine lv_aload_n hx hb (xb_d D_Exact_reach 12 rfl) rfl (lv_at hl 0 rfl) ?_
  obtain ⟨hk3, hw⟩ := hw
  refine xb_getI (C := R_Exact) (T := F_Exact) (N := 11) hx hb 9 3 hts fin_Exact hown hR hk3 (by decide) rfl (by decide) rfl (hts _ m_ee80a7fc) (fun _ h9 => h9) (xb_d D_Exact_reach 13 rfl) ?_
  refine lv_icmp_le (tgt := 33) hx hb (xb_d D_Exact_reach 14 rfl) rfl (fun hc4 => ?_) (fun hc4 => ?_)
  · have hw := hw.1 hc4
    refine lv_aload_n hx hb (xb_d D_Exact_reach 17 rfl) rfl (lv_at hl 0 rfl) ?_
    refine xb_getI (C := R_Exact) (T := F_Exact) (N := 11) hx hb 9 3 hts fin_Exact hown hR hk3 (by decide) rfl (by decide) rfl (hts _ m_ee80a7fc) (fun _ h9 => h9) (xb_d D_Exact_reach 18 rfl) ?_
    exact am_Exact_reach_L37 l hfl D A σ MC MS h0 Qr (xb_i h2 x0 3) x0 h2 hw p e s m args below meth c hC H locs ls k n hE (lv_sub hl [] rfl) hR hS (by omega) (by omega)
  · have hw := hw.2 hc4
    refine lv_iload_n hx hb (xb_d D_Exact_reach 15 rfl) rfl (lv_at hl 1 rfl) ?_
    refine lv_goto (tgt := 37) hx hb (xb_d D_Exact_reach 16 rfl) rfl ?_
    exact am_Exact_reach_L37 l hfl D A σ MC MS h0 Qr x2 x0 h2 hw p e s m args below meth c hC H locs ls k n hE (lv_sub hl [] rfl) hR hS (by omega) (by omega)

set_option maxHeartbeats 4000000 in
set_option maxRecDepth 100000 in
theorem ok_Exact_reach (l : Launch) (hfl : l.flags = pinnedFlags ++ [noTraceFlag]) (D : va_G) (A : Nat → Prop) (σ : Nat) (x0 : Nat) (x1 : Int32) (x2 : Int32) (h : xb_H) (Qr : xb_H → Prop) (hw : w_Exact_reach x0 x1 x2 h Qr) : xb_Met l y_Exact_reach [.code y_Exact_reach b_Exact_reach 3 none] (xb_rm 2 0 0) (xb_Pc D A σ h [.ref x0, .int x1, .int x2]) (xb_Qc D A h 0 0 (fun v h _ _ => v = none ∧ Qr h) (fun _ _ _ _ => False)) A := by
  refine xb_ofAm (cc := b_Exact_reach) (by decide) (Nat.le_of_ble_eq_true rfl) ?_
  unfold w_Exact_reach at hw
  show xb_am l D A σ 2 0 0 h (fun v h _ _ => v = none ∧ Qr h) (fun _ _ _ _ => False) y_Exact_reach.cls y_Exact_reach.name b_Exact_reach 3 ([] : List ExceptionTableEntry) none 0 [(0, .ref x0), (1, .int x1), (2, .int x2)] [] h 0 0
  obtain ⟨MC, hMC⟩ : ∃ x, x = 0 := ⟨_, rfl⟩
  obtain ⟨MS, hMS⟩ : ∃ x, x = 0 := ⟨_, rfl⟩
  rw [show xb_am l D A σ 2 0 0 = xb_am l D A σ 2 MC MS by rw [hMC, hMS]]
  obtain ⟨h0, hh0⟩ : ∃ x, x = h := ⟨_, rfl⟩
  rw [show xb_am l D A σ 2 MC MS h = xb_am l D A σ 2 MC MS h0 by rw [hh0]]
  intro p e s m args below meth c hC H locs ls k n hE hl hR hS hk hn
  obtain ⟨hx, hb, hown, hlocks, htab, hml, hr, hB, hA, hnm⟩ := id hC
  have hts := hB.1.1.at args
  refine lv_aload_n hx hb (xb_d D_Exact_reach 0 rfl) rfl (lv_at hl 0 rfl) ?_
  refine lv_iload_n hx hb (xb_d D_Exact_reach 1 rfl) rfl (lv_at hl 1 rfl) ?_
  refine lv_aload_n hx hb (xb_d D_Exact_reach 2 rfl) rfl (lv_at hl 0 rfl) ?_
  obtain ⟨hk1, hw⟩ := hw
  refine xb_getI (C := R_Exact) (T := F_Exact) (N := 11) hx hb 9 2 hts fin_Exact hown hR hk1 (by decide) rfl (by decide) rfl (hts _ m_2f5dbefd) (fun _ h9 => h9) (xb_d D_Exact_reach 3 rfl) ?_
  refine lv_icmp_ge (tgt := 13) hx hb (xb_d D_Exact_reach 4 rfl) rfl (fun hc2 => ?_) (fun hc2 => ?_)
  · have hw := hw.1 hc2
    refine lv_aload_n hx hb (xb_d D_Exact_reach 7 rfl) rfl (lv_at hl 0 rfl) ?_
    refine xb_getI (C := R_Exact) (T := F_Exact) (N := 11) hx hb 9 2 hts fin_Exact hown hR hk1 (by decide) rfl (by decide) rfl (hts _ m_2f5dbefd) (fun _ h9 => h9) (xb_d D_Exact_reach 8 rfl) ?_
    exact am_Exact_reach_L17 l hfl D A σ MC MS h0 Qr x0 x2 (xb_i h x0 2) x0 h hw p e s m args below meth c hC H locs ls k n hE (lv_sub hl [0, 2] rfl) hR hS (by omega) (by omega)
  · have hw := hw.2 hc2
    refine lv_iload_n hx hb (xb_d D_Exact_reach 5 rfl) rfl (lv_at hl 1 rfl) ?_
    refine lv_goto (tgt := 17) hx hb (xb_d D_Exact_reach 6 rfl) rfl ?_
    exact am_Exact_reach_L17 l hfl D A σ MC MS h0 Qr x0 x2 x1 x0 h hw p e s m args below meth c hC H locs ls k n hE (lv_sub hl [0, 2] rfl) hR hS (by omega) (by omega)

set_option maxRecDepth 100000 in
def T_Exact_result : List (Nat × Instr × Nat) := [(0, .iload_n 0, 1), (1, .bipush 120, 2), (3, .if_icmp .gt 5, 3), (6, .iconst 0, 1), (7, .ireturn, 1), (8, .iload_n 0, 1), (9, .sipush 166, 3), (12, .if_icmp .gt 27, 3), (15, .iload_n 0, 1), (16, .sipush 138, 3), (19, .if_icmp .gt 7, 3), (22, .iconst 1, 1), (23, .goto 15, 3), (26, .iload_n 0, 1), (27, .sipush 152, 3), (30, .if_icmp .gt 7, 3), (33, .iconst 2, 1), (34, .goto 4, 3), (37, .iconst 3, 1), (38, .ireturn, 1), (39, .iload_n 0, 1), (40, .sipush 177, 3), (43, .if_icmp .gt 16, 3), (46, .iload_n 0, 1), (47, .sipush 171, 3), (50, .if_icmp .gt 7, 3), (53, .iconst 0, 1), (54, .goto 4, 3), (57, .iconst 1, 1), (58, .ireturn, 1), (59, .iload_n 0, 1), (60, .sipush 182, 3), (63, .if_icmp .gt 7, 3), (66, .iconst 2, 1), (67, .goto 19, 3), (70, .iload_n 0, 1), (71, .sipush 187, 3), (74, .if_icmp .gt 7, 3), (77, .iconst 3, 1), (78, .goto 8, 3), (81, .iload_n 0, 1), (82, .sipush 188, 3), (85, .isub, 1), (86, .ireturn, 1)]
theorem D_Exact_result : ∀ q ∈ T_Exact_result, decode b_Exact_result q.1 = .ok (q.2.1, q.2.2) := by decide +kernel

set_option maxHeartbeats 4000000 in
set_option maxRecDepth 100000 in
theorem am_Exact_result_L86 (l : Launch) (hfl : l.flags = pinnedFlags ++ [noTraceFlag]) (D : va_G) (A : Nat → Prop) (σ MC MS : Nat) (h0 : xb_H) (Qr : Int32 → xb_H → Prop) (y0 : Int32) (h : xb_H) (hw : w_Exact_result_L86 Qr y0 h) : xb_am l D A σ 2 MC MS h0 (fun v h _ _ => ∃ r, v = some (.int r) ∧ Qr r h) (fun _ _ _ _ => False) y_Exact_result.cls y_Exact_result.name b_Exact_result 1 ([] : List ExceptionTableEntry) (some .int) 86 [] [.int y0] h 0 0 := by
  unfold w_Exact_result_L86 at hw
  intro p e s m args below meth c hC H locs ls k n hE hl hR hS hk hn
  obtain ⟨hx, hb, hown, hlocks, htab, hml, hr, hB, hA, hnm⟩ := id hC
  have hts := hB.1.1.at args
  exact xb_iret 0 0 hx hb hr hlocks (show k + 0 ≤ MC by omega) (show n + 0 ≤ MS by omega) hE hR hS (xb_d D_Exact_result 43 rfl) hw

set_option maxHeartbeats 4000000 in
set_option maxRecDepth 100000 in
theorem am_Exact_result_L58 (l : Launch) (hfl : l.flags = pinnedFlags ++ [noTraceFlag]) (D : va_G) (A : Nat → Prop) (σ MC MS : Nat) (h0 : xb_H) (Qr : Int32 → xb_H → Prop) (y0 : Int32) (h : xb_H) (hw : w_Exact_result_L58 Qr y0 h) : xb_am l D A σ 2 MC MS h0 (fun v h _ _ => ∃ r, v = some (.int r) ∧ Qr r h) (fun _ _ _ _ => False) y_Exact_result.cls y_Exact_result.name b_Exact_result 1 ([] : List ExceptionTableEntry) (some .int) 58 [] [.int y0] h 0 0 := by
  unfold w_Exact_result_L58 at hw
  intro p e s m args below meth c hC H locs ls k n hE hl hR hS hk hn
  obtain ⟨hx, hb, hown, hlocks, htab, hml, hr, hB, hA, hnm⟩ := id hC
  have hts := hB.1.1.at args
  exact xb_iret 0 0 hx hb hr hlocks (show k + 0 ≤ MC by omega) (show n + 0 ≤ MS by omega) hE hR hS (xb_d D_Exact_result 29 rfl) hw

set_option maxHeartbeats 4000000 in
set_option maxRecDepth 100000 in
theorem am_Exact_result_L38 (l : Launch) (hfl : l.flags = pinnedFlags ++ [noTraceFlag]) (D : va_G) (A : Nat → Prop) (σ MC MS : Nat) (h0 : xb_H) (Qr : Int32 → xb_H → Prop) (y0 : Int32) (h : xb_H) (hw : w_Exact_result_L38 Qr y0 h) : xb_am l D A σ 2 MC MS h0 (fun v h _ _ => ∃ r, v = some (.int r) ∧ Qr r h) (fun _ _ _ _ => False) y_Exact_result.cls y_Exact_result.name b_Exact_result 1 ([] : List ExceptionTableEntry) (some .int) 38 [] [.int y0] h 0 0 := by
  unfold w_Exact_result_L38 at hw
  intro p e s m args below meth c hC H locs ls k n hE hl hR hS hk hn
  obtain ⟨hx, hb, hown, hlocks, htab, hml, hr, hB, hA, hnm⟩ := id hC
  have hts := hB.1.1.at args
  exact xb_iret 0 0 hx hb hr hlocks (show k + 0 ≤ MC by omega) (show n + 0 ≤ MS by omega) hE hR hS (xb_d D_Exact_result 19 rfl) hw

set_option maxHeartbeats 4000000 in
set_option maxRecDepth 100000 in
theorem ok_Exact_result (l : Launch) (hfl : l.flags = pinnedFlags ++ [noTraceFlag]) (D : va_G) (A : Nat → Prop) (σ : Nat) (x0 : Int32) (h : xb_H) (Qr : Int32 → xb_H → Prop) (hw : w_Exact_result x0 h Qr) : xb_Met l y_Exact_result [.code y_Exact_result b_Exact_result 1 (some .int)] (xb_rm 2 0 0) (xb_Pc D A σ h [.int x0]) (xb_Qc D A h 0 0 (fun v h _ _ => ∃ r, v = some (.int r) ∧ Qr r h) (fun _ _ _ _ => False)) A := by
  refine xb_ofAm (cc := b_Exact_result) (by decide) (Nat.le_of_ble_eq_true rfl) ?_
  unfold w_Exact_result at hw
  show xb_am l D A σ 2 0 0 h (fun v h _ _ => ∃ r, v = some (.int r) ∧ Qr r h) (fun _ _ _ _ => False) y_Exact_result.cls y_Exact_result.name b_Exact_result 1 ([] : List ExceptionTableEntry) (some .int) 0 [(0, .int x0)] [] h 0 0
  obtain ⟨MC, hMC⟩ : ∃ x, x = 0 := ⟨_, rfl⟩
  obtain ⟨MS, hMS⟩ : ∃ x, x = 0 := ⟨_, rfl⟩
  rw [show xb_am l D A σ 2 0 0 = xb_am l D A σ 2 MC MS by rw [hMC, hMS]]
  obtain ⟨h0, hh0⟩ : ∃ x, x = h := ⟨_, rfl⟩
  rw [show xb_am l D A σ 2 MC MS h = xb_am l D A σ 2 MC MS h0 by rw [hh0]]
  intro p e s m args below meth c hC H locs ls k n hE hl hR hS hk hn
  obtain ⟨hx, hb, hown, hlocks, htab, hml, hr, hB, hA, hnm⟩ := id hC
  have hts := hB.1.1.at args
  refine lv_iload_n hx hb (xb_d D_Exact_result 0 rfl) rfl (lv_at hl 0 rfl) ?_
  refine lv_bipush (v := 120) hx hb (xb_d D_Exact_result 1 rfl) (by decide) ?_
  refine lv_icmp_gt (tgt := 8) hx hb (xb_d D_Exact_result 2 rfl) rfl (fun hc1 => ?_) (fun hc1 => ?_)
  · have hw := hw.1 hc1
    refine lv_iload_n hx hb (xb_d D_Exact_result 5 rfl) rfl (lv_at hl 0 rfl) ?_
    refine lv_sipush (v := 166) hx hb (xb_d D_Exact_result 6 rfl) (by decide) ?_
    refine lv_icmp_gt (tgt := 39) hx hb (xb_d D_Exact_result 7 rfl) rfl (fun hc2 => ?_) (fun hc2 => ?_)
    · have hw := hw.1 hc2
      refine lv_iload_n hx hb (xb_d D_Exact_result 20 rfl) rfl (lv_at hl 0 rfl) ?_
      refine lv_sipush (v := 177) hx hb (xb_d D_Exact_result 21 rfl) (by decide) ?_
      refine lv_icmp_gt (tgt := 59) hx hb (xb_d D_Exact_result 22 rfl) rfl (fun hc3 => ?_) (fun hc3 => ?_)
      · have hw := hw.1 hc3
        refine lv_iload_n hx hb (xb_d D_Exact_result 30 rfl) rfl (lv_at hl 0 rfl) ?_
        refine lv_sipush (v := 182) hx hb (xb_d D_Exact_result 31 rfl) (by decide) ?_
        refine lv_icmp_gt (tgt := 70) hx hb (xb_d D_Exact_result 32 rfl) rfl (fun hc4 => ?_) (fun hc4 => ?_)
        · have hw := hw.1 hc4
          refine lv_iload_n hx hb (xb_d D_Exact_result 35 rfl) rfl (lv_at hl 0 rfl) ?_
          refine lv_sipush (v := 187) hx hb (xb_d D_Exact_result 36 rfl) (by decide) ?_
          refine lv_icmp_gt (tgt := 81) hx hb (xb_d D_Exact_result 37 rfl) rfl (fun hc5 => ?_) (fun hc5 => ?_)
          · have hw := hw.1 hc5
            refine lv_iload_n hx hb (xb_d D_Exact_result 40 rfl) rfl (lv_at hl 0 rfl) ?_
            refine lv_sipush (v := 188) hx hb (xb_d D_Exact_result 41 rfl) (by decide) ?_
            refine lv_isub hx hb (xb_d D_Exact_result 42 rfl) ?_
            exact am_Exact_result_L86 l hfl D A σ MC MS h0 Qr (x0 - 188) h hw p e s m args below meth c hC H locs ls k n hE (lv_sub hl [] rfl) hR hS (by omega) (by omega)
          · have hw := hw.2 hc5
            refine lv_iconst (v := 3) hx hb (xb_d D_Exact_result 38 rfl) (by decide) ?_
            refine lv_goto (tgt := 86) hx hb (xb_d D_Exact_result 39 rfl) rfl ?_
            exact am_Exact_result_L86 l hfl D A σ MC MS h0 Qr 3 h hw p e s m args below meth c hC H locs ls k n hE (lv_sub hl [] rfl) hR hS (by omega) (by omega)
        · have hw := hw.2 hc4
          refine lv_iconst (v := 2) hx hb (xb_d D_Exact_result 33 rfl) (by decide) ?_
          refine lv_goto (tgt := 86) hx hb (xb_d D_Exact_result 34 rfl) rfl ?_
          exact am_Exact_result_L86 l hfl D A σ MC MS h0 Qr 2 h hw p e s m args below meth c hC H locs ls k n hE (lv_sub hl [] rfl) hR hS (by omega) (by omega)
      · have hw := hw.2 hc3
        refine lv_iload_n hx hb (xb_d D_Exact_result 23 rfl) rfl (lv_at hl 0 rfl) ?_
        refine lv_sipush (v := 171) hx hb (xb_d D_Exact_result 24 rfl) (by decide) ?_
        refine lv_icmp_gt (tgt := 57) hx hb (xb_d D_Exact_result 25 rfl) rfl (fun hc6 => ?_) (fun hc6 => ?_)
        · have hw := hw.1 hc6
          refine lv_iconst (v := 1) hx hb (xb_d D_Exact_result 28 rfl) (by decide) ?_
          exact am_Exact_result_L58 l hfl D A σ MC MS h0 Qr 1 h hw p e s m args below meth c hC H locs ls k n hE (lv_sub hl [] rfl) hR hS (by omega) (by omega)
        · have hw := hw.2 hc6
          refine lv_iconst (v := 0) hx hb (xb_d D_Exact_result 26 rfl) (by decide) ?_
          refine lv_goto (tgt := 58) hx hb (xb_d D_Exact_result 27 rfl) rfl ?_
          exact am_Exact_result_L58 l hfl D A σ MC MS h0 Qr 0 h hw p e s m args below meth c hC H locs ls k n hE (lv_sub hl [] rfl) hR hS (by omega) (by omega)
    · have hw := hw.2 hc2
      refine lv_iload_n hx hb (xb_d D_Exact_result 8 rfl) rfl (lv_at hl 0 rfl) ?_
      refine lv_sipush (v := 138) hx hb (xb_d D_Exact_result 9 rfl) (by decide) ?_
      refine lv_icmp_gt (tgt := 26) hx hb (xb_d D_Exact_result 10 rfl) rfl (fun hc7 => ?_) (fun hc7 => ?_)
      · have hw := hw.1 hc7
        refine lv_iload_n hx hb (xb_d D_Exact_result 13 rfl) rfl (lv_at hl 0 rfl) ?_
        refine lv_sipush (v := 152) hx hb (xb_d D_Exact_result 14 rfl) (by decide) ?_
        refine lv_icmp_gt (tgt := 37) hx hb (xb_d D_Exact_result 15 rfl) rfl (fun hc8 => ?_) (fun hc8 => ?_)
        · have hw := hw.1 hc8
          refine lv_iconst (v := 3) hx hb (xb_d D_Exact_result 18 rfl) (by decide) ?_
          exact am_Exact_result_L38 l hfl D A σ MC MS h0 Qr 3 h hw p e s m args below meth c hC H locs ls k n hE (lv_sub hl [] rfl) hR hS (by omega) (by omega)
        · have hw := hw.2 hc8
          refine lv_iconst (v := 2) hx hb (xb_d D_Exact_result 16 rfl) (by decide) ?_
          refine lv_goto (tgt := 38) hx hb (xb_d D_Exact_result 17 rfl) rfl ?_
          exact am_Exact_result_L38 l hfl D A σ MC MS h0 Qr 2 h hw p e s m args below meth c hC H locs ls k n hE (lv_sub hl [] rfl) hR hS (by omega) (by omega)
      · have hw := hw.2 hc7
        refine lv_iconst (v := 1) hx hb (xb_d D_Exact_result 11 rfl) (by decide) ?_
        refine lv_goto (tgt := 38) hx hb (xb_d D_Exact_result 12 rfl) rfl ?_
        exact am_Exact_result_L38 l hfl D A σ MC MS h0 Qr 1 h hw p e s m args below meth c hC H locs ls k n hE (lv_sub hl [] rfl) hR hS (by omega) (by omega)
  · have hw := hw.2 hc1
    refine lv_iconst (v := 0) hx hb (xb_d D_Exact_result 3 rfl) (by decide) ?_
    exact xb_iret 0 0 hx hb hr hlocks (show k + 0 ≤ MC by omega) (show n + 0 ≤ MS by omega) hE hR hS (xb_d D_Exact_result 4 rfl) hw

set_option maxRecDepth 100000 in
def T_Exact_signed : List (Nat × Instr × Nat) := [(0, .iload_n 3, 1), (1, .ifCond .eq 16, 3), (4, .lload_n 1, 1), (5, .lconst 1, 1), (6, .aload_n 0, 1), (7, .getfield 41, 3), (10, .iconst 1, 1), (11, .isub, 1), (12, .lshl, 1), (13, .lor, 1), (14, .goto 4, 3), (17, .lload_n 1, 1), (18, .lreturn, 1)]
theorem D_Exact_signed : ∀ q ∈ T_Exact_signed, decode b_Exact_signed q.1 = .ok (q.2.1, q.2.2) := by decide +kernel

set_option maxHeartbeats 4000000 in
set_option maxRecDepth 100000 in
theorem am_Exact_signed_L18 (l : Launch) (hfl : l.flags = pinnedFlags ++ [noTraceFlag]) (D : va_G) (A : Nat → Prop) (σ MC MS : Nat) (h0 : xb_H) (Qr : Int64 → xb_H → Prop) (y0 : Int64) (h : xb_H) (hw : w_Exact_signed_L18 Qr y0 h) : xb_am l D A σ 2 MC MS h0 (fun v h _ _ => ∃ r, v = some (.long r) ∧ Qr r h) (fun _ _ _ _ => False) y_Exact_signed.cls y_Exact_signed.name b_Exact_signed 4 ([] : List ExceptionTableEntry) (some .long) 18 [] [.long y0] h 0 0 := by
  unfold w_Exact_signed_L18 at hw
  intro p e s m args below meth c hC H locs ls k n hE hl hR hS hk hn
  obtain ⟨hx, hb, hown, hlocks, htab, hml, hr, hB, hA, hnm⟩ := id hC
  have hts := hB.1.1.at args
  exact xb_lret 0 0 hx hb hr hlocks (show k + 0 ≤ MC by omega) (show n + 0 ≤ MS by omega) hE hR hS (xb_d D_Exact_signed 12 rfl) hw

set_option maxHeartbeats 4000000 in
set_option maxRecDepth 100000 in
theorem ok_Exact_signed (l : Launch) (hfl : l.flags = pinnedFlags ++ [noTraceFlag]) (D : va_G) (A : Nat → Prop) (σ : Nat) (x0 : Nat) (x1 : Int64) (x3 : Int32) (h : xb_H) (Qr : Int64 → xb_H → Prop) (hw : w_Exact_signed x0 x1 x3 h Qr) : xb_Met l y_Exact_signed [.code y_Exact_signed b_Exact_signed 4 (some .long)] (xb_rm 2 0 0) (xb_Pc D A σ h [.ref x0, .long x1, .int x3]) (xb_Qc D A h 0 0 (fun v h _ _ => ∃ r, v = some (.long r) ∧ Qr r h) (fun _ _ _ _ => False)) A := by
  refine xb_ofAm (cc := b_Exact_signed) (by decide) (Nat.le_of_ble_eq_true rfl) ?_
  unfold w_Exact_signed at hw
  show xb_am l D A σ 2 0 0 h (fun v h _ _ => ∃ r, v = some (.long r) ∧ Qr r h) (fun _ _ _ _ => False) y_Exact_signed.cls y_Exact_signed.name b_Exact_signed 4 ([] : List ExceptionTableEntry) (some .long) 0 [(0, .ref x0), (1, .long x1), (3, .int x3)] [] h 0 0
  obtain ⟨MC, hMC⟩ : ∃ x, x = 0 := ⟨_, rfl⟩
  obtain ⟨MS, hMS⟩ : ∃ x, x = 0 := ⟨_, rfl⟩
  rw [show xb_am l D A σ 2 0 0 = xb_am l D A σ 2 MC MS by rw [hMC, hMS]]
  obtain ⟨h0, hh0⟩ : ∃ x, x = h := ⟨_, rfl⟩
  rw [show xb_am l D A σ 2 MC MS h = xb_am l D A σ 2 MC MS h0 by rw [hh0]]
  intro p e s m args below meth c hC H locs ls k n hE hl hR hS hk hn
  obtain ⟨hx, hb, hown, hlocks, htab, hml, hr, hB, hA, hnm⟩ := id hC
  have hts := hB.1.1.at args
  refine lv_iload_n hx hb (xb_d D_Exact_signed 0 rfl) rfl (lv_at hl 2 rfl) ?_
  refine lv_if_eq (tgt := 17) hx hb (xb_d D_Exact_signed 1 rfl) rfl (fun hc1 => ?_) (fun hc1 => ?_)
  · have hw := hw.1 hc1
    refine lv_lload_n hx hb (xb_d D_Exact_signed 11 rfl) rfl (lv_at hl 1 rfl) ?_
    exact am_Exact_signed_L18 l hfl D A σ MC MS h0 Qr x1 h hw p e s m args below meth c hC H locs ls k n hE (lv_sub hl [] rfl) hR hS (by omega) (by omega)
  · have hw := hw.2 hc1
    refine lv_lload_n hx hb (xb_d D_Exact_signed 2 rfl) rfl (lv_at hl 1 rfl) ?_
    refine lv_lconst (v := 1) hx hb (xb_d D_Exact_signed 3 rfl) (by decide) ?_
    refine lv_aload_n hx hb (xb_d D_Exact_signed 4 rfl) rfl (lv_at hl 0 rfl) ?_
    obtain ⟨hk2, hw⟩ := hw
    refine xb_getI (C := R_Exact) (T := F_Exact) (N := 11) hx hb 9 5 hts fin_Exact hown hR hk2 (by decide) rfl (by decide) rfl (hts _ m_30b212e4) (fun _ h9 => h9) (xb_d D_Exact_signed 5 rfl) ?_
    refine lv_iconst (v := 1) hx hb (xb_d D_Exact_signed 6 rfl) (by decide) ?_
    refine lv_isub hx hb (xb_d D_Exact_signed 7 rfl) ?_
    refine lv_lshl (v := (xb_lshl 1 ((xb_i h x0 5) - 1))) hx hb (xb_d D_Exact_signed 8 rfl) rfl ?_
    refine lv_lor hx hb (xb_d D_Exact_signed 9 rfl) ?_
    refine lv_goto (tgt := 18) hx hb (xb_d D_Exact_signed 10 rfl) rfl ?_
    exact am_Exact_signed_L18 l hfl D A σ MC MS h0 Qr (x1 ||| (xb_lshl 1 ((xb_i h x0 5) - 1))) h hw p e s m args below meth c hC H locs ls k n hE (lv_sub hl [] rfl) hR hS (by omega) (by omega)

set_option maxRecDepth 100000 in
def T_Exact_size : List (Nat × Instr × Nat) := [(0, .lload_n 1, 1), (1, .lconst 1, 1), (2, .aload_n 0, 1), (3, .getfield 41, 3), (6, .iconst 1, 1), (7, .isub, 1), (8, .lshl, 1), (9, .lconst 1, 1), (10, .lsub, 1), (11, .land, 1), (12, .lreturn, 1)]
theorem D_Exact_size : ∀ q ∈ T_Exact_size, decode b_Exact_size q.1 = .ok (q.2.1, q.2.2) := by decide +kernel

set_option maxHeartbeats 4000000 in
set_option maxRecDepth 100000 in
theorem ok_Exact_size (l : Launch) (hfl : l.flags = pinnedFlags ++ [noTraceFlag]) (D : va_G) (A : Nat → Prop) (σ : Nat) (x0 : Nat) (x1 : Int64) (h : xb_H) (Qr : Int64 → xb_H → Prop) (hw : w_Exact_size x0 x1 h Qr) : xb_Met l y_Exact_size [.code y_Exact_size b_Exact_size 3 (some .long)] (xb_rm 2 0 0) (xb_Pc D A σ h [.ref x0, .long x1]) (xb_Qc D A h 0 0 (fun v h _ _ => ∃ r, v = some (.long r) ∧ Qr r h) (fun _ _ _ _ => False)) A := by
  refine xb_ofAm (cc := b_Exact_size) (by decide) (Nat.le_of_ble_eq_true rfl) ?_
  unfold w_Exact_size at hw
  show xb_am l D A σ 2 0 0 h (fun v h _ _ => ∃ r, v = some (.long r) ∧ Qr r h) (fun _ _ _ _ => False) y_Exact_size.cls y_Exact_size.name b_Exact_size 3 ([] : List ExceptionTableEntry) (some .long) 0 [(0, .ref x0), (1, .long x1)] [] h 0 0
  obtain ⟨MC, hMC⟩ : ∃ x, x = 0 := ⟨_, rfl⟩
  obtain ⟨MS, hMS⟩ : ∃ x, x = 0 := ⟨_, rfl⟩
  rw [show xb_am l D A σ 2 0 0 = xb_am l D A σ 2 MC MS by rw [hMC, hMS]]
  obtain ⟨h0, hh0⟩ : ∃ x, x = h := ⟨_, rfl⟩
  rw [show xb_am l D A σ 2 MC MS h = xb_am l D A σ 2 MC MS h0 by rw [hh0]]
  intro p e s m args below meth c hC H locs ls k n hE hl hR hS hk hn
  obtain ⟨hx, hb, hown, hlocks, htab, hml, hr, hB, hA, hnm⟩ := id hC
  have hts := hB.1.1.at args
  refine lv_lload_n hx hb (xb_d D_Exact_size 0 rfl) rfl (lv_at hl 1 rfl) ?_
  refine lv_lconst (v := 1) hx hb (xb_d D_Exact_size 1 rfl) (by decide) ?_
  refine lv_aload_n hx hb (xb_d D_Exact_size 2 rfl) rfl (lv_at hl 0 rfl) ?_
  obtain ⟨hk1, hw⟩ := hw
  refine xb_getI (C := R_Exact) (T := F_Exact) (N := 11) hx hb 9 5 hts fin_Exact hown hR hk1 (by decide) rfl (by decide) rfl (hts _ m_30b212e4) (fun _ h9 => h9) (xb_d D_Exact_size 3 rfl) ?_
  refine lv_iconst (v := 1) hx hb (xb_d D_Exact_size 4 rfl) (by decide) ?_
  refine lv_isub hx hb (xb_d D_Exact_size 5 rfl) ?_
  refine lv_lshl (v := (xb_lshl 1 ((xb_i h x0 5) - 1))) hx hb (xb_d D_Exact_size 6 rfl) rfl ?_
  refine lv_lconst (v := 1) hx hb (xb_d D_Exact_size 7 rfl) (by decide) ?_
  refine lv_lsub hx hb (xb_d D_Exact_size 8 rfl) ?_
  refine lv_land hx hb (xb_d D_Exact_size 9 rfl) ?_
  exact xb_lret 0 0 hx hb hr hlocks (show k + 0 ≤ MC by omega) (show n + 0 ≤ MS by omega) hE hR hS (xb_d D_Exact_size 10 rfl) hw

theorem m_0a075798 : (.constantLong "StackHostModel$Exact" 168 4294967295 : Cond) ∈ xt_tbl := xt_in (xt_t12 (List.mem_of_getElem? (i := 197) (by decide +kernel))) (by decide +kernel)
set_option maxRecDepth 100000 in
def T_Exact_turned : List (Nat × Instr × Nat) := [(0, .lload_n 0, 1), (1, .lstore 4, 2), (3, .iconst 0, 1), (4, .istore 6, 2), (6, .iload 6, 2), (8, .iload_n 3, 1), (9, .if_icmp .ge 45, 3), (12, .lload 4, 2), (14, .iload_n 2, 1), (15, .iconst 1, 1), (16, .isub, 1), (17, .lshr, 1), (18, .lconst 1, 1), (19, .land, 1), (20, .lstore 7, 2), (22, .iload_n 2, 1), (23, .bipush 32, 2), (25, .if_icmp .ne 14, 3), (28, .lload 4, 2), (30, .iconst 1, 1), (31, .lshl, 1), (32, .ldc2_w 168, 3), (35, .land, 1), (36, .goto 7, 3), (39, .lload 4, 2), (41, .iconst 1, 1), (42, .lshl, 1), (43, .lload 7, 2), (45, .lor, 1), (46, .lstore 4, 2), (48, .iinc 6 1, 3), (51, .goto (-45), 3), (54, .lload 4, 2), (56, .lreturn, 1)]
theorem D_Exact_turned : ∀ q ∈ T_Exact_turned, decode b_Exact_turned q.1 = .ok (q.2.1, q.2.2) := by decide +kernel

set_option maxHeartbeats 4000000 in
set_option maxRecDepth 100000 in
theorem am_Exact_turned_L43 (l : Launch) (hfl : l.flags = pinnedFlags ++ [noTraceFlag]) (D : va_G) (A : Nat → Prop) (σ MC MS : Nat) (h0 : xb_H) (Qr : Int64 → xb_H → Prop) (K6 : Int32 → Int32 → Int64 → Int32 → xb_H → Prop) (hK6 : ∀ (x2 : Int32) (x3 : Int32) (x4 : Int64) (x6 : Int32) (h : xb_H), K6 x2 x3 x4 x6 h → xb_am l D A σ 2 MC MS h0 (fun v h _ _ => ∃ r, v = some (.long r) ∧ Qr r h) (fun _ _ _ _ => False) y_Exact_turned.cls y_Exact_turned.name b_Exact_turned 9 ([] : List ExceptionTableEntry) (some .long) 6 [(2, .int x2), (3, .int x3), (4, .long x4), (6, .int x6)] [] h 0 0) (x2 : Int32) (x3 : Int32) (x6 : Int32) (x7 : Int64) (y0 : Int64) (h : xb_H) (hw : w_Exact_turned_L43 K6 Qr x2 x3 x6 x7 y0 h) : xb_am l D A σ 2 MC MS h0 (fun v h _ _ => ∃ r, v = some (.long r) ∧ Qr r h) (fun _ _ _ _ => False) y_Exact_turned.cls y_Exact_turned.name b_Exact_turned 9 ([] : List ExceptionTableEntry) (some .long) 43 [(2, .int x2), (3, .int x3), (6, .int x6), (7, .long x7)] [.long y0] h 0 0 := by
  unfold w_Exact_turned_L43 at hw
  intro p e s m args below meth c hC H locs ls k n hE hl hR hS hk hn
  obtain ⟨hx, hb, hown, hlocks, htab, hml, hr, hB, hA, hnm⟩ := id hC
  have hts := hB.1.1.at args
  refine lv_lload hx hb (xb_d D_Exact_turned 27 rfl) (lv_at hl 3 rfl) ?_
  refine lv_lor hx hb (xb_d D_Exact_turned 28 rfl) ?_
  obtain ⟨v1, ev1⟩ : ∃ x : Int64, x = (y0 ||| x7) := ⟨_, rfl⟩
  have hw := hw v1 ev1
  refine xt_numl (y := v1) ev1.symm ?_
  refine lv_lstore hx hb (xb_d D_Exact_turned 29 rfl) hl (by decide) rfl (fun ls hl => ?_)
  have hl : lv_has ls 9 [(4, .long v1), (2, .int x2), (3, .int x3), (6, .int x6), (7, .long x7)] := hl
  refine lv_iinc (v := (x6 + 1)) (k := 3) hx hb (xb_d D_Exact_turned 30 rfl) hl rfl (by first | rfl | decide) (by decide) rfl (fun ls hl => ?_)
  have hl : lv_has ls 9 [(6, .int (x6 + 1)), (4, .long v1), (2, .int x2), (3, .int x3), (7, .long x7)] := hl
  refine lv_goto (tgt := 6) hx hb (xb_d D_Exact_turned 31 rfl) rfl ?_
  exact hK6 x2 x3 v1 (x6 + 1) h hw p e s m args below meth c hC H locs ls k n hE (lv_sub hl [2, 3, 1, 0] rfl) hR hS (by omega) (by omega)

set_option maxHeartbeats 4000000 in
set_option maxRecDepth 100000 in
theorem am_Exact_turned_L6 (l : Launch) (hfl : l.flags = pinnedFlags ++ [noTraceFlag]) (D : va_G) (A : Nat → Prop) (σ MC MS : Nat) (h0 : xb_H) (Qr : Int64 → xb_H → Prop) (n9 : Nat) : ∀ (x2 : Int32) (x3 : Int32) (x4 : Int64) (x6 : Int32) (h : xb_H), w_Exact_turned_L6 Qr n9 x2 x3 x4 x6 h → xb_am l D A σ 2 MC MS h0 (fun v h _ _ => ∃ r, v = some (.long r) ∧ Qr r h) (fun _ _ _ _ => False) y_Exact_turned.cls y_Exact_turned.name b_Exact_turned 9 ([] : List ExceptionTableEntry) (some .long) 6 [(2, .int x2), (3, .int x3), (4, .long x4), (6, .int x6)] [] h 0 0 := by
  induction n9 with
  | zero => intro x2 x3 x4 x6 h hw; exact False.elim hw
  | succ n9 ih =>
    intro x2 x3 x4 x6 h hw
    unfold w_Exact_turned_L6 at hw
    intro p e s m args below meth c hC H locs ls k n hE hl hR hS hk hn
    obtain ⟨hx, hb, hown, hlocks, htab, hml, hr, hB, hA, hnm⟩ := id hC
    have hts := hB.1.1.at args
    refine lv_iload hx hb (xb_d D_Exact_turned 4 rfl) (lv_at hl 3 rfl) ?_
    refine lv_iload_n hx hb (xb_d D_Exact_turned 5 rfl) rfl (lv_at hl 1 rfl) ?_
    refine lv_icmp_ge (tgt := 54) hx hb (xb_d D_Exact_turned 6 rfl) rfl (fun hc1 => ?_) (fun hc1 => ?_)
    · have hw := hw.1 hc1
      refine lv_lload hx hb (xb_d D_Exact_turned 32 rfl) (lv_at hl 2 rfl) ?_
      exact xb_lret 0 0 hx hb hr hlocks (show k + 0 ≤ MC by omega) (show n + 0 ≤ MS by omega) hE hR hS (xb_d D_Exact_turned 33 rfl) hw
    · have hw := hw.2 hc1
      refine lv_lload hx hb (xb_d D_Exact_turned 7 rfl) (lv_at hl 2 rfl) ?_
      refine lv_iload_n hx hb (xb_d D_Exact_turned 8 rfl) rfl (lv_at hl 0 rfl) ?_
      refine lv_iconst (v := 1) hx hb (xb_d D_Exact_turned 9 rfl) (by decide) ?_
      refine lv_isub hx hb (xb_d D_Exact_turned 10 rfl) ?_
      refine lv_lshr (v := (xb_lshr x4 (x2 - 1))) hx hb (xb_d D_Exact_turned 11 rfl) rfl ?_
      refine lv_lconst (v := 1) hx hb (xb_d D_Exact_turned 12 rfl) (by decide) ?_
      refine lv_land hx hb (xb_d D_Exact_turned 13 rfl) ?_
      obtain ⟨v2, ev2⟩ : ∃ x : Int64, x = ((xb_lshr x4 (x2 - 1)) &&& 1) := ⟨_, rfl⟩
      have hw := hw v2 ev2
      refine xt_numl (y := v2) ev2.symm ?_
      refine lv_lstore hx hb (xb_d D_Exact_turned 14 rfl) hl (by decide) rfl (fun ls hl => ?_)
      have hl : lv_has ls 9 [(7, .long v2), (2, .int x2), (3, .int x3), (4, .long x4), (6, .int x6)] := hl
      refine lv_iload_n hx hb (xb_d D_Exact_turned 15 rfl) rfl (lv_at hl 1 rfl) ?_
      refine lv_bipush (v := 32) hx hb (xb_d D_Exact_turned 16 rfl) (by decide) ?_
      refine lv_icmp_ne (tgt := 39) hx hb (xb_d D_Exact_turned 17 rfl) rfl (fun hc3 => ?_) (fun hc3 => ?_)
      · have hw := hw.1 hc3
        refine lv_lload hx hb (xb_d D_Exact_turned 24 rfl) (lv_at hl 3 rfl) ?_
        refine lv_iconst (v := 1) hx hb (xb_d D_Exact_turned 25 rfl) (by decide) ?_
        refine lv_lshl (v := (xb_lshl x4 1)) hx hb (xb_d D_Exact_turned 26 rfl) rfl ?_
        exact am_Exact_turned_L43 l hfl D A σ MC MS h0 Qr (w_Exact_turned_L6 Qr n9) ih x2 x3 x6 v2 (xb_lshl x4 1) h hw p e s m args below meth c hC H locs ls k n hE (lv_sub hl [1, 2, 4, 0] rfl) hR hS (by omega) (by omega)
      · have hw := hw.2 hc3
        refine lv_lload hx hb (xb_d D_Exact_turned 18 rfl) (lv_at hl 3 rfl) ?_
        refine lv_iconst (v := 1) hx hb (xb_d D_Exact_turned 19 rfl) (by decide) ?_
        refine lv_lshl (v := (xb_lshl x4 1)) hx hb (xb_d D_Exact_turned 20 rfl) rfl ?_
        refine lv_ldc2 (v := 4294967295) hx hb hown (hts _ m_0a075798) (xb_d D_Exact_turned 21 rfl) ?_
        refine lv_land hx hb (xb_d D_Exact_turned 22 rfl) ?_
        refine lv_goto (tgt := 43) hx hb (xb_d D_Exact_turned 23 rfl) rfl ?_
        exact am_Exact_turned_L43 l hfl D A σ MC MS h0 Qr (w_Exact_turned_L6 Qr n9) ih x2 x3 x6 v2 ((xb_lshl x4 1) &&& 4294967295) h hw p e s m args below meth c hC H locs ls k n hE (lv_sub hl [1, 2, 4, 0] rfl) hR hS (by omega) (by omega)

set_option maxHeartbeats 4000000 in
set_option maxRecDepth 100000 in
theorem ok_Exact_turned (l : Launch) (hfl : l.flags = pinnedFlags ++ [noTraceFlag]) (D : va_G) (A : Nat → Prop) (σ : Nat) (x0 : Int64) (x2 : Int32) (x3 : Int32) (h : xb_H) (Qr : Int64 → xb_H → Prop) (hw : w_Exact_turned x0 x2 x3 h Qr) : xb_Met l y_Exact_turned [.code y_Exact_turned b_Exact_turned 9 (some .long)] (xb_rm 2 0 0) (xb_Pc D A σ h [.long x0, .int x2, .int x3]) (xb_Qc D A h 0 0 (fun v h _ _ => ∃ r, v = some (.long r) ∧ Qr r h) (fun _ _ _ _ => False)) A := by
  refine xb_ofAm (cc := b_Exact_turned) (by decide) (Nat.le_of_ble_eq_true rfl) ?_
  unfold w_Exact_turned at hw
  show xb_am l D A σ 2 0 0 h (fun v h _ _ => ∃ r, v = some (.long r) ∧ Qr r h) (fun _ _ _ _ => False) y_Exact_turned.cls y_Exact_turned.name b_Exact_turned 9 ([] : List ExceptionTableEntry) (some .long) 0 [(0, .long x0), (2, .int x2), (3, .int x3)] [] h 0 0
  obtain ⟨MC, hMC⟩ : ∃ x, x = 0 := ⟨_, rfl⟩
  obtain ⟨MS, hMS⟩ : ∃ x, x = 0 := ⟨_, rfl⟩
  rw [show xb_am l D A σ 2 0 0 = xb_am l D A σ 2 MC MS by rw [hMC, hMS]]
  obtain ⟨h0, hh0⟩ : ∃ x, x = h := ⟨_, rfl⟩
  rw [show xb_am l D A σ 2 MC MS h = xb_am l D A σ 2 MC MS h0 by rw [hh0]]
  intro p e s m args below meth c hC H locs ls k n hE hl hR hS hk hn
  obtain ⟨hx, hb, hown, hlocks, htab, hml, hr, hB, hA, hnm⟩ := id hC
  have hts := hB.1.1.at args
  refine lv_lload_n hx hb (xb_d D_Exact_turned 0 rfl) rfl (lv_at hl 0 rfl) ?_
  refine lv_lstore hx hb (xb_d D_Exact_turned 1 rfl) hl (by decide) rfl (fun ls hl => ?_)
  have hl : lv_has ls 9 [(4, .long x0), (0, .long x0), (2, .int x2), (3, .int x3)] := hl
  refine lv_iconst (v := 0) hx hb (xb_d D_Exact_turned 2 rfl) (by decide) ?_
  refine lv_istore hx hb (xb_d D_Exact_turned 3 rfl) hl (by decide) rfl (fun ls hl => ?_)
  have hl : lv_has ls 9 [(6, .int 0), (4, .long x0), (0, .long x0), (2, .int x2), (3, .int x3)] := hl
  obtain ⟨n8, hw⟩ := hw
  exact am_Exact_turned_L6 l hfl D A σ MC MS h0 Qr n8 x2 x3 x0 0 h hw p e s m args below meth c hC H locs ls k n hE (lv_sub hl [3, 4, 1, 0] rfl) hR hS (by omega) (by omega)

theorem m_b50c695a : (.constantLong "StackHostModel$Exact" 149 (-1) : Cond) ∈ xt_tbl := xt_in (xt_t13 (List.mem_of_getElem? (i := 3) (by decide +kernel))) (by decide +kernel)
set_option maxRecDepth 100000 in
def T_Exact_withSign : List (Nat × Instr × Nat) := [(0, .iload_n 2, 1), (1, .bipush 64, 2), (3, .if_icmp .eq 15, 3), (6, .lload_n 0, 1), (7, .iload_n 2, 1), (8, .iconst 1, 1), (9, .isub, 1), (10, .lshr, 1), (11, .lconst 1, 1), (12, .land, 1), (13, .lconst 0, 1), (14, .lcmp, 1), (15, .ifCond .ne 7, 3), (18, .lload_n 0, 1), (19, .goto 10, 3), (22, .lload_n 0, 1), (23, .ldc2_w 149, 3), (26, .iload_n 2, 1), (27, .lshl, 1), (28, .lor, 1), (29, .lreturn, 1)]
theorem D_Exact_withSign : ∀ q ∈ T_Exact_withSign, decode b_Exact_withSign q.1 = .ok (q.2.1, q.2.2) := by decide +kernel

set_option maxHeartbeats 4000000 in
set_option maxRecDepth 100000 in
theorem am_Exact_withSign_L29 (l : Launch) (hfl : l.flags = pinnedFlags ++ [noTraceFlag]) (D : va_G) (A : Nat → Prop) (σ MC MS : Nat) (h0 : xb_H) (Qr : Int64 → xb_H → Prop) (y0 : Int64) (h : xb_H) (hw : w_Exact_withSign_L29 Qr y0 h) : xb_am l D A σ 2 MC MS h0 (fun v h _ _ => ∃ r, v = some (.long r) ∧ Qr r h) (fun _ _ _ _ => False) y_Exact_withSign.cls y_Exact_withSign.name b_Exact_withSign 3 ([] : List ExceptionTableEntry) (some .long) 29 [] [.long y0] h 0 0 := by
  unfold w_Exact_withSign_L29 at hw
  intro p e s m args below meth c hC H locs ls k n hE hl hR hS hk hn
  obtain ⟨hx, hb, hown, hlocks, htab, hml, hr, hB, hA, hnm⟩ := id hC
  have hts := hB.1.1.at args
  exact xb_lret 0 0 hx hb hr hlocks (show k + 0 ≤ MC by omega) (show n + 0 ≤ MS by omega) hE hR hS (xb_d D_Exact_withSign 20 rfl) hw

set_option maxHeartbeats 4000000 in
set_option maxRecDepth 100000 in
theorem am_Exact_withSign_L18 (l : Launch) (hfl : l.flags = pinnedFlags ++ [noTraceFlag]) (D : va_G) (A : Nat → Prop) (σ MC MS : Nat) (h0 : xb_H) (Qr : Int64 → xb_H → Prop) (x0 : Int64) (h : xb_H) (hw : w_Exact_withSign_L18 Qr x0 h) : xb_am l D A σ 2 MC MS h0 (fun v h _ _ => ∃ r, v = some (.long r) ∧ Qr r h) (fun _ _ _ _ => False) y_Exact_withSign.cls y_Exact_withSign.name b_Exact_withSign 3 ([] : List ExceptionTableEntry) (some .long) 18 [(0, .long x0)] [] h 0 0 := by
  unfold w_Exact_withSign_L18 at hw
  intro p e s m args below meth c hC H locs ls k n hE hl hR hS hk hn
  obtain ⟨hx, hb, hown, hlocks, htab, hml, hr, hB, hA, hnm⟩ := id hC
  have hts := hB.1.1.at args
  refine lv_lload_n hx hb (xb_d D_Exact_withSign 13 rfl) rfl (lv_at hl 0 rfl) ?_
  refine lv_goto (tgt := 29) hx hb (xb_d D_Exact_withSign 14 rfl) rfl ?_
  exact am_Exact_withSign_L29 l hfl D A σ MC MS h0 Qr x0 h hw p e s m args below meth c hC H locs ls k n hE (lv_sub hl [] rfl) hR hS (by omega) (by omega)

set_option maxHeartbeats 4000000 in
set_option maxRecDepth 100000 in
theorem ok_Exact_withSign (l : Launch) (hfl : l.flags = pinnedFlags ++ [noTraceFlag]) (D : va_G) (A : Nat → Prop) (σ : Nat) (x0 : Int64) (x2 : Int32) (h : xb_H) (Qr : Int64 → xb_H → Prop) (hw : w_Exact_withSign x0 x2 h Qr) : xb_Met l y_Exact_withSign [.code y_Exact_withSign b_Exact_withSign 3 (some .long)] (xb_rm 2 0 0) (xb_Pc D A σ h [.long x0, .int x2]) (xb_Qc D A h 0 0 (fun v h _ _ => ∃ r, v = some (.long r) ∧ Qr r h) (fun _ _ _ _ => False)) A := by
  refine xb_ofAm (cc := b_Exact_withSign) (by decide) (Nat.le_of_ble_eq_true rfl) ?_
  unfold w_Exact_withSign at hw
  show xb_am l D A σ 2 0 0 h (fun v h _ _ => ∃ r, v = some (.long r) ∧ Qr r h) (fun _ _ _ _ => False) y_Exact_withSign.cls y_Exact_withSign.name b_Exact_withSign 3 ([] : List ExceptionTableEntry) (some .long) 0 [(0, .long x0), (2, .int x2)] [] h 0 0
  obtain ⟨MC, hMC⟩ : ∃ x, x = 0 := ⟨_, rfl⟩
  obtain ⟨MS, hMS⟩ : ∃ x, x = 0 := ⟨_, rfl⟩
  rw [show xb_am l D A σ 2 0 0 = xb_am l D A σ 2 MC MS by rw [hMC, hMS]]
  obtain ⟨h0, hh0⟩ : ∃ x, x = h := ⟨_, rfl⟩
  rw [show xb_am l D A σ 2 MC MS h = xb_am l D A σ 2 MC MS h0 by rw [hh0]]
  intro p e s m args below meth c hC H locs ls k n hE hl hR hS hk hn
  obtain ⟨hx, hb, hown, hlocks, htab, hml, hr, hB, hA, hnm⟩ := id hC
  have hts := hB.1.1.at args
  refine lv_iload_n hx hb (xb_d D_Exact_withSign 0 rfl) rfl (lv_at hl 1 rfl) ?_
  refine lv_bipush (v := 64) hx hb (xb_d D_Exact_withSign 1 rfl) (by decide) ?_
  refine lv_icmp_eq (tgt := 18) hx hb (xb_d D_Exact_withSign 2 rfl) rfl (fun hc1 => ?_) (fun hc1 => ?_)
  · have hw := hw.1 hc1
    exact am_Exact_withSign_L18 l hfl D A σ MC MS h0 Qr x0 h hw p e s m args below meth c hC H locs ls k n hE (lv_sub hl [0] rfl) hR hS (by omega) (by omega)
  · have hw := hw.2 hc1
    refine lv_lload_n hx hb (xb_d D_Exact_withSign 3 rfl) rfl (lv_at hl 0 rfl) ?_
    refine lv_iload_n hx hb (xb_d D_Exact_withSign 4 rfl) rfl (lv_at hl 1 rfl) ?_
    refine lv_iconst (v := 1) hx hb (xb_d D_Exact_withSign 5 rfl) (by decide) ?_
    refine lv_isub hx hb (xb_d D_Exact_withSign 6 rfl) ?_
    refine lv_lshr (v := (xb_lshr x0 (x2 - 1))) hx hb (xb_d D_Exact_withSign 7 rfl) rfl ?_
    refine lv_lconst (v := 1) hx hb (xb_d D_Exact_withSign 8 rfl) (by decide) ?_
    refine lv_land hx hb (xb_d D_Exact_withSign 9 rfl) ?_
    refine lv_lconst (v := 0) hx hb (xb_d D_Exact_withSign 10 rfl) (by decide) ?_
    refine xb_lc_ne (tgt := 22) hx hb (xb_d D_Exact_withSign 11 rfl) (xb_d D_Exact_withSign 12 rfl) rfl (fun hc2 => ?_) (fun hc2 => ?_)
    · have hw := hw.1 hc2
      refine lv_lload_n hx hb (xb_d D_Exact_withSign 15 rfl) rfl (lv_at hl 0 rfl) ?_
      refine lv_ldc2 (v := (-1)) hx hb hown (hts _ m_b50c695a) (xb_d D_Exact_withSign 16 rfl) ?_
      refine lv_iload_n hx hb (xb_d D_Exact_withSign 17 rfl) rfl (lv_at hl 1 rfl) ?_
      refine lv_lshl (v := (xb_lshl (-1) x2)) hx hb (xb_d D_Exact_withSign 18 rfl) rfl ?_
      refine lv_lor hx hb (xb_d D_Exact_withSign 19 rfl) ?_
      exact am_Exact_withSign_L29 l hfl D A σ MC MS h0 Qr (x0 ||| (xb_lshl (-1) x2)) h hw p e s m args below meth c hC H locs ls k n hE (lv_sub hl [] rfl) hR hS (by omega) (by omega)
    · have hw := hw.2 hc2
      exact am_Exact_withSign_L18 l hfl D A σ MC MS h0 Qr x0 h hw p e s m args below meth c hC H locs ls k n hE (lv_sub hl [0] rfl) hR hS (by omega) (by omega)

theorem m_b97ef956 : (.constant "java/lang/Integer" 265 1431655765 : Cond) ∈ xt_tbl := xt_in (xt_t8 (List.mem_of_getElem? (i := 175) (by decide +kernel))) (by decide +kernel)
theorem m_a5925c6e : (.constant "java/lang/Integer" 266 858993459 : Cond) ∈ xt_tbl := xt_in (xt_t8 (List.mem_of_getElem? (i := 176) (by decide +kernel))) (by decide +kernel)
theorem m_5bea094c : (.constant "java/lang/Integer" 267 252645135 : Cond) ∈ xt_tbl := xt_in (xt_t8 (List.mem_of_getElem? (i := 177) (by decide +kernel))) (by decide +kernel)
set_option maxRecDepth 100000 in
def T_Integer_bitCount : List (Nat × Instr × Nat) := [(0, .iload_n 0, 1), (1, .iload_n 0, 1), (2, .iconst 1, 1), (3, .iushr, 1), (4, .ldc_w 265, 3), (7, .iand, 1), (8, .isub, 1), (9, .istore_n 0, 1), (10, .iload_n 0, 1), (11, .ldc_w 266, 3), (14, .iand, 1), (15, .iload_n 0, 1), (16, .iconst 2, 1), (17, .iushr, 1), (18, .ldc_w 266, 3), (21, .iand, 1), (22, .iadd, 1), (23, .istore_n 0, 1), (24, .iload_n 0, 1), (25, .iload_n 0, 1), (26, .iconst 4, 1), (27, .iushr, 1), (28, .iadd, 1), (29, .ldc_w 267, 3), (32, .iand, 1), (33, .istore_n 0, 1), (34, .iload_n 0, 1), (35, .iload_n 0, 1), (36, .bipush 8, 2), (38, .iushr, 1), (39, .iadd, 1), (40, .istore_n 0, 1), (41, .iload_n 0, 1), (42, .iload_n 0, 1), (43, .bipush 16, 2), (45, .iushr, 1), (46, .iadd, 1), (47, .istore_n 0, 1), (48, .iload_n 0, 1), (49, .bipush 63, 2), (51, .iand, 1), (52, .ireturn, 1)]
theorem D_Integer_bitCount : ∀ q ∈ T_Integer_bitCount, decode b_Integer_bitCount q.1 = .ok (q.2.1, q.2.2) := by decide +kernel

set_option maxHeartbeats 4000000 in
set_option maxRecDepth 100000 in
theorem ok_Integer_bitCount (l : Launch) (hfl : l.flags = pinnedFlags ++ [noTraceFlag]) (D : va_G) (A : Nat → Prop) (σ : Nat) (x0 : Int32) (h : xb_H) (Qr : Int32 → xb_H → Prop) (hw : w_Integer_bitCount x0 h Qr) : xb_Met l y_Integer_bitCount [.code y_Integer_bitCount b_Integer_bitCount 1 (some .int)] (xb_rm 2 0 0) (xb_Pc D A σ h [.int x0]) (xb_Qc D A h 0 0 (fun v h _ _ => ∃ r, v = some (.int r) ∧ Qr r h) (fun _ _ _ _ => False)) A := by
  refine xb_ofAm (cc := b_Integer_bitCount) (by decide) (Nat.le_of_ble_eq_true rfl) ?_
  unfold w_Integer_bitCount at hw
  show xb_am l D A σ 2 0 0 h (fun v h _ _ => ∃ r, v = some (.int r) ∧ Qr r h) (fun _ _ _ _ => False) y_Integer_bitCount.cls y_Integer_bitCount.name b_Integer_bitCount 1 ([] : List ExceptionTableEntry) (some .int) 0 [(0, .int x0)] [] h 0 0
  obtain ⟨MC, hMC⟩ : ∃ x, x = 0 := ⟨_, rfl⟩
  obtain ⟨MS, hMS⟩ : ∃ x, x = 0 := ⟨_, rfl⟩
  rw [show xb_am l D A σ 2 0 0 = xb_am l D A σ 2 MC MS by rw [hMC, hMS]]
  obtain ⟨h0, hh0⟩ : ∃ x, x = h := ⟨_, rfl⟩
  rw [show xb_am l D A σ 2 MC MS h = xb_am l D A σ 2 MC MS h0 by rw [hh0]]
  intro p e s m args below meth c hC H locs ls k n hE hl hR hS hk hn
  obtain ⟨hx, hb, hown, hlocks, htab, hml, hr, hB, hA, hnm⟩ := id hC
  have hts := hB.1.1.at args
  refine lv_iload_n hx hb (xb_d D_Integer_bitCount 0 rfl) rfl (lv_at hl 0 rfl) ?_
  refine lv_iload_n hx hb (xb_d D_Integer_bitCount 1 rfl) rfl (lv_at hl 0 rfl) ?_
  refine lv_iconst (v := 1) hx hb (xb_d D_Integer_bitCount 2 rfl) (by decide) ?_
  refine lv_iushr (v := xb_ushr x0 1) hx hb (xb_d D_Integer_bitCount 3 rfl) rfl ?_
  refine lv_ldcw (v := 1431655765) hx hb hown (hts _ m_b97ef956) (xb_d D_Integer_bitCount 4 rfl) ?_
  refine lv_iand hx hb (xb_d D_Integer_bitCount 5 rfl) ?_
  refine lv_isub hx hb (xb_d D_Integer_bitCount 6 rfl) ?_
  obtain ⟨v1, ev1⟩ : ∃ x : Int32, x = (x0 - ((xb_ushr x0 1) &&& 1431655765)) := ⟨_, rfl⟩
  have hw := hw v1 ev1
  refine xt_numi (y := v1) ev1.symm ?_
  refine lv_istore_n hx hb (xb_d D_Integer_bitCount 7 rfl) rfl hl (by decide) rfl (fun ls hl => ?_)
  have hl : lv_has ls 1 [(0, .int v1)] := hl
  refine lv_iload_n hx hb (xb_d D_Integer_bitCount 8 rfl) rfl (lv_at hl 0 rfl) ?_
  refine lv_ldcw (v := 858993459) hx hb hown (hts _ m_a5925c6e) (xb_d D_Integer_bitCount 9 rfl) ?_
  refine lv_iand hx hb (xb_d D_Integer_bitCount 10 rfl) ?_
  refine lv_iload_n hx hb (xb_d D_Integer_bitCount 11 rfl) rfl (lv_at hl 0 rfl) ?_
  refine lv_iconst (v := 2) hx hb (xb_d D_Integer_bitCount 12 rfl) (by decide) ?_
  refine lv_iushr (v := xb_ushr v1 2) hx hb (xb_d D_Integer_bitCount 13 rfl) rfl ?_
  refine lv_ldcw (v := 858993459) hx hb hown (hts _ m_a5925c6e) (xb_d D_Integer_bitCount 14 rfl) ?_
  refine lv_iand hx hb (xb_d D_Integer_bitCount 15 rfl) ?_
  refine lv_iadd hx hb (xb_d D_Integer_bitCount 16 rfl) ?_
  obtain ⟨v2, ev2⟩ : ∃ x : Int32, x = ((v1 &&& 858993459) + ((xb_ushr v1 2) &&& 858993459)) := ⟨_, rfl⟩
  have hw := hw v2 ev2
  refine xt_numi (y := v2) ev2.symm ?_
  refine lv_istore_n hx hb (xb_d D_Integer_bitCount 17 rfl) rfl hl (by decide) rfl (fun ls hl => ?_)
  have hl : lv_has ls 1 [(0, .int v2)] := hl
  refine lv_iload_n hx hb (xb_d D_Integer_bitCount 18 rfl) rfl (lv_at hl 0 rfl) ?_
  refine lv_iload_n hx hb (xb_d D_Integer_bitCount 19 rfl) rfl (lv_at hl 0 rfl) ?_
  refine lv_iconst (v := 4) hx hb (xb_d D_Integer_bitCount 20 rfl) (by decide) ?_
  refine lv_iushr (v := xb_ushr v2 4) hx hb (xb_d D_Integer_bitCount 21 rfl) rfl ?_
  refine lv_iadd hx hb (xb_d D_Integer_bitCount 22 rfl) ?_
  refine lv_ldcw (v := 252645135) hx hb hown (hts _ m_5bea094c) (xb_d D_Integer_bitCount 23 rfl) ?_
  refine lv_iand hx hb (xb_d D_Integer_bitCount 24 rfl) ?_
  obtain ⟨v3, ev3⟩ : ∃ x : Int32, x = ((v2 + (xb_ushr v2 4)) &&& 252645135) := ⟨_, rfl⟩
  have hw := hw v3 ev3
  refine xt_numi (y := v3) ev3.symm ?_
  refine lv_istore_n hx hb (xb_d D_Integer_bitCount 25 rfl) rfl hl (by decide) rfl (fun ls hl => ?_)
  have hl : lv_has ls 1 [(0, .int v3)] := hl
  refine lv_iload_n hx hb (xb_d D_Integer_bitCount 26 rfl) rfl (lv_at hl 0 rfl) ?_
  refine lv_iload_n hx hb (xb_d D_Integer_bitCount 27 rfl) rfl (lv_at hl 0 rfl) ?_
  refine lv_bipush (v := 8) hx hb (xb_d D_Integer_bitCount 28 rfl) (by decide) ?_
  refine lv_iushr (v := xb_ushr v3 8) hx hb (xb_d D_Integer_bitCount 29 rfl) rfl ?_
  refine lv_iadd hx hb (xb_d D_Integer_bitCount 30 rfl) ?_
  obtain ⟨v4, ev4⟩ : ∃ x : Int32, x = (v3 + (xb_ushr v3 8)) := ⟨_, rfl⟩
  have hw := hw v4 ev4
  refine xt_numi (y := v4) ev4.symm ?_
  refine lv_istore_n hx hb (xb_d D_Integer_bitCount 31 rfl) rfl hl (by decide) rfl (fun ls hl => ?_)
  have hl : lv_has ls 1 [(0, .int v4)] := hl
  refine lv_iload_n hx hb (xb_d D_Integer_bitCount 32 rfl) rfl (lv_at hl 0 rfl) ?_
  refine lv_iload_n hx hb (xb_d D_Integer_bitCount 33 rfl) rfl (lv_at hl 0 rfl) ?_
  refine lv_bipush (v := 16) hx hb (xb_d D_Integer_bitCount 34 rfl) (by decide) ?_
  refine lv_iushr (v := xb_ushr v4 16) hx hb (xb_d D_Integer_bitCount 35 rfl) rfl ?_
  refine lv_iadd hx hb (xb_d D_Integer_bitCount 36 rfl) ?_
  obtain ⟨v5, ev5⟩ : ∃ x : Int32, x = (v4 + (xb_ushr v4 16)) := ⟨_, rfl⟩
  have hw := hw v5 ev5
  refine xt_numi (y := v5) ev5.symm ?_
  refine lv_istore_n hx hb (xb_d D_Integer_bitCount 37 rfl) rfl hl (by decide) rfl (fun ls hl => ?_)
  have hl : lv_has ls 1 [(0, .int v5)] := hl
  refine lv_iload_n hx hb (xb_d D_Integer_bitCount 38 rfl) rfl (lv_at hl 0 rfl) ?_
  refine lv_bipush (v := 63) hx hb (xb_d D_Integer_bitCount 39 rfl) (by decide) ?_
  refine lv_iand hx hb (xb_d D_Integer_bitCount 40 rfl) ?_
  exact xb_iret 0 0 hx hb hr hlocks (show k + 0 ≤ MC by omega) (show n + 0 ≤ MS by omega) hE hR hS (xb_d D_Integer_bitCount 41 rfl) hw

theorem m_e75232dd : (.constantLong "java/lang/Long" 314 6148914691236517205 : Cond) ∈ xt_tbl := xt_in (xt_t8 (List.mem_of_getElem? (i := 199) (by decide +kernel))) (by decide +kernel)
theorem m_9a492e7e : (.constantLong "java/lang/Long" 316 3689348814741910323 : Cond) ∈ xt_tbl := xt_in (xt_t8 (List.mem_of_getElem? (i := 200) (by decide +kernel))) (by decide +kernel)
theorem m_d5bd80ea : (.constantLong "java/lang/Long" 318 1085102592571150095 : Cond) ∈ xt_tbl := xt_in (xt_t8 (List.mem_of_getElem? (i := 201) (by decide +kernel))) (by decide +kernel)
set_option maxRecDepth 100000 in
def T_Long_bitCount : List (Nat × Instr × Nat) := [(0, .lload_n 0, 1), (1, .lload_n 0, 1), (2, .iconst 1, 1), (3, .lushr, 1), (4, .ldc2_w 314, 3), (7, .land, 1), (8, .lsub, 1), (9, .lstore_n 0, 1), (10, .lload_n 0, 1), (11, .ldc2_w 316, 3), (14, .land, 1), (15, .lload_n 0, 1), (16, .iconst 2, 1), (17, .lushr, 1), (18, .ldc2_w 316, 3), (21, .land, 1), (22, .ladd, 1), (23, .lstore_n 0, 1), (24, .lload_n 0, 1), (25, .lload_n 0, 1), (26, .iconst 4, 1), (27, .lushr, 1), (28, .ladd, 1), (29, .ldc2_w 318, 3), (32, .land, 1), (33, .lstore_n 0, 1), (34, .lload_n 0, 1), (35, .lload_n 0, 1), (36, .bipush 8, 2), (38, .lushr, 1), (39, .ladd, 1), (40, .lstore_n 0, 1), (41, .lload_n 0, 1), (42, .lload_n 0, 1), (43, .bipush 16, 2), (45, .lushr, 1), (46, .ladd, 1), (47, .lstore_n 0, 1), (48, .lload_n 0, 1), (49, .lload_n 0, 1), (50, .bipush 32, 2), (52, .lushr, 1), (53, .ladd, 1), (54, .lstore_n 0, 1), (55, .lload_n 0, 1), (56, .l2i, 1), (57, .bipush 127, 2), (59, .iand, 1), (60, .ireturn, 1)]
theorem D_Long_bitCount : ∀ q ∈ T_Long_bitCount, decode b_Long_bitCount q.1 = .ok (q.2.1, q.2.2) := by decide +kernel

set_option maxHeartbeats 4000000 in
set_option maxRecDepth 100000 in
theorem ok_Long_bitCount (l : Launch) (hfl : l.flags = pinnedFlags ++ [noTraceFlag]) (D : va_G) (A : Nat → Prop) (σ : Nat) (x0 : Int64) (h : xb_H) (Qr : Int32 → xb_H → Prop) (hw : w_Long_bitCount x0 h Qr) : xb_Met l y_Long_bitCount [.code y_Long_bitCount b_Long_bitCount 2 (some .int)] (xb_rm 2 0 0) (xb_Pc D A σ h [.long x0]) (xb_Qc D A h 0 0 (fun v h _ _ => ∃ r, v = some (.int r) ∧ Qr r h) (fun _ _ _ _ => False)) A := by
  refine xb_ofAm (cc := b_Long_bitCount) (by decide) (Nat.le_of_ble_eq_true rfl) ?_
  unfold w_Long_bitCount at hw
  show xb_am l D A σ 2 0 0 h (fun v h _ _ => ∃ r, v = some (.int r) ∧ Qr r h) (fun _ _ _ _ => False) y_Long_bitCount.cls y_Long_bitCount.name b_Long_bitCount 2 ([] : List ExceptionTableEntry) (some .int) 0 [(0, .long x0)] [] h 0 0
  obtain ⟨MC, hMC⟩ : ∃ x, x = 0 := ⟨_, rfl⟩
  obtain ⟨MS, hMS⟩ : ∃ x, x = 0 := ⟨_, rfl⟩
  rw [show xb_am l D A σ 2 0 0 = xb_am l D A σ 2 MC MS by rw [hMC, hMS]]
  obtain ⟨h0, hh0⟩ : ∃ x, x = h := ⟨_, rfl⟩
  rw [show xb_am l D A σ 2 MC MS h = xb_am l D A σ 2 MC MS h0 by rw [hh0]]
  intro p e s m args below meth c hC H locs ls k n hE hl hR hS hk hn
  obtain ⟨hx, hb, hown, hlocks, htab, hml, hr, hB, hA, hnm⟩ := id hC
  have hts := hB.1.1.at args
  refine lv_lload_n hx hb (xb_d D_Long_bitCount 0 rfl) rfl (lv_at hl 0 rfl) ?_
  refine lv_lload_n hx hb (xb_d D_Long_bitCount 1 rfl) rfl (lv_at hl 0 rfl) ?_
  refine lv_iconst (v := 1) hx hb (xb_d D_Long_bitCount 2 rfl) (by decide) ?_
  refine lv_lushr (v := (xb_lushr x0 1)) hx hb (xb_d D_Long_bitCount 3 rfl) rfl ?_
  refine lv_ldc2 (v := 6148914691236517205) hx hb hown (hts _ m_e75232dd) (xb_d D_Long_bitCount 4 rfl) ?_
  refine lv_land hx hb (xb_d D_Long_bitCount 5 rfl) ?_
  refine lv_lsub hx hb (xb_d D_Long_bitCount 6 rfl) ?_
  obtain ⟨v1, ev1⟩ : ∃ x : Int64, x = (x0 - ((xb_lushr x0 1) &&& 6148914691236517205)) := ⟨_, rfl⟩
  have hw := hw v1 ev1
  refine xt_numl (y := v1) ev1.symm ?_
  refine lv_lstore_n hx hb (xb_d D_Long_bitCount 7 rfl) rfl hl (by decide) rfl (fun ls hl => ?_)
  have hl : lv_has ls 2 [(0, .long v1)] := hl
  refine lv_lload_n hx hb (xb_d D_Long_bitCount 8 rfl) rfl (lv_at hl 0 rfl) ?_
  refine lv_ldc2 (v := 3689348814741910323) hx hb hown (hts _ m_9a492e7e) (xb_d D_Long_bitCount 9 rfl) ?_
  refine lv_land hx hb (xb_d D_Long_bitCount 10 rfl) ?_
  refine lv_lload_n hx hb (xb_d D_Long_bitCount 11 rfl) rfl (lv_at hl 0 rfl) ?_
  refine lv_iconst (v := 2) hx hb (xb_d D_Long_bitCount 12 rfl) (by decide) ?_
  refine lv_lushr (v := (xb_lushr v1 2)) hx hb (xb_d D_Long_bitCount 13 rfl) rfl ?_
  refine lv_ldc2 (v := 3689348814741910323) hx hb hown (hts _ m_9a492e7e) (xb_d D_Long_bitCount 14 rfl) ?_
  refine lv_land hx hb (xb_d D_Long_bitCount 15 rfl) ?_
  refine lv_ladd hx hb (xb_d D_Long_bitCount 16 rfl) ?_
  obtain ⟨v2, ev2⟩ : ∃ x : Int64, x = ((v1 &&& 3689348814741910323) + ((xb_lushr v1 2) &&& 3689348814741910323)) := ⟨_, rfl⟩
  have hw := hw v2 ev2
  refine xt_numl (y := v2) ev2.symm ?_
  refine lv_lstore_n hx hb (xb_d D_Long_bitCount 17 rfl) rfl hl (by decide) rfl (fun ls hl => ?_)
  have hl : lv_has ls 2 [(0, .long v2)] := hl
  refine lv_lload_n hx hb (xb_d D_Long_bitCount 18 rfl) rfl (lv_at hl 0 rfl) ?_
  refine lv_lload_n hx hb (xb_d D_Long_bitCount 19 rfl) rfl (lv_at hl 0 rfl) ?_
  refine lv_iconst (v := 4) hx hb (xb_d D_Long_bitCount 20 rfl) (by decide) ?_
  refine lv_lushr (v := (xb_lushr v2 4)) hx hb (xb_d D_Long_bitCount 21 rfl) rfl ?_
  refine lv_ladd hx hb (xb_d D_Long_bitCount 22 rfl) ?_
  refine lv_ldc2 (v := 1085102592571150095) hx hb hown (hts _ m_d5bd80ea) (xb_d D_Long_bitCount 23 rfl) ?_
  refine lv_land hx hb (xb_d D_Long_bitCount 24 rfl) ?_
  obtain ⟨v3, ev3⟩ : ∃ x : Int64, x = ((v2 + (xb_lushr v2 4)) &&& 1085102592571150095) := ⟨_, rfl⟩
  have hw := hw v3 ev3
  refine xt_numl (y := v3) ev3.symm ?_
  refine lv_lstore_n hx hb (xb_d D_Long_bitCount 25 rfl) rfl hl (by decide) rfl (fun ls hl => ?_)
  have hl : lv_has ls 2 [(0, .long v3)] := hl
  refine lv_lload_n hx hb (xb_d D_Long_bitCount 26 rfl) rfl (lv_at hl 0 rfl) ?_
  refine lv_lload_n hx hb (xb_d D_Long_bitCount 27 rfl) rfl (lv_at hl 0 rfl) ?_
  refine lv_bipush (v := 8) hx hb (xb_d D_Long_bitCount 28 rfl) (by decide) ?_
  refine lv_lushr (v := (xb_lushr v3 8)) hx hb (xb_d D_Long_bitCount 29 rfl) rfl ?_
  refine lv_ladd hx hb (xb_d D_Long_bitCount 30 rfl) ?_
  obtain ⟨v4, ev4⟩ : ∃ x : Int64, x = (v3 + (xb_lushr v3 8)) := ⟨_, rfl⟩
  have hw := hw v4 ev4
  refine xt_numl (y := v4) ev4.symm ?_
  refine lv_lstore_n hx hb (xb_d D_Long_bitCount 31 rfl) rfl hl (by decide) rfl (fun ls hl => ?_)
  have hl : lv_has ls 2 [(0, .long v4)] := hl
  refine lv_lload_n hx hb (xb_d D_Long_bitCount 32 rfl) rfl (lv_at hl 0 rfl) ?_
  refine lv_lload_n hx hb (xb_d D_Long_bitCount 33 rfl) rfl (lv_at hl 0 rfl) ?_
  refine lv_bipush (v := 16) hx hb (xb_d D_Long_bitCount 34 rfl) (by decide) ?_
  refine lv_lushr (v := (xb_lushr v4 16)) hx hb (xb_d D_Long_bitCount 35 rfl) rfl ?_
  refine lv_ladd hx hb (xb_d D_Long_bitCount 36 rfl) ?_
  obtain ⟨v5, ev5⟩ : ∃ x : Int64, x = (v4 + (xb_lushr v4 16)) := ⟨_, rfl⟩
  have hw := hw v5 ev5
  refine xt_numl (y := v5) ev5.symm ?_
  refine lv_lstore_n hx hb (xb_d D_Long_bitCount 37 rfl) rfl hl (by decide) rfl (fun ls hl => ?_)
  have hl : lv_has ls 2 [(0, .long v5)] := hl
  refine lv_lload_n hx hb (xb_d D_Long_bitCount 38 rfl) rfl (lv_at hl 0 rfl) ?_
  refine lv_lload_n hx hb (xb_d D_Long_bitCount 39 rfl) rfl (lv_at hl 0 rfl) ?_
  refine lv_bipush (v := 32) hx hb (xb_d D_Long_bitCount 40 rfl) (by decide) ?_
  refine lv_lushr (v := (xb_lushr v5 32)) hx hb (xb_d D_Long_bitCount 41 rfl) rfl ?_
  refine lv_ladd hx hb (xb_d D_Long_bitCount 42 rfl) ?_
  obtain ⟨v6, ev6⟩ : ∃ x : Int64, x = (v5 + (xb_lushr v5 32)) := ⟨_, rfl⟩
  have hw := hw v6 ev6
  refine xt_numl (y := v6) ev6.symm ?_
  refine lv_lstore_n hx hb (xb_d D_Long_bitCount 43 rfl) rfl hl (by decide) rfl (fun ls hl => ?_)
  have hl : lv_has ls 2 [(0, .long v6)] := hl
  refine lv_lload_n hx hb (xb_d D_Long_bitCount 44 rfl) rfl (lv_at hl 0 rfl) ?_
  refine lv_l2i hx hb (xb_d D_Long_bitCount 45 rfl) rfl ?_
  refine lv_bipush (v := 127) hx hb (xb_d D_Long_bitCount 46 rfl) (by decide) ?_
  refine lv_iand hx hb (xb_d D_Long_bitCount 47 rfl) ?_
  exact xb_iret 0 0 hx hb hr hlocks (show k + 0 ≤ MC by omega) (show n + 0 ≤ MS by omega) hE hR hS (xb_d D_Long_bitCount 48 rfl) hw

theorem m_450fc017 : (.methodLink "java/util/Arrays" 304 Lib.Math.min.name : Cond) ∈ xt_tbl := xt_in (xt_t2 (List.mem_of_getElem? (i := 235) (by decide +kernel))) (by decide +kernel)
theorem m_79b26afc : (.static Lib.Math.min.name : Cond) ∈ xt_tbl := xt_in (xt_t2 (List.mem_of_getElem? (i := 223) (by decide +kernel))) (by decide +kernel)
theorem m_0fd793e2 : (.code Lib.Math.min.name Lib.Math.min.code 2 (some .int) : Cond) ∈ xt_tbl := xt_in (xt_t2 (List.mem_of_getElem? (i := 224) (by decide +kernel))) (by decide +kernel)
theorem m_e30b3380 : (.methodLink "java/util/Arrays" 150 arraycopyName : Cond) ∈ xt_tbl := xt_in (xt_t2 (List.mem_of_getElem? (i := 236) (by decide +kernel))) (by decide +kernel)
theorem m_a648c8f7 : (.native arraycopyName : Cond) ∈ xt_tbl := xt_in (xt_t2 (List.mem_of_getElem? (i := 238) (by decide +kernel))) (by decide +kernel)
theorem m_410d49e2 : (.static arraycopyName : Cond) ∈ xt_tbl := xt_in (xt_t2 (List.mem_of_getElem? (i := 237) (by decide +kernel))) (by decide +kernel)
theorem m_4260ffab : (.initialized "java/lang/System" : Cond) ∈ xt_tbl := xt_in (xt_t1 (List.mem_of_getElem? (i := 16) (by decide +kernel))) (by decide +kernel)
theorem m_1ec6c816 : (.methodLink "java/util/Arrays" 310 ⟨"[B", "clone", "()Ljava/lang/Object;"⟩ : Cond) ∈ xt_tbl := xt_in (xt_t2 (List.mem_of_getElem? (i := 228) (by decide +kernel))) (by decide +kernel)
theorem m_e2529cc2 : (.sameMethod "[B" "java/lang/Object" "clone" "()Ljava/lang/Object;" : Cond) ∈ xt_tbl := xt_in (xt_t2 (List.mem_of_getElem? (i := 229) (by decide +kernel))) (by decide +kernel)
theorem m_f95e91c5 : (.native ⟨"java/lang/Object", "clone", "()Ljava/lang/Object;"⟩ : Cond) ∈ xt_tbl := xt_in (xt_t2 (List.mem_of_getElem? (i := 230) (by decide +kernel))) (by decide +kernel)
theorem m_0fafe5d4 : (.instanceMethod ⟨"java/lang/Object", "clone", "()Ljava/lang/Object;"⟩ : Cond) ∈ xt_tbl := xt_in (xt_t2 (List.mem_of_getElem? (i := 231) (by decide +kernel))) (by decide +kernel)
theorem m_c8a7fc3c : (.selects "[B" ⟨"[B", "clone", "()Ljava/lang/Object;"⟩ ⟨"java/lang/Object", "clone", "()Ljava/lang/Object;"⟩ : Cond) ∈ xt_tbl := xt_in (xt_t2 (List.mem_of_getElem? (i := 232) (by decide +kernel))) (by decide +kernel)
theorem m_46c4121f : (.castable "[B" "java/lang/Cloneable" : Cond) ∈ xt_tbl := xt_in (xt_t2 (List.mem_of_getElem? (i := 233) (by decide +kernel))) (by decide +kernel)
theorem m_6633e214 : (.classLink "java/util/Arrays" 311 "[B" : Cond) ∈ xt_tbl := xt_in (xt_t2 (List.mem_of_getElem? (i := 234) (by decide +kernel))) (by decide +kernel)
set_option maxRecDepth 100000 in
def T_Arrays_copyOf0 : List (Nat × Instr × Nat) := [(0, .iload_n 1, 1), (1, .aload_n 0, 1), (2, .arraylength, 1), (3, .if_icmp .ne 11, 3), (6, .aload_n 0, 1), (7, .invokevirtual 310, 3), (10, .checkcast 311, 3), (13, .areturn, 1), (14, .iload_n 1, 1), (15, .newarray .byte, 2), (17, .astore_n 2, 1), (18, .aload_n 0, 1), (19, .iconst 0, 1), (20, .aload_n 2, 1), (21, .iconst 0, 1), (22, .aload_n 0, 1), (23, .arraylength, 1), (24, .iload_n 1, 1), (25, .invokestatic 304, 3), (28, .invokestatic 150, 3), (31, .aload_n 2, 1), (32, .areturn, 1)]
theorem D_Arrays_copyOf0 : ∀ q ∈ T_Arrays_copyOf0, decode b_Arrays_copyOf0 q.1 = .ok (q.2.1, q.2.2) := by decide +kernel

set_option maxHeartbeats 4000000 in
set_option maxRecDepth 100000 in
theorem ok_Arrays_copyOf0 (l : Launch) (hfl : l.flags = pinnedFlags ++ [noTraceFlag]) (D : va_G) (A : Nat → Prop) (σ : Nat) (x0 : Nat) (x1 : Int32) (h : xb_H) (bc : Nat) (bs : Nat) (Qr : Nat → xb_H → Nat → Nat → Prop) (hw : w_Arrays_copyOf0 x0 x1 h bc bs Qr) : xb_Met l y_Arrays_copyOf0 [.code y_Arrays_copyOf0 b_Arrays_copyOf0 3 (some (.array .byte))] (xb_rm 2 bc bs) (xb_Pc D A σ h [.ref x0, .int x1]) (xb_Qc D A h bc bs (fun v h bc bs => ∃ r, v = some (.ref r) ∧ Qr r h bc bs) (fun _ _ _ _ => False)) A := by
  refine xb_ofAm (cc := b_Arrays_copyOf0) (by decide) (Nat.le_of_ble_eq_true rfl) ?_
  unfold w_Arrays_copyOf0 at hw
  show xb_am l D A σ 2 bc bs h (fun v h bc bs => ∃ r, v = some (.ref r) ∧ Qr r h bc bs) (fun _ _ _ _ => False) y_Arrays_copyOf0.cls y_Arrays_copyOf0.name b_Arrays_copyOf0 3 ([] : List ExceptionTableEntry) (some (.array .byte)) 0 [(0, .ref x0), (1, .int x1)] [] h bc bs
  obtain ⟨MC, hMC⟩ : ∃ x, x = bc := ⟨_, rfl⟩
  obtain ⟨MS, hMS⟩ : ∃ x, x = bs := ⟨_, rfl⟩
  rw [show xb_am l D A σ 2 bc bs = xb_am l D A σ 2 MC MS by rw [hMC, hMS]]
  obtain ⟨h0, hh0⟩ : ∃ x, x = h := ⟨_, rfl⟩
  rw [show xb_am l D A σ 2 MC MS h = xb_am l D A σ 2 MC MS h0 by rw [hh0]]
  intro p e s m args below meth c hC H locs ls k n hE hl hR hS hk hn
  obtain ⟨hx, hb, hown, hlocks, htab, hml, hr, hB, hA, hnm⟩ := id hC
  have hts := hB.1.1.at args
  refine lv_iload_n hx hb (xb_d D_Arrays_copyOf0 0 rfl) rfl (lv_at hl 1 rfl) ?_
  refine lv_aload_n hx hb (xb_d D_Arrays_copyOf0 1 rfl) rfl (lv_at hl 0 rfl) ?_
  obtain ⟨hk1, hw⟩ := hw
  refine xb_alen hx hb hR hk1 (by decide) (xb_d D_Arrays_copyOf0 2 rfl) ?_
  refine lv_icmp_ne (tgt := 14) hx hb (xb_d D_Arrays_copyOf0 3 rfl) rfl (fun hc2 => ?_) (fun hc2 => ?_)
  · have hw := hw.1 hc2
    refine lv_iload_n hx hb (xb_d D_Arrays_copyOf0 8 rfl) rfl (lv_at hl 1 rfl) ?_
    obtain ⟨hnq3, hbq3, hcq3, hsq3, hw⟩ := hw
    have enq3 : (Int32.toNatClampNeg x1) = (Int32.toNatClampNeg x1) := rfl
    refine xb_newa_b hx hb (hts _ m_2503b19f) hR hS hA hnq3 hbq3 (show k + 1 ≤ MC by omega) (show n + _ ≤ MS by rw [enq3]; omega) (xb_d D_Arrays_copyOf0 9 rfl) (fun q3 H hqq3 hR hS => ?_)
    rw [enq3] at hR ⊢
    have hw := hw q3 hqq3
    obtain ⟨h4, eh4⟩ : ∃ x : xb_H, x = xb_new h q3 100 (Int32.toNatClampNeg x1) := ⟨_, rfl⟩
    rw [← eh4] at hR
    have hw := hw h4 eh4
    have hE : xb_ext h0 h4 := by rw [eh4]; exact hE.new _ _ hqq3
    have hk5 : xb_k h4 q3 = 100 := by rw [eh4]; exact xb_new_k _ _ _ _
    refine lv_astore_n hx hb (xb_d D_Arrays_copyOf0 10 rfl) rfl hl (by decide) rfl (fun ls hl => ?_)
    have hl : lv_has ls 3 [(2, .ref q3), (0, .ref x0), (1, .int x1)] := hl
    refine lv_aload_n hx hb (xb_d D_Arrays_copyOf0 11 rfl) rfl (lv_at hl 1 rfl) ?_
    refine lv_iconst (v := 0) hx hb (xb_d D_Arrays_copyOf0 12 rfl) (by decide) ?_
    refine lv_aload_n hx hb (xb_d D_Arrays_copyOf0 13 rfl) rfl (lv_at hl 0 rfl) ?_
    refine lv_iconst (v := 0) hx hb (xb_d D_Arrays_copyOf0 14 rfl) (by decide) ?_
    refine lv_aload_n hx hb (xb_d D_Arrays_copyOf0 15 rfl) rfl (lv_at hl 1 rfl) ?_
    have hk1 : xb_k h4 x0 = 100 := by rw [eh4]; exact xb_nk hqq3 hk1
    refine xb_alen hx hb hR hk1 (by decide) (xb_d D_Arrays_copyOf0 16 rfl) ?_
    refine lv_iload_n hx hb (xb_d D_Arrays_copyOf0 17 rfl) rfl (lv_at hl 2 rfl) ?_
    refine va_mmin hx hb (hml.trans hl.1.symm) hown (hts _ m_450fc017) (hts _ m_79b26afc) (hts _ m_868a9286) (hts _ m_0fd793e2) (by show 1 ≤ 8 + _; omega) (Nat.le_trans (Nat.le_of_ble_eq_true rfl : _ ≤ 60) (by show 60 ≤ 120 + _; omega)) (show (k + 1) ≤ MC by omega) (show (n + (Int32.toNatClampNeg x1)) ≤ MS by omega) (xb_d D_Arrays_copyOf0 18 rfl) ?_
    obtain ⟨ha6, hw⟩ := hw
    refine xb_copy_b hx hb (hml.trans hl.1.symm) hown (hts _ m_e30b3380) (hts _ m_a648c8f7) (hts _ m_410d49e2) (hts _ m_4260ffab) hR hS hk1 hk5 ha6.1 ha6.2.1 ha6.2.2.1 ha6.2.2.2.1 ha6.2.2.2.2 (by show 1 ≤ 8 + _; omega) (Nat.le_trans (Nat.le_of_ble_eq_true rfl : _ ≤ 60) (by show 60 ≤ 120 + _; omega)) (xb_d D_Arrays_copyOf0 19 rfl) (fun H locs hR hS => ?_)
    obtain ⟨h7, eh7⟩ : ∃ x : xb_H, x = xb_Ia h4 q3 (va_cpy (xb_i h4 x0) (xb_i h4 q3) (Int32.toNatClampNeg 0) (Int32.toNatClampNeg 0) (Int32.toNatClampNeg (if x1 < (nI (xb_n h4 x0)) then x1 else (nI (xb_n h4 x0))))) := ⟨_, rfl⟩
    rw [← eh7] at hR
    have hw := hw h7 eh7
    have hE : xb_ext h0 h7 := by rw [eh7]; exact hE
    refine lv_aload_n hx hb (xb_d D_Arrays_copyOf0 20 rfl) rfl (lv_at hl 0 rfl) ?_
    exact xb_aret (bc - 1) (bs - (Int32.toNatClampNeg x1)) hx hb hr (by first | exact Or.inl ⟨_, rfl⟩ | exact Or.inr ⟨_, rfl⟩) hlocks (show (k + 1) + (bc - 1) ≤ MC by omega) (show (n + (Int32.toNatClampNeg x1)) + (bs - (Int32.toNatClampNeg x1)) ≤ MS by omega) hE hR hS (xb_d D_Arrays_copyOf0 21 rfl) hw
  · have hw := hw.2 hc2
    refine lv_aload_n hx hb (xb_d D_Arrays_copyOf0 4 rfl) rfl (lv_at hl 0 rfl) ?_
    obtain ⟨hcq8, hsq8, hw⟩ := hw
    refine xb_clone_b hx hb (hml.trans hl.1.symm) hown (hts _ m_1ec6c816) (hts _ m_e2529cc2) (hts _ m_f95e91c5) (hts _ m_0fafe5d4) (hts _ m_c8a7fc3c) (va_Nw.of rfl (hts _ m_46c4121f)) hR hS hA hk1 (by show 1 ≤ 8 + _; omega) (Nat.le_trans (Nat.le_of_ble_eq_true rfl : _ ≤ 60) (by show 60 ≤ 120 + _; omega)) (show k + 1 ≤ MC by omega) (show n + (xb_n h x0) ≤ MS by omega) (xb_d D_Arrays_copyOf0 5 rfl) (fun q8 H hqq8 hR hS => ?_)
    have hw := hw q8 hqq8
    obtain ⟨h9, eh9⟩ : ∃ x : xb_H, x = xb_Ia (xb_new h q8 100 (xb_n h x0)) q8 (xb_i h x0) := ⟨_, rfl⟩
    rw [← eh9] at hR
    have hw := hw h9 eh9
    have hE : xb_ext h0 h9 := by rw [eh9]; exact (show xb_ext h0 (xb_new _ _ _ _) from hE.new _ _ hqq8)
    have hk10 : xb_k h9 q8 = 100 := by rw [eh9]; exact xb_new_k h q8 100 (xb_n h x0)
    refine xb_cast_b hx hb hown (hts _ m_6633e214) hR hk10 (xb_d D_Arrays_copyOf0 6 rfl) ?_
    exact xb_aret (bc - 1) (bs - (xb_n h x0)) hx hb hr (by first | exact Or.inl ⟨_, rfl⟩ | exact Or.inr ⟨_, rfl⟩) hlocks (show (k + 1) + (bc - 1) ≤ MC by omega) (show (n + (xb_n h x0)) + (bs - (xb_n h x0)) ≤ MS by omega) hE hR hS (xb_d D_Arrays_copyOf0 7 rfl) hw

theorem m_26ec9da0 : (.methodLink "java/util/Arrays" 319 ⟨"[J", "clone", "()Ljava/lang/Object;"⟩ : Cond) ∈ xt_tbl := xt_in (xt_t3 (List.mem_of_getElem? (i := 236) (by decide +kernel))) (by decide +kernel)
theorem m_ace50374 : (.sameMethod "[J" "java/lang/Object" "clone" "()Ljava/lang/Object;" : Cond) ∈ xt_tbl := xt_in (xt_t3 (List.mem_of_getElem? (i := 237) (by decide +kernel))) (by decide +kernel)
theorem m_f00e5102 : (.selects "[J" ⟨"[J", "clone", "()Ljava/lang/Object;"⟩ ⟨"java/lang/Object", "clone", "()Ljava/lang/Object;"⟩ : Cond) ∈ xt_tbl := xt_in (xt_t3 (List.mem_of_getElem? (i := 238) (by decide +kernel))) (by decide +kernel)
theorem m_06beeba9 : (.castable "[J" "java/lang/Cloneable" : Cond) ∈ xt_tbl := xt_in (xt_t3 (List.mem_of_getElem? (i := 239) (by decide +kernel))) (by decide +kernel)
theorem m_9f113df1 : (.classLink "java/util/Arrays" 320 "[J" : Cond) ∈ xt_tbl := xt_in (xt_t4 (List.mem_of_getElem? (i := 0) (by decide +kernel))) (by decide +kernel)
set_option maxRecDepth 100000 in
def T_Arrays_copyOf1 : List (Nat × Instr × Nat) := [(0, .iload_n 1, 1), (1, .aload_n 0, 1), (2, .arraylength, 1), (3, .if_icmp .ne 11, 3), (6, .aload_n 0, 1), (7, .invokevirtual 319, 3), (10, .checkcast 320, 3), (13, .areturn, 1), (14, .iload_n 1, 1), (15, .newarray .long, 2), (17, .astore_n 2, 1), (18, .aload_n 0, 1), (19, .iconst 0, 1), (20, .aload_n 2, 1), (21, .iconst 0, 1), (22, .aload_n 0, 1), (23, .arraylength, 1), (24, .iload_n 1, 1), (25, .invokestatic 304, 3), (28, .invokestatic 150, 3), (31, .aload_n 2, 1), (32, .areturn, 1)]
theorem D_Arrays_copyOf1 : ∀ q ∈ T_Arrays_copyOf1, decode b_Arrays_copyOf1 q.1 = .ok (q.2.1, q.2.2) := by decide +kernel

set_option maxHeartbeats 4000000 in
set_option maxRecDepth 100000 in
theorem ok_Arrays_copyOf1 (l : Launch) (hfl : l.flags = pinnedFlags ++ [noTraceFlag]) (D : va_G) (A : Nat → Prop) (σ : Nat) (x0 : Nat) (x1 : Int32) (h : xb_H) (bc : Nat) (bs : Nat) (Qr : Nat → xb_H → Nat → Nat → Prop) (hw : w_Arrays_copyOf1 x0 x1 h bc bs Qr) : xb_Met l y_Arrays_copyOf1 [.code y_Arrays_copyOf1 b_Arrays_copyOf1 3 (some (.array .long))] (xb_rm 2 bc bs) (xb_Pc D A σ h [.ref x0, .int x1]) (xb_Qc D A h bc bs (fun v h bc bs => ∃ r, v = some (.ref r) ∧ Qr r h bc bs) (fun _ _ _ _ => False)) A := by
  refine xb_ofAm (cc := b_Arrays_copyOf1) (by decide) (Nat.le_of_ble_eq_true rfl) ?_
  unfold w_Arrays_copyOf1 at hw
  show xb_am l D A σ 2 bc bs h (fun v h bc bs => ∃ r, v = some (.ref r) ∧ Qr r h bc bs) (fun _ _ _ _ => False) y_Arrays_copyOf1.cls y_Arrays_copyOf1.name b_Arrays_copyOf1 3 ([] : List ExceptionTableEntry) (some (.array .long)) 0 [(0, .ref x0), (1, .int x1)] [] h bc bs
  obtain ⟨MC, hMC⟩ : ∃ x, x = bc := ⟨_, rfl⟩
  obtain ⟨MS, hMS⟩ : ∃ x, x = bs := ⟨_, rfl⟩
  rw [show xb_am l D A σ 2 bc bs = xb_am l D A σ 2 MC MS by rw [hMC, hMS]]
  obtain ⟨h0, hh0⟩ : ∃ x, x = h := ⟨_, rfl⟩
  rw [show xb_am l D A σ 2 MC MS h = xb_am l D A σ 2 MC MS h0 by rw [hh0]]
  intro p e s m args below meth c hC H locs ls k n hE hl hR hS hk hn
  obtain ⟨hx, hb, hown, hlocks, htab, hml, hr, hB, hA, hnm⟩ := id hC
  have hts := hB.1.1.at args
  refine lv_iload_n hx hb (xb_d D_Arrays_copyOf1 0 rfl) rfl (lv_at hl 1 rfl) ?_
  refine lv_aload_n hx hb (xb_d D_Arrays_copyOf1 1 rfl) rfl (lv_at hl 0 rfl) ?_
  obtain ⟨hk1, hw⟩ := hw
  refine xb_alen hx hb hR hk1 (by decide) (xb_d D_Arrays_copyOf1 2 rfl) ?_
  refine lv_icmp_ne (tgt := 14) hx hb (xb_d D_Arrays_copyOf1 3 rfl) rfl (fun hc2 => ?_) (fun hc2 => ?_)
  · have hw := hw.1 hc2
    refine lv_iload_n hx hb (xb_d D_Arrays_copyOf1 8 rfl) rfl (lv_at hl 1 rfl) ?_
    obtain ⟨hnq3, hbq3, hcq3, hsq3, hw⟩ := hw
    have enq3 : (Int32.toNatClampNeg x1) = (Int32.toNatClampNeg x1) := rfl
    refine xb_newa_l hx hb (hts _ m_f2af499d) hR hS hA hnq3 hbq3 (show k + 1 ≤ MC by omega) (show n + _ ≤ MS by rw [enq3]; omega) (xb_d D_Arrays_copyOf1 9 rfl) (fun q3 H hqq3 hR hS => ?_)
    rw [enq3] at hR ⊢
    have hw := hw q3 hqq3
    obtain ⟨h4, eh4⟩ : ∃ x : xb_H, x = xb_new h q3 103 (Int32.toNatClampNeg x1) := ⟨_, rfl⟩
    rw [← eh4] at hR
    have hw := hw h4 eh4
    have hE : xb_ext h0 h4 := by rw [eh4]; exact hE.new _ _ hqq3
    have hk5 : xb_k h4 q3 = 103 := by rw [eh4]; exact xb_new_k _ _ _ _
    refine lv_astore_n hx hb (xb_d D_Arrays_copyOf1 10 rfl) rfl hl (by decide) rfl (fun ls hl => ?_)
    have hl : lv_has ls 3 [(2, .ref q3), (0, .ref x0), (1, .int x1)] := hl
    refine lv_aload_n hx hb (xb_d D_Arrays_copyOf1 11 rfl) rfl (lv_at hl 1 rfl) ?_
    refine lv_iconst (v := 0) hx hb (xb_d D_Arrays_copyOf1 12 rfl) (by decide) ?_
    refine lv_aload_n hx hb (xb_d D_Arrays_copyOf1 13 rfl) rfl (lv_at hl 0 rfl) ?_
    refine lv_iconst (v := 0) hx hb (xb_d D_Arrays_copyOf1 14 rfl) (by decide) ?_
    refine lv_aload_n hx hb (xb_d D_Arrays_copyOf1 15 rfl) rfl (lv_at hl 1 rfl) ?_
    have hk1 : xb_k h4 x0 = 103 := by rw [eh4]; exact xb_nk hqq3 hk1
    refine xb_alen hx hb hR hk1 (by decide) (xb_d D_Arrays_copyOf1 16 rfl) ?_
    refine lv_iload_n hx hb (xb_d D_Arrays_copyOf1 17 rfl) rfl (lv_at hl 2 rfl) ?_
    refine va_mmin hx hb (hml.trans hl.1.symm) hown (hts _ m_450fc017) (hts _ m_79b26afc) (hts _ m_868a9286) (hts _ m_0fd793e2) (by show 1 ≤ 8 + _; omega) (Nat.le_trans (Nat.le_of_ble_eq_true rfl : _ ≤ 60) (by show 60 ≤ 120 + _; omega)) (show (k + 1) ≤ MC by omega) (show (n + (Int32.toNatClampNeg x1)) ≤ MS by omega) (xb_d D_Arrays_copyOf1 18 rfl) ?_
    obtain ⟨ha6, hw⟩ := hw
    refine xb_copy_l hx hb (hml.trans hl.1.symm) hown (hts _ m_e30b3380) (hts _ m_a648c8f7) (hts _ m_410d49e2) (hts _ m_4260ffab) hR hS hk1 hk5 ha6.1 ha6.2.1 ha6.2.2.1 ha6.2.2.2.1 ha6.2.2.2.2 (by show 1 ≤ 8 + _; omega) (Nat.le_trans (Nat.le_of_ble_eq_true rfl : _ ≤ 60) (by show 60 ≤ 120 + _; omega)) (xb_d D_Arrays_copyOf1 19 rfl) (fun H locs hR hS => ?_)
    obtain ⟨h7, eh7⟩ : ∃ x : xb_H, x = xb_La h4 q3 (va_cpy (xb_l h4 x0) (xb_l h4 q3) (Int32.toNatClampNeg 0) (Int32.toNatClampNeg 0) (Int32.toNatClampNeg (if x1 < (nI (xb_n h4 x0)) then x1 else (nI (xb_n h4 x0))))) := ⟨_, rfl⟩
    rw [← eh7] at hR
    have hw := hw h7 eh7
    have hE : xb_ext h0 h7 := by rw [eh7]; exact hE
    refine lv_aload_n hx hb (xb_d D_Arrays_copyOf1 20 rfl) rfl (lv_at hl 0 rfl) ?_
    exact xb_aret (bc - 1) (bs - (Int32.toNatClampNeg x1)) hx hb hr (by first | exact Or.inl ⟨_, rfl⟩ | exact Or.inr ⟨_, rfl⟩) hlocks (show (k + 1) + (bc - 1) ≤ MC by omega) (show (n + (Int32.toNatClampNeg x1)) + (bs - (Int32.toNatClampNeg x1)) ≤ MS by omega) hE hR hS (xb_d D_Arrays_copyOf1 21 rfl) hw
  · have hw := hw.2 hc2
    refine lv_aload_n hx hb (xb_d D_Arrays_copyOf1 4 rfl) rfl (lv_at hl 0 rfl) ?_
    obtain ⟨hcq8, hsq8, hw⟩ := hw
    refine xb_clone_l hx hb (hml.trans hl.1.symm) hown (hts _ m_26ec9da0) (hts _ m_ace50374) (hts _ m_f95e91c5) (hts _ m_0fafe5d4) (hts _ m_f00e5102) (va_Nw.of rfl (hts _ m_06beeba9)) hR hS hA hk1 (by show 1 ≤ 8 + _; omega) (Nat.le_trans (Nat.le_of_ble_eq_true rfl : _ ≤ 60) (by show 60 ≤ 120 + _; omega)) (show k + 1 ≤ MC by omega) (show n + (xb_n h x0) ≤ MS by omega) (xb_d D_Arrays_copyOf1 5 rfl) (fun q8 H hqq8 hR hS => ?_)
    have hw := hw q8 hqq8
    obtain ⟨h9, eh9⟩ : ∃ x : xb_H, x = xb_La (xb_new h q8 103 (xb_n h x0)) q8 (xb_l h x0) := ⟨_, rfl⟩
    rw [← eh9] at hR
    have hw := hw h9 eh9
    have hE : xb_ext h0 h9 := by rw [eh9]; exact (show xb_ext h0 (xb_new _ _ _ _) from hE.new _ _ hqq8)
    have hk10 : xb_k h9 q8 = 103 := by rw [eh9]; exact xb_new_k h q8 103 (xb_n h x0)
    refine xb_cast_l hx hb hown (hts _ m_9f113df1) hR hk10 (xb_d D_Arrays_copyOf1 6 rfl) ?_
    exact xb_aret (bc - 1) (bs - (xb_n h x0)) hx hb hr (by first | exact Or.inl ⟨_, rfl⟩ | exact Or.inr ⟨_, rfl⟩) hlocks (show (k + 1) + (bc - 1) ≤ MC by omega) (show (n + (xb_n h x0)) + (bs - (xb_n h x0)) ≤ MS by omega) hE hR hS (xb_d D_Arrays_copyOf1 7 rfl) hw

set_option maxRecDepth 100000 in
def T_Arrays_rangeCheck : List (Nat × Instr × Nat) := [(0, .iload_n 1, 1), (1, .iload_n 2, 1), (2, .if_icmp .le 44, 3), (5, .new 43, 3), (8, .dup, 1), (9, .new 45, 3), (12, .dup, 1), (13, .invokespecial 47, 3), (16, .ldc 48, 2), (18, .invokevirtual 50, 3), (21, .iload_n 1, 1), (22, .invokevirtual 54, 3), (25, .ldc 57, 2), (27, .invokevirtual 50, 3), (30, .iload_n 2, 1), (31, .invokevirtual 54, 3), (34, .ldc 59, 2), (36, .invokevirtual 50, 3), (39, .invokevirtual 61, 3), (42, .invokespecial 65, 3), (45, .athrow, 1), (46, .iload_n 1, 1), (47, .ifCond .ge 12, 3), (50, .new 68, 3), (53, .dup, 1), (54, .iload_n 1, 1), (55, .invokespecial 70, 3), (58, .athrow, 1), (59, .iload_n 2, 1), (60, .iload_n 0, 1), (61, .if_icmp .le 12, 3), (64, .new 68, 3), (67, .dup, 1), (68, .iload_n 2, 1), (69, .invokespecial 70, 3), (72, .athrow, 1), (73, .return_, 1)]
theorem D_Arrays_rangeCheck : ∀ q ∈ T_Arrays_rangeCheck, decode b_Arrays_rangeCheck q.1 = .ok (q.2.1, q.2.2) := by decide +kernel

set_option maxHeartbeats 4000000 in
set_option maxRecDepth 100000 in
theorem ok_Arrays_rangeCheck (l : Launch) (hfl : l.flags = pinnedFlags ++ [noTraceFlag]) (D : va_G) (A : Nat → Prop) (σ : Nat) (x0 : Int32) (x1 : Int32) (x2 : Int32) (h : xb_H) (Qr : xb_H → Prop) (hw : w_Arrays_rangeCheck x0 x1 x2 h Qr) : xb_Met l y_Arrays_rangeCheck [.code y_Arrays_rangeCheck b_Arrays_rangeCheck 3 none] (xb_rm 2 0 0) (xb_Pc D A σ h [.int x0, .int x1, .int x2]) (xb_Qc D A h 0 0 (fun v h _ _ => v = none ∧ Qr h) (fun _ _ _ _ => False)) A := by
  refine xb_ofAm (cc := b_Arrays_rangeCheck) (by decide) (Nat.le_of_ble_eq_true rfl) ?_
  unfold w_Arrays_rangeCheck at hw
  show xb_am l D A σ 2 0 0 h (fun v h _ _ => v = none ∧ Qr h) (fun _ _ _ _ => False) y_Arrays_rangeCheck.cls y_Arrays_rangeCheck.name b_Arrays_rangeCheck 3 ([] : List ExceptionTableEntry) none 0 [(0, .int x0), (1, .int x1), (2, .int x2)] [] h 0 0
  obtain ⟨MC, hMC⟩ : ∃ x, x = 0 := ⟨_, rfl⟩
  obtain ⟨MS, hMS⟩ : ∃ x, x = 0 := ⟨_, rfl⟩
  rw [show xb_am l D A σ 2 0 0 = xb_am l D A σ 2 MC MS by rw [hMC, hMS]]
  obtain ⟨h0, hh0⟩ : ∃ x, x = h := ⟨_, rfl⟩
  rw [show xb_am l D A σ 2 MC MS h = xb_am l D A σ 2 MC MS h0 by rw [hh0]]
  intro p e s m args below meth c hC H locs ls k n hE hl hR hS hk hn
  obtain ⟨hx, hb, hown, hlocks, htab, hml, hr, hB, hA, hnm⟩ := id hC
  have hts := hB.1.1.at args
  refine lv_iload_n hx hb (xb_d D_Arrays_rangeCheck 0 rfl) rfl (lv_at hl 1 rfl) ?_
  refine lv_iload_n hx hb (xb_d D_Arrays_rangeCheck 1 rfl) rfl (lv_at hl 2 rfl) ?_
  refine lv_icmp_le (tgt := 46) hx hb (xb_d D_Arrays_rangeCheck 2 rfl) rfl (fun hc1 => ?_) (fun hc1 => ?_)
  · have hw := hw.1 hc1
    refine lv_iload_n hx hb (xb_d D_Arrays_rangeCheck 21 rfl) rfl (lv_at hl 1 rfl) ?_
    refine lv_if_ge (tgt := 59) hx hb (xb_d D_Arrays_rangeCheck 22 rfl) rfl (fun hc2 => ?_) (fun hc2 => ?_)
    · have hw := hw.1 hc2
      refine lv_iload_n hx hb (xb_d D_Arrays_rangeCheck 28 rfl) rfl (lv_at hl 2 rfl) ?_
      refine lv_iload_n hx hb (xb_d D_Arrays_rangeCheck 29 rfl) rfl (lv_at hl 0 rfl) ?_
      refine lv_icmp_le (tgt := 73) hx hb (xb_d D_Arrays_rangeCheck 30 rfl) rfl (fun hc3 => ?_) (fun hc3 => ?_)
      · have hw := hw.1 hc3
        exact xb_vret 0 0 hx hb hr hlocks (show k + 0 ≤ MC by omega) (show n + 0 ≤ MS by omega) hE hR hS (xb_d D_Arrays_rangeCheck 36 rfl) hw
      · have hw := hw.2 hc3
        exact False.elim hw
    · have hw := hw.2 hc2
      exact False.elim hw
  · have hw := hw.2 hc1
    exact False.elim hw

