theorem m_030a6585 : (.methodLink "StackHostModel$Exact" 153 y_Exact_below : Cond) ∈ xt_tbl := xt_in (xt_t13 (List.mem_of_getElem? (i := 4) (by decide +kernel))) (by decide +kernel)
theorem m_d6ff3ad9 : (.static y_Exact_below : Cond) ∈ xt_tbl := xt_in (xt_t13 (List.mem_of_getElem? (i := 5) (by decide +kernel))) (by decide +kernel)
theorem m_22a27095 : (.code y_Exact_below b_Exact_below 4 (some .boolean) : Cond) ∈ xt_tbl := xt_in (xt_t13 (List.mem_of_getElem? (i := 6) (by decide +kernel))) (by decide +kernel)
theorem nm_Exact_below : xt_nm y_Exact_below 2 := ⟨by decide +kernel, by decide +kernel⟩
set_option maxRecDepth 100000 in
def T_Exact_divided : List (Nat × Instr × Nat) := [(0, .lconst 0, 1), (1, .lstore 5, 2), (3, .lconst 0, 1), (4, .lstore 7, 2), (6, .bipush 63, 2), (8, .istore 9, 2), (10, .iload 9, 2), (12, .ifCond .lt 70, 3), (15, .lload 5, 2), (17, .lconst 0, 1), (18, .lcmp, 1), (19, .ifCond .ge 7, 3), (22, .iconst 1, 1), (23, .goto 4, 3), (26, .iconst 0, 1), (27, .istore 10, 2), (29, .ldc2_w 50, 3), (32, .lload 5, 2), (34, .lmul, 1), (35, .lload_n 0, 1), (36, .iload 9, 2), (38, .lshr, 1), (39, .lconst 1, 1), (40, .land, 1), (41, .ladd, 1), (42, .lstore 5, 2), (44, .lload 7, 2), (46, .iconst 1, 1), (47, .lshl, 1), (48, .lstore 7, 2), (50, .iload 10, 2), (52, .ifCond .ne 12, 3), (55, .lload 5, 2), (57, .lload_n 2, 1), (58, .invokestatic 153, 3), (61, .ifCond .ne 15, 3), (64, .lload 5, 2), (66, .lload_n 2, 1), (67, .lsub, 1), (68, .lstore 5, 2), (70, .lload 7, 2), (72, .lconst 1, 1), (73, .ladd, 1), (74, .lstore 7, 2), (76, .iinc 9 (-1), 3), (79, .goto (-69), 3), (82, .iload 4, 2), (84, .ifCond .eq 8, 3), (87, .lload 5, 2), (89, .goto 5, 3), (92, .lload 7, 2), (94, .lreturn, 1)]
theorem D_Exact_divided : ∀ q ∈ T_Exact_divided, decode b_Exact_divided q.1 = .ok (q.2.1, q.2.2) := by decide +kernel

set_option maxHeartbeats 4000000 in
set_option maxRecDepth 100000 in
theorem am_Exact_divided_L94 (l : Launch) (hfl : l.flags = pinnedFlags ++ [noTraceFlag]) (D : va_G) (A : Nat → Prop) (σ MC MS : Nat) (h0 : xb_H) (Qr : Int64 → xb_H → Prop) (y0 : Int64) (h : xb_H) (hw : w_Exact_divided_L94 Qr y0 h) : xb_am l D A σ 3 MC MS h0 (fun v h _ _ => ∃ r, v = some (.long r) ∧ Qr r h) (fun _ _ _ _ => False) y_Exact_divided.cls y_Exact_divided.name b_Exact_divided 11 ([] : List ExceptionTableEntry) (some .long) 94 [] [.long y0] h 0 0 := by
  unfold w_Exact_divided_L94 at hw
  intro p e s m args below meth c hC H locs ls k n hE hl hR hS hk hn
  obtain ⟨hx, hb, hown, hlocks, htab, hml, hr, hB, hA, hnm⟩ := id hC
  have hts := hB.1.1.at args
  exact xb_lret 0 0 hx hb hr hlocks (show k + 0 ≤ MC by omega) (show n + 0 ≤ MS by omega) hE hR hS (xb_d D_Exact_divided 51 rfl) hw

set_option maxHeartbeats 4000000 in
set_option maxRecDepth 100000 in
theorem am_Exact_divided_L76 (l : Launch) (hfl : l.flags = pinnedFlags ++ [noTraceFlag]) (D : va_G) (A : Nat → Prop) (σ MC MS : Nat) (h0 : xb_H) (Qr : Int64 → xb_H → Prop) (K10 : Int64 → Int64 → Int32 → Int64 → Int64 → Int32 → xb_H → Prop) (hK10 : ∀ (x0 : Int64) (x2 : Int64) (x4 : Int32) (x5 : Int64) (x7 : Int64) (x9 : Int32) (h : xb_H), K10 x0 x2 x4 x5 x7 x9 h → xb_am l D A σ 3 MC MS h0 (fun v h _ _ => ∃ r, v = some (.long r) ∧ Qr r h) (fun _ _ _ _ => False) y_Exact_divided.cls y_Exact_divided.name b_Exact_divided 11 ([] : List ExceptionTableEntry) (some .long) 10 [(0, .long x0), (2, .long x2), (4, .int x4), (5, .long x5), (7, .long x7), (9, .int x9)] [] h 0 0) (x0 : Int64) (x2 : Int64) (x4 : Int32) (x5 : Int64) (x7 : Int64) (x9 : Int32) (h : xb_H) (hw : w_Exact_divided_L76 K10 Qr x0 x2 x4 x5 x7 x9 h) : xb_am l D A σ 3 MC MS h0 (fun v h _ _ => ∃ r, v = some (.long r) ∧ Qr r h) (fun _ _ _ _ => False) y_Exact_divided.cls y_Exact_divided.name b_Exact_divided 11 ([] : List ExceptionTableEntry) (some .long) 76 [(0, .long x0), (2, .long x2), (4, .int x4), (5, .long x5), (7, .long x7), (9, .int x9)] [] h 0 0 := by
  unfold w_Exact_divided_L76 at hw
  intro p e s m args below meth c hC H locs ls k n hE hl hR hS hk hn
  obtain ⟨hx, hb, hown, hlocks, htab, hml, hr, hB, hA, hnm⟩ := id hC
  have hts := hB.1.1.at args
  refine lv_iinc (v := (x9 + (-1))) (k := 5) hx hb (xb_d D_Exact_divided 44 rfl) hl rfl (by first | rfl | decide) (by decide) rfl (fun ls hl => ?_)
  have hl : lv_has ls 11 [(9, .int (x9 + (-1))), (0, .long x0), (2, .long x2), (4, .int x4), (5, .long x5), (7, .long x7)] := hl
  refine lv_goto (tgt := 10) hx hb (xb_d D_Exact_divided 45 rfl) rfl ?_
  exact hK10 x0 x2 x4 x5 x7 (x9 + (-1)) h hw p e s m args below meth c hC H locs ls k n hE (lv_sub hl [1, 2, 3, 4, 5, 0] rfl) hR hS (by omega) (by omega)

set_option maxHeartbeats 4000000 in
set_option maxRecDepth 100000 in
theorem am_Exact_divided_L64 (l : Launch) (hfl : l.flags = pinnedFlags ++ [noTraceFlag]) (D : va_G) (A : Nat → Prop) (σ MC MS : Nat) (h0 : xb_H) (Qr : Int64 → xb_H → Prop) (K10 : Int64 → Int64 → Int32 → Int64 → Int64 → Int32 → xb_H → Prop) (hK10 : ∀ (x0 : Int64) (x2 : Int64) (x4 : Int32) (x5 : Int64) (x7 : Int64) (x9 : Int32) (h : xb_H), K10 x0 x2 x4 x5 x7 x9 h → xb_am l D A σ 3 MC MS h0 (fun v h _ _ => ∃ r, v = some (.long r) ∧ Qr r h) (fun _ _ _ _ => False) y_Exact_divided.cls y_Exact_divided.name b_Exact_divided 11 ([] : List ExceptionTableEntry) (some .long) 10 [(0, .long x0), (2, .long x2), (4, .int x4), (5, .long x5), (7, .long x7), (9, .int x9)] [] h 0 0) (x0 : Int64) (x2 : Int64) (x4 : Int32) (x5 : Int64) (x7 : Int64) (x9 : Int32) (h : xb_H) (hw : w_Exact_divided_L64 K10 Qr x0 x2 x4 x5 x7 x9 h) : xb_am l D A σ 3 MC MS h0 (fun v h _ _ => ∃ r, v = some (.long r) ∧ Qr r h) (fun _ _ _ _ => False) y_Exact_divided.cls y_Exact_divided.name b_Exact_divided 11 ([] : List ExceptionTableEntry) (some .long) 64 [(0, .long x0), (2, .long x2), (4, .int x4), (5, .long x5), (7, .long x7), (9, .int x9)] [] h 0 0 := by
  unfold w_Exact_divided_L64 at hw
  intro p e s m args below meth c hC H locs ls k n hE hl hR hS hk hn
  obtain ⟨hx, hb, hown, hlocks, htab, hml, hr, hB, hA, hnm⟩ := id hC
  have hts := hB.1.1.at args
  refine lv_lload hx hb (xb_d D_Exact_divided 36 rfl) (lv_at hl 3 rfl) ?_
  refine lv_lload_n hx hb (xb_d D_Exact_divided 37 rfl) rfl (lv_at hl 1 rfl) ?_
  refine lv_lsub hx hb (xb_d D_Exact_divided 38 rfl) ?_
  obtain ⟨v1, ev1⟩ : ∃ x : Int64, x = (x5 - x2) := ⟨_, rfl⟩
  have hw := hw v1 ev1
  refine xt_numl (y := v1) ev1.symm ?_
  refine lv_lstore hx hb (xb_d D_Exact_divided 39 rfl) hl (by decide) rfl (fun ls hl => ?_)
  have hl : lv_has ls 11 [(5, .long v1), (0, .long x0), (2, .long x2), (4, .int x4), (7, .long x7), (9, .int x9)] := hl
  refine lv_lload hx hb (xb_d D_Exact_divided 40 rfl) (lv_at hl 4 rfl) ?_
  refine lv_lconst (v := 1) hx hb (xb_d D_Exact_divided 41 rfl) (by decide) ?_
  refine lv_ladd hx hb (xb_d D_Exact_divided 42 rfl) ?_
  obtain ⟨v2, ev2⟩ : ∃ x : Int64, x = (x7 + 1) := ⟨_, rfl⟩
  have hw := hw v2 ev2
  refine xt_numl (y := v2) ev2.symm ?_
  refine lv_lstore hx hb (xb_d D_Exact_divided 43 rfl) hl (by decide) rfl (fun ls hl => ?_)
  have hl : lv_has ls 11 [(7, .long v2), (5, .long v1), (0, .long x0), (2, .long x2), (4, .int x4), (9, .int x9)] := hl
  exact am_Exact_divided_L76 l hfl D A σ MC MS h0 Qr K10 hK10 x0 x2 x4 v1 v2 x9 h hw p e s m args below meth c hC H locs ls k n hE (lv_sub hl [2, 3, 4, 1, 0, 5] rfl) hR hS (by omega) (by omega)

set_option maxHeartbeats 4000000 in
set_option maxRecDepth 100000 in
theorem am_Exact_divided_L27 (l : Launch) (hfl : l.flags = pinnedFlags ++ [noTraceFlag]) (D : va_G) (A : Nat → Prop) (σ MC MS : Nat) (h0 : xb_H) (Qr : Int64 → xb_H → Prop) (K10 : Int64 → Int64 → Int32 → Int64 → Int64 → Int32 → xb_H → Prop) (hK10 : ∀ (x0 : Int64) (x2 : Int64) (x4 : Int32) (x5 : Int64) (x7 : Int64) (x9 : Int32) (h : xb_H), K10 x0 x2 x4 x5 x7 x9 h → xb_am l D A σ 3 MC MS h0 (fun v h _ _ => ∃ r, v = some (.long r) ∧ Qr r h) (fun _ _ _ _ => False) y_Exact_divided.cls y_Exact_divided.name b_Exact_divided 11 ([] : List ExceptionTableEntry) (some .long) 10 [(0, .long x0), (2, .long x2), (4, .int x4), (5, .long x5), (7, .long x7), (9, .int x9)] [] h 0 0) (x0 : Int64) (x2 : Int64) (x4 : Int32) (x5 : Int64) (x7 : Int64) (x9 : Int32) (y0 : Int32) (h : xb_H) (hw : w_Exact_divided_L27 K10 Qr x0 x2 x4 x5 x7 x9 y0 h) : xb_am l D A σ 3 MC MS h0 (fun v h _ _ => ∃ r, v = some (.long r) ∧ Qr r h) (fun _ _ _ _ => False) y_Exact_divided.cls y_Exact_divided.name b_Exact_divided 11 ([] : List ExceptionTableEntry) (some .long) 27 [(0, .long x0), (2, .long x2), (4, .int x4), (5, .long x5), (7, .long x7), (9, .int x9)] [.int y0] h 0 0 := by
  unfold w_Exact_divided_L27 at hw
  intro p e s m args below meth c hC H locs ls k n hE hl hR hS hk hn
  obtain ⟨hx, hb, hown, hlocks, htab, hml, hr, hB, hA, hnm⟩ := id hC
  have hts := hB.1.1.at args
  refine lv_istore hx hb (xb_d D_Exact_divided 15 rfl) hl (by decide) rfl (fun ls hl => ?_)
  have hl : lv_has ls 11 [(10, .int y0), (0, .long x0), (2, .long x2), (4, .int x4), (5, .long x5), (7, .long x7), (9, .int x9)] := hl
  refine lv_ldc2 (v := 2) hx hb hown (hts _ m_9070420a) (xb_d D_Exact_divided 16 rfl) ?_
  refine lv_lload hx hb (xb_d D_Exact_divided 17 rfl) (lv_at hl 4 rfl) ?_
  refine lv_lmul hx hb (xb_d D_Exact_divided 18 rfl) ?_
  refine lv_lload_n hx hb (xb_d D_Exact_divided 19 rfl) rfl (lv_at hl 1 rfl) ?_
  refine lv_iload hx hb (xb_d D_Exact_divided 20 rfl) (lv_at hl 6 rfl) ?_
  refine lv_lshr (v := (xb_lshr x0 x9)) hx hb (xb_d D_Exact_divided 21 rfl) rfl ?_
  refine lv_lconst (v := 1) hx hb (xb_d D_Exact_divided 22 rfl) (by decide) ?_
  refine lv_land hx hb (xb_d D_Exact_divided 23 rfl) ?_
  refine lv_ladd hx hb (xb_d D_Exact_divided 24 rfl) ?_
  obtain ⟨v1, ev1⟩ : ∃ x : Int64, x = ((2 * x5) + ((xb_lshr x0 x9) &&& 1)) := ⟨_, rfl⟩
  have hw := hw v1 ev1
  refine xt_numl (y := v1) ev1.symm ?_
  refine lv_lstore hx hb (xb_d D_Exact_divided 25 rfl) hl (by decide) rfl (fun ls hl => ?_)
  have hl : lv_has ls 11 [(5, .long v1), (10, .int y0), (0, .long x0), (2, .long x2), (4, .int x4), (7, .long x7), (9, .int x9)] := hl
  refine lv_lload hx hb (xb_d D_Exact_divided 26 rfl) (lv_at hl 5 rfl) ?_
  refine lv_iconst (v := 1) hx hb (xb_d D_Exact_divided 27 rfl) (by decide) ?_
  refine lv_lshl (v := (xb_lshl x7 1)) hx hb (xb_d D_Exact_divided 28 rfl) rfl ?_
  obtain ⟨v2, ev2⟩ : ∃ x : Int64, x = (xb_lshl x7 1) := ⟨_, rfl⟩
  have hw := hw v2 ev2
  refine xt_numl (y := v2) ev2.symm ?_
  refine lv_lstore hx hb (xb_d D_Exact_divided 29 rfl) hl (by decide) rfl (fun ls hl => ?_)
  have hl : lv_has ls 11 [(7, .long v2), (5, .long v1), (10, .int y0), (0, .long x0), (2, .long x2), (4, .int x4), (9, .int x9)] := hl
  refine lv_iload hx hb (xb_d D_Exact_divided 30 rfl) (lv_at hl 2 rfl) ?_
  refine lv_if_ne (tgt := 64) hx hb (xb_d D_Exact_divided 31 rfl) rfl (fun hc3 => ?_) (fun hc3 => ?_)
  · have hw := hw.1 hc3
    exact am_Exact_divided_L64 l hfl D A σ MC MS h0 Qr K10 hK10 x0 x2 x4 v1 v2 x9 h hw p e s m args below meth c hC H locs ls k n hE (lv_sub hl [3, 4, 5, 1, 0, 6] rfl) hR hS (by omega) (by omega)
  · have hw := hw.2 hc3
    refine lv_lload hx hb (xb_d D_Exact_divided 32 rfl) (lv_at hl 1 rfl) ?_
    refine lv_lload_n hx hb (xb_d D_Exact_divided 33 rfl) rfl (lv_at hl 4 rfl) ?_
    refine xb_call0 (D := D) (A := A) (σ := σ) (h := h) (d := 2) (maxL := 4) (rest := []) (av := [.long v1, .long x2]) (fun T hT X => xt_invS X hx hown (hts _ m_030a6585) (hts _ m_d6ff3ad9) (hts _ m_b807310b) (xt_sgS (hts _ m_22a27095)).1 (xt_sgS (hts _ m_22a27095)).2 nm_Exact_below (g := F0 m 58 ls [.long x2, .long v1]) rfl (argsL := [.long v1, .long x2]) (rest := []) rfl rfl (by rw [hb]; exact (xb_d D_Exact_divided 34 rfl))) (ok_Exact_below l hfl D A σ v1 x2 h _ hw) (hml.trans hl.1.symm) (by rw [hb]; exact (xb_d D_Exact_divided 34 rfl)) (Nat.le_of_ble_eq_true rfl) (Nat.le_of_ble_eq_true rfl) (Nat.le_of_ble_eq_true rfl) (show k ≤ MC by omega) (show n ≤ MS by omega) (xt_w1 hB.1 m_22a27095) (xt_cdOf hB.1 m_22a27095) (hts _ m_b807310b) hB hR hS hA (fun vv h4 H locs hq hEh4 hR hS => ?_)
    obtain ⟨r5, rfl, hw⟩ := hq
    have hw := hw hEh4
    have hE := hE.tr hEh4
    refine W.eq (g2 := F0 m 61 ls [.int r5]) rfl ?_
    refine lv_if_ne (tgt := 76) hx hb (xb_d D_Exact_divided 35 rfl) rfl (fun hc6 => ?_) (fun hc6 => ?_)
    · have hw := hw.1 hc6
      exact am_Exact_divided_L76 l hfl D A σ MC MS h0 Qr K10 hK10 x0 x2 x4 v1 v2 x9 h4 hw p e s m args below meth c hC H locs ls k n hE (lv_sub hl [3, 4, 5, 1, 0, 6] rfl) hR hS (by omega) (by omega)
    · have hw := hw.2 hc6
      exact am_Exact_divided_L64 l hfl D A σ MC MS h0 Qr K10 hK10 x0 x2 x4 v1 v2 x9 h4 hw p e s m args below meth c hC H locs ls k n hE (lv_sub hl [3, 4, 5, 1, 0, 6] rfl) hR hS (by omega) (by omega)

set_option maxHeartbeats 4000000 in
set_option maxRecDepth 100000 in
theorem am_Exact_divided_L10 (l : Launch) (hfl : l.flags = pinnedFlags ++ [noTraceFlag]) (D : va_G) (A : Nat → Prop) (σ MC MS : Nat) (h0 : xb_H) (Qr : Int64 → xb_H → Prop) (n9 : Nat) : ∀ (x0 : Int64) (x2 : Int64) (x4 : Int32) (x5 : Int64) (x7 : Int64) (x9 : Int32) (h : xb_H), w_Exact_divided_L10 Qr n9 x0 x2 x4 x5 x7 x9 h → xb_am l D A σ 3 MC MS h0 (fun v h _ _ => ∃ r, v = some (.long r) ∧ Qr r h) (fun _ _ _ _ => False) y_Exact_divided.cls y_Exact_divided.name b_Exact_divided 11 ([] : List ExceptionTableEntry) (some .long) 10 [(0, .long x0), (2, .long x2), (4, .int x4), (5, .long x5), (7, .long x7), (9, .int x9)] [] h 0 0 := by
  induction n9 with
  | zero => intro x0 x2 x4 x5 x7 x9 h hw; exact False.elim hw
  | succ n9 ih =>
    intro x0 x2 x4 x5 x7 x9 h hw
    unfold w_Exact_divided_L10 at hw
    intro p e s m args below meth c hC H locs ls k n hE hl hR hS hk hn
    obtain ⟨hx, hb, hown, hlocks, htab, hml, hr, hB, hA, hnm⟩ := id hC
    have hts := hB.1.1.at args
    refine lv_iload hx hb (xb_d D_Exact_divided 6 rfl) (lv_at hl 5 rfl) ?_
    refine lv_if_lt (tgt := 82) hx hb (xb_d D_Exact_divided 7 rfl) rfl (fun hc1 => ?_) (fun hc1 => ?_)
    · have hw := hw.1 hc1
      refine lv_iload hx hb (xb_d D_Exact_divided 46 rfl) (lv_at hl 2 rfl) ?_
      refine lv_if_eq (tgt := 92) hx hb (xb_d D_Exact_divided 47 rfl) rfl (fun hc2 => ?_) (fun hc2 => ?_)
      · have hw := hw.1 hc2
        refine lv_lload hx hb (xb_d D_Exact_divided 50 rfl) (lv_at hl 4 rfl) ?_
        exact am_Exact_divided_L94 l hfl D A σ MC MS h0 Qr x7 h hw p e s m args below meth c hC H locs ls k n hE (lv_sub hl [] rfl) hR hS (by omega) (by omega)
      · have hw := hw.2 hc2
        refine lv_lload hx hb (xb_d D_Exact_divided 48 rfl) (lv_at hl 3 rfl) ?_
        refine lv_goto (tgt := 94) hx hb (xb_d D_Exact_divided 49 rfl) rfl ?_
        exact am_Exact_divided_L94 l hfl D A σ MC MS h0 Qr x5 h hw p e s m args below meth c hC H locs ls k n hE (lv_sub hl [] rfl) hR hS (by omega) (by omega)
    · have hw := hw.2 hc1
      refine lv_lload hx hb (xb_d D_Exact_divided 8 rfl) (lv_at hl 3 rfl) ?_
      refine lv_lconst (v := 0) hx hb (xb_d D_Exact_divided 9 rfl) (by decide) ?_
      refine xb_lc_ge (tgt := 26) hx hb (xb_d D_Exact_divided 10 rfl) (xb_d D_Exact_divided 11 rfl) rfl (fun hc3 => ?_) (fun hc3 => ?_)
      · have hw := hw.1 hc3
        refine lv_iconst (v := 0) hx hb (xb_d D_Exact_divided 14 rfl) (by decide) ?_
        exact am_Exact_divided_L27 l hfl D A σ MC MS h0 Qr (w_Exact_divided_L10 Qr n9) ih x0 x2 x4 x5 x7 x9 0 h hw p e s m args below meth c hC H locs ls k n hE (lv_sub hl [0, 1, 2, 3, 4, 5] rfl) hR hS (by omega) (by omega)
      · have hw := hw.2 hc3
        refine lv_iconst (v := 1) hx hb (xb_d D_Exact_divided 12 rfl) (by decide) ?_
        refine lv_goto (tgt := 27) hx hb (xb_d D_Exact_divided 13 rfl) rfl ?_
        exact am_Exact_divided_L27 l hfl D A σ MC MS h0 Qr (w_Exact_divided_L10 Qr n9) ih x0 x2 x4 x5 x7 x9 1 h hw p e s m args below meth c hC H locs ls k n hE (lv_sub hl [0, 1, 2, 3, 4, 5] rfl) hR hS (by omega) (by omega)

set_option maxHeartbeats 4000000 in
set_option maxRecDepth 100000 in
theorem ok_Exact_divided (l : Launch) (hfl : l.flags = pinnedFlags ++ [noTraceFlag]) (D : va_G) (A : Nat → Prop) (σ : Nat) (x0 : Int64) (x2 : Int64) (x4 : Int32) (h : xb_H) (Qr : Int64 → xb_H → Prop) (hw : w_Exact_divided x0 x2 x4 h Qr) : xb_Met l y_Exact_divided [.code y_Exact_divided b_Exact_divided 11 (some .long)] (xb_rm 3 0 0) (xb_Pc D A σ h [.long x0, .long x2, .int x4]) (xb_Qc D A h 0 0 (fun v h _ _ => ∃ r, v = some (.long r) ∧ Qr r h) (fun _ _ _ _ => False)) A := by
  refine xb_ofAm (cc := b_Exact_divided) (by decide) (Nat.le_of_ble_eq_true rfl) ?_
  unfold w_Exact_divided at hw
  show xb_am l D A σ 3 0 0 h (fun v h _ _ => ∃ r, v = some (.long r) ∧ Qr r h) (fun _ _ _ _ => False) y_Exact_divided.cls y_Exact_divided.name b_Exact_divided 11 ([] : List ExceptionTableEntry) (some .long) 0 [(0, .long x0), (2, .long x2), (4, .int x4)] [] h 0 0
  obtain ⟨MC, hMC⟩ : ∃ x, x = 0 := ⟨_, rfl⟩
  obtain ⟨MS, hMS⟩ : ∃ x, x = 0 := ⟨_, rfl⟩
  rw [show xb_am l D A σ 3 0 0 = xb_am l D A σ 3 MC MS by rw [hMC, hMS]]
  obtain ⟨h0, hh0⟩ : ∃ x, x = h := ⟨_, rfl⟩
  rw [show xb_am l D A σ 3 MC MS h = xb_am l D A σ 3 MC MS h0 by rw [hh0]]
  intro p e s m args below meth c hC H locs ls k n hE hl hR hS hk hn
  obtain ⟨hx, hb, hown, hlocks, htab, hml, hr, hB, hA, hnm⟩ := id hC
  have hts := hB.1.1.at args
  refine lv_lconst (v := 0) hx hb (xb_d D_Exact_divided 0 rfl) (by decide) ?_
  refine lv_lstore hx hb (xb_d D_Exact_divided 1 rfl) hl (by decide) rfl (fun ls hl => ?_)
  have hl : lv_has ls 11 [(5, .long 0), (0, .long x0), (2, .long x2), (4, .int x4)] := hl
  refine lv_lconst (v := 0) hx hb (xb_d D_Exact_divided 2 rfl) (by decide) ?_
  refine lv_lstore hx hb (xb_d D_Exact_divided 3 rfl) hl (by decide) rfl (fun ls hl => ?_)
  have hl : lv_has ls 11 [(7, .long 0), (5, .long 0), (0, .long x0), (2, .long x2), (4, .int x4)] := hl
  refine lv_bipush (v := 63) hx hb (xb_d D_Exact_divided 4 rfl) (by decide) ?_
  refine lv_istore hx hb (xb_d D_Exact_divided 5 rfl) hl (by decide) rfl (fun ls hl => ?_)
  have hl : lv_has ls 11 [(9, .int 63), (7, .long 0), (5, .long 0), (0, .long x0), (2, .long x2), (4, .int x4)] := hl
  obtain ⟨n8, hw⟩ := hw
  exact am_Exact_divided_L10 l hfl D A σ MC MS h0 Qr n8 x0 x2 x4 0 0 63 h hw p e s m args below meth c hC H locs ls k n hE (lv_sub hl [3, 4, 5, 2, 1, 0] rfl) hR hS (by omega) (by omega)

theorem m_ee60ea80 : (.methodLink "StackHostModel$Exact" 22 y_Exact_result : Cond) ∈ xt_tbl := xt_in (xt_t11 (List.mem_of_getElem? (i := 170) (by decide +kernel))) (by decide +kernel)
theorem m_2a32d197 : (.static y_Exact_result : Cond) ∈ xt_tbl := xt_in (xt_t11 (List.mem_of_getElem? (i := 171) (by decide +kernel))) (by decide +kernel)
theorem m_ce6b0c6d : (.code y_Exact_result b_Exact_result 1 (some .int) : Cond) ∈ xt_tbl := xt_in (xt_t11 (List.mem_of_getElem? (i := 172) (by decide +kernel))) (by decide +kernel)
theorem nm_Exact_result : xt_nm y_Exact_result 1 := ⟨by decide +kernel, by decide +kernel⟩
set_option maxRecDepth 100000 in
def T_Exact_first : List (Nat × Instr × Nat) := [(0, .iload_n 0, 1), (1, .bipush 102, 2), (3, .if_icmp .gt 35, 3), (6, .iload_n 0, 1), (7, .bipush 79, 2), (9, .if_icmp .gt 7, 3), (12, .iconst 0, 1), (13, .goto 24, 3), (16, .iload_n 0, 1), (17, .bipush 90, 2), (19, .if_icmp .gt 7, 3), (22, .iconst 1, 1), (23, .goto 14, 3), (26, .iload_n 0, 1), (27, .bipush 96, 2), (29, .if_icmp .gt 7, 3), (32, .iconst 2, 1), (33, .goto 4, 3), (36, .iconst 3, 1), (37, .ireturn, 1), (38, .iload_n 0, 1), (39, .sipush 166, 3), (42, .if_icmp .gt 8, 3), (45, .iload_n 0, 1), (46, .invokestatic 22, 3), (49, .ireturn, 1), (50, .iload_n 0, 1), (51, .tableswitch 119 167 191 #[113, 115, 115, 117, 117, 119, 119, 115, 115, 117, 117, 119, 119, 113, 113, 117, 119, 119, 113, 113, 115, 115, 117, 119, 113], 113), (164, .iconst 1, 1), (165, .ireturn, 1), (166, .iconst 2, 1), (167, .ireturn, 1), (168, .iconst 3, 1), (169, .ireturn, 1), (170, .iconst 0, 1), (171, .ireturn, 1)]
theorem D_Exact_first : ∀ q ∈ T_Exact_first, decode b_Exact_first q.1 = .ok (q.2.1, q.2.2) := by decide +kernel

set_option maxHeartbeats 4000000 in
set_option maxRecDepth 100000 in
theorem am_Exact_first_L170 (l : Launch) (hfl : l.flags = pinnedFlags ++ [noTraceFlag]) (D : va_G) (A : Nat → Prop) (σ MC MS : Nat) (h0 : xb_H) (Qr : Int32 → xb_H → Prop) (h : xb_H) (hw : w_Exact_first_L170 Qr h) : xb_am l D A σ 3 MC MS h0 (fun v h _ _ => ∃ r, v = some (.int r) ∧ Qr r h) (fun _ _ _ _ => False) y_Exact_first.cls y_Exact_first.name b_Exact_first 1 ([] : List ExceptionTableEntry) (some .int) 170 [] [] h 0 0 := by
  unfold w_Exact_first_L170 at hw
  intro p e s m args below meth c hC H locs ls k n hE hl hR hS hk hn
  obtain ⟨hx, hb, hown, hlocks, htab, hml, hr, hB, hA, hnm⟩ := id hC
  have hts := hB.1.1.at args
  refine lv_iconst (v := 0) hx hb (xb_d D_Exact_first 34 rfl) (by decide) ?_
  exact xb_iret 0 0 hx hb hr hlocks (show k + 0 ≤ MC by omega) (show n + 0 ≤ MS by omega) hE hR hS (xb_d D_Exact_first 35 rfl) hw

set_option maxHeartbeats 4000000 in
set_option maxRecDepth 100000 in
theorem am_Exact_first_L168 (l : Launch) (hfl : l.flags = pinnedFlags ++ [noTraceFlag]) (D : va_G) (A : Nat → Prop) (σ MC MS : Nat) (h0 : xb_H) (Qr : Int32 → xb_H → Prop) (h : xb_H) (hw : w_Exact_first_L168 Qr h) : xb_am l D A σ 3 MC MS h0 (fun v h _ _ => ∃ r, v = some (.int r) ∧ Qr r h) (fun _ _ _ _ => False) y_Exact_first.cls y_Exact_first.name b_Exact_first 1 ([] : List ExceptionTableEntry) (some .int) 168 [] [] h 0 0 := by
  unfold w_Exact_first_L168 at hw
  intro p e s m args below meth c hC H locs ls k n hE hl hR hS hk hn
  obtain ⟨hx, hb, hown, hlocks, htab, hml, hr, hB, hA, hnm⟩ := id hC
  have hts := hB.1.1.at args
  refine lv_iconst (v := 3) hx hb (xb_d D_Exact_first 32 rfl) (by decide) ?_
  exact xb_iret 0 0 hx hb hr hlocks (show k + 0 ≤ MC by omega) (show n + 0 ≤ MS by omega) hE hR hS (xb_d D_Exact_first 33 rfl) hw

set_option maxHeartbeats 4000000 in
set_option maxRecDepth 100000 in
theorem am_Exact_first_L166 (l : Launch) (hfl : l.flags = pinnedFlags ++ [noTraceFlag]) (D : va_G) (A : Nat → Prop) (σ MC MS : Nat) (h0 : xb_H) (Qr : Int32 → xb_H → Prop) (h : xb_H) (hw : w_Exact_first_L166 Qr h) : xb_am l D A σ 3 MC MS h0 (fun v h _ _ => ∃ r, v = some (.int r) ∧ Qr r h) (fun _ _ _ _ => False) y_Exact_first.cls y_Exact_first.name b_Exact_first 1 ([] : List ExceptionTableEntry) (some .int) 166 [] [] h 0 0 := by
  unfold w_Exact_first_L166 at hw
  intro p e s m args below meth c hC H locs ls k n hE hl hR hS hk hn
  obtain ⟨hx, hb, hown, hlocks, htab, hml, hr, hB, hA, hnm⟩ := id hC
  have hts := hB.1.1.at args
  refine lv_iconst (v := 2) hx hb (xb_d D_Exact_first 30 rfl) (by decide) ?_
  exact xb_iret 0 0 hx hb hr hlocks (show k + 0 ≤ MC by omega) (show n + 0 ≤ MS by omega) hE hR hS (xb_d D_Exact_first 31 rfl) hw

set_option maxHeartbeats 4000000 in
set_option maxRecDepth 100000 in
theorem am_Exact_first_L164 (l : Launch) (hfl : l.flags = pinnedFlags ++ [noTraceFlag]) (D : va_G) (A : Nat → Prop) (σ MC MS : Nat) (h0 : xb_H) (Qr : Int32 → xb_H → Prop) (h : xb_H) (hw : w_Exact_first_L164 Qr h) : xb_am l D A σ 3 MC MS h0 (fun v h _ _ => ∃ r, v = some (.int r) ∧ Qr r h) (fun _ _ _ _ => False) y_Exact_first.cls y_Exact_first.name b_Exact_first 1 ([] : List ExceptionTableEntry) (some .int) 164 [] [] h 0 0 := by
  unfold w_Exact_first_L164 at hw
  intro p e s m args below meth c hC H locs ls k n hE hl hR hS hk hn
  obtain ⟨hx, hb, hown, hlocks, htab, hml, hr, hB, hA, hnm⟩ := id hC
  have hts := hB.1.1.at args
  refine lv_iconst (v := 1) hx hb (xb_d D_Exact_first 28 rfl) (by decide) ?_
  exact xb_iret 0 0 hx hb hr hlocks (show k + 0 ≤ MC by omega) (show n + 0 ≤ MS by omega) hE hR hS (xb_d D_Exact_first 29 rfl) hw

set_option maxHeartbeats 4000000 in
set_option maxRecDepth 100000 in
theorem am_Exact_first_L37 (l : Launch) (hfl : l.flags = pinnedFlags ++ [noTraceFlag]) (D : va_G) (A : Nat → Prop) (σ MC MS : Nat) (h0 : xb_H) (Qr : Int32 → xb_H → Prop) (y0 : Int32) (h : xb_H) (hw : w_Exact_first_L37 Qr y0 h) : xb_am l D A σ 3 MC MS h0 (fun v h _ _ => ∃ r, v = some (.int r) ∧ Qr r h) (fun _ _ _ _ => False) y_Exact_first.cls y_Exact_first.name b_Exact_first 1 ([] : List ExceptionTableEntry) (some .int) 37 [] [.int y0] h 0 0 := by
  unfold w_Exact_first_L37 at hw
  intro p e s m args below meth c hC H locs ls k n hE hl hR hS hk hn
  obtain ⟨hx, hb, hown, hlocks, htab, hml, hr, hB, hA, hnm⟩ := id hC
  have hts := hB.1.1.at args
  exact xb_iret 0 0 hx hb hr hlocks (show k + 0 ≤ MC by omega) (show n + 0 ≤ MS by omega) hE hR hS (xb_d D_Exact_first 19 rfl) hw

set_option maxHeartbeats 4000000 in
set_option maxRecDepth 100000 in
theorem ok_Exact_first (l : Launch) (hfl : l.flags = pinnedFlags ++ [noTraceFlag]) (D : va_G) (A : Nat → Prop) (σ : Nat) (x0 : Int32) (h : xb_H) (Qr : Int32 → xb_H → Prop) (hw : w_Exact_first x0 h Qr) : xb_Met l y_Exact_first [.code y_Exact_first b_Exact_first 1 (some .int)] (xb_rm 3 0 0) (xb_Pc D A σ h [.int x0]) (xb_Qc D A h 0 0 (fun v h _ _ => ∃ r, v = some (.int r) ∧ Qr r h) (fun _ _ _ _ => False)) A := by
  refine xb_ofAm (cc := b_Exact_first) (by decide) (Nat.le_of_ble_eq_true rfl) ?_
  unfold w_Exact_first at hw
  show xb_am l D A σ 3 0 0 h (fun v h _ _ => ∃ r, v = some (.int r) ∧ Qr r h) (fun _ _ _ _ => False) y_Exact_first.cls y_Exact_first.name b_Exact_first 1 ([] : List ExceptionTableEntry) (some .int) 0 [(0, .int x0)] [] h 0 0
  obtain ⟨MC, hMC⟩ : ∃ x, x = 0 := ⟨_, rfl⟩
  obtain ⟨MS, hMS⟩ : ∃ x, x = 0 := ⟨_, rfl⟩
  rw [show xb_am l D A σ 3 0 0 = xb_am l D A σ 3 MC MS by rw [hMC, hMS]]
  obtain ⟨h0, hh0⟩ : ∃ x, x = h := ⟨_, rfl⟩
  rw [show xb_am l D A σ 3 MC MS h = xb_am l D A σ 3 MC MS h0 by rw [hh0]]
  intro p e s m args below meth c hC H locs ls k n hE hl hR hS hk hn
  obtain ⟨hx, hb, hown, hlocks, htab, hml, hr, hB, hA, hnm⟩ := id hC
  have hts := hB.1.1.at args
  refine lv_iload_n hx hb (xb_d D_Exact_first 0 rfl) rfl (lv_at hl 0 rfl) ?_
  refine lv_bipush (v := 102) hx hb (xb_d D_Exact_first 1 rfl) (by decide) ?_
  refine lv_icmp_gt (tgt := 38) hx hb (xb_d D_Exact_first 2 rfl) rfl (fun hc1 => ?_) (fun hc1 => ?_)
  · have hw := hw.1 hc1
    refine lv_iload_n hx hb (xb_d D_Exact_first 20 rfl) rfl (lv_at hl 0 rfl) ?_
    refine lv_sipush (v := 166) hx hb (xb_d D_Exact_first 21 rfl) (by decide) ?_
    refine lv_icmp_gt (tgt := 50) hx hb (xb_d D_Exact_first 22 rfl) rfl (fun hc2 => ?_) (fun hc2 => ?_)
    · have hw := hw.1 hc2
      refine lv_iload_n hx hb (xb_d D_Exact_first 26 rfl) rfl (lv_at hl 0 rfl) ?_
      by_cases hc3 : x0 = 167
      · have hw := hw.1 hc3
        refine xt_numi hc3 ?_
        refine lv_tableIn (off := 113) (tgt := 164) hx hb (xb_d D_Exact_first 27 rfl) (by decide +kernel) (by decide +kernel) (by decide +kernel) (by decide) ?_
        exact am_Exact_first_L164 l hfl D A σ MC MS h0 Qr h hw p e s m args below meth c hC H locs ls k n hE (lv_sub hl [] rfl) hR hS (by omega) (by omega)
      have hw := hw.2
      by_cases hc4 : x0 = 168
      · have hw := hw.1 hc4
        refine xt_numi hc4 ?_
        refine lv_tableIn (off := 115) (tgt := 166) hx hb (xb_d D_Exact_first 27 rfl) (by decide +kernel) (by decide +kernel) (by decide +kernel) (by decide) ?_
        exact am_Exact_first_L166 l hfl D A σ MC MS h0 Qr h hw p e s m args below meth c hC H locs ls k n hE (lv_sub hl [] rfl) hR hS (by omega) (by omega)
      have hw := hw.2
      by_cases hc5 : x0 = 169
      · have hw := hw.1 hc5
        refine xt_numi hc5 ?_
        refine lv_tableIn (off := 115) (tgt := 166) hx hb (xb_d D_Exact_first 27 rfl) (by decide +kernel) (by decide +kernel) (by decide +kernel) (by decide) ?_
        exact am_Exact_first_L166 l hfl D A σ MC MS h0 Qr h hw p e s m args below meth c hC H locs ls k n hE (lv_sub hl [] rfl) hR hS (by omega) (by omega)
      have hw := hw.2
      by_cases hc6 : x0 = 170
      · have hw := hw.1 hc6
        refine xt_numi hc6 ?_
        refine lv_tableIn (off := 117) (tgt := 168) hx hb (xb_d D_Exact_first 27 rfl) (by decide +kernel) (by decide +kernel) (by decide +kernel) (by decide) ?_
        exact am_Exact_first_L168 l hfl D A σ MC MS h0 Qr h hw p e s m args below meth c hC H locs ls k n hE (lv_sub hl [] rfl) hR hS (by omega) (by omega)
      have hw := hw.2
      by_cases hc7 : x0 = 171
      · have hw := hw.1 hc7
        refine xt_numi hc7 ?_
        refine lv_tableIn (off := 117) (tgt := 168) hx hb (xb_d D_Exact_first 27 rfl) (by decide +kernel) (by decide +kernel) (by decide +kernel) (by decide) ?_
        exact am_Exact_first_L168 l hfl D A σ MC MS h0 Qr h hw p e s m args below meth c hC H locs ls k n hE (lv_sub hl [] rfl) hR hS (by omega) (by omega)
      have hw := hw.2
      by_cases hc8 : x0 = 172
      · have hw := hw.1 hc8
        refine xt_numi hc8 ?_
        refine lv_tableIn (off := 119) (tgt := 170) hx hb (xb_d D_Exact_first 27 rfl) (by decide +kernel) (by decide +kernel) (by decide +kernel) (by decide) ?_
        exact am_Exact_first_L170 l hfl D A σ MC MS h0 Qr h hw p e s m args below meth c hC H locs ls k n hE (lv_sub hl [] rfl) hR hS (by omega) (by omega)
      have hw := hw.2
      by_cases hc9 : x0 = 173
      · have hw := hw.1 hc9
        refine xt_numi hc9 ?_
        refine lv_tableIn (off := 119) (tgt := 170) hx hb (xb_d D_Exact_first 27 rfl) (by decide +kernel) (by decide +kernel) (by decide +kernel) (by decide) ?_
        exact am_Exact_first_L170 l hfl D A σ MC MS h0 Qr h hw p e s m args below meth c hC H locs ls k n hE (lv_sub hl [] rfl) hR hS (by omega) (by omega)
      have hw := hw.2
      by_cases hc10 : x0 = 174
      · have hw := hw.1 hc10
        refine xt_numi hc10 ?_
        refine lv_tableIn (off := 115) (tgt := 166) hx hb (xb_d D_Exact_first 27 rfl) (by decide +kernel) (by decide +kernel) (by decide +kernel) (by decide) ?_
        exact am_Exact_first_L166 l hfl D A σ MC MS h0 Qr h hw p e s m args below meth c hC H locs ls k n hE (lv_sub hl [] rfl) hR hS (by omega) (by omega)
      have hw := hw.2
      by_cases hc11 : x0 = 175
      · have hw := hw.1 hc11
        refine xt_numi hc11 ?_
        refine lv_tableIn (off := 115) (tgt := 166) hx hb (xb_d D_Exact_first 27 rfl) (by decide +kernel) (by decide +kernel) (by decide +kernel) (by decide) ?_
        exact am_Exact_first_L166 l hfl D A σ MC MS h0 Qr h hw p e s m args below meth c hC H locs ls k n hE (lv_sub hl [] rfl) hR hS (by omega) (by omega)
      have hw := hw.2
      by_cases hc12 : x0 = 176
      · have hw := hw.1 hc12
        refine xt_numi hc12 ?_
        refine lv_tableIn (off := 117) (tgt := 168) hx hb (xb_d D_Exact_first 27 rfl) (by decide +kernel) (by decide +kernel) (by decide +kernel) (by decide) ?_
        exact am_Exact_first_L168 l hfl D A σ MC MS h0 Qr h hw p e s m args below meth c hC H locs ls k n hE (lv_sub hl [] rfl) hR hS (by omega) (by omega)
      have hw := hw.2
      by_cases hc13 : x0 = 177
      · have hw := hw.1 hc13
        refine xt_numi hc13 ?_
        refine lv_tableIn (off := 117) (tgt := 168) hx hb (xb_d D_Exact_first 27 rfl) (by decide +kernel) (by decide +kernel) (by decide +kernel) (by decide) ?_
        exact am_Exact_first_L168 l hfl D A σ MC MS h0 Qr h hw p e s m args below meth c hC H locs ls k n hE (lv_sub hl [] rfl) hR hS (by omega) (by omega)
      have hw := hw.2
      by_cases hc14 : x0 = 178
      · have hw := hw.1 hc14
        refine xt_numi hc14 ?_
        refine lv_tableIn (off := 119) (tgt := 170) hx hb (xb_d D_Exact_first 27 rfl) (by decide +kernel) (by decide +kernel) (by decide +kernel) (by decide) ?_
        exact am_Exact_first_L170 l hfl D A σ MC MS h0 Qr h hw p e s m args below meth c hC H locs ls k n hE (lv_sub hl [] rfl) hR hS (by omega) (by omega)
      have hw := hw.2
      by_cases hc15 : x0 = 179
      · have hw := hw.1 hc15
        refine xt_numi hc15 ?_
        refine lv_tableIn (off := 119) (tgt := 170) hx hb (xb_d D_Exact_first 27 rfl) (by decide +kernel) (by decide +kernel) (by decide +kernel) (by decide) ?_
        exact am_Exact_first_L170 l hfl D A σ MC MS h0 Qr h hw p e s m args below meth c hC H locs ls k n hE (lv_sub hl [] rfl) hR hS (by omega) (by omega)
      have hw := hw.2
      by_cases hc16 : x0 = 180
      · have hw := hw.1 hc16
        refine xt_numi hc16 ?_
        refine lv_tableIn (off := 113) (tgt := 164) hx hb (xb_d D_Exact_first 27 rfl) (by decide +kernel) (by decide +kernel) (by decide +kernel) (by decide) ?_
        exact am_Exact_first_L164 l hfl D A σ MC MS h0 Qr h hw p e s m args below meth c hC H locs ls k n hE (lv_sub hl [] rfl) hR hS (by omega) (by omega)
      have hw := hw.2
      by_cases hc17 : x0 = 181
      · have hw := hw.1 hc17
        refine xt_numi hc17 ?_
        refine lv_tableIn (off := 113) (tgt := 164) hx hb (xb_d D_Exact_first 27 rfl) (by decide +kernel) (by decide +kernel) (by decide +kernel) (by decide) ?_
        exact am_Exact_first_L164 l hfl D A σ MC MS h0 Qr h hw p e s m args below meth c hC H locs ls k n hE (lv_sub hl [] rfl) hR hS (by omega) (by omega)
      have hw := hw.2
      by_cases hc18 : x0 = 182
      · have hw := hw.1 hc18
        refine xt_numi hc18 ?_
        refine lv_tableIn (off := 117) (tgt := 168) hx hb (xb_d D_Exact_first 27 rfl) (by decide +kernel) (by decide +kernel) (by decide +kernel) (by decide) ?_
        exact am_Exact_first_L168 l hfl D A σ MC MS h0 Qr h hw p e s m args below meth c hC H locs ls k n hE (lv_sub hl [] rfl) hR hS (by omega) (by omega)
      have hw := hw.2
      by_cases hc19 : x0 = 183
      · have hw := hw.1 hc19
        refine xt_numi hc19 ?_
        refine lv_tableIn (off := 119) (tgt := 170) hx hb (xb_d D_Exact_first 27 rfl) (by decide +kernel) (by decide +kernel) (by decide +kernel) (by decide) ?_
        exact am_Exact_first_L170 l hfl D A σ MC MS h0 Qr h hw p e s m args below meth c hC H locs ls k n hE (lv_sub hl [] rfl) hR hS (by omega) (by omega)
      have hw := hw.2
      by_cases hc20 : x0 = 184
      · have hw := hw.1 hc20
        refine xt_numi hc20 ?_
        refine lv_tableIn (off := 119) (tgt := 170) hx hb (xb_d D_Exact_first 27 rfl) (by decide +kernel) (by decide +kernel) (by decide +kernel) (by decide) ?_
        exact am_Exact_first_L170 l hfl D A σ MC MS h0 Qr h hw p e s m args below meth c hC H locs ls k n hE (lv_sub hl [] rfl) hR hS (by omega) (by omega)
      have hw := hw.2
      by_cases hc21 : x0 = 185
      · have hw := hw.1 hc21
        refine xt_numi hc21 ?_
        refine lv_tableIn (off := 113) (tgt := 164) hx hb (xb_d D_Exact_first 27 rfl) (by decide +kernel) (by decide +kernel) (by decide +kernel) (by decide) ?_
        exact am_Exact_first_L164 l hfl D A σ MC MS h0 Qr h hw p e s m args below meth c hC H locs ls k n hE (lv_sub hl [] rfl) hR hS (by omega) (by omega)
      have hw := hw.2
      by_cases hc22 : x0 = 186
      · have hw := hw.1 hc22
        refine xt_numi hc22 ?_
        refine lv_tableIn (off := 113) (tgt := 164) hx hb (xb_d D_Exact_first 27 rfl) (by decide +kernel) (by decide +kernel) (by decide +kernel) (by decide) ?_
        exact am_Exact_first_L164 l hfl D A σ MC MS h0 Qr h hw p e s m args below meth c hC H locs ls k n hE (lv_sub hl [] rfl) hR hS (by omega) (by omega)
      have hw := hw.2
      by_cases hc23 : x0 = 187
      · have hw := hw.1 hc23
        refine xt_numi hc23 ?_
        refine lv_tableIn (off := 115) (tgt := 166) hx hb (xb_d D_Exact_first 27 rfl) (by decide +kernel) (by decide +kernel) (by decide +kernel) (by decide) ?_
        exact am_Exact_first_L166 l hfl D A σ MC MS h0 Qr h hw p e s m args below meth c hC H locs ls k n hE (lv_sub hl [] rfl) hR hS (by omega) (by omega)
      have hw := hw.2
      by_cases hc24 : x0 = 188
      · have hw := hw.1 hc24
        refine xt_numi hc24 ?_
        refine lv_tableIn (off := 115) (tgt := 166) hx hb (xb_d D_Exact_first 27 rfl) (by decide +kernel) (by decide +kernel) (by decide +kernel) (by decide) ?_
        exact am_Exact_first_L166 l hfl D A σ MC MS h0 Qr h hw p e s m args below meth c hC H locs ls k n hE (lv_sub hl [] rfl) hR hS (by omega) (by omega)
      have hw := hw.2
      by_cases hc25 : x0 = 189
      · have hw := hw.1 hc25
        refine xt_numi hc25 ?_
        refine lv_tableIn (off := 117) (tgt := 168) hx hb (xb_d D_Exact_first 27 rfl) (by decide +kernel) (by decide +kernel) (by decide +kernel) (by decide) ?_
        exact am_Exact_first_L168 l hfl D A σ MC MS h0 Qr h hw p e s m args below meth c hC H locs ls k n hE (lv_sub hl [] rfl) hR hS (by omega) (by omega)
      have hw := hw.2
      by_cases hc26 : x0 = 190
      · have hw := hw.1 hc26
        refine xt_numi hc26 ?_
        refine lv_tableIn (off := 119) (tgt := 170) hx hb (xb_d D_Exact_first 27 rfl) (by decide +kernel) (by decide +kernel) (by decide +kernel) (by decide) ?_
        exact am_Exact_first_L170 l hfl D A σ MC MS h0 Qr h hw p e s m args below meth c hC H locs ls k n hE (lv_sub hl [] rfl) hR hS (by omega) (by omega)
      have hw := hw.2
      by_cases hc27 : x0 = 191
      · have hw := hw.1 hc27
        refine xt_numi hc27 ?_
        refine lv_tableIn (off := 113) (tgt := 164) hx hb (xb_d D_Exact_first 27 rfl) (by decide +kernel) (by decide +kernel) (by decide +kernel) (by decide) ?_
        exact am_Exact_first_L164 l hfl D A σ MC MS h0 Qr h hw p e s m args below meth c hC H locs ls k n hE (lv_sub hl [] rfl) hR hS (by omega) (by omega)
      have hw := hw.2
      have hw := hw hc3 hc4 hc5 hc6 hc7 hc8 hc9 hc10 hc11 hc12 hc13 hc14 hc15 hc16 hc17 hc18 hc19 hc20 hc21 hc22 hc23 hc24 hc25 hc26 hc27
      refine lv_tableOut (tgt := 170) hx hb (xb_d D_Exact_first 27 rfl) (by have a0 := xb_nl (167) 167 (by decide) hc3; have a1 := xb_nl (168) 168 (by decide) hc4; have a2 := xb_nl (169) 169 (by decide) hc5; have a3 := xb_nl (170) 170 (by decide) hc6; have a4 := xb_nl (171) 171 (by decide) hc7; have a5 := xb_nl (172) 172 (by decide) hc8; have a6 := xb_nl (173) 173 (by decide) hc9; have a7 := xb_nl (174) 174 (by decide) hc10; have a8 := xb_nl (175) 175 (by decide) hc11; have a9 := xb_nl (176) 176 (by decide) hc12; have a10 := xb_nl (177) 177 (by decide) hc13; have a11 := xb_nl (178) 178 (by decide) hc14; have a12 := xb_nl (179) 179 (by decide) hc15; have a13 := xb_nl (180) 180 (by decide) hc16; have a14 := xb_nl (181) 181 (by decide) hc17; have a15 := xb_nl (182) 182 (by decide) hc18; have a16 := xb_nl (183) 183 (by decide) hc19; have a17 := xb_nl (184) 184 (by decide) hc20; have a18 := xb_nl (185) 185 (by decide) hc21; have a19 := xb_nl (186) 186 (by decide) hc22; have a20 := xb_nl (187) 187 (by decide) hc23; have a21 := xb_nl (188) 188 (by decide) hc24; have a22 := xb_nl (189) 189 (by decide) hc25; have a23 := xb_nl (190) 190 (by decide) hc26; have a24 := xb_nl (191) 191 (by decide) hc27; omega) (by decide) ?_
      exact am_Exact_first_L170 l hfl D A σ MC MS h0 Qr h hw p e s m args below meth c hC H locs ls k n hE (lv_sub hl [] rfl) hR hS (by omega) (by omega)
    · have hw := hw.2 hc2
      refine lv_iload_n hx hb (xb_d D_Exact_first 23 rfl) rfl (lv_at hl 0 rfl) ?_
      refine xb_call0 (D := D) (A := A) (σ := σ) (h := h) (d := 2) (maxL := 1) (rest := []) (av := [.int x0]) (fun T hT X => xt_invS X hx hown (hts _ m_ee60ea80) (hts _ m_2a32d197) (hts _ m_b807310b) (xt_sgS (hts _ m_ce6b0c6d)).1 (xt_sgS (hts _ m_ce6b0c6d)).2 nm_Exact_result (g := F0 m 46 ls [.int x0]) rfl (argsL := [.int x0]) (rest := []) rfl rfl (by rw [hb]; exact (xb_d D_Exact_first 24 rfl))) (ok_Exact_result l hfl D A σ x0 h _ hw) (hml.trans hl.1.symm) (by rw [hb]; exact (xb_d D_Exact_first 24 rfl)) (Nat.le_of_ble_eq_true rfl) (Nat.le_of_ble_eq_true rfl) (Nat.le_of_ble_eq_true rfl) (show k ≤ MC by omega) (show n ≤ MS by omega) (xt_w1 hB.1 m_ce6b0c6d) (xt_cdOf hB.1 m_ce6b0c6d) (hts _ m_b807310b) hB hR hS hA (fun vv h28 H locs hq hEh28 hR hS => ?_)
      obtain ⟨r29, rfl, hw⟩ := hq
      have hw := hw hEh28
      have hE := hE.tr hEh28
      refine W.eq (g2 := F0 m 49 ls [.int r29]) rfl ?_
      exact xb_iret 0 0 hx hb hr hlocks (show k + 0 ≤ MC by omega) (show n + 0 ≤ MS by omega) hE hR hS (xb_d D_Exact_first 25 rfl) hw
  · have hw := hw.2 hc1
    refine lv_iload_n hx hb (xb_d D_Exact_first 3 rfl) rfl (lv_at hl 0 rfl) ?_
    refine lv_bipush (v := 79) hx hb (xb_d D_Exact_first 4 rfl) (by decide) ?_
    refine lv_icmp_gt (tgt := 16) hx hb (xb_d D_Exact_first 5 rfl) rfl (fun hc30 => ?_) (fun hc30 => ?_)
    · have hw := hw.1 hc30
      refine lv_iload_n hx hb (xb_d D_Exact_first 8 rfl) rfl (lv_at hl 0 rfl) ?_
      refine lv_bipush (v := 90) hx hb (xb_d D_Exact_first 9 rfl) (by decide) ?_
      refine lv_icmp_gt (tgt := 26) hx hb (xb_d D_Exact_first 10 rfl) rfl (fun hc31 => ?_) (fun hc31 => ?_)
      · have hw := hw.1 hc31
        refine lv_iload_n hx hb (xb_d D_Exact_first 13 rfl) rfl (lv_at hl 0 rfl) ?_
        refine lv_bipush (v := 96) hx hb (xb_d D_Exact_first 14 rfl) (by decide) ?_
        refine lv_icmp_gt (tgt := 36) hx hb (xb_d D_Exact_first 15 rfl) rfl (fun hc32 => ?_) (fun hc32 => ?_)
        · have hw := hw.1 hc32
          refine lv_iconst (v := 3) hx hb (xb_d D_Exact_first 18 rfl) (by decide) ?_
          exact am_Exact_first_L37 l hfl D A σ MC MS h0 Qr 3 h hw p e s m args below meth c hC H locs ls k n hE (lv_sub hl [] rfl) hR hS (by omega) (by omega)
        · have hw := hw.2 hc32
          refine lv_iconst (v := 2) hx hb (xb_d D_Exact_first 16 rfl) (by decide) ?_
          refine lv_goto (tgt := 37) hx hb (xb_d D_Exact_first 17 rfl) rfl ?_
          exact am_Exact_first_L37 l hfl D A σ MC MS h0 Qr 2 h hw p e s m args below meth c hC H locs ls k n hE (lv_sub hl [] rfl) hR hS (by omega) (by omega)
      · have hw := hw.2 hc31
        refine lv_iconst (v := 1) hx hb (xb_d D_Exact_first 11 rfl) (by decide) ?_
        refine lv_goto (tgt := 37) hx hb (xb_d D_Exact_first 12 rfl) rfl ?_
        exact am_Exact_first_L37 l hfl D A σ MC MS h0 Qr 1 h hw p e s m args below meth c hC H locs ls k n hE (lv_sub hl [] rfl) hR hS (by omega) (by omega)
    · have hw := hw.2 hc30
      refine lv_iconst (v := 0) hx hb (xb_d D_Exact_first 6 rfl) (by decide) ?_
      refine lv_goto (tgt := 37) hx hb (xb_d D_Exact_first 7 rfl) rfl ?_
      exact am_Exact_first_L37 l hfl D A σ MC MS h0 Qr 0 h hw p e s m args below meth c hC H locs ls k n hE (lv_sub hl [] rfl) hR hS (by omega) (by omega)

theorem m_7b6c7353 : (.methodLink "StackHostModel$Exact" 52 y_Exact_signed : Cond) ∈ xt_tbl := xt_in (xt_t12 (List.mem_of_getElem? (i := 227) (by decide +kernel))) (by decide +kernel)
theorem m_28babb18 : (.instanceMethod y_Exact_signed : Cond) ∈ xt_tbl := xt_in (xt_t12 (List.mem_of_getElem? (i := 229) (by decide +kernel))) (by decide +kernel)
theorem m_243e01d5 : (.selects "StackHostModel$Exact" y_Exact_signed y_Exact_signed : Cond) ∈ xt_tbl := xt_in (xt_v15 (q := (⟨"StackHostModel$Exact", "signed", "(JZ)J"⟩, 11)) (List.mem_of_getElem? (i := 8) (by decide +kernel))) (by decide +kernel)
theorem m_88c0fc78 : (.code y_Exact_signed b_Exact_signed 4 (some .long) : Cond) ∈ xt_tbl := xt_in (xt_t12 (List.mem_of_getElem? (i := 230) (by decide +kernel))) (by decide +kernel)
theorem nm_Exact_signed : xt_nm y_Exact_signed 2 := ⟨by decide +kernel, by decide +kernel⟩
set_option maxRecDepth 100000 in
def T_Exact_infinite : List (Nat × Instr × Nat) := [(0, .aload_n 0, 1), (1, .ldc2_w 50, 3), (4, .aload_n 0, 1), (5, .getfield 47, 3), (8, .i2l, 1), (9, .lmul, 1), (10, .lconst 1, 1), (11, .ladd, 1), (12, .aload_n 0, 1), (13, .getfield 44, 3), (16, .lshl, 1), (17, .iload_n 1, 1), (18, .invokevirtual 52, 3), (21, .lreturn, 1)]
theorem D_Exact_infinite : ∀ q ∈ T_Exact_infinite, decode b_Exact_infinite q.1 = .ok (q.2.1, q.2.2) := by decide +kernel

set_option maxHeartbeats 4000000 in
set_option maxRecDepth 100000 in
theorem ok_Exact_infinite (l : Launch) (hfl : l.flags = pinnedFlags ++ [noTraceFlag]) (D : va_G) (A : Nat → Prop) (σ : Nat) (x0 : Nat) (x1 : Int32) (h : xb_H) (Qr : Int64 → xb_H → Prop) (hw : w_Exact_infinite x0 x1 h Qr) : xb_Met l y_Exact_infinite [.code y_Exact_infinite b_Exact_infinite 2 (some .long)] (xb_rm 3 0 0) (xb_Pc D A σ h [.ref x0, .int x1]) (xb_Qc D A h 0 0 (fun v h _ _ => ∃ r, v = some (.long r) ∧ Qr r h) (fun _ _ _ _ => False)) A := by
  refine xb_ofAm (cc := b_Exact_infinite) (by decide) (Nat.le_of_ble_eq_true rfl) ?_
  unfold w_Exact_infinite at hw
  show xb_am l D A σ 3 0 0 h (fun v h _ _ => ∃ r, v = some (.long r) ∧ Qr r h) (fun _ _ _ _ => False) y_Exact_infinite.cls y_Exact_infinite.name b_Exact_infinite 2 ([] : List ExceptionTableEntry) (some .long) 0 [(0, .ref x0), (1, .int x1)] [] h 0 0
  obtain ⟨MC, hMC⟩ : ∃ x, x = 0 := ⟨_, rfl⟩
  obtain ⟨MS, hMS⟩ : ∃ x, x = 0 := ⟨_, rfl⟩
  rw [show xb_am l D A σ 3 0 0 = xb_am l D A σ 3 MC MS by rw [hMC, hMS]]
  obtain ⟨h0, hh0⟩ : ∃ x, x = h := ⟨_, rfl⟩
  rw [show xb_am l D A σ 3 MC MS h = xb_am l D A σ 3 MC MS h0 by rw [hh0]]
  intro p e s m args below meth c hC H locs ls k n hE hl hR hS hk hn
  obtain ⟨hx, hb, hown, hlocks, htab, hml, hr, hB, hA, hnm⟩ := id hC
  have hts := hB.1.1.at args
  refine lv_aload_n hx hb (xb_d D_Exact_infinite 0 rfl) rfl (lv_at hl 0 rfl) ?_
  refine lv_ldc2 (v := 2) hx hb hown (hts _ m_9070420a) (xb_d D_Exact_infinite 1 rfl) ?_
  refine lv_aload_n hx hb (xb_d D_Exact_infinite 2 rfl) rfl (lv_at hl 0 rfl) ?_
  obtain ⟨hk1, hw⟩ := hw
  refine xb_getI (C := R_Exact) (T := F_Exact) (N := 11) hx hb 9 7 hts fin_Exact hown hR hk1 (by decide) rfl (by decide) rfl (hts _ m_71f7a53b) (fun _ h9 => h9) (xb_d D_Exact_infinite 3 rfl) ?_
  refine lv_i2l hx hb (xb_d D_Exact_infinite 4 rfl) rfl ?_
  refine lv_lmul hx hb (xb_d D_Exact_infinite 5 rfl) ?_
  refine lv_lconst (v := 1) hx hb (xb_d D_Exact_infinite 6 rfl) (by decide) ?_
  refine lv_ladd hx hb (xb_d D_Exact_infinite 7 rfl) ?_
  refine lv_aload_n hx hb (xb_d D_Exact_infinite 8 rfl) rfl (lv_at hl 0 rfl) ?_
  refine xb_getI (C := R_Exact) (T := F_Exact) (N := 11) hx hb 9 6 hts fin_Exact hown hR hk1 (by decide) rfl (by decide) rfl (hts _ m_904a6bc5) (fun _ h9 => h9) (xb_d D_Exact_infinite 9 rfl) ?_
  refine lv_lshl (v := (xb_lshl ((2 * (Int32.toInt64 (xb_i h x0 7))) + 1) (xb_i h x0 6))) hx hb (xb_d D_Exact_infinite 10 rfl) rfl ?_
  refine lv_iload_n hx hb (xb_d D_Exact_infinite 11 rfl) rfl (lv_at hl 1 rfl) ?_
  refine xb_call0 (D := D) (A := A) (σ := σ) (h := h) (d := 2) (maxL := 4) (rest := []) (av := [.ref x0, .long (xb_lshl ((2 * (Int32.toInt64 (xb_i h x0 7))) + 1) (xb_i h x0 6)), .int x1]) (fun T hT X => by obtain ⟨cb9, ra9, rb9, rc9⟩ := xb_recv (ci := 9) hR rfl hk1 (by decide); exact xt_invV X hx hown (hts _ m_7b6c7353) (hts _ m_28babb18) (hts _ m_243e01d5) (xt_sigOf (hts _ m_88c0fc78)) nm_Exact_signed (by rw [hT]; exact ra9) rb9 rc9 (g := F0 m 18 ls [.int x1, .long (xb_lshl ((2 * (Int32.toInt64 (xb_i h x0 7))) + 1) (xb_i h x0 6)), .ref x0]) rfl (argsL := [.long (xb_lshl ((2 * (Int32.toInt64 (xb_i h x0 7))) + 1) (xb_i h x0 6)), .int x1]) (rest := []) rfl rfl (by rw [hb]; exact (xb_d D_Exact_infinite 12 rfl))) (ok_Exact_signed l hfl D A σ x0 (xb_lshl ((2 * (Int32.toInt64 (xb_i h x0 7))) + 1) (xb_i h x0 6)) x1 h _ hw) (hml.trans hl.1.symm) (by rw [hb]; exact (xb_d D_Exact_infinite 12 rfl)) (Nat.le_of_ble_eq_true rfl) (Nat.le_of_ble_eq_true rfl) (Nat.le_of_ble_eq_true rfl) (show k ≤ MC by omega) (show n ≤ MS by omega) (xt_w1 hB.1 m_88c0fc78) (xt_cdOf hB.1 m_88c0fc78) (hts _ m_b807310b) hB hR hS hA (fun vv h2 H locs hq hEh2 hR hS => ?_)
  obtain ⟨r3, rfl, hw⟩ := hq
  have hw := hw hEh2
  have hE := hE.tr hEh2
  refine W.eq (g2 := F0 m 21 ls [.long r3]) rfl ?_
  exact xb_lret 0 0 hx hb hr hlocks (show k + 0 ≤ MC by omega) (show n + 0 ≤ MS by omega) hE hR hS (xb_d D_Exact_infinite 13 rfl) hw

theorem m_a66ea30b : (.methodLink "StackHostModel$Exact" 164 y_Exact_withSign : Cond) ∈ xt_tbl := xt_in (xt_t13 (List.mem_of_getElem? (i := 8) (by decide +kernel))) (by decide +kernel)
theorem m_ccb01543 : (.static y_Exact_withSign : Cond) ∈ xt_tbl := xt_in (xt_t13 (List.mem_of_getElem? (i := 9) (by decide +kernel))) (by decide +kernel)
theorem m_dcff08ea : (.code y_Exact_withSign b_Exact_withSign 3 (some .long) : Cond) ∈ xt_tbl := xt_in (xt_t13 (List.mem_of_getElem? (i := 10) (by decide +kernel))) (by decide +kernel)
theorem nm_Exact_withSign : xt_nm y_Exact_withSign 2 := ⟨by decide +kernel, by decide +kernel⟩
set_option maxRecDepth 100000 in
def T_Exact_isSo : List (Nat × Instr × Nat) := [(0, .lload_n 2, 1), (1, .iload_n 1, 1), (2, .invokestatic 164, 3), (5, .lstore 6, 2), (7, .lload 4, 2), (9, .iload_n 1, 1), (10, .invokestatic 164, 3), (13, .lstore 8, 2), (15, .iload_n 0, 1), (16, .tableswitch 163 0 8 #[52, 65, 78, 92, 99, 113, 120, 134, 149], 52), (68, .lload_n 2, 1), (69, .lload 4, 2), (71, .lcmp, 1), (72, .ifCond .ne 7, 3), (75, .iconst 1, 1), (76, .goto 4, 3), (79, .iconst 0, 1), (80, .ireturn, 1), (81, .lload_n 2, 1), (82, .lload 4, 2), (84, .lcmp, 1), (85, .ifCond .eq 7, 3), (88, .iconst 1, 1), (89, .goto 4, 3), (92, .iconst 0, 1), (93, .ireturn, 1), (94, .lload 6, 2), (96, .lload 8, 2), (98, .lcmp, 1), (99, .ifCond .ge 7, 3), (102, .iconst 1, 1), (103, .goto 4, 3), (106, .iconst 0, 1), (107, .ireturn, 1), (108, .lload_n 2, 1), (109, .lload 4, 2), (111, .invokestatic 153, 3), (114, .ireturn, 1), (115, .lload 6, 2), (117, .lload 8, 2), (119, .lcmp, 1), (120, .ifCond .le 7, 3), (123, .iconst 1, 1), (124, .goto 4, 3), (127, .iconst 0, 1), (128, .ireturn, 1), (129, .lload 4, 2), (131, .lload_n 2, 1), (132, .invokestatic 153, 3), (135, .ireturn, 1), (136, .lload 6, 2), (138, .lload 8, 2), (140, .lcmp, 1), (141, .ifCond .gt 7, 3), (144, .iconst 1, 1), (145, .goto 4, 3), (148, .iconst 0, 1), (149, .ireturn, 1), (150, .lload 4, 2), (152, .lload_n 2, 1), (153, .invokestatic 153, 3), (156, .ifCond .ne 7, 3), (159, .iconst 1, 1), (160, .goto 4, 3), (163, .iconst 0, 1), (164, .ireturn, 1), (165, .lload 6, 2), (167, .lload 8, 2), (169, .lcmp, 1), (170, .ifCond .lt 7, 3), (173, .iconst 1, 1), (174, .goto 4, 3), (177, .iconst 0, 1), (178, .ireturn, 1), (179, .lload_n 2, 1), (180, .lload 4, 2), (182, .invokestatic 153, 3), (185, .ifCond .ne 7, 3), (188, .iconst 1, 1), (189, .goto 4, 3), (192, .iconst 0, 1), (193, .ireturn, 1)]
theorem D_Exact_isSo : ∀ q ∈ T_Exact_isSo, decode b_Exact_isSo q.1 = .ok (q.2.1, q.2.2) := by decide +kernel

set_option maxHeartbeats 4000000 in
set_option maxRecDepth 100000 in
theorem am_Exact_isSo_L193 (l : Launch) (hfl : l.flags = pinnedFlags ++ [noTraceFlag]) (D : va_G) (A : Nat → Prop) (σ MC MS : Nat) (h0 : xb_H) (Qr : Int32 → xb_H → Prop) (y0 : Int32) (h : xb_H) (hw : w_Exact_isSo_L193 Qr y0 h) : xb_am l D A σ 3 MC MS h0 (fun v h _ _ => ∃ r, v = some (.int r) ∧ Qr r h) (fun _ _ _ _ => False) y_Exact_isSo.cls y_Exact_isSo.name b_Exact_isSo 10 ([] : List ExceptionTableEntry) (some .boolean) 193 [] [.int y0] h 0 0 := by
  unfold w_Exact_isSo_L193 at hw
  intro p e s m args below meth c hC H locs ls k n hE hl hR hS hk hn
  obtain ⟨hx, hb, hown, hlocks, htab, hml, hr, hB, hA, hnm⟩ := id hC
  have hts := hB.1.1.at args
  exact xb_zret 0 0 hx hb hr hlocks (show k + 0 ≤ MC by omega) (show n + 0 ≤ MS by omega) hw.1 hE hR hS (xb_d D_Exact_isSo 81 rfl) hw.2

set_option maxHeartbeats 4000000 in
set_option maxRecDepth 100000 in
theorem am_Exact_isSo_L178 (l : Launch) (hfl : l.flags = pinnedFlags ++ [noTraceFlag]) (D : va_G) (A : Nat → Prop) (σ MC MS : Nat) (h0 : xb_H) (Qr : Int32 → xb_H → Prop) (y0 : Int32) (h : xb_H) (hw : w_Exact_isSo_L178 Qr y0 h) : xb_am l D A σ 3 MC MS h0 (fun v h _ _ => ∃ r, v = some (.int r) ∧ Qr r h) (fun _ _ _ _ => False) y_Exact_isSo.cls y_Exact_isSo.name b_Exact_isSo 10 ([] : List ExceptionTableEntry) (some .boolean) 178 [] [.int y0] h 0 0 := by
  unfold w_Exact_isSo_L178 at hw
  intro p e s m args below meth c hC H locs ls k n hE hl hR hS hk hn
  obtain ⟨hx, hb, hown, hlocks, htab, hml, hr, hB, hA, hnm⟩ := id hC
  have hts := hB.1.1.at args
  exact xb_zret 0 0 hx hb hr hlocks (show k + 0 ≤ MC by omega) (show n + 0 ≤ MS by omega) hw.1 hE hR hS (xb_d D_Exact_isSo 73 rfl) hw.2

set_option maxHeartbeats 4000000 in
set_option maxRecDepth 100000 in
theorem am_Exact_isSo_L164 (l : Launch) (hfl : l.flags = pinnedFlags ++ [noTraceFlag]) (D : va_G) (A : Nat → Prop) (σ MC MS : Nat) (h0 : xb_H) (Qr : Int32 → xb_H → Prop) (y0 : Int32) (h : xb_H) (hw : w_Exact_isSo_L164 Qr y0 h) : xb_am l D A σ 3 MC MS h0 (fun v h _ _ => ∃ r, v = some (.int r) ∧ Qr r h) (fun _ _ _ _ => False) y_Exact_isSo.cls y_Exact_isSo.name b_Exact_isSo 10 ([] : List ExceptionTableEntry) (some .boolean) 164 [] [.int y0] h 0 0 := by
  unfold w_Exact_isSo_L164 at hw
  intro p e s m args below meth c hC H locs ls k n hE hl hR hS hk hn
  obtain ⟨hx, hb, hown, hlocks, htab, hml, hr, hB, hA, hnm⟩ := id hC
  have hts := hB.1.1.at args
  exact xb_zret 0 0 hx hb hr hlocks (show k + 0 ≤ MC by omega) (show n + 0 ≤ MS by omega) hw.1 hE hR hS (xb_d D_Exact_isSo 65 rfl) hw.2

set_option maxHeartbeats 4000000 in
set_option maxRecDepth 100000 in
theorem am_Exact_isSo_L149 (l : Launch) (hfl : l.flags = pinnedFlags ++ [noTraceFlag]) (D : va_G) (A : Nat → Prop) (σ MC MS : Nat) (h0 : xb_H) (Qr : Int32 → xb_H → Prop) (y0 : Int32) (h : xb_H) (hw : w_Exact_isSo_L149 Qr y0 h) : xb_am l D A σ 3 MC MS h0 (fun v h _ _ => ∃ r, v = some (.int r) ∧ Qr r h) (fun _ _ _ _ => False) y_Exact_isSo.cls y_Exact_isSo.name b_Exact_isSo 10 ([] : List ExceptionTableEntry) (some .boolean) 149 [] [.int y0] h 0 0 := by
  unfold w_Exact_isSo_L149 at hw
  intro p e s m args below meth c hC H locs ls k n hE hl hR hS hk hn
  obtain ⟨hx, hb, hown, hlocks, htab, hml, hr, hB, hA, hnm⟩ := id hC
  have hts := hB.1.1.at args
  exact xb_zret 0 0 hx hb hr hlocks (show k + 0 ≤ MC by omega) (show n + 0 ≤ MS by omega) hw.1 hE hR hS (xb_d D_Exact_isSo 57 rfl) hw.2

set_option maxHeartbeats 4000000 in
set_option maxRecDepth 100000 in
theorem am_Exact_isSo_L128 (l : Launch) (hfl : l.flags = pinnedFlags ++ [noTraceFlag]) (D : va_G) (A : Nat → Prop) (σ MC MS : Nat) (h0 : xb_H) (Qr : Int32 → xb_H → Prop) (y0 : Int32) (h : xb_H) (hw : w_Exact_isSo_L128 Qr y0 h) : xb_am l D A σ 3 MC MS h0 (fun v h _ _ => ∃ r, v = some (.int r) ∧ Qr r h) (fun _ _ _ _ => False) y_Exact_isSo.cls y_Exact_isSo.name b_Exact_isSo 10 ([] : List ExceptionTableEntry) (some .boolean) 128 [] [.int y0] h 0 0 := by
  unfold w_Exact_isSo_L128 at hw
  intro p e s m args below meth c hC H locs ls k n hE hl hR hS hk hn
  obtain ⟨hx, hb, hown, hlocks, htab, hml, hr, hB, hA, hnm⟩ := id hC
  have hts := hB.1.1.at args
  exact xb_zret 0 0 hx hb hr hlocks (show k + 0 ≤ MC by omega) (show n + 0 ≤ MS by omega) hw.1 hE hR hS (xb_d D_Exact_isSo 45 rfl) hw.2

set_option maxHeartbeats 4000000 in
set_option maxRecDepth 100000 in
theorem am_Exact_isSo_L107 (l : Launch) (hfl : l.flags = pinnedFlags ++ [noTraceFlag]) (D : va_G) (A : Nat → Prop) (σ MC MS : Nat) (h0 : xb_H) (Qr : Int32 → xb_H → Prop) (y0 : Int32) (h : xb_H) (hw : w_Exact_isSo_L107 Qr y0 h) : xb_am l D A σ 3 MC MS h0 (fun v h _ _ => ∃ r, v = some (.int r) ∧ Qr r h) (fun _ _ _ _ => False) y_Exact_isSo.cls y_Exact_isSo.name b_Exact_isSo 10 ([] : List ExceptionTableEntry) (some .boolean) 107 [] [.int y0] h 0 0 := by
  unfold w_Exact_isSo_L107 at hw
  intro p e s m args below meth c hC H locs ls k n hE hl hR hS hk hn
  obtain ⟨hx, hb, hown, hlocks, htab, hml, hr, hB, hA, hnm⟩ := id hC
  have hts := hB.1.1.at args
  exact xb_zret 0 0 hx hb hr hlocks (show k + 0 ≤ MC by omega) (show n + 0 ≤ MS by omega) hw.1 hE hR hS (xb_d D_Exact_isSo 33 rfl) hw.2

set_option maxHeartbeats 4000000 in
set_option maxRecDepth 100000 in
theorem am_Exact_isSo_L93 (l : Launch) (hfl : l.flags = pinnedFlags ++ [noTraceFlag]) (D : va_G) (A : Nat → Prop) (σ MC MS : Nat) (h0 : xb_H) (Qr : Int32 → xb_H → Prop) (y0 : Int32) (h : xb_H) (hw : w_Exact_isSo_L93 Qr y0 h) : xb_am l D A σ 3 MC MS h0 (fun v h _ _ => ∃ r, v = some (.int r) ∧ Qr r h) (fun _ _ _ _ => False) y_Exact_isSo.cls y_Exact_isSo.name b_Exact_isSo 10 ([] : List ExceptionTableEntry) (some .boolean) 93 [] [.int y0] h 0 0 := by
  unfold w_Exact_isSo_L93 at hw
  intro p e s m args below meth c hC H locs ls k n hE hl hR hS hk hn
  obtain ⟨hx, hb, hown, hlocks, htab, hml, hr, hB, hA, hnm⟩ := id hC
  have hts := hB.1.1.at args
  exact xb_zret 0 0 hx hb hr hlocks (show k + 0 ≤ MC by omega) (show n + 0 ≤ MS by omega) hw.1 hE hR hS (xb_d D_Exact_isSo 25 rfl) hw.2

set_option maxHeartbeats 4000000 in
set_option maxRecDepth 100000 in
theorem am_Exact_isSo_L80 (l : Launch) (hfl : l.flags = pinnedFlags ++ [noTraceFlag]) (D : va_G) (A : Nat → Prop) (σ MC MS : Nat) (h0 : xb_H) (Qr : Int32 → xb_H → Prop) (y0 : Int32) (h : xb_H) (hw : w_Exact_isSo_L80 Qr y0 h) : xb_am l D A σ 3 MC MS h0 (fun v h _ _ => ∃ r, v = some (.int r) ∧ Qr r h) (fun _ _ _ _ => False) y_Exact_isSo.cls y_Exact_isSo.name b_Exact_isSo 10 ([] : List ExceptionTableEntry) (some .boolean) 80 [] [.int y0] h 0 0 := by
  unfold w_Exact_isSo_L80 at hw
  intro p e s m args below meth c hC H locs ls k n hE hl hR hS hk hn
  obtain ⟨hx, hb, hown, hlocks, htab, hml, hr, hB, hA, hnm⟩ := id hC
  have hts := hB.1.1.at args
  exact xb_zret 0 0 hx hb hr hlocks (show k + 0 ≤ MC by omega) (show n + 0 ≤ MS by omega) hw.1 hE hR hS (xb_d D_Exact_isSo 17 rfl) hw.2

set_option maxHeartbeats 4000000 in
set_option maxRecDepth 100000 in
theorem ok_Exact_isSo (l : Launch) (hfl : l.flags = pinnedFlags ++ [noTraceFlag]) (D : va_G) (A : Nat → Prop) (σ : Nat) (x0 : Int32) (x1 : Int32) (x2 : Int64) (x4 : Int64) (h : xb_H) (Qr : Int32 → xb_H → Prop) (hw : w_Exact_isSo x0 x1 x2 x4 h Qr) : xb_Met l y_Exact_isSo [.code y_Exact_isSo b_Exact_isSo 10 (some .boolean)] (xb_rm 3 0 0) (xb_Pc D A σ h [.int x0, .int x1, .long x2, .long x4]) (xb_Qc D A h 0 0 (fun v h _ _ => ∃ r, v = some (.int r) ∧ Qr r h) (fun _ _ _ _ => False)) A := by
  refine xb_ofAm (cc := b_Exact_isSo) (by decide) (Nat.le_of_ble_eq_true rfl) ?_
  unfold w_Exact_isSo at hw
  show xb_am l D A σ 3 0 0 h (fun v h _ _ => ∃ r, v = some (.int r) ∧ Qr r h) (fun _ _ _ _ => False) y_Exact_isSo.cls y_Exact_isSo.name b_Exact_isSo 10 ([] : List ExceptionTableEntry) (some .boolean) 0 [(0, .int x0), (1, .int x1), (2, .long x2), (4, .long x4)] [] h 0 0
  obtain ⟨MC, hMC⟩ : ∃ x, x = 0 := ⟨_, rfl⟩
  obtain ⟨MS, hMS⟩ : ∃ x, x = 0 := ⟨_, rfl⟩
  rw [show xb_am l D A σ 3 0 0 = xb_am l D A σ 3 MC MS by rw [hMC, hMS]]
  obtain ⟨h0, hh0⟩ : ∃ x, x = h := ⟨_, rfl⟩
  rw [show xb_am l D A σ 3 MC MS h = xb_am l D A σ 3 MC MS h0 by rw [hh0]]
  intro p e s m args below meth c hC H locs ls k n hE hl hR hS hk hn
  obtain ⟨hx, hb, hown, hlocks, htab, hml, hr, hB, hA, hnm⟩ := id hC
  have hts := hB.1.1.at args
  refine lv_lload_n hx hb (xb_d D_Exact_isSo 0 rfl) rfl (lv_at hl 2 rfl) ?_
  refine lv_iload_n hx hb (xb_d D_Exact_isSo 1 rfl) rfl (lv_at hl 1 rfl) ?_
  refine xb_call0 (D := D) (A := A) (σ := σ) (h := h) (d := 2) (maxL := 3) (rest := []) (av := [.long x2, .int x1]) (fun T hT X => xt_invS X hx hown (hts _ m_a66ea30b) (hts _ m_ccb01543) (hts _ m_b807310b) (xt_sgS (hts _ m_dcff08ea)).1 (xt_sgS (hts _ m_dcff08ea)).2 nm_Exact_withSign (g := F0 m 2 ls [.int x1, .long x2]) rfl (argsL := [.long x2, .int x1]) (rest := []) rfl rfl (by rw [hb]; exact (xb_d D_Exact_isSo 2 rfl))) (ok_Exact_withSign l hfl D A σ x2 x1 h _ hw) (hml.trans hl.1.symm) (by rw [hb]; exact (xb_d D_Exact_isSo 2 rfl)) (Nat.le_of_ble_eq_true rfl) (Nat.le_of_ble_eq_true rfl) (Nat.le_of_ble_eq_true rfl) (show k ≤ MC by omega) (show n ≤ MS by omega) (xt_w1 hB.1 m_dcff08ea) (xt_cdOf hB.1 m_dcff08ea) (hts _ m_b807310b) hB hR hS hA (fun vv h1 H locs hq hEh1 hR hS => ?_)
  obtain ⟨r2, rfl, hw⟩ := hq
  have hw := hw hEh1
  have hE := hE.tr hEh1
  refine W.eq (g2 := F0 m 5 ls [.long r2]) rfl ?_
  refine lv_lstore hx hb (xb_d D_Exact_isSo 3 rfl) hl (by decide) rfl (fun ls hl => ?_)
  have hl : lv_has ls 10 [(6, .long r2), (0, .int x0), (1, .int x1), (2, .long x2), (4, .long x4)] := hl
  refine lv_lload hx hb (xb_d D_Exact_isSo 4 rfl) (lv_at hl 4 rfl) ?_
  refine lv_iload_n hx hb (xb_d D_Exact_isSo 5 rfl) rfl (lv_at hl 2 rfl) ?_
  refine xb_call0 (D := D) (A := A) (σ := σ) (h := h1) (d := 2) (maxL := 3) (rest := []) (av := [.long x4, .int x1]) (fun T hT X => xt_invS X hx hown (hts _ m_a66ea30b) (hts _ m_ccb01543) (hts _ m_b807310b) (xt_sgS (hts _ m_dcff08ea)).1 (xt_sgS (hts _ m_dcff08ea)).2 nm_Exact_withSign (g := F0 m 10 ls [.int x1, .long x4]) rfl (argsL := [.long x4, .int x1]) (rest := []) rfl rfl (by rw [hb]; exact (xb_d D_Exact_isSo 6 rfl))) (ok_Exact_withSign l hfl D A σ x4 x1 h1 _ hw) (hml.trans hl.1.symm) (by rw [hb]; exact (xb_d D_Exact_isSo 6 rfl)) (Nat.le_of_ble_eq_true rfl) (Nat.le_of_ble_eq_true rfl) (Nat.le_of_ble_eq_true rfl) (show k ≤ MC by omega) (show n ≤ MS by omega) (xt_w1 hB.1 m_dcff08ea) (xt_cdOf hB.1 m_dcff08ea) (hts _ m_b807310b) hB hR hS hA (fun vv h3 H locs hq hEh3 hR hS => ?_)
  obtain ⟨r4, rfl, hw⟩ := hq
  have hw := hw hEh3
  have hE := hE.tr hEh3
  refine W.eq (g2 := F0 m 13 ls [.long r4]) rfl ?_
  refine lv_lstore hx hb (xb_d D_Exact_isSo 7 rfl) hl (by decide) rfl (fun ls hl => ?_)
  have hl : lv_has ls 10 [(8, .long r4), (6, .long r2), (0, .int x0), (1, .int x1), (2, .long x2), (4, .long x4)] := hl
  refine lv_iload_n hx hb (xb_d D_Exact_isSo 8 rfl) rfl (lv_at hl 2 rfl) ?_
  by_cases hc5 : x0 = 0
  · have hw := hw.1 hc5
    refine xt_numi hc5 ?_
    refine lv_tableIn (off := 52) (tgt := 68) hx hb (xb_d D_Exact_isSo 9 rfl) (by decide +kernel) (by decide +kernel) (by decide +kernel) (by decide) ?_
    refine lv_lload_n hx hb (xb_d D_Exact_isSo 10 rfl) rfl (lv_at hl 4 rfl) ?_
    refine lv_lload hx hb (xb_d D_Exact_isSo 11 rfl) (lv_at hl 5 rfl) ?_
    refine xb_lc_ne (tgt := 79) hx hb (xb_d D_Exact_isSo 12 rfl) (xb_d D_Exact_isSo 13 rfl) rfl (fun hc6 => ?_) (fun hc6 => ?_)
    · have hw := hw.1 hc6
      refine lv_iconst (v := 0) hx hb (xb_d D_Exact_isSo 16 rfl) (by decide) ?_
      exact am_Exact_isSo_L80 l hfl D A σ MC MS h0 Qr 0 h3 hw p e s m args below meth c hC H locs ls k n hE (lv_sub hl [] rfl) hR hS (by omega) (by omega)
    · have hw := hw.2 hc6
      refine lv_iconst (v := 1) hx hb (xb_d D_Exact_isSo 14 rfl) (by decide) ?_
      refine lv_goto (tgt := 80) hx hb (xb_d D_Exact_isSo 15 rfl) rfl ?_
      exact am_Exact_isSo_L80 l hfl D A σ MC MS h0 Qr 1 h3 hw p e s m args below meth c hC H locs ls k n hE (lv_sub hl [] rfl) hR hS (by omega) (by omega)
  have hw := hw.2
  by_cases hc7 : x0 = 1
  · have hw := hw.1 hc7
    refine xt_numi hc7 ?_
    refine lv_tableIn (off := 65) (tgt := 81) hx hb (xb_d D_Exact_isSo 9 rfl) (by decide +kernel) (by decide +kernel) (by decide +kernel) (by decide) ?_
    refine lv_lload_n hx hb (xb_d D_Exact_isSo 18 rfl) rfl (lv_at hl 4 rfl) ?_
    refine lv_lload hx hb (xb_d D_Exact_isSo 19 rfl) (lv_at hl 5 rfl) ?_
    refine xb_lc_eq (tgt := 92) hx hb (xb_d D_Exact_isSo 20 rfl) (xb_d D_Exact_isSo 21 rfl) rfl (fun hc8 => ?_) (fun hc8 => ?_)
    · have hw := hw.1 hc8
      refine lv_iconst (v := 0) hx hb (xb_d D_Exact_isSo 24 rfl) (by decide) ?_
      exact am_Exact_isSo_L93 l hfl D A σ MC MS h0 Qr 0 h3 hw p e s m args below meth c hC H locs ls k n hE (lv_sub hl [] rfl) hR hS (by omega) (by omega)
    · have hw := hw.2 hc8
      refine lv_iconst (v := 1) hx hb (xb_d D_Exact_isSo 22 rfl) (by decide) ?_
      refine lv_goto (tgt := 93) hx hb (xb_d D_Exact_isSo 23 rfl) rfl ?_
      exact am_Exact_isSo_L93 l hfl D A σ MC MS h0 Qr 1 h3 hw p e s m args below meth c hC H locs ls k n hE (lv_sub hl [] rfl) hR hS (by omega) (by omega)
  have hw := hw.2
  by_cases hc9 : x0 = 2
  · have hw := hw.1 hc9
    refine xt_numi hc9 ?_
    refine lv_tableIn (off := 78) (tgt := 94) hx hb (xb_d D_Exact_isSo 9 rfl) (by decide +kernel) (by decide +kernel) (by decide +kernel) (by decide) ?_
    refine lv_lload hx hb (xb_d D_Exact_isSo 26 rfl) (lv_at hl 1 rfl) ?_
    refine lv_lload hx hb (xb_d D_Exact_isSo 27 rfl) (lv_at hl 0 rfl) ?_
    refine xb_lc_ge (tgt := 106) hx hb (xb_d D_Exact_isSo 28 rfl) (xb_d D_Exact_isSo 29 rfl) rfl (fun hc10 => ?_) (fun hc10 => ?_)
    · have hw := hw.1 hc10
      refine lv_iconst (v := 0) hx hb (xb_d D_Exact_isSo 32 rfl) (by decide) ?_
      exact am_Exact_isSo_L107 l hfl D A σ MC MS h0 Qr 0 h3 hw p e s m args below meth c hC H locs ls k n hE (lv_sub hl [] rfl) hR hS (by omega) (by omega)
    · have hw := hw.2 hc10
      refine lv_iconst (v := 1) hx hb (xb_d D_Exact_isSo 30 rfl) (by decide) ?_
      refine lv_goto (tgt := 107) hx hb (xb_d D_Exact_isSo 31 rfl) rfl ?_
      exact am_Exact_isSo_L107 l hfl D A σ MC MS h0 Qr 1 h3 hw p e s m args below meth c hC H locs ls k n hE (lv_sub hl [] rfl) hR hS (by omega) (by omega)
  have hw := hw.2
  by_cases hc11 : x0 = 3
  · have hw := hw.1 hc11
    refine xt_numi hc11 ?_
    refine lv_tableIn (off := 92) (tgt := 108) hx hb (xb_d D_Exact_isSo 9 rfl) (by decide +kernel) (by decide +kernel) (by decide +kernel) (by decide) ?_
    refine lv_lload_n hx hb (xb_d D_Exact_isSo 34 rfl) rfl (lv_at hl 4 rfl) ?_
    refine lv_lload hx hb (xb_d D_Exact_isSo 35 rfl) (lv_at hl 5 rfl) ?_
    refine xb_call0 (D := D) (A := A) (σ := σ) (h := h3) (d := 2) (maxL := 4) (rest := []) (av := [.long x2, .long x4]) (fun T hT X => xt_invS X hx hown (hts _ m_030a6585) (hts _ m_d6ff3ad9) (hts _ m_b807310b) (xt_sgS (hts _ m_22a27095)).1 (xt_sgS (hts _ m_22a27095)).2 nm_Exact_below (g := F0 m 111 ls [.long x4, .long x2]) rfl (argsL := [.long x2, .long x4]) (rest := []) rfl rfl (by rw [hb]; exact (xb_d D_Exact_isSo 36 rfl))) (ok_Exact_below l hfl D A σ x2 x4 h3 _ hw) (hml.trans hl.1.symm) (by rw [hb]; exact (xb_d D_Exact_isSo 36 rfl)) (Nat.le_of_ble_eq_true rfl) (Nat.le_of_ble_eq_true rfl) (Nat.le_of_ble_eq_true rfl) (show k ≤ MC by omega) (show n ≤ MS by omega) (xt_w1 hB.1 m_22a27095) (xt_cdOf hB.1 m_22a27095) (hts _ m_b807310b) hB hR hS hA (fun vv h12 H locs hq hEh12 hR hS => ?_)
    obtain ⟨r13, rfl, hw⟩ := hq
    have hw := hw hEh12
    have hE := hE.tr hEh12
    refine W.eq (g2 := F0 m 114 ls [.int r13]) rfl ?_
    exact xb_zret 0 0 hx hb hr hlocks (show k + 0 ≤ MC by omega) (show n + 0 ≤ MS by omega) hw.1 hE hR hS (xb_d D_Exact_isSo 37 rfl) hw.2
  have hw := hw.2
  by_cases hc14 : x0 = 4
  · have hw := hw.1 hc14
    refine xt_numi hc14 ?_
    refine lv_tableIn (off := 99) (tgt := 115) hx hb (xb_d D_Exact_isSo 9 rfl) (by decide +kernel) (by decide +kernel) (by decide +kernel) (by decide) ?_
    refine lv_lload hx hb (xb_d D_Exact_isSo 38 rfl) (lv_at hl 1 rfl) ?_
    refine lv_lload hx hb (xb_d D_Exact_isSo 39 rfl) (lv_at hl 0 rfl) ?_
    refine xb_lc_le (tgt := 127) hx hb (xb_d D_Exact_isSo 40 rfl) (xb_d D_Exact_isSo 41 rfl) rfl (fun hc15 => ?_) (fun hc15 => ?_)
    · have hw := hw.1 hc15
      refine lv_iconst (v := 0) hx hb (xb_d D_Exact_isSo 44 rfl) (by decide) ?_
      exact am_Exact_isSo_L128 l hfl D A σ MC MS h0 Qr 0 h3 hw p e s m args below meth c hC H locs ls k n hE (lv_sub hl [] rfl) hR hS (by omega) (by omega)
    · have hw := hw.2 hc15
      refine lv_iconst (v := 1) hx hb (xb_d D_Exact_isSo 42 rfl) (by decide) ?_
      refine lv_goto (tgt := 128) hx hb (xb_d D_Exact_isSo 43 rfl) rfl ?_
      exact am_Exact_isSo_L128 l hfl D A σ MC MS h0 Qr 1 h3 hw p e s m args below meth c hC H locs ls k n hE (lv_sub hl [] rfl) hR hS (by omega) (by omega)
  have hw := hw.2
  by_cases hc16 : x0 = 5
  · have hw := hw.1 hc16
    refine xt_numi hc16 ?_
    refine lv_tableIn (off := 113) (tgt := 129) hx hb (xb_d D_Exact_isSo 9 rfl) (by decide +kernel) (by decide +kernel) (by decide +kernel) (by decide) ?_
    refine lv_lload hx hb (xb_d D_Exact_isSo 46 rfl) (lv_at hl 5 rfl) ?_
    refine lv_lload_n hx hb (xb_d D_Exact_isSo 47 rfl) rfl (lv_at hl 4 rfl) ?_
    refine xb_call0 (D := D) (A := A) (σ := σ) (h := h3) (d := 2) (maxL := 4) (rest := []) (av := [.long x4, .long x2]) (fun T hT X => xt_invS X hx hown (hts _ m_030a6585) (hts _ m_d6ff3ad9) (hts _ m_b807310b) (xt_sgS (hts _ m_22a27095)).1 (xt_sgS (hts _ m_22a27095)).2 nm_Exact_below (g := F0 m 132 ls [.long x2, .long x4]) rfl (argsL := [.long x4, .long x2]) (rest := []) rfl rfl (by rw [hb]; exact (xb_d D_Exact_isSo 48 rfl))) (ok_Exact_below l hfl D A σ x4 x2 h3 _ hw) (hml.trans hl.1.symm) (by rw [hb]; exact (xb_d D_Exact_isSo 48 rfl)) (Nat.le_of_ble_eq_true rfl) (Nat.le_of_ble_eq_true rfl) (Nat.le_of_ble_eq_true rfl) (show k ≤ MC by omega) (show n ≤ MS by omega) (xt_w1 hB.1 m_22a27095) (xt_cdOf hB.1 m_22a27095) (hts _ m_b807310b) hB hR hS hA (fun vv h17 H locs hq hEh17 hR hS => ?_)
    obtain ⟨r18, rfl, hw⟩ := hq
    have hw := hw hEh17
    have hE := hE.tr hEh17
    refine W.eq (g2 := F0 m 135 ls [.int r18]) rfl ?_
    exact xb_zret 0 0 hx hb hr hlocks (show k + 0 ≤ MC by omega) (show n + 0 ≤ MS by omega) hw.1 hE hR hS (xb_d D_Exact_isSo 49 rfl) hw.2
  have hw := hw.2
  by_cases hc19 : x0 = 6
  · have hw := hw.1 hc19
    refine xt_numi hc19 ?_
    refine lv_tableIn (off := 120) (tgt := 136) hx hb (xb_d D_Exact_isSo 9 rfl) (by decide +kernel) (by decide +kernel) (by decide +kernel) (by decide) ?_
    refine lv_lload hx hb (xb_d D_Exact_isSo 50 rfl) (lv_at hl 1 rfl) ?_
    refine lv_lload hx hb (xb_d D_Exact_isSo 51 rfl) (lv_at hl 0 rfl) ?_
    refine xb_lc_gt (tgt := 148) hx hb (xb_d D_Exact_isSo 52 rfl) (xb_d D_Exact_isSo 53 rfl) rfl (fun hc20 => ?_) (fun hc20 => ?_)
    · have hw := hw.1 hc20
      refine lv_iconst (v := 0) hx hb (xb_d D_Exact_isSo 56 rfl) (by decide) ?_
      exact am_Exact_isSo_L149 l hfl D A σ MC MS h0 Qr 0 h3 hw p e s m args below meth c hC H locs ls k n hE (lv_sub hl [] rfl) hR hS (by omega) (by omega)
    · have hw := hw.2 hc20
      refine lv_iconst (v := 1) hx hb (xb_d D_Exact_isSo 54 rfl) (by decide) ?_
      refine lv_goto (tgt := 149) hx hb (xb_d D_Exact_isSo 55 rfl) rfl ?_
      exact am_Exact_isSo_L149 l hfl D A σ MC MS h0 Qr 1 h3 hw p e s m args below meth c hC H locs ls k n hE (lv_sub hl [] rfl) hR hS (by omega) (by omega)
  have hw := hw.2
  by_cases hc21 : x0 = 7
  · have hw := hw.1 hc21
    refine xt_numi hc21 ?_
    refine lv_tableIn (off := 134) (tgt := 150) hx hb (xb_d D_Exact_isSo 9 rfl) (by decide +kernel) (by decide +kernel) (by decide +kernel) (by decide) ?_
    refine lv_lload hx hb (xb_d D_Exact_isSo 58 rfl) (lv_at hl 5 rfl) ?_
    refine lv_lload_n hx hb (xb_d D_Exact_isSo 59 rfl) rfl (lv_at hl 4 rfl) ?_
    refine xb_call0 (D := D) (A := A) (σ := σ) (h := h3) (d := 2) (maxL := 4) (rest := []) (av := [.long x4, .long x2]) (fun T hT X => xt_invS X hx hown (hts _ m_030a6585) (hts _ m_d6ff3ad9) (hts _ m_b807310b) (xt_sgS (hts _ m_22a27095)).1 (xt_sgS (hts _ m_22a27095)).2 nm_Exact_below (g := F0 m 153 ls [.long x2, .long x4]) rfl (argsL := [.long x4, .long x2]) (rest := []) rfl rfl (by rw [hb]; exact (xb_d D_Exact_isSo 60 rfl))) (ok_Exact_below l hfl D A σ x4 x2 h3 _ hw) (hml.trans hl.1.symm) (by rw [hb]; exact (xb_d D_Exact_isSo 60 rfl)) (Nat.le_of_ble_eq_true rfl) (Nat.le_of_ble_eq_true rfl) (Nat.le_of_ble_eq_true rfl) (show k ≤ MC by omega) (show n ≤ MS by omega) (xt_w1 hB.1 m_22a27095) (xt_cdOf hB.1 m_22a27095) (hts _ m_b807310b) hB hR hS hA (fun vv h22 H locs hq hEh22 hR hS => ?_)
    obtain ⟨r23, rfl, hw⟩ := hq
    have hw := hw hEh22
    have hE := hE.tr hEh22
    refine W.eq (g2 := F0 m 156 ls [.int r23]) rfl ?_
    refine lv_if_ne (tgt := 163) hx hb (xb_d D_Exact_isSo 61 rfl) rfl (fun hc24 => ?_) (fun hc24 => ?_)
    · have hw := hw.1 hc24
      refine lv_iconst (v := 0) hx hb (xb_d D_Exact_isSo 64 rfl) (by decide) ?_
      exact am_Exact_isSo_L164 l hfl D A σ MC MS h0 Qr 0 h22 hw p e s m args below meth c hC H locs ls k n hE (lv_sub hl [] rfl) hR hS (by omega) (by omega)
    · have hw := hw.2 hc24
      refine lv_iconst (v := 1) hx hb (xb_d D_Exact_isSo 62 rfl) (by decide) ?_
      refine lv_goto (tgt := 164) hx hb (xb_d D_Exact_isSo 63 rfl) rfl ?_
      exact am_Exact_isSo_L164 l hfl D A σ MC MS h0 Qr 1 h22 hw p e s m args below meth c hC H locs ls k n hE (lv_sub hl [] rfl) hR hS (by omega) (by omega)
  have hw := hw.2
  by_cases hc25 : x0 = 8
  · have hw := hw.1 hc25
    refine xt_numi hc25 ?_
    refine lv_tableIn (off := 149) (tgt := 165) hx hb (xb_d D_Exact_isSo 9 rfl) (by decide +kernel) (by decide +kernel) (by decide +kernel) (by decide) ?_
    refine lv_lload hx hb (xb_d D_Exact_isSo 66 rfl) (lv_at hl 1 rfl) ?_
    refine lv_lload hx hb (xb_d D_Exact_isSo 67 rfl) (lv_at hl 0 rfl) ?_
    refine xb_lc_lt (tgt := 177) hx hb (xb_d D_Exact_isSo 68 rfl) (xb_d D_Exact_isSo 69 rfl) rfl (fun hc26 => ?_) (fun hc26 => ?_)
    · have hw := hw.1 hc26
      refine lv_iconst (v := 0) hx hb (xb_d D_Exact_isSo 72 rfl) (by decide) ?_
      exact am_Exact_isSo_L178 l hfl D A σ MC MS h0 Qr 0 h3 hw p e s m args below meth c hC H locs ls k n hE (lv_sub hl [] rfl) hR hS (by omega) (by omega)
    · have hw := hw.2 hc26
      refine lv_iconst (v := 1) hx hb (xb_d D_Exact_isSo 70 rfl) (by decide) ?_
      refine lv_goto (tgt := 178) hx hb (xb_d D_Exact_isSo 71 rfl) rfl ?_
      exact am_Exact_isSo_L178 l hfl D A σ MC MS h0 Qr 1 h3 hw p e s m args below meth c hC H locs ls k n hE (lv_sub hl [] rfl) hR hS (by omega) (by omega)
  have hw := hw.2
  have hw := hw hc5 hc7 hc9 hc11 hc14 hc16 hc19 hc21 hc25
  refine lv_tableOut (tgt := 179) hx hb (xb_d D_Exact_isSo 9 rfl) (by have a0 := xb_nl (0) 0 (by decide) hc5; have a1 := xb_nl (1) 1 (by decide) hc7; have a2 := xb_nl (2) 2 (by decide) hc9; have a3 := xb_nl (3) 3 (by decide) hc11; have a4 := xb_nl (4) 4 (by decide) hc14; have a5 := xb_nl (5) 5 (by decide) hc16; have a6 := xb_nl (6) 6 (by decide) hc19; have a7 := xb_nl (7) 7 (by decide) hc21; have a8 := xb_nl (8) 8 (by decide) hc25; omega) (by decide) ?_
  refine lv_lload_n hx hb (xb_d D_Exact_isSo 74 rfl) rfl (lv_at hl 4 rfl) ?_
  refine lv_lload hx hb (xb_d D_Exact_isSo 75 rfl) (lv_at hl 5 rfl) ?_
  refine xb_call0 (D := D) (A := A) (σ := σ) (h := h3) (d := 2) (maxL := 4) (rest := []) (av := [.long x2, .long x4]) (fun T hT X => xt_invS X hx hown (hts _ m_030a6585) (hts _ m_d6ff3ad9) (hts _ m_b807310b) (xt_sgS (hts _ m_22a27095)).1 (xt_sgS (hts _ m_22a27095)).2 nm_Exact_below (g := F0 m 182 ls [.long x4, .long x2]) rfl (argsL := [.long x2, .long x4]) (rest := []) rfl rfl (by rw [hb]; exact (xb_d D_Exact_isSo 76 rfl))) (ok_Exact_below l hfl D A σ x2 x4 h3 _ hw) (hml.trans hl.1.symm) (by rw [hb]; exact (xb_d D_Exact_isSo 76 rfl)) (Nat.le_of_ble_eq_true rfl) (Nat.le_of_ble_eq_true rfl) (Nat.le_of_ble_eq_true rfl) (show k ≤ MC by omega) (show n ≤ MS by omega) (xt_w1 hB.1 m_22a27095) (xt_cdOf hB.1 m_22a27095) (hts _ m_b807310b) hB hR hS hA (fun vv h27 H locs hq hEh27 hR hS => ?_)
  obtain ⟨r28, rfl, hw⟩ := hq
  have hw := hw hEh27
  have hE := hE.tr hEh27
  refine W.eq (g2 := F0 m 185 ls [.int r28]) rfl ?_
  refine lv_if_ne (tgt := 192) hx hb (xb_d D_Exact_isSo 77 rfl) rfl (fun hc29 => ?_) (fun hc29 => ?_)
  · have hw := hw.1 hc29
    refine lv_iconst (v := 0) hx hb (xb_d D_Exact_isSo 80 rfl) (by decide) ?_
    exact am_Exact_isSo_L193 l hfl D A σ MC MS h0 Qr 0 h27 hw p e s m args below meth c hC H locs ls k n hE (lv_sub hl [] rfl) hR hS (by omega) (by omega)
  · have hw := hw.2 hc29
    refine lv_iconst (v := 1) hx hb (xb_d D_Exact_isSo 78 rfl) (by decide) ?_
    refine lv_goto (tgt := 193) hx hb (xb_d D_Exact_isSo 79 rfl) rfl ?_
    exact am_Exact_isSo_L193 l hfl D A σ MC MS h0 Qr 1 h27 hw p e s m args below meth c hC H locs ls k n hE (lv_sub hl [] rfl) hR hS (by omega) (by omega)

theorem m_4c81fbb0 : (.methodLink "StackHostModel$Exact" 72 y_Exact_size : Cond) ∈ xt_tbl := xt_in (xt_t12 (List.mem_of_getElem? (i := 218) (by decide +kernel))) (by decide +kernel)
theorem m_fb12fd6e : (.instanceMethod y_Exact_size : Cond) ∈ xt_tbl := xt_in (xt_t12 (List.mem_of_getElem? (i := 220) (by decide +kernel))) (by decide +kernel)
theorem m_e5146b3f : (.selects "StackHostModel$Exact" y_Exact_size y_Exact_size : Cond) ∈ xt_tbl := xt_in (xt_v15 (q := (⟨"StackHostModel$Exact", "size", "(J)J"⟩, 11)) (List.mem_of_getElem? (i := 6) (by decide +kernel))) (by decide +kernel)
theorem m_7f30805a : (.code y_Exact_size b_Exact_size 3 (some .long) : Cond) ∈ xt_tbl := xt_in (xt_t12 (List.mem_of_getElem? (i := 221) (by decide +kernel))) (by decide +kernel)
theorem nm_Exact_size : xt_nm y_Exact_size 1 := ⟨by decide +kernel, by decide +kernel⟩
set_option maxRecDepth 100000 in
def T_Exact_isZero : List (Nat × Instr × Nat) := [(0, .aload_n 0, 1), (1, .lload_n 1, 1), (2, .invokevirtual 72, 3), (5, .lconst 0, 1), (6, .lcmp, 1), (7, .ifCond .ne 7, 3), (10, .iconst 1, 1), (11, .goto 4, 3), (14, .iconst 0, 1), (15, .ireturn, 1)]
theorem D_Exact_isZero : ∀ q ∈ T_Exact_isZero, decode b_Exact_isZero q.1 = .ok (q.2.1, q.2.2) := by decide +kernel

set_option maxHeartbeats 4000000 in
set_option maxRecDepth 100000 in
theorem am_Exact_isZero_L15 (l : Launch) (hfl : l.flags = pinnedFlags ++ [noTraceFlag]) (D : va_G) (A : Nat → Prop) (σ MC MS : Nat) (h0 : xb_H) (Qr : Int32 → xb_H → Prop) (y0 : Int32) (h : xb_H) (hw : w_Exact_isZero_L15 Qr y0 h) : xb_am l D A σ 3 MC MS h0 (fun v h _ _ => ∃ r, v = some (.int r) ∧ Qr r h) (fun _ _ _ _ => False) y_Exact_isZero.cls y_Exact_isZero.name b_Exact_isZero 3 ([] : List ExceptionTableEntry) (some .boolean) 15 [] [.int y0] h 0 0 := by
  unfold w_Exact_isZero_L15 at hw
  intro p e s m args below meth c hC H locs ls k n hE hl hR hS hk hn
  obtain ⟨hx, hb, hown, hlocks, htab, hml, hr, hB, hA, hnm⟩ := id hC
  have hts := hB.1.1.at args
  exact xb_zret 0 0 hx hb hr hlocks (show k + 0 ≤ MC by omega) (show n + 0 ≤ MS by omega) hw.1 hE hR hS (xb_d D_Exact_isZero 9 rfl) hw.2

set_option maxHeartbeats 4000000 in
set_option maxRecDepth 100000 in
theorem ok_Exact_isZero (l : Launch) (hfl : l.flags = pinnedFlags ++ [noTraceFlag]) (D : va_G) (A : Nat → Prop) (σ : Nat) (x0 : Nat) (x1 : Int64) (h : xb_H) (Qr : Int32 → xb_H → Prop) (hw : w_Exact_isZero x0 x1 h Qr) : xb_Met l y_Exact_isZero [.code y_Exact_isZero b_Exact_isZero 3 (some .boolean)] (xb_rm 3 0 0) (xb_Pc D A σ h [.ref x0, .long x1]) (xb_Qc D A h 0 0 (fun v h _ _ => ∃ r, v = some (.int r) ∧ Qr r h) (fun _ _ _ _ => False)) A := by
  refine xb_ofAm (cc := b_Exact_isZero) (by decide) (Nat.le_of_ble_eq_true rfl) ?_
  unfold w_Exact_isZero at hw
  show xb_am l D A σ 3 0 0 h (fun v h _ _ => ∃ r, v = some (.int r) ∧ Qr r h) (fun _ _ _ _ => False) y_Exact_isZero.cls y_Exact_isZero.name b_Exact_isZero 3 ([] : List ExceptionTableEntry) (some .boolean) 0 [(0, .ref x0), (1, .long x1)] [] h 0 0
  obtain ⟨MC, hMC⟩ : ∃ x, x = 0 := ⟨_, rfl⟩
  obtain ⟨MS, hMS⟩ : ∃ x, x = 0 := ⟨_, rfl⟩
  rw [show xb_am l D A σ 3 0 0 = xb_am l D A σ 3 MC MS by rw [hMC, hMS]]
  obtain ⟨h0, hh0⟩ : ∃ x, x = h := ⟨_, rfl⟩
  rw [show xb_am l D A σ 3 MC MS h = xb_am l D A σ 3 MC MS h0 by rw [hh0]]
  intro p e s m args below meth c hC H locs ls k n hE hl hR hS hk hn
  obtain ⟨hx, hb, hown, hlocks, htab, hml, hr, hB, hA, hnm⟩ := id hC
  have hts := hB.1.1.at args
  refine lv_aload_n hx hb (xb_d D_Exact_isZero 0 rfl) rfl (lv_at hl 0 rfl) ?_
  refine lv_lload_n hx hb (xb_d D_Exact_isZero 1 rfl) rfl (lv_at hl 1 rfl) ?_
  obtain ⟨hk1, hw⟩ := hw
  refine xb_call0 (D := D) (A := A) (σ := σ) (h := h) (d := 2) (maxL := 3) (rest := []) (av := [.ref x0, .long x1]) (fun T hT X => by obtain ⟨cb9, ra9, rb9, rc9⟩ := xb_recv (ci := 9) hR rfl hk1 (by decide); exact xt_invV X hx hown (hts _ m_4c81fbb0) (hts _ m_fb12fd6e) (hts _ m_e5146b3f) (xt_sigOf (hts _ m_7f30805a)) nm_Exact_size (by rw [hT]; exact ra9) rb9 rc9 (g := F0 m 2 ls [.long x1, .ref x0]) rfl (argsL := [.long x1]) (rest := []) rfl rfl (by rw [hb]; exact (xb_d D_Exact_isZero 2 rfl))) (ok_Exact_size l hfl D A σ x0 x1 h _ hw) (hml.trans hl.1.symm) (by rw [hb]; exact (xb_d D_Exact_isZero 2 rfl)) (Nat.le_of_ble_eq_true rfl) (Nat.le_of_ble_eq_true rfl) (Nat.le_of_ble_eq_true rfl) (show k ≤ MC by omega) (show n ≤ MS by omega) (xt_w1 hB.1 m_7f30805a) (xt_cdOf hB.1 m_7f30805a) (hts _ m_b807310b) hB hR hS hA (fun vv h2 H locs hq hEh2 hR hS => ?_)
  obtain ⟨r3, rfl, hw⟩ := hq
  have hw := hw hEh2
  have hE := hE.tr hEh2
  refine W.eq (g2 := F0 m 5 ls [.long r3]) rfl ?_
  refine lv_lconst (v := 0) hx hb (xb_d D_Exact_isZero 3 rfl) (by decide) ?_
  refine xb_lc_ne (tgt := 14) hx hb (xb_d D_Exact_isZero 4 rfl) (xb_d D_Exact_isZero 5 rfl) rfl (fun hc4 => ?_) (fun hc4 => ?_)
  · have hw := hw.1 hc4
    refine lv_iconst (v := 0) hx hb (xb_d D_Exact_isZero 8 rfl) (by decide) ?_
    exact am_Exact_isZero_L15 l hfl D A σ MC MS h0 Qr 0 h2 hw p e s m args below meth c hC H locs ls k n hE (lv_sub hl [] rfl) hR hS (by omega) (by omega)
  · have hw := hw.2 hc4
    refine lv_iconst (v := 1) hx hb (xb_d D_Exact_isZero 6 rfl) (by decide) ?_
    refine lv_goto (tgt := 15) hx hb (xb_d D_Exact_isZero 7 rfl) rfl ?_
    exact am_Exact_isZero_L15 l hfl D A σ MC MS h0 Qr 1 h2 hw p e s m args below meth c hC H locs ls k n hE (lv_sub hl [] rfl) hR hS (by omega) (by omega)

theorem m_de267fc4 : (.methodLink "StackHostModel$Exact" 76 y_Exact_isMinus : Cond) ∈ xt_tbl := xt_in (xt_t12 (List.mem_of_getElem? (i := 239) (by decide +kernel))) (by decide +kernel)
theorem m_8cf2fba2 : (.instanceMethod y_Exact_isMinus : Cond) ∈ xt_tbl := xt_in (xt_t13 (List.mem_of_getElem? (i := 1) (by decide +kernel))) (by decide +kernel)
theorem m_e2188cdf : (.selects "StackHostModel$Exact" y_Exact_isMinus y_Exact_isMinus : Cond) ∈ xt_tbl := xt_in (xt_v15 (q := (⟨"StackHostModel$Exact", "isMinus", "(J)Z"⟩, 11)) (List.mem_of_getElem? (i := 11) (by decide +kernel))) (by decide +kernel)
theorem m_25d2fde1 : (.code y_Exact_isMinus b_Exact_isMinus 3 (some .boolean) : Cond) ∈ xt_tbl := xt_in (xt_t13 (List.mem_of_getElem? (i := 2) (by decide +kernel))) (by decide +kernel)
theorem nm_Exact_isMinus : xt_nm y_Exact_isMinus 1 := ⟨by decide +kernel, by decide +kernel⟩
set_option maxRecDepth 100000 in
def T_Exact_less : List (Nat × Instr × Nat) := [(0, .aload_n 0, 1), (1, .lload_n 1, 1), (2, .invokevirtual 76, 3), (5, .ifCond .eq 12, 3), (8, .aload_n 0, 1), (9, .lload_n 1, 1), (10, .invokevirtual 72, 3), (13, .lneg, 1), (14, .goto 8, 3), (17, .aload_n 0, 1), (18, .lload_n 1, 1), (19, .invokevirtual 72, 3), (22, .lstore 6, 2), (24, .aload_n 0, 1), (25, .lload 4, 2), (27, .invokevirtual 76, 3), (30, .ifCond .eq 13, 3), (33, .aload_n 0, 1), (34, .lload 4, 2), (36, .invokevirtual 72, 3), (39, .lneg, 1), (40, .goto 9, 3), (43, .aload_n 0, 1), (44, .lload 4, 2), (46, .invokevirtual 72, 3), (49, .lstore 8, 2), (51, .lload 6, 2), (53, .lload 8, 2), (55, .lcmp, 1), (56, .ifCond .lt 15, 3), (59, .iload_n 3, 1), (60, .ifCond .eq 15, 3), (63, .lload 6, 2), (65, .lload 8, 2), (67, .lcmp, 1), (68, .ifCond .ne 7, 3), (71, .iconst 1, 1), (72, .goto 4, 3), (75, .iconst 0, 1), (76, .ireturn, 1)]
theorem D_Exact_less : ∀ q ∈ T_Exact_less, decode b_Exact_less q.1 = .ok (q.2.1, q.2.2) := by decide +kernel

set_option maxHeartbeats 4000000 in
set_option maxRecDepth 100000 in
theorem am_Exact_less_L76 (l : Launch) (hfl : l.flags = pinnedFlags ++ [noTraceFlag]) (D : va_G) (A : Nat → Prop) (σ MC MS : Nat) (h0 : xb_H) (Qr : Int32 → xb_H → Prop) (y0 : Int32) (h : xb_H) (hw : w_Exact_less_L76 Qr y0 h) : xb_am l D A σ 3 MC MS h0 (fun v h _ _ => ∃ r, v = some (.int r) ∧ Qr r h) (fun _ _ _ _ => False) y_Exact_less.cls y_Exact_less.name b_Exact_less 10 ([] : List ExceptionTableEntry) (some .boolean) 76 [] [.int y0] h 0 0 := by
  unfold w_Exact_less_L76 at hw
  intro p e s m args below meth c hC H locs ls k n hE hl hR hS hk hn
  obtain ⟨hx, hb, hown, hlocks, htab, hml, hr, hB, hA, hnm⟩ := id hC
  have hts := hB.1.1.at args
  exact xb_zret 0 0 hx hb hr hlocks (show k + 0 ≤ MC by omega) (show n + 0 ≤ MS by omega) hw.1 hE hR hS (xb_d D_Exact_less 39 rfl) hw.2

set_option maxHeartbeats 4000000 in
set_option maxRecDepth 100000 in
theorem am_Exact_less_L75 (l : Launch) (hfl : l.flags = pinnedFlags ++ [noTraceFlag]) (D : va_G) (A : Nat → Prop) (σ MC MS : Nat) (h0 : xb_H) (Qr : Int32 → xb_H → Prop) (h : xb_H) (hw : w_Exact_less_L75 Qr h) : xb_am l D A σ 3 MC MS h0 (fun v h _ _ => ∃ r, v = some (.int r) ∧ Qr r h) (fun _ _ _ _ => False) y_Exact_less.cls y_Exact_less.name b_Exact_less 10 ([] : List ExceptionTableEntry) (some .boolean) 75 [] [] h 0 0 := by
  unfold w_Exact_less_L75 at hw
  intro p e s m args below meth c hC H locs ls k n hE hl hR hS hk hn
  obtain ⟨hx, hb, hown, hlocks, htab, hml, hr, hB, hA, hnm⟩ := id hC
  have hts := hB.1.1.at args
  refine lv_iconst (v := 0) hx hb (xb_d D_Exact_less 38 rfl) (by decide) ?_
  exact am_Exact_less_L76 l hfl D A σ MC MS h0 Qr 0 h hw p e s m args below meth c hC H locs ls k n hE (lv_sub hl [] rfl) hR hS (by omega) (by omega)

set_option maxHeartbeats 4000000 in
set_option maxRecDepth 100000 in
theorem am_Exact_less_L71 (l : Launch) (hfl : l.flags = pinnedFlags ++ [noTraceFlag]) (D : va_G) (A : Nat → Prop) (σ MC MS : Nat) (h0 : xb_H) (Qr : Int32 → xb_H → Prop) (h : xb_H) (hw : w_Exact_less_L71 Qr h) : xb_am l D A σ 3 MC MS h0 (fun v h _ _ => ∃ r, v = some (.int r) ∧ Qr r h) (fun _ _ _ _ => False) y_Exact_less.cls y_Exact_less.name b_Exact_less 10 ([] : List ExceptionTableEntry) (some .boolean) 71 [] [] h 0 0 := by
  unfold w_Exact_less_L71 at hw
  intro p e s m args below meth c hC H locs ls k n hE hl hR hS hk hn
  obtain ⟨hx, hb, hown, hlocks, htab, hml, hr, hB, hA, hnm⟩ := id hC
  have hts := hB.1.1.at args
  refine lv_iconst (v := 1) hx hb (xb_d D_Exact_less 36 rfl) (by decide) ?_
  refine lv_goto (tgt := 76) hx hb (xb_d D_Exact_less 37 rfl) rfl ?_
  exact am_Exact_less_L76 l hfl D A σ MC MS h0 Qr 1 h hw p e s m args below meth c hC H locs ls k n hE (lv_sub hl [] rfl) hR hS (by omega) (by omega)

set_option maxHeartbeats 4000000 in
set_option maxRecDepth 100000 in
theorem am_Exact_less_L49 (l : Launch) (hfl : l.flags = pinnedFlags ++ [noTraceFlag]) (D : va_G) (A : Nat → Prop) (σ MC MS : Nat) (h0 : xb_H) (Qr : Int32 → xb_H → Prop) (x3 : Int32) (x6 : Int64) (y0 : Int64) (h : xb_H) (hw : w_Exact_less_L49 Qr x3 x6 y0 h) : xb_am l D A σ 3 MC MS h0 (fun v h _ _ => ∃ r, v = some (.int r) ∧ Qr r h) (fun _ _ _ _ => False) y_Exact_less.cls y_Exact_less.name b_Exact_less 10 ([] : List ExceptionTableEntry) (some .boolean) 49 [(3, .int x3), (6, .long x6)] [.long y0] h 0 0 := by
  unfold w_Exact_less_L49 at hw
  intro p e s m args below meth c hC H locs ls k n hE hl hR hS hk hn
  obtain ⟨hx, hb, hown, hlocks, htab, hml, hr, hB, hA, hnm⟩ := id hC
  have hts := hB.1.1.at args
  refine lv_lstore hx hb (xb_d D_Exact_less 25 rfl) hl (by decide) rfl (fun ls hl => ?_)
  have hl : lv_has ls 10 [(8, .long y0), (3, .int x3), (6, .long x6)] := hl
  refine lv_lload hx hb (xb_d D_Exact_less 26 rfl) (lv_at hl 2 rfl) ?_
  refine lv_lload hx hb (xb_d D_Exact_less 27 rfl) (lv_at hl 0 rfl) ?_
  refine xb_lc_lt (tgt := 71) hx hb (xb_d D_Exact_less 28 rfl) (xb_d D_Exact_less 29 rfl) rfl (fun hc1 => ?_) (fun hc1 => ?_)
  · have hw := hw.1 hc1
    exact am_Exact_less_L71 l hfl D A σ MC MS h0 Qr h hw p e s m args below meth c hC H locs ls k n hE (lv_sub hl [] rfl) hR hS (by omega) (by omega)
  · have hw := hw.2 hc1
    refine lv_iload_n hx hb (xb_d D_Exact_less 30 rfl) rfl (lv_at hl 1 rfl) ?_
    refine lv_if_eq (tgt := 75) hx hb (xb_d D_Exact_less 31 rfl) rfl (fun hc2 => ?_) (fun hc2 => ?_)
    · have hw := hw.1 hc2
      exact am_Exact_less_L75 l hfl D A σ MC MS h0 Qr h hw p e s m args below meth c hC H locs ls k n hE (lv_sub hl [] rfl) hR hS (by omega) (by omega)
    · have hw := hw.2 hc2
      refine lv_lload hx hb (xb_d D_Exact_less 32 rfl) (lv_at hl 2 rfl) ?_
      refine lv_lload hx hb (xb_d D_Exact_less 33 rfl) (lv_at hl 0 rfl) ?_
      refine xb_lc_ne (tgt := 75) hx hb (xb_d D_Exact_less 34 rfl) (xb_d D_Exact_less 35 rfl) rfl (fun hc3 => ?_) (fun hc3 => ?_)
      · have hw := hw.1 hc3
        exact am_Exact_less_L75 l hfl D A σ MC MS h0 Qr h hw p e s m args below meth c hC H locs ls k n hE (lv_sub hl [] rfl) hR hS (by omega) (by omega)
      · have hw := hw.2 hc3
        exact am_Exact_less_L71 l hfl D A σ MC MS h0 Qr h hw p e s m args below meth c hC H locs ls k n hE (lv_sub hl [] rfl) hR hS (by omega) (by omega)

set_option maxHeartbeats 4000000 in
set_option maxRecDepth 100000 in
theorem am_Exact_less_L22 (l : Launch) (hfl : l.flags = pinnedFlags ++ [noTraceFlag]) (D : va_G) (A : Nat → Prop) (σ MC MS : Nat) (h0 : xb_H) (Qr : Int32 → xb_H → Prop) (x0 : Nat) (x3 : Int32) (x4 : Int64) (y0 : Int64) (h : xb_H) (hw : w_Exact_less_L22 Qr x0 x3 x4 y0 h) : xb_am l D A σ 3 MC MS h0 (fun v h _ _ => ∃ r, v = some (.int r) ∧ Qr r h) (fun _ _ _ _ => False) y_Exact_less.cls y_Exact_less.name b_Exact_less 10 ([] : List ExceptionTableEntry) (some .boolean) 22 [(0, .ref x0), (3, .int x3), (4, .long x4)] [.long y0] h 0 0 := by
  unfold w_Exact_less_L22 at hw
  intro p e s m args below meth c hC H locs ls k n hE hl hR hS hk hn
  obtain ⟨hx, hb, hown, hlocks, htab, hml, hr, hB, hA, hnm⟩ := id hC
  have hts := hB.1.1.at args
  refine lv_lstore hx hb (xb_d D_Exact_less 12 rfl) hl (by decide) rfl (fun ls hl => ?_)
  have hl : lv_has ls 10 [(6, .long y0), (0, .ref x0), (3, .int x3), (4, .long x4)] := hl
  refine lv_aload_n hx hb (xb_d D_Exact_less 13 rfl) rfl (lv_at hl 1 rfl) ?_
  refine lv_lload hx hb (xb_d D_Exact_less 14 rfl) (lv_at hl 3 rfl) ?_
  obtain ⟨hk1, hw⟩ := hw
  refine xb_call0 (D := D) (A := A) (σ := σ) (h := h) (d := 2) (maxL := 3) (rest := []) (av := [.ref x0, .long x4]) (fun T hT X => by obtain ⟨cb9, ra9, rb9, rc9⟩ := xb_recv (ci := 9) hR rfl hk1 (by decide); exact xt_invV X hx hown (hts _ m_de267fc4) (hts _ m_8cf2fba2) (hts _ m_e2188cdf) (xt_sigOf (hts _ m_25d2fde1)) nm_Exact_isMinus (by rw [hT]; exact ra9) rb9 rc9 (g := F0 m 27 ls [.long x4, .ref x0]) rfl (argsL := [.long x4]) (rest := []) rfl rfl (by rw [hb]; exact (xb_d D_Exact_less 15 rfl))) (ok_Exact_isMinus l hfl D A σ x0 x4 h _ hw) (hml.trans hl.1.symm) (by rw [hb]; exact (xb_d D_Exact_less 15 rfl)) (Nat.le_of_ble_eq_true rfl) (Nat.le_of_ble_eq_true rfl) (Nat.le_of_ble_eq_true rfl) (show k ≤ MC by omega) (show n ≤ MS by omega) (xt_w1 hB.1 m_25d2fde1) (xt_cdOf hB.1 m_25d2fde1) (hts _ m_b807310b) hB hR hS hA (fun vv h2 H locs hq hEh2 hR hS => ?_)
  obtain ⟨r3, rfl, hw⟩ := hq
  have hw := hw hEh2
  have hE := hE.tr hEh2
  refine W.eq (g2 := F0 m 30 ls [.int r3]) rfl ?_
  refine lv_if_eq (tgt := 43) hx hb (xb_d D_Exact_less 16 rfl) rfl (fun hc4 => ?_) (fun hc4 => ?_)
  · have hw := hw.1 hc4
    refine lv_aload_n hx hb (xb_d D_Exact_less 22 rfl) rfl (lv_at hl 1 rfl) ?_
    refine lv_lload hx hb (xb_d D_Exact_less 23 rfl) (lv_at hl 3 rfl) ?_
    have hk1 : xb_k h2 x0 = 10 := hEh2.k hk1
    refine xb_call0 (D := D) (A := A) (σ := σ) (h := h2) (d := 2) (maxL := 3) (rest := []) (av := [.ref x0, .long x4]) (fun T hT X => by obtain ⟨cb9, ra9, rb9, rc9⟩ := xb_recv (ci := 9) hR rfl hk1 (by decide); exact xt_invV X hx hown (hts _ m_4c81fbb0) (hts _ m_fb12fd6e) (hts _ m_e5146b3f) (xt_sigOf (hts _ m_7f30805a)) nm_Exact_size (by rw [hT]; exact ra9) rb9 rc9 (g := F0 m 46 ls [.long x4, .ref x0]) rfl (argsL := [.long x4]) (rest := []) rfl rfl (by rw [hb]; exact (xb_d D_Exact_less 24 rfl))) (ok_Exact_size l hfl D A σ x0 x4 h2 _ hw) (hml.trans hl.1.symm) (by rw [hb]; exact (xb_d D_Exact_less 24 rfl)) (Nat.le_of_ble_eq_true rfl) (Nat.le_of_ble_eq_true rfl) (Nat.le_of_ble_eq_true rfl) (show k ≤ MC by omega) (show n ≤ MS by omega) (xt_w1 hB.1 m_7f30805a) (xt_cdOf hB.1 m_7f30805a) (hts _ m_b807310b) hB hR hS hA (fun vv h5 H locs hq hEh5 hR hS => ?_)
    obtain ⟨r6, rfl, hw⟩ := hq
    have hw := hw hEh5
    have hE := hE.tr hEh5
    refine W.eq (g2 := F0 m 49 ls [.long r6]) rfl ?_
    exact am_Exact_less_L49 l hfl D A σ MC MS h0 Qr x3 y0 r6 h5 hw p e s m args below meth c hC H locs ls k n hE (lv_sub hl [2, 0] rfl) hR hS (by omega) (by omega)
  · have hw := hw.2 hc4
    refine lv_aload_n hx hb (xb_d D_Exact_less 17 rfl) rfl (lv_at hl 1 rfl) ?_
    refine lv_lload hx hb (xb_d D_Exact_less 18 rfl) (lv_at hl 3 rfl) ?_
    have hk1 : xb_k h2 x0 = 10 := hEh2.k hk1
    refine xb_call0 (D := D) (A := A) (σ := σ) (h := h2) (d := 2) (maxL := 3) (rest := []) (av := [.ref x0, .long x4]) (fun T hT X => by obtain ⟨cb9, ra9, rb9, rc9⟩ := xb_recv (ci := 9) hR rfl hk1 (by decide); exact xt_invV X hx hown (hts _ m_4c81fbb0) (hts _ m_fb12fd6e) (hts _ m_e5146b3f) (xt_sigOf (hts _ m_7f30805a)) nm_Exact_size (by rw [hT]; exact ra9) rb9 rc9 (g := F0 m 36 ls [.long x4, .ref x0]) rfl (argsL := [.long x4]) (rest := []) rfl rfl (by rw [hb]; exact (xb_d D_Exact_less 19 rfl))) (ok_Exact_size l hfl D A σ x0 x4 h2 _ hw) (hml.trans hl.1.symm) (by rw [hb]; exact (xb_d D_Exact_less 19 rfl)) (Nat.le_of_ble_eq_true rfl) (Nat.le_of_ble_eq_true rfl) (Nat.le_of_ble_eq_true rfl) (show k ≤ MC by omega) (show n ≤ MS by omega) (xt_w1 hB.1 m_7f30805a) (xt_cdOf hB.1 m_7f30805a) (hts _ m_b807310b) hB hR hS hA (fun vv h7 H locs hq hEh7 hR hS => ?_)
    obtain ⟨r8, rfl, hw⟩ := hq
    have hw := hw hEh7
    have hE := hE.tr hEh7
    refine W.eq (g2 := F0 m 39 ls [.long r8]) rfl ?_
    refine lv_lneg hx hb (xb_d D_Exact_less 20 rfl) ?_
    refine lv_goto (tgt := 49) hx hb (xb_d D_Exact_less 21 rfl) rfl ?_
    exact am_Exact_less_L49 l hfl D A σ MC MS h0 Qr x3 y0 (-r8) h7 hw p e s m args below meth c hC H locs ls k n hE (lv_sub hl [2, 0] rfl) hR hS (by omega) (by omega)

set_option maxHeartbeats 4000000 in
set_option maxRecDepth 100000 in
theorem ok_Exact_less (l : Launch) (hfl : l.flags = pinnedFlags ++ [noTraceFlag]) (D : va_G) (A : Nat → Prop) (σ : Nat) (x0 : Nat) (x1 : Int64) (x3 : Int32) (x4 : Int64) (h : xb_H) (Qr : Int32 → xb_H → Prop) (hw : w_Exact_less x0 x1 x3 x4 h Qr) : xb_Met l y_Exact_less [.code y_Exact_less b_Exact_less 10 (some .boolean)] (xb_rm 3 0 0) (xb_Pc D A σ h [.ref x0, .long x1, .int x3, .long x4]) (xb_Qc D A h 0 0 (fun v h _ _ => ∃ r, v = some (.int r) ∧ Qr r h) (fun _ _ _ _ => False)) A := by
  refine xb_ofAm (cc := b_Exact_less) (by decide) (Nat.le_of_ble_eq_true rfl) ?_
  unfold w_Exact_less at hw
  show xb_am l D A σ 3 0 0 h (fun v h _ _ => ∃ r, v = some (.int r) ∧ Qr r h) (fun _ _ _ _ => False) y_Exact_less.cls y_Exact_less.name b_Exact_less 10 ([] : List ExceptionTableEntry) (some .boolean) 0 [(0, .ref x0), (1, .long x1), (3, .int x3), (4, .long x4)] [] h 0 0
  obtain ⟨MC, hMC⟩ : ∃ x, x = 0 := ⟨_, rfl⟩
  obtain ⟨MS, hMS⟩ : ∃ x, x = 0 := ⟨_, rfl⟩
  rw [show xb_am l D A σ 3 0 0 = xb_am l D A σ 3 MC MS by rw [hMC, hMS]]
  obtain ⟨h0, hh0⟩ : ∃ x, x = h := ⟨_, rfl⟩
  rw [show xb_am l D A σ 3 MC MS h = xb_am l D A σ 3 MC MS h0 by rw [hh0]]
  intro p e s m args below meth c hC H locs ls k n hE hl hR hS hk hn
  obtain ⟨hx, hb, hown, hlocks, htab, hml, hr, hB, hA, hnm⟩ := id hC
  have hts := hB.1.1.at args
  refine lv_aload_n hx hb (xb_d D_Exact_less 0 rfl) rfl (lv_at hl 0 rfl) ?_
  refine lv_lload_n hx hb (xb_d D_Exact_less 1 rfl) rfl (lv_at hl 1 rfl) ?_
  obtain ⟨hk1, hw⟩ := hw
  refine xb_call0 (D := D) (A := A) (σ := σ) (h := h) (d := 2) (maxL := 3) (rest := []) (av := [.ref x0, .long x1]) (fun T hT X => by obtain ⟨cb9, ra9, rb9, rc9⟩ := xb_recv (ci := 9) hR rfl hk1 (by decide); exact xt_invV X hx hown (hts _ m_de267fc4) (hts _ m_8cf2fba2) (hts _ m_e2188cdf) (xt_sigOf (hts _ m_25d2fde1)) nm_Exact_isMinus (by rw [hT]; exact ra9) rb9 rc9 (g := F0 m 2 ls [.long x1, .ref x0]) rfl (argsL := [.long x1]) (rest := []) rfl rfl (by rw [hb]; exact (xb_d D_Exact_less 2 rfl))) (ok_Exact_isMinus l hfl D A σ x0 x1 h _ hw) (hml.trans hl.1.symm) (by rw [hb]; exact (xb_d D_Exact_less 2 rfl)) (Nat.le_of_ble_eq_true rfl) (Nat.le_of_ble_eq_true rfl) (Nat.le_of_ble_eq_true rfl) (show k ≤ MC by omega) (show n ≤ MS by omega) (xt_w1 hB.1 m_25d2fde1) (xt_cdOf hB.1 m_25d2fde1) (hts _ m_b807310b) hB hR hS hA (fun vv h2 H locs hq hEh2 hR hS => ?_)
  obtain ⟨r3, rfl, hw⟩ := hq
  have hw := hw hEh2
  have hE := hE.tr hEh2
  refine W.eq (g2 := F0 m 5 ls [.int r3]) rfl ?_
  refine lv_if_eq (tgt := 17) hx hb (xb_d D_Exact_less 3 rfl) rfl (fun hc4 => ?_) (fun hc4 => ?_)
  · have hw := hw.1 hc4
    refine lv_aload_n hx hb (xb_d D_Exact_less 9 rfl) rfl (lv_at hl 0 rfl) ?_
    refine lv_lload_n hx hb (xb_d D_Exact_less 10 rfl) rfl (lv_at hl 1 rfl) ?_
    have hk1 : xb_k h2 x0 = 10 := hEh2.k hk1
    refine xb_call0 (D := D) (A := A) (σ := σ) (h := h2) (d := 2) (maxL := 3) (rest := []) (av := [.ref x0, .long x1]) (fun T hT X => by obtain ⟨cb9, ra9, rb9, rc9⟩ := xb_recv (ci := 9) hR rfl hk1 (by decide); exact xt_invV X hx hown (hts _ m_4c81fbb0) (hts _ m_fb12fd6e) (hts _ m_e5146b3f) (xt_sigOf (hts _ m_7f30805a)) nm_Exact_size (by rw [hT]; exact ra9) rb9 rc9 (g := F0 m 19 ls [.long x1, .ref x0]) rfl (argsL := [.long x1]) (rest := []) rfl rfl (by rw [hb]; exact (xb_d D_Exact_less 11 rfl))) (ok_Exact_size l hfl D A σ x0 x1 h2 _ hw) (hml.trans hl.1.symm) (by rw [hb]; exact (xb_d D_Exact_less 11 rfl)) (Nat.le_of_ble_eq_true rfl) (Nat.le_of_ble_eq_true rfl) (Nat.le_of_ble_eq_true rfl) (show k ≤ MC by omega) (show n ≤ MS by omega) (xt_w1 hB.1 m_7f30805a) (xt_cdOf hB.1 m_7f30805a) (hts _ m_b807310b) hB hR hS hA (fun vv h5 H locs hq hEh5 hR hS => ?_)
    obtain ⟨r6, rfl, hw⟩ := hq
    have hw := hw hEh5
    have hE := hE.tr hEh5
    refine W.eq (g2 := F0 m 22 ls [.long r6]) rfl ?_
    exact am_Exact_less_L22 l hfl D A σ MC MS h0 Qr x0 x3 x4 r6 h5 hw p e s m args below meth c hC H locs ls k n hE (lv_sub hl [0, 2, 3] rfl) hR hS (by omega) (by omega)
  · have hw := hw.2 hc4
    refine lv_aload_n hx hb (xb_d D_Exact_less 4 rfl) rfl (lv_at hl 0 rfl) ?_
    refine lv_lload_n hx hb (xb_d D_Exact_less 5 rfl) rfl (lv_at hl 1 rfl) ?_
    have hk1 : xb_k h2 x0 = 10 := hEh2.k hk1
    refine xb_call0 (D := D) (A := A) (σ := σ) (h := h2) (d := 2) (maxL := 3) (rest := []) (av := [.ref x0, .long x1]) (fun T hT X => by obtain ⟨cb9, ra9, rb9, rc9⟩ := xb_recv (ci := 9) hR rfl hk1 (by decide); exact xt_invV X hx hown (hts _ m_4c81fbb0) (hts _ m_fb12fd6e) (hts _ m_e5146b3f) (xt_sigOf (hts _ m_7f30805a)) nm_Exact_size (by rw [hT]; exact ra9) rb9 rc9 (g := F0 m 10 ls [.long x1, .ref x0]) rfl (argsL := [.long x1]) (rest := []) rfl rfl (by rw [hb]; exact (xb_d D_Exact_less 6 rfl))) (ok_Exact_size l hfl D A σ x0 x1 h2 _ hw) (hml.trans hl.1.symm) (by rw [hb]; exact (xb_d D_Exact_less 6 rfl)) (Nat.le_of_ble_eq_true rfl) (Nat.le_of_ble_eq_true rfl) (Nat.le_of_ble_eq_true rfl) (show k ≤ MC by omega) (show n ≤ MS by omega) (xt_w1 hB.1 m_7f30805a) (xt_cdOf hB.1 m_7f30805a) (hts _ m_b807310b) hB hR hS hA (fun vv h7 H locs hq hEh7 hR hS => ?_)
    obtain ⟨r8, rfl, hw⟩ := hq
    have hw := hw hEh7
    have hE := hE.tr hEh7
    refine W.eq (g2 := F0 m 13 ls [.long r8]) rfl ?_
    refine lv_lneg hx hb (xb_d D_Exact_less 7 rfl) ?_
    refine lv_goto (tgt := 22) hx hb (xb_d D_Exact_less 8 rfl) rfl ?_
    exact am_Exact_less_L22 l hfl D A σ MC MS h0 Qr x0 x3 x4 (-r8) h7 hw p e s m args below meth c hC H locs ls k n hE (lv_sub hl [0, 2, 3] rfl) hR hS (by omega) (by omega)

theorem m_a62210ac : (.fieldLink "StackHostModel$Exact" 87 "StackHostModel$Exact" "weight" "I" : Cond) ∈ xt_tbl := xt_in (xt_t9 (List.mem_of_getElem? (i := 115) (by decide +kernel))) (by decide +kernel)
theorem m_183e6a18 : (.fieldLink "StackHostModel$Exact" 83 "StackHostModel$Exact" "amount" "J" : Cond) ∈ xt_tbl := xt_in (xt_t9 (List.mem_of_getElem? (i := 114) (by decide +kernel))) (by decide +kernel)
theorem m_124dafb0 : (.fieldLink "StackHostModel$Exact" 80 "StackHostModel$Exact" "minus" "Z" : Cond) ∈ xt_tbl := xt_in (xt_t9 (List.mem_of_getElem? (i := 113) (by decide +kernel))) (by decide +kernel)
set_option maxRecDepth 100000 in
def T_Exact_split : List (Nat × Instr × Nat) := [(0, .aload_n 0, 1), (1, .lload_n 1, 1), (2, .invokevirtual 72, 3), (5, .aload_n 0, 1), (6, .getfield 44, 3), (9, .lshr, 1), (10, .lstore_n 3, 1), (11, .lload_n 1, 1), (12, .lconst 1, 1), (13, .aload_n 0, 1), (14, .getfield 44, 3), (17, .lshl, 1), (18, .lconst 1, 1), (19, .lsub, 1), (20, .land, 1), (21, .lstore 5, 2), (23, .aload_n 0, 1), (24, .aload_n 0, 1), (25, .lload_n 1, 1), (26, .invokevirtual 76, 3), (29, .putfield 80, 3), (32, .aload_n 0, 1), (33, .lload_n 3, 1), (34, .lconst 0, 1), (35, .lcmp, 1), (36, .ifCond .ne 8, 3), (39, .lload 5, 2), (41, .goto 12, 3), (44, .lload 5, 2), (46, .lconst 1, 1), (47, .aload_n 0, 1), (48, .getfield 44, 3), (51, .lshl, 1), (52, .ladd, 1), (53, .putfield 83, 3), (56, .aload_n 0, 1), (57, .lload_n 3, 1), (58, .lconst 0, 1), (59, .lcmp, 1), (60, .ifCond .ne 7, 3), (63, .iconst 1, 1), (64, .goto 5, 3), (67, .lload_n 3, 1), (68, .l2i, 1), (69, .aload_n 0, 1), (70, .getfield 47, 3), (73, .isub, 1), (74, .aload_n 0, 1), (75, .getfield 44, 3), (78, .isub, 1), (79, .putfield 87, 3), (82, .return_, 1)]
theorem D_Exact_split : ∀ q ∈ T_Exact_split, decode b_Exact_split q.1 = .ok (q.2.1, q.2.2) := by decide +kernel

set_option maxHeartbeats 4000000 in
set_option maxRecDepth 100000 in
theorem am_Exact_split_L69 (l : Launch) (hfl : l.flags = pinnedFlags ++ [noTraceFlag]) (D : va_G) (A : Nat → Prop) (σ MC MS : Nat) (h0 : xb_H) (Qr : xb_H → Prop) (x0 : Nat) (y0 : Int32) (y1 : Nat) (h : xb_H) (hw : w_Exact_split_L69 Qr x0 y0 y1 h) : xb_am l D A σ 3 MC MS h0 (fun v h _ _ => v = none ∧ Qr h) (fun _ _ _ _ => False) y_Exact_split.cls y_Exact_split.name b_Exact_split 7 ([] : List ExceptionTableEntry) none 69 [(0, .ref x0)] [.int y0, .ref y1] h 0 0 := by
  unfold w_Exact_split_L69 at hw
  intro p e s m args below meth c hC H locs ls k n hE hl hR hS hk hn
  obtain ⟨hx, hb, hown, hlocks, htab, hml, hr, hB, hA, hnm⟩ := id hC
  have hts := hB.1.1.at args
  refine lv_aload_n hx hb (xb_d D_Exact_split 44 rfl) rfl (lv_at hl 0 rfl) ?_
  obtain ⟨hk1, hw⟩ := hw
  refine xb_getI (C := R_Exact) (T := F_Exact) (N := 11) hx hb 9 7 hts fin_Exact hown hR hk1 (by decide) rfl (by decide) rfl (hts _ m_71f7a53b) (fun _ h9 => h9) (xb_d D_Exact_split 45 rfl) ?_
  refine lv_isub hx hb (xb_d D_Exact_split 46 rfl) ?_
  refine lv_aload_n hx hb (xb_d D_Exact_split 47 rfl) rfl (lv_at hl 0 rfl) ?_
  refine xb_getI (C := R_Exact) (T := F_Exact) (N := 11) hx hb 9 6 hts fin_Exact hown hR hk1 (by decide) rfl (by decide) rfl (hts _ m_904a6bc5) (fun _ h9 => h9) (xb_d D_Exact_split 48 rfl) ?_
  refine lv_isub hx hb (xb_d D_Exact_split 49 rfl) ?_
  obtain ⟨hk2, hw⟩ := hw
  refine xb_putI (C := R_Exact) (T := F_Exact) (N := 11) (ty := .int) (x := ((y0 - (xb_i h x0 7)) - (xb_i h x0 6))) hx hb 9 10 hts fin_Exact t_Exact t_Exact_ok n_Exact hown hR hS hk2 (by decide) rfl (by decide) rfl (hts _ m_a62210ac) (fun _ h9 => h9) rfl (by decide +kernel) rfl rfl (xb_d D_Exact_split 50 rfl) (fun H locs hR hS => ?_)
  obtain ⟨h3, eh3⟩ : ∃ x : xb_H, x = xb_I h y1 10 ((y0 - (xb_i h x0 7)) - (xb_i h x0 6)) := ⟨_, rfl⟩
  rw [← eh3] at hR
  have hw := hw h3 eh3
  have hE : xb_ext h0 h3 := by rw [eh3]; exact hE
  exact xb_vret 0 0 hx hb hr hlocks (show k + 0 ≤ MC by omega) (show n + 0 ≤ MS by omega) hE hR hS (xb_d D_Exact_split 51 rfl) hw

set_option maxHeartbeats 4000000 in
set_option maxRecDepth 100000 in
theorem am_Exact_split_L53 (l : Launch) (hfl : l.flags = pinnedFlags ++ [noTraceFlag]) (D : va_G) (A : Nat → Prop) (σ MC MS : Nat) (h0 : xb_H) (Qr : xb_H → Prop) (x0 : Nat) (x3 : Int64) (y0 : Int64) (y1 : Nat) (h : xb_H) (hw : w_Exact_split_L53 Qr x0 x3 y0 y1 h) : xb_am l D A σ 3 MC MS h0 (fun v h _ _ => v = none ∧ Qr h) (fun _ _ _ _ => False) y_Exact_split.cls y_Exact_split.name b_Exact_split 7 ([] : List ExceptionTableEntry) none 53 [(0, .ref x0), (3, .long x3)] [.long y0, .ref y1] h 0 0 := by
  unfold w_Exact_split_L53 at hw
  intro p e s m args below meth c hC H locs ls k n hE hl hR hS hk hn
  obtain ⟨hx, hb, hown, hlocks, htab, hml, hr, hB, hA, hnm⟩ := id hC
  have hts := hB.1.1.at args
  obtain ⟨hk1, hw⟩ := hw
  refine xb_putL (C := R_Exact) (T := F_Exact) (N := 11) (ty := .long) (x := y0) hx hb 9 9 hts fin_Exact t_Exact t_Exact_ok n_Exact hown hR hS hk1 (by decide) rfl (by decide) rfl (hts _ m_183e6a18) (fun _ h9 => h9) rfl (by decide +kernel) rfl rfl (xb_d D_Exact_split 34 rfl) (fun H locs hR hS => ?_)
  obtain ⟨h2, eh2⟩ : ∃ x : xb_H, x = xb_L h y1 9 y0 := ⟨_, rfl⟩
  rw [← eh2] at hR
  have hw := hw h2 eh2
  have hE : xb_ext h0 h2 := by rw [eh2]; exact hE
  refine lv_aload_n hx hb (xb_d D_Exact_split 35 rfl) rfl (lv_at hl 0 rfl) ?_
  refine lv_lload_n hx hb (xb_d D_Exact_split 36 rfl) rfl (lv_at hl 1 rfl) ?_
  refine lv_lconst (v := 0) hx hb (xb_d D_Exact_split 37 rfl) (by decide) ?_
  refine xb_lc_ne (tgt := 67) hx hb (xb_d D_Exact_split 38 rfl) (xb_d D_Exact_split 39 rfl) rfl (fun hc3 => ?_) (fun hc3 => ?_)
  · have hw := hw.1 hc3
    refine lv_lload_n hx hb (xb_d D_Exact_split 42 rfl) rfl (lv_at hl 1 rfl) ?_
    refine lv_l2i hx hb (xb_d D_Exact_split 43 rfl) rfl ?_
    exact am_Exact_split_L69 l hfl D A σ MC MS h0 Qr x0 (Int64.toInt32 x3) x0 h2 hw p e s m args below meth c hC H locs ls k n hE (lv_sub hl [0] rfl) hR hS (by omega) (by omega)
  · have hw := hw.2 hc3
    refine lv_iconst (v := 1) hx hb (xb_d D_Exact_split 40 rfl) (by decide) ?_
    refine lv_goto (tgt := 69) hx hb (xb_d D_Exact_split 41 rfl) rfl ?_
    exact am_Exact_split_L69 l hfl D A σ MC MS h0 Qr x0 1 x0 h2 hw p e s m args below meth c hC H locs ls k n hE (lv_sub hl [0] rfl) hR hS (by omega) (by omega)

set_option maxHeartbeats 4000000 in
set_option maxRecDepth 100000 in
theorem ok_Exact_split (l : Launch) (hfl : l.flags = pinnedFlags ++ [noTraceFlag]) (D : va_G) (A : Nat → Prop) (σ : Nat) (x0 : Nat) (x1 : Int64) (h : xb_H) (Qr : xb_H → Prop) (hw : w_Exact_split x0 x1 h Qr) : xb_Met l y_Exact_split [.code y_Exact_split b_Exact_split 7 none] (xb_rm 3 0 0) (xb_Pc D A σ h [.ref x0, .long x1]) (xb_Qc D A h 0 0 (fun v h _ _ => v = none ∧ Qr h) (fun _ _ _ _ => False)) A := by
  refine xb_ofAm (cc := b_Exact_split) (by decide) (Nat.le_of_ble_eq_true rfl) ?_
  unfold w_Exact_split at hw
  show xb_am l D A σ 3 0 0 h (fun v h _ _ => v = none ∧ Qr h) (fun _ _ _ _ => False) y_Exact_split.cls y_Exact_split.name b_Exact_split 7 ([] : List ExceptionTableEntry) none 0 [(0, .ref x0), (1, .long x1)] [] h 0 0
  obtain ⟨MC, hMC⟩ : ∃ x, x = 0 := ⟨_, rfl⟩
  obtain ⟨MS, hMS⟩ : ∃ x, x = 0 := ⟨_, rfl⟩
  rw [show xb_am l D A σ 3 0 0 = xb_am l D A σ 3 MC MS by rw [hMC, hMS]]
  obtain ⟨h0, hh0⟩ : ∃ x, x = h := ⟨_, rfl⟩
  rw [show xb_am l D A σ 3 MC MS h = xb_am l D A σ 3 MC MS h0 by rw [hh0]]
  intro p e s m args below meth c hC H locs ls k n hE hl hR hS hk hn
  obtain ⟨hx, hb, hown, hlocks, htab, hml, hr, hB, hA, hnm⟩ := id hC
  have hts := hB.1.1.at args
  refine lv_aload_n hx hb (xb_d D_Exact_split 0 rfl) rfl (lv_at hl 0 rfl) ?_
  refine lv_lload_n hx hb (xb_d D_Exact_split 1 rfl) rfl (lv_at hl 1 rfl) ?_
  obtain ⟨hk1, hw⟩ := hw
  refine xb_call0 (D := D) (A := A) (σ := σ) (h := h) (d := 2) (maxL := 3) (rest := []) (av := [.ref x0, .long x1]) (fun T hT X => by obtain ⟨cb9, ra9, rb9, rc9⟩ := xb_recv (ci := 9) hR rfl hk1 (by decide); exact xt_invV X hx hown (hts _ m_4c81fbb0) (hts _ m_fb12fd6e) (hts _ m_e5146b3f) (xt_sigOf (hts _ m_7f30805a)) nm_Exact_size (by rw [hT]; exact ra9) rb9 rc9 (g := F0 m 2 ls [.long x1, .ref x0]) rfl (argsL := [.long x1]) (rest := []) rfl rfl (by rw [hb]; exact (xb_d D_Exact_split 2 rfl))) (ok_Exact_size l hfl D A σ x0 x1 h _ hw) (hml.trans hl.1.symm) (by rw [hb]; exact (xb_d D_Exact_split 2 rfl)) (Nat.le_of_ble_eq_true rfl) (Nat.le_of_ble_eq_true rfl) (Nat.le_of_ble_eq_true rfl) (show k ≤ MC by omega) (show n ≤ MS by omega) (xt_w1 hB.1 m_7f30805a) (xt_cdOf hB.1 m_7f30805a) (hts _ m_b807310b) hB hR hS hA (fun vv h2 H locs hq hEh2 hR hS => ?_)
  obtain ⟨r3, rfl, hw⟩ := hq
  have hw := hw hEh2
  have hE := hE.tr hEh2
  refine W.eq (g2 := F0 m 5 ls [.long r3]) rfl ?_
  refine lv_aload_n hx hb (xb_d D_Exact_split 3 rfl) rfl (lv_at hl 0 rfl) ?_
  have hk1 : xb_k h2 x0 = 10 := hEh2.k hk1
  refine xb_getI (C := R_Exact) (T := F_Exact) (N := 11) hx hb 9 6 hts fin_Exact hown hR hk1 (by decide) rfl (by decide) rfl (hts _ m_904a6bc5) (fun _ h9 => h9) (xb_d D_Exact_split 4 rfl) ?_
  refine lv_lshr (v := (xb_lshr r3 (xb_i h2 x0 6))) hx hb (xb_d D_Exact_split 5 rfl) rfl ?_
  obtain ⟨v4, ev4⟩ : ∃ x : Int64, x = (xb_lshr r3 (xb_i h2 x0 6)) := ⟨_, rfl⟩
  have hw := hw v4 ev4
  refine xt_numl (y := v4) ev4.symm ?_
  refine lv_lstore_n hx hb (xb_d D_Exact_split 6 rfl) rfl hl (by decide) rfl (fun ls hl => ?_)
  have hl : lv_has ls 7 [(3, .long v4), (0, .ref x0), (1, .long x1)] := hl
  refine lv_lload_n hx hb (xb_d D_Exact_split 7 rfl) rfl (lv_at hl 2 rfl) ?_
  refine lv_lconst (v := 1) hx hb (xb_d D_Exact_split 8 rfl) (by decide) ?_
  refine lv_aload_n hx hb (xb_d D_Exact_split 9 rfl) rfl (lv_at hl 1 rfl) ?_
  refine xb_getI (C := R_Exact) (T := F_Exact) (N := 11) hx hb 9 6 hts fin_Exact hown hR hk1 (by decide) rfl (by decide) rfl (hts _ m_904a6bc5) (fun _ h9 => h9) (xb_d D_Exact_split 10 rfl) ?_
  refine lv_lshl (v := (xb_lshl 1 (xb_i h2 x0 6))) hx hb (xb_d D_Exact_split 11 rfl) rfl ?_
  refine lv_lconst (v := 1) hx hb (xb_d D_Exact_split 12 rfl) (by decide) ?_
  refine lv_lsub hx hb (xb_d D_Exact_split 13 rfl) ?_
  refine lv_land hx hb (xb_d D_Exact_split 14 rfl) ?_
  obtain ⟨v5, ev5⟩ : ∃ x : Int64, x = (x1 &&& ((xb_lshl 1 (xb_i h2 x0 6)) - 1)) := ⟨_, rfl⟩
  have hw := hw v5 ev5
  refine xt_numl (y := v5) ev5.symm ?_
  refine lv_lstore hx hb (xb_d D_Exact_split 15 rfl) hl (by decide) rfl (fun ls hl => ?_)
  have hl : lv_has ls 7 [(5, .long v5), (3, .long v4), (0, .ref x0), (1, .long x1)] := hl
  refine lv_aload_n hx hb (xb_d D_Exact_split 16 rfl) rfl (lv_at hl 2 rfl) ?_
  refine lv_aload_n hx hb (xb_d D_Exact_split 17 rfl) rfl (lv_at hl 2 rfl) ?_
  refine lv_lload_n hx hb (xb_d D_Exact_split 18 rfl) rfl (lv_at hl 3 rfl) ?_
  refine xb_call0 (D := D) (A := A) (σ := σ) (h := h2) (d := 2) (maxL := 3) (rest := [.ref x0]) (av := [.ref x0, .long x1]) (fun T hT X => by obtain ⟨cb9, ra9, rb9, rc9⟩ := xb_recv (ci := 9) hR rfl hk1 (by decide); exact xt_invV X hx hown (hts _ m_de267fc4) (hts _ m_8cf2fba2) (hts _ m_e2188cdf) (xt_sigOf (hts _ m_25d2fde1)) nm_Exact_isMinus (by rw [hT]; exact ra9) rb9 rc9 (g := F0 m 26 ls [.long x1, .ref x0, .ref x0]) rfl (argsL := [.long x1]) (rest := [.ref x0]) rfl rfl (by rw [hb]; exact (xb_d D_Exact_split 19 rfl))) (ok_Exact_isMinus l hfl D A σ x0 x1 h2 _ hw) (hml.trans hl.1.symm) (by rw [hb]; exact (xb_d D_Exact_split 19 rfl)) (Nat.le_of_ble_eq_true rfl) (Nat.le_of_ble_eq_true rfl) (Nat.le_of_ble_eq_true rfl) (show k ≤ MC by omega) (show n ≤ MS by omega) (xt_w1 hB.1 m_25d2fde1) (xt_cdOf hB.1 m_25d2fde1) (hts _ m_b807310b) hB hR hS hA (fun vv h6 H locs hq hEh6 hR hS => ?_)
  obtain ⟨r7, rfl, hw⟩ := hq
  have hw := hw hEh6
  have hE := hE.tr hEh6
  refine W.eq (g2 := F0 m 29 ls [.int r7, .ref x0]) rfl ?_
  have hk1 : xb_k h6 x0 = 10 := hEh6.k hk1
  obtain ⟨hz8, hw⟩ := hw
  refine xb_putI (C := R_Exact) (T := F_Exact) (N := 11) (ty := .boolean) (x := r7) hx hb 9 8 hts fin_Exact t_Exact t_Exact_ok n_Exact hown hR hS hk1 (by decide) rfl (by decide) rfl (hts _ m_124dafb0) (fun _ h9 => h9) rfl (by decide +kernel) (xb_bn hz8).1 (xb_bn hz8).2 (xb_d D_Exact_split 20 rfl) (fun H locs hR hS => ?_)
  obtain ⟨h9, eh9⟩ : ∃ x : xb_H, x = xb_I h6 x0 8 r7 := ⟨_, rfl⟩
  rw [← eh9] at hR
  have hw := hw h9 eh9
  have hE : xb_ext h0 h9 := by rw [eh9]; exact hE
  refine lv_aload_n hx hb (xb_d D_Exact_split 21 rfl) rfl (lv_at hl 2 rfl) ?_
  refine lv_lload_n hx hb (xb_d D_Exact_split 22 rfl) rfl (lv_at hl 1 rfl) ?_
  refine lv_lconst (v := 0) hx hb (xb_d D_Exact_split 23 rfl) (by decide) ?_
  refine xb_lc_ne (tgt := 44) hx hb (xb_d D_Exact_split 24 rfl) (xb_d D_Exact_split 25 rfl) rfl (fun hc10 => ?_) (fun hc10 => ?_)
  · have hw := hw.1 hc10
    refine lv_lload hx hb (xb_d D_Exact_split 28 rfl) (lv_at hl 0 rfl) ?_
    refine lv_lconst (v := 1) hx hb (xb_d D_Exact_split 29 rfl) (by decide) ?_
    refine lv_aload_n hx hb (xb_d D_Exact_split 30 rfl) rfl (lv_at hl 2 rfl) ?_
    have hk1 : xb_k h9 x0 = 10 := by rw [eh9]; exact hk1
    refine xb_getI (C := R_Exact) (T := F_Exact) (N := 11) hx hb 9 6 hts fin_Exact hown hR hk1 (by decide) rfl (by decide) rfl (hts _ m_904a6bc5) (fun _ h9 => h9) (xb_d D_Exact_split 31 rfl) ?_
    refine lv_lshl (v := (xb_lshl 1 (xb_i h9 x0 6))) hx hb (xb_d D_Exact_split 32 rfl) rfl ?_
    refine lv_ladd hx hb (xb_d D_Exact_split 33 rfl) ?_
    exact am_Exact_split_L53 l hfl D A σ MC MS h0 Qr x0 v4 (v5 + (xb_lshl 1 (xb_i h9 x0 6))) x0 h9 hw p e s m args below meth c hC H locs ls k n hE (lv_sub hl [2, 1] rfl) hR hS (by omega) (by omega)
  · have hw := hw.2 hc10
    refine lv_lload hx hb (xb_d D_Exact_split 26 rfl) (lv_at hl 0 rfl) ?_
    refine lv_goto (tgt := 53) hx hb (xb_d D_Exact_split 27 rfl) rfl ?_
    exact am_Exact_split_L53 l hfl D A σ MC MS h0 Qr x0 v4 v5 x0 h9 hw p e s m args below meth c hC H locs ls k n hE (lv_sub hl [2, 1] rfl) hR hS (by omega) (by omega)

set_option maxRecDepth 100000 in
def T_Exact_take : List (Nat × Instr × Nat) := [(0, .iconst 0, 1), (1, .istore 4, 2), (3, .sipush 2200, 3), (6, .iload_n 3, 1), (7, .iadd, 1), (8, .istore 5, 2), (10, .lload_n 1, 1), (11, .lstore 6, 2), (13, .aload_n 0, 1), (14, .iload 5, 2), (16, .iload 5, 2), (18, .invokevirtual 37, 3), (21, .lload 6, 2), (23, .lconst 0, 1), (24, .lcmp, 1), (25, .ifCond .ne 8, 3), (28, .iload 4, 2), (30, .ifCond .le 65, 3), (33, .aload_n 0, 1), (34, .getfield 9, 3), (37, .iload 5, 2), (39, .baload, 1), (40, .lload 6, 2), (42, .lconst 1, 1), (43, .land, 1), (44, .l2i, 1), (45, .isub, 1), (46, .iload 4, 2), (48, .isub, 1), (49, .istore 8, 2), (51, .aload_n 0, 1), (52, .getfield 9, 3), (55, .iload 5, 2), (57, .iload 8, 2), (59, .iconst 1, 1), (60, .iand, 1), (61, .i2b, 1), (62, .bastore, 1), (63, .iload 8, 2), (65, .ifCond .ge 7, 3), (68, .iconst 1, 1), (69, .goto 4, 3), (72, .iconst 0, 1), (73, .istore 4, 2), (75, .aload_n 0, 1), (76, .iload 5, 2), (78, .iload 5, 2), (80, .invokevirtual 37, 3), (83, .lload 6, 2), (85, .iconst 1, 1), (86, .lushr, 1), (87, .lstore 6, 2), (89, .iinc 5 1, 3), (92, .goto (-71), 3), (95, .return_, 1)]
theorem D_Exact_take : ∀ q ∈ T_Exact_take, decode b_Exact_take q.1 = .ok (q.2.1, q.2.2) := by decide +kernel

set_option maxHeartbeats 4000000 in
set_option maxRecDepth 100000 in
theorem am_Exact_take_L73 (l : Launch) (hfl : l.flags = pinnedFlags ++ [noTraceFlag]) (D : va_G) (A : Nat → Prop) (σ MC MS : Nat) (h0 : xb_H) (Qr : xb_H → Prop) (K21 : Nat → Int32 → Int32 → Int64 → xb_H → Prop) (hK21 : ∀ (x0 : Nat) (x4 : Int32) (x5 : Int32) (x6 : Int64) (h : xb_H), K21 x0 x4 x5 x6 h → xb_am l D A σ 3 MC MS h0 (fun v h _ _ => v = none ∧ Qr h) (fun _ _ _ _ => False) y_Exact_take.cls y_Exact_take.name b_Exact_take 9 ([] : List ExceptionTableEntry) none 21 [(0, .ref x0), (4, .int x4), (5, .int x5), (6, .long x6)] [] h 0 0) (x0 : Nat) (x5 : Int32) (x6 : Int64) (y0 : Int32) (h : xb_H) (hw : w_Exact_take_L73 K21 Qr x0 x5 x6 y0 h) : xb_am l D A σ 3 MC MS h0 (fun v h _ _ => v = none ∧ Qr h) (fun _ _ _ _ => False) y_Exact_take.cls y_Exact_take.name b_Exact_take 9 ([] : List ExceptionTableEntry) none 73 [(0, .ref x0), (5, .int x5), (6, .long x6)] [.int y0] h 0 0 := by
  unfold w_Exact_take_L73 at hw
  intro p e s m args below meth c hC H locs ls k n hE hl hR hS hk hn
  obtain ⟨hx, hb, hown, hlocks, htab, hml, hr, hB, hA, hnm⟩ := id hC
  have hts := hB.1.1.at args
  refine lv_istore hx hb (xb_d D_Exact_take 43 rfl) hl (by decide) rfl (fun ls hl => ?_)
  have hl : lv_has ls 9 [(4, .int y0), (0, .ref x0), (5, .int x5), (6, .long x6)] := hl
  refine lv_aload_n hx hb (xb_d D_Exact_take 44 rfl) rfl (lv_at hl 1 rfl) ?_
  refine lv_iload hx hb (xb_d D_Exact_take 45 rfl) (lv_at hl 2 rfl) ?_
  refine lv_iload hx hb (xb_d D_Exact_take 46 rfl) (lv_at hl 2 rfl) ?_
  obtain ⟨hk1, hw⟩ := hw
  refine xb_call0 (D := D) (A := A) (σ := σ) (h := h) (d := 2) (maxL := 3) (rest := []) (av := [.ref x0, .int x5, .int x5]) (fun T hT X => by obtain ⟨cb9, ra9, rb9, rc9⟩ := xb_recv (ci := 9) hR rfl hk1 (by decide); exact xt_invV X hx hown (hts _ m_2cc3108f) (hts _ m_0a8e7a27) (hts _ m_e255a90f) (xt_sigOf (hts _ m_adf48eee)) nm_Exact_reach (by rw [hT]; exact ra9) rb9 rc9 (g := F0 m 80 ls [.int x5, .int x5, .ref x0]) rfl (argsL := [.int x5, .int x5]) (rest := []) rfl rfl (by rw [hb]; exact (xb_d D_Exact_take 47 rfl))) (ok_Exact_reach l hfl D A σ x0 x5 x5 h _ hw) (hml.trans hl.1.symm) (by rw [hb]; exact (xb_d D_Exact_take 47 rfl)) (Nat.le_of_ble_eq_true rfl) (Nat.le_of_ble_eq_true rfl) (Nat.le_of_ble_eq_true rfl) (show k ≤ MC by omega) (show n ≤ MS by omega) (xt_w1 hB.1 m_adf48eee) (xt_cdOf hB.1 m_adf48eee) (hts _ m_b807310b) hB hR hS hA (fun vv h2 H locs hq hEh2 hR hS => ?_)
  obtain ⟨rfl, hw⟩ := hq
  have hw := hw hEh2
  have hE := hE.tr hEh2
  refine W.eq (g2 := F0 m 83 ls []) rfl ?_
  refine lv_lload hx hb (xb_d D_Exact_take 48 rfl) (lv_at hl 3 rfl) ?_
  refine lv_iconst (v := 1) hx hb (xb_d D_Exact_take 49 rfl) (by decide) ?_
  refine lv_lushr (v := (xb_lushr x6 1)) hx hb (xb_d D_Exact_take 50 rfl) rfl ?_
  obtain ⟨v4, ev4⟩ : ∃ x : Int64, x = (xb_lushr x6 1) := ⟨_, rfl⟩
  have hw := hw v4 ev4
  refine xt_numl (y := v4) ev4.symm ?_
  refine lv_lstore hx hb (xb_d D_Exact_take 51 rfl) hl (by decide) rfl (fun ls hl => ?_)
  have hl : lv_has ls 9 [(6, .long v4), (4, .int y0), (0, .ref x0), (5, .int x5)] := hl
  refine lv_iinc (v := (x5 + 1)) (k := 3) hx hb (xb_d D_Exact_take 52 rfl) hl rfl (by first | rfl | decide) (by decide) rfl (fun ls hl => ?_)
  have hl : lv_has ls 9 [(5, .int (x5 + 1)), (6, .long v4), (4, .int y0), (0, .ref x0)] := hl
  refine lv_goto (tgt := 21) hx hb (xb_d D_Exact_take 53 rfl) rfl ?_
  exact hK21 x0 y0 (x5 + 1) v4 h2 hw p e s m args below meth c hC H locs ls k n hE (lv_sub hl [3, 2, 0, 1] rfl) hR hS (by omega) (by omega)

set_option maxHeartbeats 4000000 in
set_option maxRecDepth 100000 in
theorem am_Exact_take_L33 (l : Launch) (hfl : l.flags = pinnedFlags ++ [noTraceFlag]) (D : va_G) (A : Nat → Prop) (σ MC MS : Nat) (h0 : xb_H) (Qr : xb_H → Prop) (K21 : Nat → Int32 → Int32 → Int64 → xb_H → Prop) (hK21 : ∀ (x0 : Nat) (x4 : Int32) (x5 : Int32) (x6 : Int64) (h : xb_H), K21 x0 x4 x5 x6 h → xb_am l D A σ 3 MC MS h0 (fun v h _ _ => v = none ∧ Qr h) (fun _ _ _ _ => False) y_Exact_take.cls y_Exact_take.name b_Exact_take 9 ([] : List ExceptionTableEntry) none 21 [(0, .ref x0), (4, .int x4), (5, .int x5), (6, .long x6)] [] h 0 0) (x0 : Nat) (x4 : Int32) (x5 : Int32) (x6 : Int64) (h : xb_H) (hw : w_Exact_take_L33 K21 Qr x0 x4 x5 x6 h) : xb_am l D A σ 3 MC MS h0 (fun v h _ _ => v = none ∧ Qr h) (fun _ _ _ _ => False) y_Exact_take.cls y_Exact_take.name b_Exact_take 9 ([] : List ExceptionTableEntry) none 33 [(0, .ref x0), (4, .int x4), (5, .int x5), (6, .long x6)] [] h 0 0 := by
  unfold w_Exact_take_L33 at hw
  intro p e s m args below meth c hC H locs ls k n hE hl hR hS hk hn
  obtain ⟨hx, hb, hown, hlocks, htab, hml, hr, hB, hA, hnm⟩ := id hC
  have hts := hB.1.1.at args
  refine lv_aload_n hx hb (xb_d D_Exact_take 18 rfl) rfl (lv_at hl 0 rfl) ?_
  obtain ⟨hk1, hw⟩ := hw
  refine xb_getP (C := R_Exact) (T := F_Exact) (N := 11) hx hb 9 1 hts fin_Exact hown hR hk1 (by decide) rfl (by decide) rfl (hts _ m_3ef37fb8) (fun _ h9 => h9) (xb_d D_Exact_take 19 rfl) ?_
  obtain ⟨b2, eb2, hw⟩ := hw
  refine xb_some eb2 ?_
  refine lv_iload hx hb (xb_d D_Exact_take 20 rfl) (lv_at hl 2 rfl) ?_
  obtain ⟨hk4, hw⟩ := hw
  obtain ⟨hi3, hw⟩ := hw
  refine xb_bald hx hb hR hk4 hi3 (xb_d D_Exact_take 21 rfl) ?_
  refine lv_lload hx hb (xb_d D_Exact_take 22 rfl) (lv_at hl 3 rfl) ?_
  refine lv_lconst (v := 1) hx hb (xb_d D_Exact_take 23 rfl) (by decide) ?_
  refine lv_land hx hb (xb_d D_Exact_take 24 rfl) ?_
  refine lv_l2i hx hb (xb_d D_Exact_take 25 rfl) rfl ?_
  refine lv_isub hx hb (xb_d D_Exact_take 26 rfl) ?_
  refine lv_iload hx hb (xb_d D_Exact_take 27 rfl) (lv_at hl 1 rfl) ?_
  refine lv_isub hx hb (xb_d D_Exact_take 28 rfl) ?_
  obtain ⟨v5, ev5⟩ : ∃ x : Int32, x = (((xb_i h b2 (Int32.toNatClampNeg x5)) - (Int64.toInt32 (x6 &&& 1))) - x4) := ⟨_, rfl⟩
  have hw := hw v5 ev5
  refine xt_numi (y := v5) ev5.symm ?_
  refine lv_istore hx hb (xb_d D_Exact_take 29 rfl) hl (by decide) rfl (fun ls hl => ?_)
  have hl : lv_has ls 9 [(8, .int v5), (0, .ref x0), (4, .int x4), (5, .int x5), (6, .long x6)] := hl
  refine lv_aload_n hx hb (xb_d D_Exact_take 30 rfl) rfl (lv_at hl 1 rfl) ?_
  refine xb_getP (C := R_Exact) (T := F_Exact) (N := 11) hx hb 9 1 hts fin_Exact hown hR hk1 (by decide) rfl (by decide) rfl (hts _ m_3ef37fb8) (fun _ h9 => h9) (xb_d D_Exact_take 31 rfl) ?_
  obtain ⟨b6, eb6, hw⟩ := hw
  refine xb_some eb6 ?_
  refine lv_iload hx hb (xb_d D_Exact_take 32 rfl) (lv_at hl 3 rfl) ?_
  refine lv_iload hx hb (xb_d D_Exact_take 33 rfl) (lv_at hl 0 rfl) ?_
  refine lv_iconst (v := 1) hx hb (xb_d D_Exact_take 34 rfl) (by decide) ?_
  refine lv_iand hx hb (xb_d D_Exact_take 35 rfl) ?_
  refine lv_i2b hx hb (xb_d D_Exact_take 36 rfl) rfl ?_
  obtain ⟨hk7, hw⟩ := hw
  obtain ⟨hi8, hw⟩ := hw
  refine xb_bast hx hb hR hS hk7 hi8 (xb_d D_Exact_take 37 rfl) (fun H locs hR hS => ?_)
  obtain ⟨h9, eh9⟩ : ∃ x : xb_H, x = xb_I h b6 (Int32.toNatClampNeg x5) (vp_nar .byte ((Int32.toInt8 (v5 &&& 1)).toInt32)) := ⟨_, rfl⟩
  rw [← eh9] at hR
  have hw := hw h9 eh9
  have hE : xb_ext h0 h9 := by rw [eh9]; exact hE
  refine lv_iload hx hb (xb_d D_Exact_take 38 rfl) (lv_at hl 0 rfl) ?_
  refine lv_if_ge (tgt := 72) hx hb (xb_d D_Exact_take 39 rfl) rfl (fun hc10 => ?_) (fun hc10 => ?_)
  · have hw := hw.1 hc10
    refine lv_iconst (v := 0) hx hb (xb_d D_Exact_take 42 rfl) (by decide) ?_
    exact am_Exact_take_L73 l hfl D A σ MC MS h0 Qr K21 hK21 x0 x5 x6 0 h9 hw p e s m args below meth c hC H locs ls k n hE (lv_sub hl [1, 3, 4] rfl) hR hS (by omega) (by omega)
  · have hw := hw.2 hc10
    refine lv_iconst (v := 1) hx hb (xb_d D_Exact_take 40 rfl) (by decide) ?_
    refine lv_goto (tgt := 73) hx hb (xb_d D_Exact_take 41 rfl) rfl ?_
    exact am_Exact_take_L73 l hfl D A σ MC MS h0 Qr K21 hK21 x0 x5 x6 1 h9 hw p e s m args below meth c hC H locs ls k n hE (lv_sub hl [1, 3, 4] rfl) hR hS (by omega) (by omega)

set_option maxHeartbeats 4000000 in
set_option maxRecDepth 100000 in
theorem am_Exact_take_L21 (l : Launch) (hfl : l.flags = pinnedFlags ++ [noTraceFlag]) (D : va_G) (A : Nat → Prop) (σ MC MS : Nat) (h0 : xb_H) (Qr : xb_H → Prop) (n9 : Nat) : ∀ (x0 : Nat) (x4 : Int32) (x5 : Int32) (x6 : Int64) (h : xb_H), w_Exact_take_L21 Qr n9 x0 x4 x5 x6 h → xb_am l D A σ 3 MC MS h0 (fun v h _ _ => v = none ∧ Qr h) (fun _ _ _ _ => False) y_Exact_take.cls y_Exact_take.name b_Exact_take 9 ([] : List ExceptionTableEntry) none 21 [(0, .ref x0), (4, .int x4), (5, .int x5), (6, .long x6)] [] h 0 0 := by
  induction n9 with
  | zero => intro x0 x4 x5 x6 h hw; exact False.elim hw
  | succ n9 ih =>
    intro x0 x4 x5 x6 h hw
    unfold w_Exact_take_L21 at hw
    intro p e s m args below meth c hC H locs ls k n hE hl hR hS hk hn
    obtain ⟨hx, hb, hown, hlocks, htab, hml, hr, hB, hA, hnm⟩ := id hC
    have hts := hB.1.1.at args
    refine lv_lload hx hb (xb_d D_Exact_take 12 rfl) (lv_at hl 3 rfl) ?_
    refine lv_lconst (v := 0) hx hb (xb_d D_Exact_take 13 rfl) (by decide) ?_
    refine xb_lc_ne (tgt := 33) hx hb (xb_d D_Exact_take 14 rfl) (xb_d D_Exact_take 15 rfl) rfl (fun hc1 => ?_) (fun hc1 => ?_)
    · have hw := hw.1 hc1
      exact am_Exact_take_L33 l hfl D A σ MC MS h0 Qr (w_Exact_take_L21 Qr n9) ih x0 x4 x5 x6 h hw p e s m args below meth c hC H locs ls k n hE (lv_sub hl [0, 1, 2, 3] rfl) hR hS (by omega) (by omega)
    · have hw := hw.2 hc1
      refine lv_iload hx hb (xb_d D_Exact_take 16 rfl) (lv_at hl 1 rfl) ?_
      refine lv_if_le (tgt := 95) hx hb (xb_d D_Exact_take 17 rfl) rfl (fun hc2 => ?_) (fun hc2 => ?_)
      · have hw := hw.1 hc2
        exact xb_vret 0 0 hx hb hr hlocks (show k + 0 ≤ MC by omega) (show n + 0 ≤ MS by omega) hE hR hS (xb_d D_Exact_take 54 rfl) hw
      · have hw := hw.2 hc2
        exact am_Exact_take_L33 l hfl D A σ MC MS h0 Qr (w_Exact_take_L21 Qr n9) ih x0 x4 x5 x6 h hw p e s m args below meth c hC H locs ls k n hE (lv_sub hl [0, 1, 2, 3] rfl) hR hS (by omega) (by omega)

set_option maxHeartbeats 4000000 in
set_option maxRecDepth 100000 in
theorem ok_Exact_take (l : Launch) (hfl : l.flags = pinnedFlags ++ [noTraceFlag]) (D : va_G) (A : Nat → Prop) (σ : Nat) (x0 : Nat) (x1 : Int64) (x3 : Int32) (h : xb_H) (Qr : xb_H → Prop) (hw : w_Exact_take x0 x1 x3 h Qr) : xb_Met l y_Exact_take [.code y_Exact_take b_Exact_take 9 none] (xb_rm 3 0 0) (xb_Pc D A σ h [.ref x0, .long x1, .int x3]) (xb_Qc D A h 0 0 (fun v h _ _ => v = none ∧ Qr h) (fun _ _ _ _ => False)) A := by
  refine xb_ofAm (cc := b_Exact_take) (by decide) (Nat.le_of_ble_eq_true rfl) ?_
  unfold w_Exact_take at hw
  show xb_am l D A σ 3 0 0 h (fun v h _ _ => v = none ∧ Qr h) (fun _ _ _ _ => False) y_Exact_take.cls y_Exact_take.name b_Exact_take 9 ([] : List ExceptionTableEntry) none 0 [(0, .ref x0), (1, .long x1), (3, .int x3)] [] h 0 0
  obtain ⟨MC, hMC⟩ : ∃ x, x = 0 := ⟨_, rfl⟩
  obtain ⟨MS, hMS⟩ : ∃ x, x = 0 := ⟨_, rfl⟩
  rw [show xb_am l D A σ 3 0 0 = xb_am l D A σ 3 MC MS by rw [hMC, hMS]]
  obtain ⟨h0, hh0⟩ : ∃ x, x = h := ⟨_, rfl⟩
  rw [show xb_am l D A σ 3 MC MS h = xb_am l D A σ 3 MC MS h0 by rw [hh0]]
  intro p e s m args below meth c hC H locs ls k n hE hl hR hS hk hn
  obtain ⟨hx, hb, hown, hlocks, htab, hml, hr, hB, hA, hnm⟩ := id hC
  have hts := hB.1.1.at args
  refine lv_iconst (v := 0) hx hb (xb_d D_Exact_take 0 rfl) (by decide) ?_
  refine lv_istore hx hb (xb_d D_Exact_take 1 rfl) hl (by decide) rfl (fun ls hl => ?_)
  have hl : lv_has ls 9 [(4, .int 0), (0, .ref x0), (1, .long x1), (3, .int x3)] := hl
  refine lv_sipush (v := 2200) hx hb (xb_d D_Exact_take 2 rfl) (by decide) ?_
  refine lv_iload_n hx hb (xb_d D_Exact_take 3 rfl) rfl (lv_at hl 3 rfl) ?_
  refine lv_iadd hx hb (xb_d D_Exact_take 4 rfl) ?_
  obtain ⟨v1, ev1⟩ : ∃ x : Int32, x = (2200 + x3) := ⟨_, rfl⟩
  have hw := hw v1 ev1
  refine xt_numi (y := v1) ev1.symm ?_
  refine lv_istore hx hb (xb_d D_Exact_take 5 rfl) hl (by decide) rfl (fun ls hl => ?_)
  have hl : lv_has ls 9 [(5, .int v1), (4, .int 0), (0, .ref x0), (1, .long x1), (3, .int x3)] := hl
  refine lv_lload_n hx hb (xb_d D_Exact_take 6 rfl) rfl (lv_at hl 3 rfl) ?_
  refine lv_lstore hx hb (xb_d D_Exact_take 7 rfl) hl (by decide) rfl (fun ls hl => ?_)
  have hl : lv_has ls 9 [(6, .long x1), (5, .int v1), (4, .int 0), (0, .ref x0), (1, .long x1), (3, .int x3)] := hl
  refine lv_aload_n hx hb (xb_d D_Exact_take 8 rfl) rfl (lv_at hl 3 rfl) ?_
  refine lv_iload hx hb (xb_d D_Exact_take 9 rfl) (lv_at hl 1 rfl) ?_
  refine lv_iload hx hb (xb_d D_Exact_take 10 rfl) (lv_at hl 1 rfl) ?_
  obtain ⟨hk2, hw⟩ := hw
  refine xb_call0 (D := D) (A := A) (σ := σ) (h := h) (d := 2) (maxL := 3) (rest := []) (av := [.ref x0, .int v1, .int v1]) (fun T hT X => by obtain ⟨cb9, ra9, rb9, rc9⟩ := xb_recv (ci := 9) hR rfl hk2 (by decide); exact xt_invV X hx hown (hts _ m_2cc3108f) (hts _ m_0a8e7a27) (hts _ m_e255a90f) (xt_sigOf (hts _ m_adf48eee)) nm_Exact_reach (by rw [hT]; exact ra9) rb9 rc9 (g := F0 m 18 ls [.int v1, .int v1, .ref x0]) rfl (argsL := [.int v1, .int v1]) (rest := []) rfl rfl (by rw [hb]; exact (xb_d D_Exact_take 11 rfl))) (ok_Exact_reach l hfl D A σ x0 v1 v1 h _ hw) (hml.trans hl.1.symm) (by rw [hb]; exact (xb_d D_Exact_take 11 rfl)) (Nat.le_of_ble_eq_true rfl) (Nat.le_of_ble_eq_true rfl) (Nat.le_of_ble_eq_true rfl) (show k ≤ MC by omega) (show n ≤ MS by omega) (xt_w1 hB.1 m_adf48eee) (xt_cdOf hB.1 m_adf48eee) (hts _ m_b807310b) hB hR hS hA (fun vv h3 H locs hq hEh3 hR hS => ?_)
  obtain ⟨rfl, hw⟩ := hq
  have hw := hw hEh3
  have hE := hE.tr hEh3
  refine W.eq (g2 := F0 m 21 ls []) rfl ?_
  obtain ⟨n8, hw⟩ := hw
  exact am_Exact_take_L21 l hfl D A σ MC MS h0 Qr n8 x0 0 v1 x1 h3 hw p e s m args below meth c hC H locs ls k n hE (lv_sub hl [3, 2, 1, 0] rfl) hR hS (by omega) (by omega)

theorem m_3eb9d58f : (.methodLink "java/util/Arrays" 13 y_Arrays_rangeCheck : Cond) ∈ xt_tbl := xt_in (xt_t4 (List.mem_of_getElem? (i := 190) (by decide +kernel))) (by decide +kernel)
theorem m_0a3a7c6d : (.static y_Arrays_rangeCheck : Cond) ∈ xt_tbl := xt_in (xt_t4 (List.mem_of_getElem? (i := 191) (by decide +kernel))) (by decide +kernel)
theorem m_720b4bb6 : (.code y_Arrays_rangeCheck b_Arrays_rangeCheck 3 none : Cond) ∈ xt_tbl := xt_in (xt_t4 (List.mem_of_getElem? (i := 192) (by decide +kernel))) (by decide +kernel)
theorem nm_Arrays_rangeCheck : xt_nm y_Arrays_rangeCheck 3 := ⟨by decide +kernel, by decide +kernel⟩
set_option maxRecDepth 100000 in
def T_Arrays_fill0 : List (Nat × Instr × Nat) := [(0, .aload_n 0, 1), (1, .arraylength, 1), (2, .iload_n 1, 1), (3, .iload_n 2, 1), (4, .invokestatic 13, 3), (7, .iload_n 1, 1), (8, .istore 4, 2), (10, .iload 4, 2), (12, .iload_n 2, 1), (13, .if_icmp .ge 14, 3), (16, .aload_n 0, 1), (17, .iload 4, 2), (19, .iload_n 3, 1), (20, .bastore, 1), (21, .iinc 4 1, 3), (24, .goto (-14), 3), (27, .return_, 1)]
theorem D_Arrays_fill0 : ∀ q ∈ T_Arrays_fill0, decode b_Arrays_fill0 q.1 = .ok (q.2.1, q.2.2) := by decide +kernel

set_option maxHeartbeats 4000000 in
set_option maxRecDepth 100000 in
theorem am_Arrays_fill0_L10 (l : Launch) (hfl : l.flags = pinnedFlags ++ [noTraceFlag]) (D : va_G) (A : Nat → Prop) (σ MC MS : Nat) (h0 : xb_H) (Qr : xb_H → Prop) (n9 : Nat) : ∀ (x0 : Nat) (x2 : Int32) (x3 : Int32) (x4 : Int32) (h : xb_H), w_Arrays_fill0_L10 Qr n9 x0 x2 x3 x4 h → xb_am l D A σ 3 MC MS h0 (fun v h _ _ => v = none ∧ Qr h) (fun _ _ _ _ => False) y_Arrays_fill0.cls y_Arrays_fill0.name b_Arrays_fill0 5 ([] : List ExceptionTableEntry) none 10 [(0, .ref x0), (2, .int x2), (3, .int x3), (4, .int x4)] [] h 0 0 := by
  induction n9 with
  | zero => intro x0 x2 x3 x4 h hw; exact False.elim hw
  | succ n9 ih =>
    intro x0 x2 x3 x4 h hw
    unfold w_Arrays_fill0_L10 at hw
    intro p e s m args below meth c hC H locs ls k n hE hl hR hS hk hn
    obtain ⟨hx, hb, hown, hlocks, htab, hml, hr, hB, hA, hnm⟩ := id hC
    have hts := hB.1.1.at args
    refine lv_iload hx hb (xb_d D_Arrays_fill0 7 rfl) (lv_at hl 3 rfl) ?_
    refine lv_iload_n hx hb (xb_d D_Arrays_fill0 8 rfl) rfl (lv_at hl 1 rfl) ?_
    refine lv_icmp_ge (tgt := 27) hx hb (xb_d D_Arrays_fill0 9 rfl) rfl (fun hc1 => ?_) (fun hc1 => ?_)
    · have hw := hw.1 hc1
      exact xb_vret 0 0 hx hb hr hlocks (show k + 0 ≤ MC by omega) (show n + 0 ≤ MS by omega) hE hR hS (xb_d D_Arrays_fill0 16 rfl) hw
    · have hw := hw.2 hc1
      refine lv_aload_n hx hb (xb_d D_Arrays_fill0 10 rfl) rfl (lv_at hl 0 rfl) ?_
      refine lv_iload hx hb (xb_d D_Arrays_fill0 11 rfl) (lv_at hl 3 rfl) ?_
      refine lv_iload_n hx hb (xb_d D_Arrays_fill0 12 rfl) rfl (lv_at hl 2 rfl) ?_
      obtain ⟨hk2, hw⟩ := hw
      obtain ⟨hi3, hw⟩ := hw
      refine xb_bast hx hb hR hS hk2 hi3 (xb_d D_Arrays_fill0 13 rfl) (fun H locs hR hS => ?_)
      obtain ⟨h4, eh4⟩ : ∃ x : xb_H, x = xb_I h x0 (Int32.toNatClampNeg x4) (vp_nar .byte x3) := ⟨_, rfl⟩
      rw [← eh4] at hR
      have hw := hw h4 eh4
      have hE : xb_ext h0 h4 := by rw [eh4]; exact hE
      refine lv_iinc (v := (x4 + 1)) (k := 3) hx hb (xb_d D_Arrays_fill0 14 rfl) hl rfl (by first | rfl | decide) (by decide) rfl (fun ls hl => ?_)
      have hl : lv_has ls 5 [(4, .int (x4 + 1)), (0, .ref x0), (2, .int x2), (3, .int x3)] := hl
      refine lv_goto (tgt := 10) hx hb (xb_d D_Arrays_fill0 15 rfl) rfl ?_
      exact ih x0 x2 x3 (x4 + 1) h4 hw p e s m args below meth c hC H locs ls k n hE (lv_sub hl [1, 2, 3, 0] rfl) hR hS (by omega) (by omega)

set_option maxHeartbeats 4000000 in
set_option maxRecDepth 100000 in
theorem ok_Arrays_fill0 (l : Launch) (hfl : l.flags = pinnedFlags ++ [noTraceFlag]) (D : va_G) (A : Nat → Prop) (σ : Nat) (x0 : Nat) (x1 : Int32) (x2 : Int32) (x3 : Int32) (h : xb_H) (Qr : xb_H → Prop) (hw : w_Arrays_fill0 x0 x1 x2 x3 h Qr) : xb_Met l y_Arrays_fill0 [.code y_Arrays_fill0 b_Arrays_fill0 5 none] (xb_rm 3 0 0) (xb_Pc D A σ h [.ref x0, .int x1, .int x2, .int x3]) (xb_Qc D A h 0 0 (fun v h _ _ => v = none ∧ Qr h) (fun _ _ _ _ => False)) A := by
  refine xb_ofAm (cc := b_Arrays_fill0) (by decide) (Nat.le_of_ble_eq_true rfl) ?_
  unfold w_Arrays_fill0 at hw
  show xb_am l D A σ 3 0 0 h (fun v h _ _ => v = none ∧ Qr h) (fun _ _ _ _ => False) y_Arrays_fill0.cls y_Arrays_fill0.name b_Arrays_fill0 5 ([] : List ExceptionTableEntry) none 0 [(0, .ref x0), (1, .int x1), (2, .int x2), (3, .int x3)] [] h 0 0
  obtain ⟨MC, hMC⟩ : ∃ x, x = 0 := ⟨_, rfl⟩
  obtain ⟨MS, hMS⟩ : ∃ x, x = 0 := ⟨_, rfl⟩
  rw [show xb_am l D A σ 3 0 0 = xb_am l D A σ 3 MC MS by rw [hMC, hMS]]
  obtain ⟨h0, hh0⟩ : ∃ x, x = h := ⟨_, rfl⟩
  rw [show xb_am l D A σ 3 MC MS h = xb_am l D A σ 3 MC MS h0 by rw [hh0]]
  intro p e s m args below meth c hC H locs ls k n hE hl hR hS hk hn
  obtain ⟨hx, hb, hown, hlocks, htab, hml, hr, hB, hA, hnm⟩ := id hC
  have hts := hB.1.1.at args
  refine lv_aload_n hx hb (xb_d D_Arrays_fill0 0 rfl) rfl (lv_at hl 0 rfl) ?_
  obtain ⟨hk1, hw⟩ := hw
  refine xb_alen hx hb hR hk1 (by decide) (xb_d D_Arrays_fill0 1 rfl) ?_
  refine lv_iload_n hx hb (xb_d D_Arrays_fill0 2 rfl) rfl (lv_at hl 1 rfl) ?_
  refine lv_iload_n hx hb (xb_d D_Arrays_fill0 3 rfl) rfl (lv_at hl 2 rfl) ?_
  refine xb_call0 (D := D) (A := A) (σ := σ) (h := h) (d := 2) (maxL := 3) (rest := []) (av := [.int (nI (xb_n h x0)), .int x1, .int x2]) (fun T hT X => xt_invS X hx hown (hts _ m_3eb9d58f) (hts _ m_0a3a7c6d) (hts _ m_b999e92a) (xt_sgS (hts _ m_720b4bb6)).1 (xt_sgS (hts _ m_720b4bb6)).2 nm_Arrays_rangeCheck (g := F0 m 4 ls [.int x2, .int x1, .int (nI (xb_n h x0))]) rfl (argsL := [.int (nI (xb_n h x0)), .int x1, .int x2]) (rest := []) rfl rfl (by rw [hb]; exact (xb_d D_Arrays_fill0 4 rfl))) (ok_Arrays_rangeCheck l hfl D A σ (nI (xb_n h x0)) x1 x2 h _ hw) (hml.trans hl.1.symm) (by rw [hb]; exact (xb_d D_Arrays_fill0 4 rfl)) (Nat.le_of_ble_eq_true rfl) (Nat.le_of_ble_eq_true rfl) (Nat.le_of_ble_eq_true rfl) (show k ≤ MC by omega) (show n ≤ MS by omega) (xt_w1 hB.1 m_720b4bb6) (xt_cdOf hB.1 m_720b4bb6) (hts _ m_b999e92a) hB hR hS hA (fun vv h2 H locs hq hEh2 hR hS => ?_)
  obtain ⟨rfl, hw⟩ := hq
  have hw := hw hEh2
  have hE := hE.tr hEh2
  refine W.eq (g2 := F0 m 7 ls []) rfl ?_
  refine lv_iload_n hx hb (xb_d D_Arrays_fill0 5 rfl) rfl (lv_at hl 1 rfl) ?_
  refine lv_istore hx hb (xb_d D_Arrays_fill0 6 rfl) hl (by decide) rfl (fun ls hl => ?_)
  have hl : lv_has ls 5 [(4, .int x1), (0, .ref x0), (1, .int x1), (2, .int x2), (3, .int x3)] := hl
  obtain ⟨n8, hw⟩ := hw
  exact am_Arrays_fill0_L10 l hfl D A σ MC MS h0 Qr n8 x0 x2 x3 x1 h2 hw p e s m args below meth c hC H locs ls k n hE (lv_sub hl [1, 3, 4, 0] rfl) hR hS (by omega) (by omega)

set_option maxRecDepth 100000 in
def T_Arrays_fill1 : List (Nat × Instr × Nat) := [(0, .aload_n 0, 1), (1, .arraylength, 1), (2, .iload_n 1, 1), (3, .iload_n 2, 1), (4, .invokestatic 13, 3), (7, .iload_n 1, 1), (8, .istore 5, 2), (10, .iload 5, 2), (12, .iload_n 2, 1), (13, .if_icmp .ge 14, 3), (16, .aload_n 0, 1), (17, .iload 5, 2), (19, .lload_n 3, 1), (20, .lastore, 1), (21, .iinc 5 1, 3), (24, .goto (-14), 3), (27, .return_, 1)]
theorem D_Arrays_fill1 : ∀ q ∈ T_Arrays_fill1, decode b_Arrays_fill1 q.1 = .ok (q.2.1, q.2.2) := by decide +kernel

set_option maxHeartbeats 4000000 in
set_option maxRecDepth 100000 in
theorem am_Arrays_fill1_L10 (l : Launch) (hfl : l.flags = pinnedFlags ++ [noTraceFlag]) (D : va_G) (A : Nat → Prop) (σ MC MS : Nat) (h0 : xb_H) (Qr : xb_H → Prop) (n9 : Nat) : ∀ (x0 : Nat) (x2 : Int32) (x3 : Int64) (x5 : Int32) (h : xb_H), w_Arrays_fill1_L10 Qr n9 x0 x2 x3 x5 h → xb_am l D A σ 3 MC MS h0 (fun v h _ _ => v = none ∧ Qr h) (fun _ _ _ _ => False) y_Arrays_fill1.cls y_Arrays_fill1.name b_Arrays_fill1 6 ([] : List ExceptionTableEntry) none 10 [(0, .ref x0), (2, .int x2), (3, .long x3), (5, .int x5)] [] h 0 0 := by
  induction n9 with
  | zero => intro x0 x2 x3 x5 h hw; exact False.elim hw
  | succ n9 ih =>
    intro x0 x2 x3 x5 h hw
    unfold w_Arrays_fill1_L10 at hw
    intro p e s m args below meth c hC H locs ls k n hE hl hR hS hk hn
    obtain ⟨hx, hb, hown, hlocks, htab, hml, hr, hB, hA, hnm⟩ := id hC
    have hts := hB.1.1.at args
    refine lv_iload hx hb (xb_d D_Arrays_fill1 7 rfl) (lv_at hl 3 rfl) ?_
    refine lv_iload_n hx hb (xb_d D_Arrays_fill1 8 rfl) rfl (lv_at hl 1 rfl) ?_
    refine lv_icmp_ge (tgt := 27) hx hb (xb_d D_Arrays_fill1 9 rfl) rfl (fun hc1 => ?_) (fun hc1 => ?_)
    · have hw := hw.1 hc1
      exact xb_vret 0 0 hx hb hr hlocks (show k + 0 ≤ MC by omega) (show n + 0 ≤ MS by omega) hE hR hS (xb_d D_Arrays_fill1 16 rfl) hw
    · have hw := hw.2 hc1
      refine lv_aload_n hx hb (xb_d D_Arrays_fill1 10 rfl) rfl (lv_at hl 0 rfl) ?_
      refine lv_iload hx hb (xb_d D_Arrays_fill1 11 rfl) (lv_at hl 3 rfl) ?_
      refine lv_lload_n hx hb (xb_d D_Arrays_fill1 12 rfl) rfl (lv_at hl 2 rfl) ?_
      obtain ⟨hk2, hw⟩ := hw
      obtain ⟨hi3, hw⟩ := hw
      refine xb_last hx hb hR hS hk2 hi3 (xb_d D_Arrays_fill1 13 rfl) (fun H locs hR hS => ?_)
      obtain ⟨h4, eh4⟩ : ∃ x : xb_H, x = xb_L h x0 (Int32.toNatClampNeg x5) x3 := ⟨_, rfl⟩
      rw [← eh4] at hR
      have hw := hw h4 eh4
      have hE : xb_ext h0 h4 := by rw [eh4]; exact hE
      refine lv_iinc (v := (x5 + 1)) (k := 3) hx hb (xb_d D_Arrays_fill1 14 rfl) hl rfl (by first | rfl | decide) (by decide) rfl (fun ls hl => ?_)
      have hl : lv_has ls 6 [(5, .int (x5 + 1)), (0, .ref x0), (2, .int x2), (3, .long x3)] := hl
      refine lv_goto (tgt := 10) hx hb (xb_d D_Arrays_fill1 15 rfl) rfl ?_
      exact ih x0 x2 x3 (x5 + 1) h4 hw p e s m args below meth c hC H locs ls k n hE (lv_sub hl [1, 2, 3, 0] rfl) hR hS (by omega) (by omega)

set_option maxHeartbeats 4000000 in
set_option maxRecDepth 100000 in
theorem ok_Arrays_fill1 (l : Launch) (hfl : l.flags = pinnedFlags ++ [noTraceFlag]) (D : va_G) (A : Nat → Prop) (σ : Nat) (x0 : Nat) (x1 : Int32) (x2 : Int32) (x3 : Int64) (h : xb_H) (Qr : xb_H → Prop) (hw : w_Arrays_fill1 x0 x1 x2 x3 h Qr) : xb_Met l y_Arrays_fill1 [.code y_Arrays_fill1 b_Arrays_fill1 6 none] (xb_rm 3 0 0) (xb_Pc D A σ h [.ref x0, .int x1, .int x2, .long x3]) (xb_Qc D A h 0 0 (fun v h _ _ => v = none ∧ Qr h) (fun _ _ _ _ => False)) A := by
  refine xb_ofAm (cc := b_Arrays_fill1) (by decide) (Nat.le_of_ble_eq_true rfl) ?_
  unfold w_Arrays_fill1 at hw
  show xb_am l D A σ 3 0 0 h (fun v h _ _ => v = none ∧ Qr h) (fun _ _ _ _ => False) y_Arrays_fill1.cls y_Arrays_fill1.name b_Arrays_fill1 6 ([] : List ExceptionTableEntry) none 0 [(0, .ref x0), (1, .int x1), (2, .int x2), (3, .long x3)] [] h 0 0
  obtain ⟨MC, hMC⟩ : ∃ x, x = 0 := ⟨_, rfl⟩
  obtain ⟨MS, hMS⟩ : ∃ x, x = 0 := ⟨_, rfl⟩
  rw [show xb_am l D A σ 3 0 0 = xb_am l D A σ 3 MC MS by rw [hMC, hMS]]
  obtain ⟨h0, hh0⟩ : ∃ x, x = h := ⟨_, rfl⟩
  rw [show xb_am l D A σ 3 MC MS h = xb_am l D A σ 3 MC MS h0 by rw [hh0]]
  intro p e s m args below meth c hC H locs ls k n hE hl hR hS hk hn
  obtain ⟨hx, hb, hown, hlocks, htab, hml, hr, hB, hA, hnm⟩ := id hC
  have hts := hB.1.1.at args
  refine lv_aload_n hx hb (xb_d D_Arrays_fill1 0 rfl) rfl (lv_at hl 0 rfl) ?_
  obtain ⟨hk1, hw⟩ := hw
  refine xb_alen hx hb hR hk1 (by decide) (xb_d D_Arrays_fill1 1 rfl) ?_
  refine lv_iload_n hx hb (xb_d D_Arrays_fill1 2 rfl) rfl (lv_at hl 1 rfl) ?_
  refine lv_iload_n hx hb (xb_d D_Arrays_fill1 3 rfl) rfl (lv_at hl 2 rfl) ?_
  refine xb_call0 (D := D) (A := A) (σ := σ) (h := h) (d := 2) (maxL := 3) (rest := []) (av := [.int (nI (xb_n h x0)), .int x1, .int x2]) (fun T hT X => xt_invS X hx hown (hts _ m_3eb9d58f) (hts _ m_0a3a7c6d) (hts _ m_b999e92a) (xt_sgS (hts _ m_720b4bb6)).1 (xt_sgS (hts _ m_720b4bb6)).2 nm_Arrays_rangeCheck (g := F0 m 4 ls [.int x2, .int x1, .int (nI (xb_n h x0))]) rfl (argsL := [.int (nI (xb_n h x0)), .int x1, .int x2]) (rest := []) rfl rfl (by rw [hb]; exact (xb_d D_Arrays_fill1 4 rfl))) (ok_Arrays_rangeCheck l hfl D A σ (nI (xb_n h x0)) x1 x2 h _ hw) (hml.trans hl.1.symm) (by rw [hb]; exact (xb_d D_Arrays_fill1 4 rfl)) (Nat.le_of_ble_eq_true rfl) (Nat.le_of_ble_eq_true rfl) (Nat.le_of_ble_eq_true rfl) (show k ≤ MC by omega) (show n ≤ MS by omega) (xt_w1 hB.1 m_720b4bb6) (xt_cdOf hB.1 m_720b4bb6) (hts _ m_b999e92a) hB hR hS hA (fun vv h2 H locs hq hEh2 hR hS => ?_)
  obtain ⟨rfl, hw⟩ := hq
  have hw := hw hEh2
  have hE := hE.tr hEh2
  refine W.eq (g2 := F0 m 7 ls []) rfl ?_
  refine lv_iload_n hx hb (xb_d D_Arrays_fill1 5 rfl) rfl (lv_at hl 1 rfl) ?_
  refine lv_istore hx hb (xb_d D_Arrays_fill1 6 rfl) hl (by decide) rfl (fun ls hl => ?_)
  have hl : lv_has ls 6 [(5, .int x1), (0, .ref x0), (1, .int x1), (2, .int x2), (3, .long x3)] := hl
  obtain ⟨n8, hw⟩ := hw
  exact am_Arrays_fill1_L10 l hfl D A σ MC MS h0 Qr n8 x0 x2 x3 x1 h2 hw p e s m args below meth c hC H locs ls k n hE (lv_sub hl [1, 3, 4, 0] rfl) hR hS (by omega) (by omega)

