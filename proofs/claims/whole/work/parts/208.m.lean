theorem m_da28b66e : (.methodLink "StackHost$Format" 77 y_Format_isInfinite : Cond) ∈ xt_tbl := xt_in (xt_t8 (List.mem_of_getElem? (i := 61) (by decide +kernel))) (by decide +kernel)
theorem m_a2bd27ec : (.instanceMethod y_Format_isInfinite : Cond) ∈ xt_tbl := xt_in (xt_t8 (List.mem_of_getElem? (i := 63) (by decide +kernel))) (by decide +kernel)
theorem m_ea0426d6 : (.selects "StackHost$Format" y_Format_isInfinite y_Format_isInfinite : Cond) ∈ xt_tbl := xt_in (xt_v7 (q := (⟨"StackHost$Format", "isInfinite", "(J)Z"⟩, 5)) (List.mem_of_getElem? (i := 4) (by decide +kernel))) (by decide +kernel)
theorem m_62c3a91f : (.code y_Format_isInfinite b_Format_isInfinite 3 (some .boolean) : Cond) ∈ xt_tbl := xt_in (xt_t8 (List.mem_of_getElem? (i := 64) (by decide +kernel))) (by decide +kernel)
theorem nm_Format_isInfinite : xt_nm y_Format_isInfinite 1 := ⟨by decide +kernel, by decide +kernel⟩
set_option maxRecDepth 100000 in
def T_Format_sumOfBounds : List (Nat × Instr × Nat) := [(0, .aload_n 0, 1), (1, .lload_n 1, 1), (2, .invokevirtual 77, 3), (5, .ifCond .eq 26, 3), (8, .aload_n 0, 1), (9, .lload_n 3, 1), (10, .invokevirtual 77, 3), (13, .ifCond .eq 16, 3), (16, .lload_n 1, 1), (17, .lload_n 3, 1), (18, .lcmp, 1), (19, .ifCond .eq 10, 3), (22, .aload_n 0, 1), (23, .getfield 27, 3), (26, .goto 4, 3), (29, .lload_n 1, 1), (30, .lreturn, 1), (31, .aload_n 0, 1), (32, .lload_n 3, 1), (33, .invokevirtual 77, 3), (36, .ifCond .eq 5, 3), (39, .lload_n 3, 1), (40, .lreturn, 1), (41, .aload_n 0, 1), (42, .lload_n 1, 1), (43, .invokevirtual 66, 3), (46, .ifCond .eq 19, 3), (49, .aload_n 0, 1), (50, .lload_n 3, 1), (51, .invokevirtual 66, 3), (54, .ifCond .eq 9, 3), (57, .lload_n 1, 1), (58, .lload_n 3, 1), (59, .land, 1), (60, .goto 4, 3), (63, .lload_n 3, 1), (64, .lreturn, 1), (65, .lload_n 1, 1), (66, .lreturn, 1)]
theorem D_Format_sumOfBounds : ∀ q ∈ T_Format_sumOfBounds, decode b_Format_sumOfBounds q.1 = .ok (q.2.1, q.2.2) := by decide +kernel

set_option maxHeartbeats 4000000 in
set_option maxRecDepth 100000 in
theorem am_Format_sumOfBounds_L64 (l : Launch) (hfl : l.flags = pinnedFlags ++ [noTraceFlag]) (D : va_G) (A : Nat → Prop) (σ MC MS : Nat) (h0 : xb_H) (Qr : Int64 → xb_H → Prop) (y0 : Int64) (h : xb_H) (hw : w_Format_sumOfBounds_L64 Qr y0 h) : xb_am l D A σ 3 MC MS h0 (fun v h _ _ => ∃ r, v = some (.long r) ∧ Qr r h) (fun _ _ _ _ => False) y_Format_sumOfBounds.cls y_Format_sumOfBounds.name b_Format_sumOfBounds 5 ([] : List ExceptionTableEntry) (some .long) 64 [] [.long y0] h 0 0 := by
  unfold w_Format_sumOfBounds_L64 at hw
  intro p e s m args below meth c hC H locs ls k n hE hl hR hS hk hn
  obtain ⟨hx, hb, hown, hlocks, htab, hml, hr, hB, hA, hnm⟩ := id hC
  have hts := hB.1.1.at args
  exact xb_lret 0 0 hx hb hr hlocks (show k + 0 ≤ MC by omega) (show n + 0 ≤ MS by omega) hE hR hS (xb_d D_Format_sumOfBounds 36 rfl) hw

set_option maxHeartbeats 4000000 in
set_option maxRecDepth 100000 in
theorem am_Format_sumOfBounds_L30 (l : Launch) (hfl : l.flags = pinnedFlags ++ [noTraceFlag]) (D : va_G) (A : Nat → Prop) (σ MC MS : Nat) (h0 : xb_H) (Qr : Int64 → xb_H → Prop) (y0 : Int64) (h : xb_H) (hw : w_Format_sumOfBounds_L30 Qr y0 h) : xb_am l D A σ 3 MC MS h0 (fun v h _ _ => ∃ r, v = some (.long r) ∧ Qr r h) (fun _ _ _ _ => False) y_Format_sumOfBounds.cls y_Format_sumOfBounds.name b_Format_sumOfBounds 5 ([] : List ExceptionTableEntry) (some .long) 30 [] [.long y0] h 0 0 := by
  unfold w_Format_sumOfBounds_L30 at hw
  intro p e s m args below meth c hC H locs ls k n hE hl hR hS hk hn
  obtain ⟨hx, hb, hown, hlocks, htab, hml, hr, hB, hA, hnm⟩ := id hC
  have hts := hB.1.1.at args
  exact xb_lret 0 0 hx hb hr hlocks (show k + 0 ≤ MC by omega) (show n + 0 ≤ MS by omega) hE hR hS (xb_d D_Format_sumOfBounds 16 rfl) hw

set_option maxHeartbeats 4000000 in
set_option maxRecDepth 100000 in
theorem am_Format_sumOfBounds_L29 (l : Launch) (hfl : l.flags = pinnedFlags ++ [noTraceFlag]) (D : va_G) (A : Nat → Prop) (σ MC MS : Nat) (h0 : xb_H) (Qr : Int64 → xb_H → Prop) (x1 : Int64) (h : xb_H) (hw : w_Format_sumOfBounds_L29 Qr x1 h) : xb_am l D A σ 3 MC MS h0 (fun v h _ _ => ∃ r, v = some (.long r) ∧ Qr r h) (fun _ _ _ _ => False) y_Format_sumOfBounds.cls y_Format_sumOfBounds.name b_Format_sumOfBounds 5 ([] : List ExceptionTableEntry) (some .long) 29 [(1, .long x1)] [] h 0 0 := by
  unfold w_Format_sumOfBounds_L29 at hw
  intro p e s m args below meth c hC H locs ls k n hE hl hR hS hk hn
  obtain ⟨hx, hb, hown, hlocks, htab, hml, hr, hB, hA, hnm⟩ := id hC
  have hts := hB.1.1.at args
  refine lv_lload_n hx hb (xb_d D_Format_sumOfBounds 15 rfl) rfl (lv_at hl 0 rfl) ?_
  exact am_Format_sumOfBounds_L30 l hfl D A σ MC MS h0 Qr x1 h hw p e s m args below meth c hC H locs ls k n hE (lv_sub hl [] rfl) hR hS (by omega) (by omega)

set_option maxHeartbeats 4000000 in
set_option maxRecDepth 100000 in
theorem ok_Format_sumOfBounds (l : Launch) (hfl : l.flags = pinnedFlags ++ [noTraceFlag]) (D : va_G) (A : Nat → Prop) (σ : Nat) (x0 : Nat) (x1 : Int64) (x3 : Int64) (h : xb_H) (Qr : Int64 → xb_H → Prop) (hw : w_Format_sumOfBounds x0 x1 x3 h Qr) : xb_Met l y_Format_sumOfBounds [.code y_Format_sumOfBounds b_Format_sumOfBounds 5 (some .long)] (xb_rm 3 0 0) (xb_Pc D A σ h [.ref x0, .long x1, .long x3]) (xb_Qc D A h 0 0 (fun v h _ _ => ∃ r, v = some (.long r) ∧ Qr r h) (fun _ _ _ _ => False)) A := by
  refine xb_ofAm (cc := b_Format_sumOfBounds) (by decide) (Nat.le_of_ble_eq_true rfl) ?_
  unfold w_Format_sumOfBounds at hw
  show xb_am l D A σ 3 0 0 h (fun v h _ _ => ∃ r, v = some (.long r) ∧ Qr r h) (fun _ _ _ _ => False) y_Format_sumOfBounds.cls y_Format_sumOfBounds.name b_Format_sumOfBounds 5 ([] : List ExceptionTableEntry) (some .long) 0 [(0, .ref x0), (1, .long x1), (3, .long x3)] [] h 0 0
  obtain ⟨MC, hMC⟩ : ∃ x, x = 0 := ⟨_, rfl⟩
  obtain ⟨MS, hMS⟩ : ∃ x, x = 0 := ⟨_, rfl⟩
  rw [show xb_am l D A σ 3 0 0 = xb_am l D A σ 3 MC MS by rw [hMC, hMS]]
  obtain ⟨h0, hh0⟩ : ∃ x, x = h := ⟨_, rfl⟩
  rw [show xb_am l D A σ 3 MC MS h = xb_am l D A σ 3 MC MS h0 by rw [hh0]]
  intro p e s m args below meth c hC H locs ls k n hE hl hR hS hk hn
  obtain ⟨hx, hb, hown, hlocks, htab, hml, hr, hB, hA, hnm⟩ := id hC
  have hts := hB.1.1.at args
  refine lv_aload_n hx hb (xb_d D_Format_sumOfBounds 0 rfl) rfl (lv_at hl 0 rfl) ?_
  refine lv_lload_n hx hb (xb_d D_Format_sumOfBounds 1 rfl) rfl (lv_at hl 1 rfl) ?_
  obtain ⟨hk1, hw⟩ := hw
  refine xb_call0 (D := D) (A := A) (σ := σ) (h := h) (d := 2) (maxL := 3) (rest := []) (av := [.ref x0, .long x1]) (fun T hT X => by obtain ⟨cb9, ra9, rb9, rc9⟩ := xb_recv (ci := 5) hR rfl hk1 (by decide); exact xt_invV X hx hown (hts _ m_da28b66e) (hts _ m_a2bd27ec) (hts _ m_ea0426d6) (xt_sigOf (hts _ m_62c3a91f)) nm_Format_isInfinite (by rw [hT]; exact ra9) rb9 rc9 (g := F0 m 2 ls [.long x1, .ref x0]) rfl (argsL := [.long x1]) (rest := []) rfl rfl (by rw [hb]; exact (xb_d D_Format_sumOfBounds 2 rfl))) (ok_Format_isInfinite l hfl D A σ x0 x1 h _ hw) (hml.trans hl.1.symm) (by rw [hb]; exact (xb_d D_Format_sumOfBounds 2 rfl)) (Nat.le_of_ble_eq_true rfl) (Nat.le_of_ble_eq_true rfl) (Nat.le_of_ble_eq_true rfl) (show k ≤ MC by omega) (show n ≤ MS by omega) (xt_w1 hB.1 m_62c3a91f) (xt_cdOf hB.1 m_62c3a91f) (hts _ m_64857de5) hB hR hS hA (fun vv h2 H locs hq hEh2 hR hS => ?_)
  obtain ⟨r3, rfl, hw⟩ := hq
  have hw := hw hEh2
  have hE := hE.tr hEh2
  refine W.eq (g2 := F0 m 5 ls [.int r3]) rfl ?_
  refine lv_if_eq (tgt := 31) hx hb (xb_d D_Format_sumOfBounds 3 rfl) rfl (fun hc4 => ?_) (fun hc4 => ?_)
  · have hw := hw.1 hc4
    refine lv_aload_n hx hb (xb_d D_Format_sumOfBounds 17 rfl) rfl (lv_at hl 0 rfl) ?_
    refine lv_lload_n hx hb (xb_d D_Format_sumOfBounds 18 rfl) rfl (lv_at hl 2 rfl) ?_
    have hk1 : xb_k h2 x0 = 6 := hEh2.k hk1
    refine xb_call0 (D := D) (A := A) (σ := σ) (h := h2) (d := 2) (maxL := 3) (rest := []) (av := [.ref x0, .long x3]) (fun T hT X => by obtain ⟨cb9, ra9, rb9, rc9⟩ := xb_recv (ci := 5) hR rfl hk1 (by decide); exact xt_invV X hx hown (hts _ m_da28b66e) (hts _ m_a2bd27ec) (hts _ m_ea0426d6) (xt_sigOf (hts _ m_62c3a91f)) nm_Format_isInfinite (by rw [hT]; exact ra9) rb9 rc9 (g := F0 m 33 ls [.long x3, .ref x0]) rfl (argsL := [.long x3]) (rest := []) rfl rfl (by rw [hb]; exact (xb_d D_Format_sumOfBounds 19 rfl))) (ok_Format_isInfinite l hfl D A σ x0 x3 h2 _ hw) (hml.trans hl.1.symm) (by rw [hb]; exact (xb_d D_Format_sumOfBounds 19 rfl)) (Nat.le_of_ble_eq_true rfl) (Nat.le_of_ble_eq_true rfl) (Nat.le_of_ble_eq_true rfl) (show k ≤ MC by omega) (show n ≤ MS by omega) (xt_w1 hB.1 m_62c3a91f) (xt_cdOf hB.1 m_62c3a91f) (hts _ m_64857de5) hB hR hS hA (fun vv h5 H locs hq hEh5 hR hS => ?_)
    obtain ⟨r6, rfl, hw⟩ := hq
    have hw := hw hEh5
    have hE := hE.tr hEh5
    refine W.eq (g2 := F0 m 36 ls [.int r6]) rfl ?_
    refine lv_if_eq (tgt := 41) hx hb (xb_d D_Format_sumOfBounds 20 rfl) rfl (fun hc7 => ?_) (fun hc7 => ?_)
    · have hw := hw.1 hc7
      refine lv_aload_n hx hb (xb_d D_Format_sumOfBounds 23 rfl) rfl (lv_at hl 0 rfl) ?_
      refine lv_lload_n hx hb (xb_d D_Format_sumOfBounds 24 rfl) rfl (lv_at hl 1 rfl) ?_
      have hk1 : xb_k h5 x0 = 6 := hEh5.k hk1
      refine xb_call0 (D := D) (A := A) (σ := σ) (h := h5) (d := 2) (maxL := 3) (rest := []) (av := [.ref x0, .long x1]) (fun T hT X => by obtain ⟨cb9, ra9, rb9, rc9⟩ := xb_recv (ci := 5) hR rfl hk1 (by decide); exact xt_invV X hx hown (hts _ m_113bafb3) (hts _ m_ac384f2f) (hts _ m_7587e6d0) (xt_sigOf (hts _ m_8c0ed8f1)) nm_Format_isZero (by rw [hT]; exact ra9) rb9 rc9 (g := F0 m 43 ls [.long x1, .ref x0]) rfl (argsL := [.long x1]) (rest := []) rfl rfl (by rw [hb]; exact (xb_d D_Format_sumOfBounds 25 rfl))) (ok_Format_isZero l hfl D A σ x0 x1 h5 _ hw) (hml.trans hl.1.symm) (by rw [hb]; exact (xb_d D_Format_sumOfBounds 25 rfl)) (Nat.le_of_ble_eq_true rfl) (Nat.le_of_ble_eq_true rfl) (Nat.le_of_ble_eq_true rfl) (show k ≤ MC by omega) (show n ≤ MS by omega) (xt_w1 hB.1 m_8c0ed8f1) (xt_cdOf hB.1 m_8c0ed8f1) (hts _ m_64857de5) hB hR hS hA (fun vv h8 H locs hq hEh8 hR hS => ?_)
      obtain ⟨r9, rfl, hw⟩ := hq
      have hw := hw hEh8
      have hE := hE.tr hEh8
      refine W.eq (g2 := F0 m 46 ls [.int r9]) rfl ?_
      refine lv_if_eq (tgt := 65) hx hb (xb_d D_Format_sumOfBounds 26 rfl) rfl (fun hc10 => ?_) (fun hc10 => ?_)
      · have hw := hw.1 hc10
        refine lv_lload_n hx hb (xb_d D_Format_sumOfBounds 37 rfl) rfl (lv_at hl 1 rfl) ?_
        exact xb_lret 0 0 hx hb hr hlocks (show k + 0 ≤ MC by omega) (show n + 0 ≤ MS by omega) hE hR hS (xb_d D_Format_sumOfBounds 38 rfl) hw
      · have hw := hw.2 hc10
        refine lv_aload_n hx hb (xb_d D_Format_sumOfBounds 27 rfl) rfl (lv_at hl 0 rfl) ?_
        refine lv_lload_n hx hb (xb_d D_Format_sumOfBounds 28 rfl) rfl (lv_at hl 2 rfl) ?_
        have hk1 : xb_k h8 x0 = 6 := hEh8.k hk1
        refine xb_call0 (D := D) (A := A) (σ := σ) (h := h8) (d := 2) (maxL := 3) (rest := []) (av := [.ref x0, .long x3]) (fun T hT X => by obtain ⟨cb9, ra9, rb9, rc9⟩ := xb_recv (ci := 5) hR rfl hk1 (by decide); exact xt_invV X hx hown (hts _ m_113bafb3) (hts _ m_ac384f2f) (hts _ m_7587e6d0) (xt_sigOf (hts _ m_8c0ed8f1)) nm_Format_isZero (by rw [hT]; exact ra9) rb9 rc9 (g := F0 m 51 ls [.long x3, .ref x0]) rfl (argsL := [.long x3]) (rest := []) rfl rfl (by rw [hb]; exact (xb_d D_Format_sumOfBounds 29 rfl))) (ok_Format_isZero l hfl D A σ x0 x3 h8 _ hw) (hml.trans hl.1.symm) (by rw [hb]; exact (xb_d D_Format_sumOfBounds 29 rfl)) (Nat.le_of_ble_eq_true rfl) (Nat.le_of_ble_eq_true rfl) (Nat.le_of_ble_eq_true rfl) (show k ≤ MC by omega) (show n ≤ MS by omega) (xt_w1 hB.1 m_8c0ed8f1) (xt_cdOf hB.1 m_8c0ed8f1) (hts _ m_64857de5) hB hR hS hA (fun vv h11 H locs hq hEh11 hR hS => ?_)
        obtain ⟨r12, rfl, hw⟩ := hq
        have hw := hw hEh11
        have hE := hE.tr hEh11
        refine W.eq (g2 := F0 m 54 ls [.int r12]) rfl ?_
        refine lv_if_eq (tgt := 63) hx hb (xb_d D_Format_sumOfBounds 30 rfl) rfl (fun hc13 => ?_) (fun hc13 => ?_)
        · have hw := hw.1 hc13
          refine lv_lload_n hx hb (xb_d D_Format_sumOfBounds 35 rfl) rfl (lv_at hl 2 rfl) ?_
          exact am_Format_sumOfBounds_L64 l hfl D A σ MC MS h0 Qr x3 h11 hw p e s m args below meth c hC H locs ls k n hE (lv_sub hl [] rfl) hR hS (by omega) (by omega)
        · have hw := hw.2 hc13
          refine lv_lload_n hx hb (xb_d D_Format_sumOfBounds 31 rfl) rfl (lv_at hl 1 rfl) ?_
          refine lv_lload_n hx hb (xb_d D_Format_sumOfBounds 32 rfl) rfl (lv_at hl 2 rfl) ?_
          refine lv_land hx hb (xb_d D_Format_sumOfBounds 33 rfl) ?_
          refine lv_goto (tgt := 64) hx hb (xb_d D_Format_sumOfBounds 34 rfl) rfl ?_
          exact am_Format_sumOfBounds_L64 l hfl D A σ MC MS h0 Qr (x1 &&& x3) h11 hw p e s m args below meth c hC H locs ls k n hE (lv_sub hl [] rfl) hR hS (by omega) (by omega)
    · have hw := hw.2 hc7
      refine lv_lload_n hx hb (xb_d D_Format_sumOfBounds 21 rfl) rfl (lv_at hl 2 rfl) ?_
      exact xb_lret 0 0 hx hb hr hlocks (show k + 0 ≤ MC by omega) (show n + 0 ≤ MS by omega) hE hR hS (xb_d D_Format_sumOfBounds 22 rfl) hw
  · have hw := hw.2 hc4
    refine lv_aload_n hx hb (xb_d D_Format_sumOfBounds 4 rfl) rfl (lv_at hl 0 rfl) ?_
    refine lv_lload_n hx hb (xb_d D_Format_sumOfBounds 5 rfl) rfl (lv_at hl 2 rfl) ?_
    have hk1 : xb_k h2 x0 = 6 := hEh2.k hk1
    refine xb_call0 (D := D) (A := A) (σ := σ) (h := h2) (d := 2) (maxL := 3) (rest := []) (av := [.ref x0, .long x3]) (fun T hT X => by obtain ⟨cb9, ra9, rb9, rc9⟩ := xb_recv (ci := 5) hR rfl hk1 (by decide); exact xt_invV X hx hown (hts _ m_da28b66e) (hts _ m_a2bd27ec) (hts _ m_ea0426d6) (xt_sigOf (hts _ m_62c3a91f)) nm_Format_isInfinite (by rw [hT]; exact ra9) rb9 rc9 (g := F0 m 10 ls [.long x3, .ref x0]) rfl (argsL := [.long x3]) (rest := []) rfl rfl (by rw [hb]; exact (xb_d D_Format_sumOfBounds 6 rfl))) (ok_Format_isInfinite l hfl D A σ x0 x3 h2 _ hw) (hml.trans hl.1.symm) (by rw [hb]; exact (xb_d D_Format_sumOfBounds 6 rfl)) (Nat.le_of_ble_eq_true rfl) (Nat.le_of_ble_eq_true rfl) (Nat.le_of_ble_eq_true rfl) (show k ≤ MC by omega) (show n ≤ MS by omega) (xt_w1 hB.1 m_62c3a91f) (xt_cdOf hB.1 m_62c3a91f) (hts _ m_64857de5) hB hR hS hA (fun vv h14 H locs hq hEh14 hR hS => ?_)
    obtain ⟨r15, rfl, hw⟩ := hq
    have hw := hw hEh14
    have hE := hE.tr hEh14
    refine W.eq (g2 := F0 m 13 ls [.int r15]) rfl ?_
    refine lv_if_eq (tgt := 29) hx hb (xb_d D_Format_sumOfBounds 7 rfl) rfl (fun hc16 => ?_) (fun hc16 => ?_)
    · have hw := hw.1 hc16
      exact am_Format_sumOfBounds_L29 l hfl D A σ MC MS h0 Qr x1 h14 hw p e s m args below meth c hC H locs ls k n hE (lv_sub hl [1] rfl) hR hS (by omega) (by omega)
    · have hw := hw.2 hc16
      refine lv_lload_n hx hb (xb_d D_Format_sumOfBounds 8 rfl) rfl (lv_at hl 1 rfl) ?_
      refine lv_lload_n hx hb (xb_d D_Format_sumOfBounds 9 rfl) rfl (lv_at hl 2 rfl) ?_
      refine xb_lc_eq (tgt := 29) hx hb (xb_d D_Format_sumOfBounds 10 rfl) (xb_d D_Format_sumOfBounds 11 rfl) rfl (fun hc17 => ?_) (fun hc17 => ?_)
      · have hw := hw.1 hc17
        exact am_Format_sumOfBounds_L29 l hfl D A σ MC MS h0 Qr x1 h14 hw p e s m args below meth c hC H locs ls k n hE (lv_sub hl [1] rfl) hR hS (by omega) (by omega)
      · have hw := hw.2 hc17
        refine lv_aload_n hx hb (xb_d D_Format_sumOfBounds 12 rfl) rfl (lv_at hl 0 rfl) ?_
        have hk1 : xb_k h14 x0 = 6 := hEh14.k hk1
        refine xb_getL (C := R_Format) (T := F_Format) (N := 5) hx hb 5 4 hts fin_Format hown hR hk1 (by decide) rfl (by decide) rfl (hts _ m_291a6679) (fun _ h9 => h9) (xb_d D_Format_sumOfBounds 13 rfl) ?_
        refine lv_goto (tgt := 30) hx hb (xb_d D_Format_sumOfBounds 14 rfl) rfl ?_
        exact am_Format_sumOfBounds_L30 l hfl D A σ MC MS h0 Qr (xb_l h14 x0 4) h14 hw p e s m args below meth c hC H locs ls k n hE (lv_sub hl [] rfl) hR hS (by omega) (by omega)

set_option maxRecDepth 100000 in
def T_Format_wholePart : List (Nat × Instr × Nat) := [(0, .aload_n 0, 1), (1, .lload_n 1, 1), (2, .invokevirtual 63, 3), (5, .istore_n 3, 1), (6, .iload_n 3, 1), (7, .ifCond .ge 5, 3), (10, .lconst 0, 1), (11, .lreturn, 1), (12, .lconst 1, 1), (13, .aload_n 0, 1), (14, .getfield 9, 3), (17, .iconst 1, 1), (18, .isub, 1), (19, .lshl, 1), (20, .lstore 4, 2), (22, .lload_n 1, 1), (23, .lload 4, 2), (25, .lconst 1, 1), (26, .lsub, 1), (27, .land, 1), (28, .lload 4, 2), (30, .lor, 1), (31, .lstore 6, 2), (33, .iload_n 3, 1), (34, .aload_n 0, 1), (35, .getfield 9, 3), (38, .iconst 1, 1), (39, .isub, 1), (40, .isub, 1), (41, .istore 8, 2), (43, .iload 8, 2), (45, .ifCond .lt 11, 3), (48, .lload 6, 2), (50, .iload 8, 2), (52, .lshl, 1), (53, .goto 9, 3), (56, .lload 6, 2), (58, .iload 8, 2), (60, .ineg, 1), (61, .lushr, 1), (62, .lreturn, 1)]
theorem D_Format_wholePart : ∀ q ∈ T_Format_wholePart, decode b_Format_wholePart q.1 = .ok (q.2.1, q.2.2) := by decide +kernel

set_option maxHeartbeats 4000000 in
set_option maxRecDepth 100000 in
theorem am_Format_wholePart_L62 (l : Launch) (hfl : l.flags = pinnedFlags ++ [noTraceFlag]) (D : va_G) (A : Nat → Prop) (σ MC MS : Nat) (h0 : xb_H) (Qr : Int64 → xb_H → Prop) (y0 : Int64) (h : xb_H) (hw : w_Format_wholePart_L62 Qr y0 h) : xb_am l D A σ 3 MC MS h0 (fun v h _ _ => ∃ r, v = some (.long r) ∧ Qr r h) (fun _ _ _ _ => False) y_Format_wholePart.cls y_Format_wholePart.name b_Format_wholePart 9 ([] : List ExceptionTableEntry) (some .long) 62 [] [.long y0] h 0 0 := by
  unfold w_Format_wholePart_L62 at hw
  intro p e s m args below meth c hC H locs ls k n hE hl hR hS hk hn
  obtain ⟨hx, hb, hown, hlocks, htab, hml, hr, hB, hA, hnm⟩ := id hC
  have hts := hB.1.1.at args
  exact xb_lret 0 0 hx hb hr hlocks (show k + 0 ≤ MC by omega) (show n + 0 ≤ MS by omega) hE hR hS (xb_d D_Format_wholePart 40 rfl) hw

set_option maxHeartbeats 4000000 in
set_option maxRecDepth 100000 in
theorem ok_Format_wholePart (l : Launch) (hfl : l.flags = pinnedFlags ++ [noTraceFlag]) (D : va_G) (A : Nat → Prop) (σ : Nat) (x0 : Nat) (x1 : Int64) (h : xb_H) (Qr : Int64 → xb_H → Prop) (hw : w_Format_wholePart x0 x1 h Qr) : xb_Met l y_Format_wholePart [.code y_Format_wholePart b_Format_wholePart 9 (some .long)] (xb_rm 3 0 0) (xb_Pc D A σ h [.ref x0, .long x1]) (xb_Qc D A h 0 0 (fun v h _ _ => ∃ r, v = some (.long r) ∧ Qr r h) (fun _ _ _ _ => False)) A := by
  refine xb_ofAm (cc := b_Format_wholePart) (by decide) (Nat.le_of_ble_eq_true rfl) ?_
  unfold w_Format_wholePart at hw
  show xb_am l D A σ 3 0 0 h (fun v h _ _ => ∃ r, v = some (.long r) ∧ Qr r h) (fun _ _ _ _ => False) y_Format_wholePart.cls y_Format_wholePart.name b_Format_wholePart 9 ([] : List ExceptionTableEntry) (some .long) 0 [(0, .ref x0), (1, .long x1)] [] h 0 0
  obtain ⟨MC, hMC⟩ : ∃ x, x = 0 := ⟨_, rfl⟩
  obtain ⟨MS, hMS⟩ : ∃ x, x = 0 := ⟨_, rfl⟩
  rw [show xb_am l D A σ 3 0 0 = xb_am l D A σ 3 MC MS by rw [hMC, hMS]]
  obtain ⟨h0, hh0⟩ : ∃ x, x = h := ⟨_, rfl⟩
  rw [show xb_am l D A σ 3 MC MS h = xb_am l D A σ 3 MC MS h0 by rw [hh0]]
  intro p e s m args below meth c hC H locs ls k n hE hl hR hS hk hn
  obtain ⟨hx, hb, hown, hlocks, htab, hml, hr, hB, hA, hnm⟩ := id hC
  have hts := hB.1.1.at args
  refine lv_aload_n hx hb (xb_d D_Format_wholePart 0 rfl) rfl (lv_at hl 0 rfl) ?_
  refine lv_lload_n hx hb (xb_d D_Format_wholePart 1 rfl) rfl (lv_at hl 1 rfl) ?_
  obtain ⟨hk1, hw⟩ := hw
  refine xb_call0 (D := D) (A := A) (σ := σ) (h := h) (d := 2) (maxL := 3) (rest := []) (av := [.ref x0, .long x1]) (fun T hT X => by obtain ⟨cb9, ra9, rb9, rc9⟩ := xb_recv (ci := 5) hR rfl hk1 (by decide); exact xt_invV X hx hown (hts _ m_790c0ce9) (hts _ m_493d47bb) (hts _ m_ec26896d) (xt_sigOf (hts _ m_93bb879e)) nm_Format_power (by rw [hT]; exact ra9) rb9 rc9 (g := F0 m 2 ls [.long x1, .ref x0]) rfl (argsL := [.long x1]) (rest := []) rfl rfl (by rw [hb]; exact (xb_d D_Format_wholePart 2 rfl))) (ok_Format_power l hfl D A σ x0 x1 h _ hw) (hml.trans hl.1.symm) (by rw [hb]; exact (xb_d D_Format_wholePart 2 rfl)) (Nat.le_of_ble_eq_true rfl) (Nat.le_of_ble_eq_true rfl) (Nat.le_of_ble_eq_true rfl) (show k ≤ MC by omega) (show n ≤ MS by omega) (xt_w1 hB.1 m_93bb879e) (xt_cdOf hB.1 m_93bb879e) (hts _ m_64857de5) hB hR hS hA (fun vv h2 H locs hq hEh2 hR hS => ?_)
  obtain ⟨r3, rfl, hw⟩ := hq
  have hw := hw hEh2
  have hE := hE.tr hEh2
  refine W.eq (g2 := F0 m 5 ls [.int r3]) rfl ?_
  refine lv_istore_n hx hb (xb_d D_Format_wholePart 3 rfl) rfl hl (by decide) rfl (fun ls hl => ?_)
  have hl : lv_has ls 9 [(3, .int r3), (0, .ref x0), (1, .long x1)] := hl
  refine lv_iload_n hx hb (xb_d D_Format_wholePart 4 rfl) rfl (lv_at hl 0 rfl) ?_
  refine lv_if_ge (tgt := 12) hx hb (xb_d D_Format_wholePart 5 rfl) rfl (fun hc4 => ?_) (fun hc4 => ?_)
  · have hw := hw.1 hc4
    refine lv_lconst (v := 1) hx hb (xb_d D_Format_wholePart 8 rfl) (by decide) ?_
    refine lv_aload_n hx hb (xb_d D_Format_wholePart 9 rfl) rfl (lv_at hl 1 rfl) ?_
    have hk1 : xb_k h2 x0 = 6 := hEh2.k hk1
    refine xb_getI (C := R_Format) (T := F_Format) (N := 5) hx hb 5 0 hts fin_Format hown hR hk1 (by decide) rfl (by decide) rfl (hts _ m_019aecde) (fun _ h9 => h9) (xb_d D_Format_wholePart 10 rfl) ?_
    refine lv_iconst (v := 1) hx hb (xb_d D_Format_wholePart 11 rfl) (by decide) ?_
    refine lv_isub hx hb (xb_d D_Format_wholePart 12 rfl) ?_
    refine lv_lshl (v := (xb_lshl 1 ((xb_i h2 x0 0) - 1))) hx hb (xb_d D_Format_wholePart 13 rfl) rfl ?_
    obtain ⟨v5, ev5⟩ : ∃ x : Int64, x = (xb_lshl 1 ((xb_i h2 x0 0) - 1)) := ⟨_, rfl⟩
    have hw := hw v5 ev5
    refine xt_numl (y := v5) ev5.symm ?_
    refine lv_lstore hx hb (xb_d D_Format_wholePart 14 rfl) hl (by decide) rfl (fun ls hl => ?_)
    have hl : lv_has ls 9 [(4, .long v5), (3, .int r3), (0, .ref x0), (1, .long x1)] := hl
    refine lv_lload_n hx hb (xb_d D_Format_wholePart 15 rfl) rfl (lv_at hl 3 rfl) ?_
    refine lv_lload hx hb (xb_d D_Format_wholePart 16 rfl) (lv_at hl 0 rfl) ?_
    refine lv_lconst (v := 1) hx hb (xb_d D_Format_wholePart 17 rfl) (by decide) ?_
    refine lv_lsub hx hb (xb_d D_Format_wholePart 18 rfl) ?_
    refine lv_land hx hb (xb_d D_Format_wholePart 19 rfl) ?_
    refine lv_lload hx hb (xb_d D_Format_wholePart 20 rfl) (lv_at hl 0 rfl) ?_
    refine lv_lor hx hb (xb_d D_Format_wholePart 21 rfl) ?_
    obtain ⟨v6, ev6⟩ : ∃ x : Int64, x = ((x1 &&& (v5 - 1)) ||| v5) := ⟨_, rfl⟩
    have hw := hw v6 ev6
    refine xt_numl (y := v6) ev6.symm ?_
    refine lv_lstore hx hb (xb_d D_Format_wholePart 22 rfl) hl (by decide) rfl (fun ls hl => ?_)
    have hl : lv_has ls 9 [(6, .long v6), (4, .long v5), (3, .int r3), (0, .ref x0), (1, .long x1)] := hl
    refine lv_iload_n hx hb (xb_d D_Format_wholePart 23 rfl) rfl (lv_at hl 2 rfl) ?_
    refine lv_aload_n hx hb (xb_d D_Format_wholePart 24 rfl) rfl (lv_at hl 3 rfl) ?_
    refine xb_getI (C := R_Format) (T := F_Format) (N := 5) hx hb 5 0 hts fin_Format hown hR hk1 (by decide) rfl (by decide) rfl (hts _ m_019aecde) (fun _ h9 => h9) (xb_d D_Format_wholePart 25 rfl) ?_
    refine lv_iconst (v := 1) hx hb (xb_d D_Format_wholePart 26 rfl) (by decide) ?_
    refine lv_isub hx hb (xb_d D_Format_wholePart 27 rfl) ?_
    refine lv_isub hx hb (xb_d D_Format_wholePart 28 rfl) ?_
    obtain ⟨v7, ev7⟩ : ∃ x : Int32, x = (r3 - ((xb_i h2 x0 0) - 1)) := ⟨_, rfl⟩
    have hw := hw v7 ev7
    refine xt_numi (y := v7) ev7.symm ?_
    refine lv_istore hx hb (xb_d D_Format_wholePart 29 rfl) hl (by decide) rfl (fun ls hl => ?_)
    have hl : lv_has ls 9 [(8, .int v7), (6, .long v6), (4, .long v5), (3, .int r3), (0, .ref x0), (1, .long x1)] := hl
    refine lv_iload hx hb (xb_d D_Format_wholePart 30 rfl) (lv_at hl 0 rfl) ?_
    refine lv_if_lt (tgt := 56) hx hb (xb_d D_Format_wholePart 31 rfl) rfl (fun hc8 => ?_) (fun hc8 => ?_)
    · have hw := hw.1 hc8
      refine lv_lload hx hb (xb_d D_Format_wholePart 36 rfl) (lv_at hl 1 rfl) ?_
      refine lv_iload hx hb (xb_d D_Format_wholePart 37 rfl) (lv_at hl 0 rfl) ?_
      refine lv_ineg hx hb (xb_d D_Format_wholePart 38 rfl) ?_
      refine lv_lushr (v := (xb_lushr v6 (-v7))) hx hb (xb_d D_Format_wholePart 39 rfl) rfl ?_
      exact am_Format_wholePart_L62 l hfl D A σ MC MS h0 Qr (xb_lushr v6 (-v7)) h2 hw p e s m args below meth c hC H locs ls k n hE (lv_sub hl [] rfl) hR hS (by omega) (by omega)
    · have hw := hw.2 hc8
      refine lv_lload hx hb (xb_d D_Format_wholePart 32 rfl) (lv_at hl 1 rfl) ?_
      refine lv_iload hx hb (xb_d D_Format_wholePart 33 rfl) (lv_at hl 0 rfl) ?_
      refine lv_lshl (v := (xb_lshl v6 v7)) hx hb (xb_d D_Format_wholePart 34 rfl) rfl ?_
      refine lv_goto (tgt := 62) hx hb (xb_d D_Format_wholePart 35 rfl) rfl ?_
      exact am_Format_wholePart_L62 l hfl D A σ MC MS h0 Qr (xb_lshl v6 v7) h2 hw p e s m args below meth c hC H locs ls k n hE (lv_sub hl [] rfl) hR hS (by omega) (by omega)
  · have hw := hw.2 hc4
    refine lv_lconst (v := 0) hx hb (xb_d D_Format_wholePart 6 rfl) (by decide) ?_
    exact xb_lret 0 0 hx hb hr hlocks (show k + 0 ≤ MC by omega) (show n + 0 ≤ MS by omega) hE hR hS (xb_d D_Format_wholePart 7 rfl) hw

theorem m_71aa6e23 : (.methodLink "StackHost$Instance" 1 objectInit : Cond) ∈ xt_tbl := xt_in (xt_t6 (List.mem_of_getElem? (i := 238) (by decide +kernel))) (by decide +kernel)
theorem m_04064a17 : (.fieldLink "StackHost$Instance" 7 "StackHost$Instance" "number" "I" : Cond) ∈ xt_tbl := xt_in (xt_t7 (List.mem_of_getElem? (i := 0) (by decide +kernel))) (by decide +kernel)
theorem m_e9dbd72b : (.fieldLink "StackHost$Instance" 13 "StackHost$Instance" "module" "LStackHost$StackModule;" : Cond) ∈ xt_tbl := xt_in (xt_t7 (List.mem_of_getElem? (i := 4) (by decide +kernel))) (by decide +kernel)
theorem m_d5ca1d29 : (.fieldLink "StackHost$Instance" 17 "StackHost$World" "foundFunctions" "LStackHost$Row;" : Cond) ∈ xt_tbl := xt_in (xt_t1 (List.mem_of_getElem? (i := 189) (by decide +kernel))) (by decide +kernel)
theorem m_37b4b483 : (.fieldLink "StackHost$Instance" 23 "StackHost$Row" "items" "[J" : Cond) ∈ xt_tbl := xt_in (xt_t1 (List.mem_of_getElem? (i := 145) (by decide +kernel))) (by decide +kernel)
theorem m_94ec7535 : (.fieldLink "StackHost$Instance" 29 "StackHost$Row" "size" "I" : Cond) ∈ xt_tbl := xt_in (xt_t1 (List.mem_of_getElem? (i := 150) (by decide +kernel))) (by decide +kernel)
theorem m_28b0918c : (.methodLink "StackHost$Instance" 32 y_Arrays_copyOf1 : Cond) ∈ xt_tbl := xt_in (xt_t6 (List.mem_of_getElem? (i := 239) (by decide +kernel))) (by decide +kernel)
theorem m_92cbae34 : (.static y_Arrays_copyOf1 : Cond) ∈ xt_tbl := xt_in (xt_t3 (List.mem_of_getElem? (i := 234) (by decide +kernel))) (by decide +kernel)
theorem m_00ffaf1f : (.code y_Arrays_copyOf1 b_Arrays_copyOf1 3 (some (.array .long)) : Cond) ∈ xt_tbl := xt_in (xt_t3 (List.mem_of_getElem? (i := 235) (by decide +kernel))) (by decide +kernel)
theorem m_9e7a7e5c : (.fieldLink "StackHost$Instance" 41 "StackHost$World" "foundVariables" "LStackHost$Row;" : Cond) ∈ xt_tbl := xt_in (xt_t1 (List.mem_of_getElem? (i := 191) (by decide +kernel))) (by decide +kernel)
theorem m_821fbd49 : (.fieldLink "StackHost$Instance" 47 "StackHost$World" "owners" "LStackHost$Row;" : Cond) ∈ xt_tbl := xt_in (xt_t1 (List.mem_of_getElem? (i := 170) (by decide +kernel))) (by decide +kernel)
theorem m_fb73f8ca : (.fieldLink "StackHost$Instance" 53 "StackHost$World" "variables" "LStackHost$Row;" : Cond) ∈ xt_tbl := xt_in (xt_t1 (List.mem_of_getElem? (i := 172) (by decide +kernel))) (by decide +kernel)
theorem m_27acaeec : (.fieldLink "StackHost$Instance" 59 "StackHost$World" "foundTable" "LStackHost$Table;" : Cond) ∈ xt_tbl := xt_in (xt_t1 (List.mem_of_getElem? (i := 193) (by decide +kernel))) (by decide +kernel)
theorem m_4c6661c5 : (.fieldLink "StackHost$Instance" 63 "StackHost$Instance" "table" "LStackHost$Table;" : Cond) ∈ xt_tbl := xt_in (xt_t7 (List.mem_of_getElem? (i := 12) (by decide +kernel))) (by decide +kernel)
theorem m_e430202e : (.fieldLink "StackHost$Instance" 66 "StackHost$World" "foundMemory" "LStackHost$Memory;" : Cond) ∈ xt_tbl := xt_in (xt_t1 (List.mem_of_getElem? (i := 195) (by decide +kernel))) (by decide +kernel)
theorem m_90ac9ab4 : (.fieldLink "StackHost$Instance" 70 "StackHost$Instance" "memory" "LStackHost$Memory;" : Cond) ∈ xt_tbl := xt_in (xt_t7 (List.mem_of_getElem? (i := 16) (by decide +kernel))) (by decide +kernel)
theorem nm_Arrays_copyOf1 : xt_nm y_Arrays_copyOf1 2 := ⟨by decide +kernel, by decide +kernel⟩
set_option maxRecDepth 100000 in
def T_Instance_init : List (Nat × Instr × Nat) := [(0, .aload_n 0, 1), (1, .invokespecial 1, 3), (4, .aload_n 0, 1), (5, .iload_n 1, 1), (6, .putfield 7, 3), (9, .aload_n 0, 1), (10, .aload_n 2, 1), (11, .putfield 13, 3), (14, .aload_n 0, 1), (15, .aload_n 3, 1), (16, .getfield 17, 3), (19, .getfield 23, 3), (22, .aload_n 3, 1), (23, .getfield 17, 3), (26, .getfield 29, 3), (29, .invokestatic 32, 3), (32, .putfield 38, 3), (35, .aload_n 0, 1), (36, .aload_n 3, 1), (37, .getfield 41, 3), (40, .getfield 23, 3), (43, .aload_n 3, 1), (44, .getfield 41, 3), (47, .getfield 29, 3), (50, .invokestatic 32, 3), (53, .putfield 44, 3), (56, .aload_n 0, 1), (57, .aload_n 3, 1), (58, .getfield 47, 3), (61, .getfield 29, 3), (64, .putfield 50, 3), (67, .aload_n 0, 1), (68, .aload_n 3, 1), (69, .getfield 53, 3), (72, .getfield 29, 3), (75, .putfield 56, 3), (78, .aload_n 0, 1), (79, .aload_n 3, 1), (80, .getfield 59, 3), (83, .putfield 63, 3), (86, .aload_n 0, 1), (87, .aload_n 3, 1), (88, .getfield 66, 3), (91, .putfield 70, 3), (94, .return_, 1)]
theorem D_Instance_init : ∀ q ∈ T_Instance_init, decode b_Instance_init q.1 = .ok (q.2.1, q.2.2) := by decide +kernel

set_option maxHeartbeats 4000000 in
set_option maxRecDepth 100000 in
theorem ok_Instance_init (l : Launch) (hfl : l.flags = pinnedFlags ++ [noTraceFlag]) (D : va_G) (A : Nat → Prop) (σ : Nat) (x0 : Nat) (x1 : Int32) (x2 : Nat) (x3 : Nat) (h : xb_H) (bc : Nat) (bs : Nat) (Qr : xb_H → Nat → Nat → Prop) (hw : w_Instance_init x0 x1 x2 x3 h bc bs Qr) : xb_Met l y_Instance_init [.code y_Instance_init b_Instance_init 4 none] (xb_rm 3 bc bs) (xb_Pc D A σ h [.ref x0, .int x1, .ref x2, .ref x3]) (xb_Qc D A h bc bs (fun v h bc bs => v = none ∧ Qr h bc bs) (fun _ _ _ _ => False)) A := by
  refine xb_ofAm (cc := b_Instance_init) (by decide) (Nat.le_of_ble_eq_true rfl) ?_
  unfold w_Instance_init at hw
  show xb_am l D A σ 3 bc bs h (fun v h bc bs => v = none ∧ Qr h bc bs) (fun _ _ _ _ => False) y_Instance_init.cls y_Instance_init.name b_Instance_init 4 ([] : List ExceptionTableEntry) none 0 [(0, .ref x0), (1, .int x1), (2, .ref x2), (3, .ref x3)] [] h bc bs
  obtain ⟨MC, hMC⟩ : ∃ x, x = bc := ⟨_, rfl⟩
  obtain ⟨MS, hMS⟩ : ∃ x, x = bs := ⟨_, rfl⟩
  rw [show xb_am l D A σ 3 bc bs = xb_am l D A σ 3 MC MS by rw [hMC, hMS]]
  obtain ⟨h0, hh0⟩ : ∃ x, x = h := ⟨_, rfl⟩
  rw [show xb_am l D A σ 3 MC MS h = xb_am l D A σ 3 MC MS h0 by rw [hh0]]
  intro p e s m args below meth c hC H locs ls k n hE hl hR hS hk hn
  obtain ⟨hx, hb, hown, hlocks, htab, hml, hr, hB, hA, hnm⟩ := id hC
  have hts := hB.1.1.at args
  refine lv_aload_n hx hb (xb_d D_Instance_init 0 rfl) rfl (lv_at hl 0 rfl) ?_
  refine W.objInit hx hb hown (hts _ m_71aa6e23) (hts _ m_fba9d542) (hts _ m_9febdb7e) rfl (hml.trans hl.1.symm).symm rfl (xb_d D_Instance_init 1 rfl) (by show 1 ≤ 8 + _; omega) (Nat.le_trans (Nat.le_of_ble_eq_true rfl : _ ≤ 40) (by show 40 ≤ 120 + _; omega)) ?_
  refine W.eq (g2 := F0 m 4 ls []) rfl ?_
  refine lv_aload_n hx hb (xb_d D_Instance_init 2 rfl) rfl (lv_at hl 0 rfl) ?_
  refine lv_iload_n hx hb (xb_d D_Instance_init 3 rfl) rfl (lv_at hl 1 rfl) ?_
  obtain ⟨hk1, hw⟩ := hw
  refine xb_putIF (C := R_Instance) (T := F_Instance) (N := 8) (ty := .int) (x := x1) hx hb 10 0 hts fin_Instance t_Instance t_Instance_ok n_Instance hown hR hS hk1 (by decide) rfl (by decide) rfl (hts _ m_04064a17) (fun _ h9 => h9) rfl hnm rfl (by decide +kernel) rfl rfl (xb_d D_Instance_init 4 rfl) (fun H locs hR hS => ?_)
  obtain ⟨h2, eh2⟩ : ∃ x : xb_H, x = xb_I h x0 0 x1 := ⟨_, rfl⟩
  rw [← eh2] at hR
  have hw := hw h2 eh2
  have hE : xb_ext h0 h2 := by rw [eh2]; exact hE
  refine lv_aload_n hx hb (xb_d D_Instance_init 5 rfl) rfl (lv_at hl 0 rfl) ?_
  refine lv_aload_n hx hb (xb_d D_Instance_init 6 rfl) rfl (lv_at hl 2 rfl) ?_
  have hk1 : xb_k h2 x0 = 11 := by rw [eh2]; exact hk1
  refine xb_putPF (C := R_Instance) (T := F_Instance) (N := 8) (ty := .object "StackHost$StackModule") (x := (some x2)) hx hb 10 1 hts fin_Instance t_Instance t_Instance_ok n_Instance hown hR hS hk1 (by decide) rfl (by decide) rfl (hts _ m_e9dbd72b) (fun _ h9 => h9) rfl hnm rfl (by decide +kernel) (xb_pnO _ _).1 (xb_pnO _ _).2 (xb_d D_Instance_init 7 rfl) (fun H locs hR hS => ?_)
  obtain ⟨h3, eh3⟩ : ∃ x : xb_H, x = xb_P h2 x0 1 (some x2) := ⟨_, rfl⟩
  rw [← eh3] at hR
  have hw := hw h3 eh3
  have hE : xb_ext h0 h3 := by rw [eh3]; exact hE
  refine lv_aload_n hx hb (xb_d D_Instance_init 8 rfl) rfl (lv_at hl 0 rfl) ?_
  refine lv_aload_n hx hb (xb_d D_Instance_init 9 rfl) rfl (lv_at hl 3 rfl) ?_
  obtain ⟨hk4, hw⟩ := hw
  refine xb_getP (C := R_World) (T := F_World) (N := 16) hx hb 6 12 hts fin_World hown hR hk4 (by decide) rfl (by decide) rfl (hts _ m_d5ca1d29) (fun _ h9 => h9) (xb_d D_Instance_init 10 rfl) ?_
  obtain ⟨b5, eb5, hw⟩ := hw
  refine xb_some eb5 ?_
  obtain ⟨hk6, hw⟩ := hw
  refine xb_getP (C := R_Row) (T := F_Row) (N := 3) hx hb 1 0 hts fin_Row hown hR hk6 (by decide) rfl (by decide) rfl (hts _ m_37b4b483) (fun _ h9 => h9) (xb_d D_Instance_init 11 rfl) ?_
  obtain ⟨b7, eb7, hw⟩ := hw
  refine xb_some eb7 ?_
  refine lv_aload_n hx hb (xb_d D_Instance_init 12 rfl) rfl (lv_at hl 3 rfl) ?_
  refine xb_getP (C := R_World) (T := F_World) (N := 16) hx hb 6 12 hts fin_World hown hR hk4 (by decide) rfl (by decide) rfl (hts _ m_d5ca1d29) (fun _ h9 => h9) (xb_d D_Instance_init 13 rfl) ?_
  obtain ⟨b8, eb8, hw⟩ := hw
  refine xb_some eb8 ?_
  obtain ⟨hk9, hw⟩ := hw
  refine xb_getI (C := R_Row) (T := F_Row) (N := 3) hx hb 1 1 hts fin_Row hown hR hk9 (by decide) rfl (by decide) rfl (hts _ m_94ec7535) (fun _ h9 => h9) (xb_d D_Instance_init 14 rfl) ?_
  refine xb_call (D := D) (A := A) (σ := σ) (h := h3) (d := 2) (mc := bc) (ms := bs) (maxL := 3) (rest := [.ref x0]) (av := [.ref b7, .int (xb_i h3 b8 1)]) (fun T hT X => xt_invS X hx hown (hts _ m_28b0918c) (hts _ m_92cbae34) (hts _ m_b999e92a) (xt_sgS (hts _ m_00ffaf1f)).1 (xt_sgS (hts _ m_00ffaf1f)).2 nm_Arrays_copyOf1 (g := F0 m 29 ls [.int (xb_i h3 b8 1), .ref b7, .ref x0]) rfl (argsL := [.ref b7, .int (xb_i h3 b8 1)]) (rest := [.ref x0]) rfl rfl (by rw [hb]; exact (xb_d D_Instance_init 15 rfl))) (ok_Arrays_copyOf1 l hfl D A σ b7 (xb_i h3 b8 1) h3 bc bs _ hw) (hml.trans hl.1.symm) (by rw [hb]; exact (xb_d D_Instance_init 15 rfl)) (Nat.le_of_ble_eq_true rfl) (Nat.le_of_ble_eq_true rfl) (Nat.le_of_ble_eq_true rfl) (show k + bc ≤ MC by omega) (show n + bs ≤ MS by omega) (xt_w1 hB.1 m_00ffaf1f) (xt_cdOf hB.1 m_00ffaf1f) (hts _ m_b999e92a) hB hR hS hA (fun vv h10 bc11 bs11 kk11 nn11 H locs hk11 hn11 hq hEh10 hR hS => ?_) (fun XX ax h10 bc11 bs11 kk11 nn11 H locs hk11 hn11 hq hEh10 hex hR hS => ?_)
  · obtain ⟨r11, rfl, hw⟩ := hq
    have hw := hw hEh10
    have hE := hE.tr hEh10
    refine W.eq (g2 := F0 m 32 ls [.ref r11, .ref x0]) rfl ?_
    have hk1 : xb_k h3 x0 = 11 := by rw [eh3]; exact hk1
    have hk1 : xb_k h10 x0 = 11 := hEh10.k hk1
    refine xb_putPF (C := R_Instance) (T := F_Instance) (N := 8) (ty := .array .long) (x := (some r11)) hx hb 10 2 hts fin_Instance t_Instance t_Instance_ok n_Instance hown hR hS hk1 (by decide) rfl (by decide) rfl (hts _ m_192b1ea9) (fun _ h9 => h9) rfl hnm rfl (by decide +kernel) (xb_pnA _ _).1 (xb_pnA _ _).2 (xb_d D_Instance_init 16 rfl) (fun H locs hR hS => ?_)
    obtain ⟨h12, eh12⟩ : ∃ x : xb_H, x = xb_P h10 x0 2 (some r11) := ⟨_, rfl⟩
    rw [← eh12] at hR
    have hw := hw h12 eh12
    have hE : xb_ext h0 h12 := by rw [eh12]; exact hE
    refine lv_aload_n hx hb (xb_d D_Instance_init 17 rfl) rfl (lv_at hl 0 rfl) ?_
    refine lv_aload_n hx hb (xb_d D_Instance_init 18 rfl) rfl (lv_at hl 3 rfl) ?_
    have hk4 : xb_k h10 x3 = 7 := hEh10.k hk4
    have hk4 : xb_k h12 x3 = 7 := by rw [eh12]; exact hk4
    refine xb_getP (C := R_World) (T := F_World) (N := 16) hx hb 6 13 hts fin_World hown hR hk4 (by decide) rfl (by decide) rfl (hts _ m_9e7a7e5c) (fun _ h9 => h9) (xb_d D_Instance_init 19 rfl) ?_
    obtain ⟨b13, eb13, hw⟩ := hw
    refine xb_some eb13 ?_
    obtain ⟨hk14, hw⟩ := hw
    refine xb_getP (C := R_Row) (T := F_Row) (N := 3) hx hb 1 0 hts fin_Row hown hR hk14 (by decide) rfl (by decide) rfl (hts _ m_37b4b483) (fun _ h9 => h9) (xb_d D_Instance_init 20 rfl) ?_
    obtain ⟨b15, eb15, hw⟩ := hw
    refine xb_some eb15 ?_
    refine lv_aload_n hx hb (xb_d D_Instance_init 21 rfl) rfl (lv_at hl 3 rfl) ?_
    refine xb_getP (C := R_World) (T := F_World) (N := 16) hx hb 6 13 hts fin_World hown hR hk4 (by decide) rfl (by decide) rfl (hts _ m_9e7a7e5c) (fun _ h9 => h9) (xb_d D_Instance_init 22 rfl) ?_
    obtain ⟨b16, eb16, hw⟩ := hw
    refine xb_some eb16 ?_
    obtain ⟨hk17, hw⟩ := hw
    refine xb_getI (C := R_Row) (T := F_Row) (N := 3) hx hb 1 1 hts fin_Row hown hR hk17 (by decide) rfl (by decide) rfl (hts _ m_94ec7535) (fun _ h9 => h9) (xb_d D_Instance_init 23 rfl) ?_
    refine xb_call (D := D) (A := A) (σ := σ) (h := h12) (d := 2) (mc := bc11) (ms := bs11) (maxL := 3) (rest := [.ref x0]) (av := [.ref b15, .int (xb_i h12 b16 1)]) (fun T hT X => xt_invS X hx hown (hts _ m_28b0918c) (hts _ m_92cbae34) (hts _ m_b999e92a) (xt_sgS (hts _ m_00ffaf1f)).1 (xt_sgS (hts _ m_00ffaf1f)).2 nm_Arrays_copyOf1 (g := F0 m 50 ls [.int (xb_i h12 b16 1), .ref b15, .ref x0]) rfl (argsL := [.ref b15, .int (xb_i h12 b16 1)]) (rest := [.ref x0]) rfl rfl (by rw [hb]; exact (xb_d D_Instance_init 24 rfl))) (ok_Arrays_copyOf1 l hfl D A σ b15 (xb_i h12 b16 1) h12 bc11 bs11 _ hw) (hml.trans hl.1.symm) (by rw [hb]; exact (xb_d D_Instance_init 24 rfl)) (Nat.le_of_ble_eq_true rfl) (Nat.le_of_ble_eq_true rfl) (Nat.le_of_ble_eq_true rfl) (show (k + kk11) + bc11 ≤ MC by omega) (show (n + nn11) + bs11 ≤ MS by omega) (xt_w1 hB.1 m_00ffaf1f) (xt_cdOf hB.1 m_00ffaf1f) (hts _ m_b999e92a) hB hR hS hA (fun vv h18 bc19 bs19 kk19 nn19 H locs hk19 hn19 hq hEh18 hR hS => ?_) (fun XX ax h18 bc19 bs19 kk19 nn19 H locs hk19 hn19 hq hEh18 hex hR hS => ?_)
    · obtain ⟨r19, rfl, hw⟩ := hq
      have hw := hw hEh18
      have hE := hE.tr hEh18
      refine W.eq (g2 := F0 m 53 ls [.ref r19, .ref x0]) rfl ?_
      have hk1 : xb_k h12 x0 = 11 := by rw [eh12]; exact hk1
      have hk1 : xb_k h18 x0 = 11 := hEh18.k hk1
      refine xb_putPF (C := R_Instance) (T := F_Instance) (N := 8) (ty := .array .long) (x := (some r19)) hx hb 10 3 hts fin_Instance t_Instance t_Instance_ok n_Instance hown hR hS hk1 (by decide) rfl (by decide) rfl (hts _ m_79003569) (fun _ h9 => h9) rfl hnm rfl (by decide +kernel) (xb_pnA _ _).1 (xb_pnA _ _).2 (xb_d D_Instance_init 25 rfl) (fun H locs hR hS => ?_)
      obtain ⟨h20, eh20⟩ : ∃ x : xb_H, x = xb_P h18 x0 3 (some r19) := ⟨_, rfl⟩
      rw [← eh20] at hR
      have hw := hw h20 eh20
      have hE : xb_ext h0 h20 := by rw [eh20]; exact hE
      refine lv_aload_n hx hb (xb_d D_Instance_init 26 rfl) rfl (lv_at hl 0 rfl) ?_
      refine lv_aload_n hx hb (xb_d D_Instance_init 27 rfl) rfl (lv_at hl 3 rfl) ?_
      have hk4 : xb_k h18 x3 = 7 := hEh18.k hk4
      have hk4 : xb_k h20 x3 = 7 := by rw [eh20]; exact hk4
      refine xb_getP (C := R_World) (T := F_World) (N := 16) hx hb 6 2 hts fin_World hown hR hk4 (by decide) rfl (by decide) rfl (hts _ m_821fbd49) (fun _ h9 => h9) (xb_d D_Instance_init 28 rfl) ?_
      obtain ⟨b21, eb21, hw⟩ := hw
      refine xb_some eb21 ?_
      obtain ⟨hk22, hw⟩ := hw
      refine xb_getI (C := R_Row) (T := F_Row) (N := 3) hx hb 1 1 hts fin_Row hown hR hk22 (by decide) rfl (by decide) rfl (hts _ m_94ec7535) (fun _ h9 => h9) (xb_d D_Instance_init 29 rfl) ?_
      have hk1 : xb_k h20 x0 = 11 := by rw [eh20]; exact hk1
      refine xb_putIF (C := R_Instance) (T := F_Instance) (N := 8) (ty := .int) (x := (xb_i h20 b21 1)) hx hb 10 4 hts fin_Instance t_Instance t_Instance_ok n_Instance hown hR hS hk1 (by decide) rfl (by decide) rfl (hts _ m_f477301c) (fun _ h9 => h9) rfl hnm rfl (by decide +kernel) rfl rfl (xb_d D_Instance_init 30 rfl) (fun H locs hR hS => ?_)
      obtain ⟨h23, eh23⟩ : ∃ x : xb_H, x = xb_I h20 x0 4 (xb_i h20 b21 1) := ⟨_, rfl⟩
      rw [← eh23] at hR
      have hw := hw h23 eh23
      have hE : xb_ext h0 h23 := by rw [eh23]; exact hE
      refine lv_aload_n hx hb (xb_d D_Instance_init 31 rfl) rfl (lv_at hl 0 rfl) ?_
      refine lv_aload_n hx hb (xb_d D_Instance_init 32 rfl) rfl (lv_at hl 3 rfl) ?_
      have hk4 : xb_k h23 x3 = 7 := by rw [eh23]; exact hk4
      refine xb_getP (C := R_World) (T := F_World) (N := 16) hx hb 6 3 hts fin_World hown hR hk4 (by decide) rfl (by decide) rfl (hts _ m_fb73f8ca) (fun _ h9 => h9) (xb_d D_Instance_init 33 rfl) ?_
      obtain ⟨b24, eb24, hw⟩ := hw
      refine xb_some eb24 ?_
      obtain ⟨hk25, hw⟩ := hw
      refine xb_getI (C := R_Row) (T := F_Row) (N := 3) hx hb 1 1 hts fin_Row hown hR hk25 (by decide) rfl (by decide) rfl (hts _ m_94ec7535) (fun _ h9 => h9) (xb_d D_Instance_init 34 rfl) ?_
      have hk1 : xb_k h23 x0 = 11 := by rw [eh23]; exact hk1
      refine xb_putIF (C := R_Instance) (T := F_Instance) (N := 8) (ty := .int) (x := (xb_i h23 b24 1)) hx hb 10 5 hts fin_Instance t_Instance t_Instance_ok n_Instance hown hR hS hk1 (by decide) rfl (by decide) rfl (hts _ m_ca9c5328) (fun _ h9 => h9) rfl hnm rfl (by decide +kernel) rfl rfl (xb_d D_Instance_init 35 rfl) (fun H locs hR hS => ?_)
      obtain ⟨h26, eh26⟩ : ∃ x : xb_H, x = xb_I h23 x0 5 (xb_i h23 b24 1) := ⟨_, rfl⟩
      rw [← eh26] at hR
      have hw := hw h26 eh26
      have hE : xb_ext h0 h26 := by rw [eh26]; exact hE
      refine lv_aload_n hx hb (xb_d D_Instance_init 36 rfl) rfl (lv_at hl 0 rfl) ?_
      refine lv_aload_n hx hb (xb_d D_Instance_init 37 rfl) rfl (lv_at hl 3 rfl) ?_
      have hk4 : xb_k h26 x3 = 7 := by rw [eh26]; exact hk4
      refine xb_getP (C := R_World) (T := F_World) (N := 16) hx hb 6 14 hts fin_World hown hR hk4 (by decide) rfl (by decide) rfl (hts _ m_27acaeec) (fun _ h9 => h9) (xb_d D_Instance_init 38 rfl) ?_
      have hk1 : xb_k h26 x0 = 11 := by rw [eh26]; exact hk1
      refine xb_putP (C := R_Instance) (T := F_Instance) (N := 8) (ty := .object "StackHost$Table") (x := (xb_r h26 x3 14)) hx hb 10 6 hts fin_Instance t_Instance t_Instance_ok n_Instance hown hR hS hk1 (by decide) rfl (by decide) rfl (hts _ m_4c6661c5) (fun _ h9 => h9) rfl (by decide +kernel) (xb_pnO _ _).1 (xb_pnO _ _).2 (xb_d D_Instance_init 39 rfl) (fun H locs hR hS => ?_)
      obtain ⟨h27, eh27⟩ : ∃ x : xb_H, x = xb_P h26 x0 6 (xb_r h26 x3 14) := ⟨_, rfl⟩
      rw [← eh27] at hR
      have hw := hw h27 eh27
      have hE : xb_ext h0 h27 := by rw [eh27]; exact hE
      refine lv_aload_n hx hb (xb_d D_Instance_init 40 rfl) rfl (lv_at hl 0 rfl) ?_
      refine lv_aload_n hx hb (xb_d D_Instance_init 41 rfl) rfl (lv_at hl 3 rfl) ?_
      have hk4 : xb_k h27 x3 = 7 := by rw [eh27]; exact hk4
      refine xb_getP (C := R_World) (T := F_World) (N := 16) hx hb 6 15 hts fin_World hown hR hk4 (by decide) rfl (by decide) rfl (hts _ m_e430202e) (fun _ h9 => h9) (xb_d D_Instance_init 42 rfl) ?_
      have hk1 : xb_k h27 x0 = 11 := by rw [eh27]; exact hk1
      refine xb_putP (C := R_Instance) (T := F_Instance) (N := 8) (ty := .object "StackHost$Memory") (x := (xb_r h27 x3 15)) hx hb 10 7 hts fin_Instance t_Instance t_Instance_ok n_Instance hown hR hS hk1 (by decide) rfl (by decide) rfl (hts _ m_90ac9ab4) (fun _ h9 => h9) rfl (by decide +kernel) (xb_pnO _ _).1 (xb_pnO _ _).2 (xb_d D_Instance_init 43 rfl) (fun H locs hR hS => ?_)
      obtain ⟨h28, eh28⟩ : ∃ x : xb_H, x = xb_P h27 x0 7 (xb_r h27 x3 15) := ⟨_, rfl⟩
      rw [← eh28] at hR
      have hw := hw h28 eh28
      have hE : xb_ext h0 h28 := by rw [eh28]; exact hE
      exact xb_vret bc19 bs19 hx hb hr hlocks (show ((k + kk11) + kk19) + bc19 ≤ MC by omega) (show ((n + nn11) + nn19) + bs19 ≤ MS by omega) hE hR hS (xb_d D_Instance_init 44 rfl) hw
    · exact False.elim hq
  · exact False.elim hq

theorem m_4f3bb594 : (.methodLink "StackHost$Machine" 3 objectInit : Cond) ∈ xt_tbl := xt_in (xt_t1 (List.mem_of_getElem? (i := 235) (by decide +kernel))) (by decide +kernel)
theorem m_21de6f07 : (.classLink "StackHost$Machine" 9 "StackHost$Format" : Cond) ∈ xt_tbl := xt_in (xt_t1 (List.mem_of_getElem? (i := 236) (by decide +kernel))) (by decide +kernel)
theorem m_56af0da6 : (.instantiable "StackHost$Format" 5 : Cond) ∈ xt_tbl := xt_in (xt_t1 (List.mem_of_getElem? (i := 237) (by decide +kernel))) (by decide +kernel)
theorem m_ee1f5528 : (.constantLong "StackHost$Machine" 11 2147483648 : Cond) ∈ xt_tbl := xt_in (xt_t1 (List.mem_of_getElem? (i := 238) (by decide +kernel))) (by decide +kernel)
theorem m_8d5113d2 : (.methodLink "StackHost$Machine" 13 y_Format_init : Cond) ∈ xt_tbl := xt_in (xt_t1 (List.mem_of_getElem? (i := 239) (by decide +kernel))) (by decide +kernel)
theorem m_f42f6adf : (.instanceMethod y_Format_init : Cond) ∈ xt_tbl := xt_in (xt_t2 (List.mem_of_getElem? (i := 0) (by decide +kernel))) (by decide +kernel)
theorem m_cbf096b7 : (.code y_Format_init b_Format_init 5 none : Cond) ∈ xt_tbl := xt_in (xt_t2 (List.mem_of_getElem? (i := 1) (by decide +kernel))) (by decide +kernel)
theorem m_ae64f9ca : (.fieldLink "StackHost$Machine" 16 "StackHost$Machine" "singles" "LStackHost$Format;" : Cond) ∈ xt_tbl := xt_in (xt_t2 (List.mem_of_getElem? (i := 22) (by decide +kernel))) (by decide +kernel)
theorem m_a8868524 : (.constantLong "StackHost$Machine" 22 (-9223372036854775808) : Cond) ∈ xt_tbl := xt_in (xt_t2 (List.mem_of_getElem? (i := 20) (by decide +kernel))) (by decide +kernel)
theorem m_ba1eb42f : (.fieldLink "StackHost$Machine" 24 "StackHost$Machine" "doubles" "LStackHost$Format;" : Cond) ∈ xt_tbl := xt_in (xt_t2 (List.mem_of_getElem? (i := 23) (by decide +kernel))) (by decide +kernel)
theorem nm_Format_init : xt_nm y_Format_init 3 := ⟨by decide +kernel, by decide +kernel⟩
set_option maxRecDepth 100000 in
def T_Machine_init : List (Nat × Instr × Nat) := [(0, .aload_n 0, 1), (1, .invokespecial 3, 3), (4, .aload_n 0, 1), (5, .new 9, 3), (8, .dup, 1), (9, .bipush 24, 2), (11, .bipush 127, 2), (13, .ldc2_w 11, 3), (16, .invokespecial 13, 3), (19, .putfield 16, 3), (22, .aload_n 0, 1), (23, .new 9, 3), (26, .dup, 1), (27, .bipush 53, 2), (29, .sipush 1023, 3), (32, .ldc2_w 22, 3), (35, .invokespecial 13, 3), (38, .putfield 24, 3), (41, .aload_n 0, 1), (42, .iconst 4, 1), (43, .newarray .int, 2), (45, .dup, 1), (46, .iconst 0, 1), (47, .iconst 0, 1), (48, .iastore, 1), (49, .dup, 1), (50, .iconst 1, 1), (51, .iconst (-1), 1), (52, .iastore, 1), (53, .dup, 1), (54, .iconst 2, 1), (55, .iconst (-1), 1), (56, .iastore, 1), (57, .dup, 1), (58, .iconst 3, 1), (59, .iconst (-1), 1), (60, .iastore, 1), (61, .putfield 27, 3), (64, .aload_n 0, 1), (65, .iconst (-1), 1), (66, .putfield 31, 3), (69, .aload_n 0, 1), (70, .bipush 64, 2), (72, .newarray .long, 2), (74, .putfield 35, 3), (77, .aload_n 0, 1), (78, .sipush 1000, 3), (81, .newarray .int, 2), (83, .putfield 39, 3), (86, .aload_n 0, 1), (87, .aload_n 1, 1), (88, .putfield 42, 3), (91, .return_, 1)]
theorem D_Machine_init : ∀ q ∈ T_Machine_init, decode b_Machine_init q.1 = .ok (q.2.1, q.2.2) := by decide +kernel

set_option maxHeartbeats 4000000 in
set_option maxRecDepth 100000 in
theorem ok_Machine_init (l : Launch) (hfl : l.flags = pinnedFlags ++ [noTraceFlag]) (D : va_G) (A : Nat → Prop) (σ : Nat) (x0 : Nat) (x1 : Nat) (h : xb_H) (bc : Nat) (bs : Nat) (Qr : xb_H → Nat → Nat → Prop) (hw : w_Machine_init x0 x1 h bc bs Qr) : xb_Met l y_Machine_init [.code y_Machine_init b_Machine_init 2 none] (xb_rm 3 bc bs) (xb_Pc D A σ h [.ref x0, .ref x1]) (xb_Qc D A h bc bs (fun v h bc bs => v = none ∧ Qr h bc bs) (fun _ _ _ _ => False)) A := by
  refine xb_ofAm (cc := b_Machine_init) (by decide) (Nat.le_of_ble_eq_true rfl) ?_
  unfold w_Machine_init at hw
  show xb_am l D A σ 3 bc bs h (fun v h bc bs => v = none ∧ Qr h bc bs) (fun _ _ _ _ => False) y_Machine_init.cls y_Machine_init.name b_Machine_init 2 ([] : List ExceptionTableEntry) none 0 [(0, .ref x0), (1, .ref x1)] [] h bc bs
  obtain ⟨MC, hMC⟩ : ∃ x, x = bc := ⟨_, rfl⟩
  obtain ⟨MS, hMS⟩ : ∃ x, x = bs := ⟨_, rfl⟩
  rw [show xb_am l D A σ 3 bc bs = xb_am l D A σ 3 MC MS by rw [hMC, hMS]]
  obtain ⟨h0, hh0⟩ : ∃ x, x = h := ⟨_, rfl⟩
  rw [show xb_am l D A σ 3 MC MS h = xb_am l D A σ 3 MC MS h0 by rw [hh0]]
  intro p e s m args below meth c hC H locs ls k n hE hl hR hS hk hn
  obtain ⟨hx, hb, hown, hlocks, htab, hml, hr, hB, hA, hnm⟩ := id hC
  have hts := hB.1.1.at args
  refine lv_aload_n hx hb (xb_d D_Machine_init 0 rfl) rfl (lv_at hl 0 rfl) ?_
  refine W.objInit hx hb hown (hts _ m_4f3bb594) (hts _ m_fba9d542) (hts _ m_9febdb7e) rfl (hml.trans hl.1.symm).symm rfl (xb_d D_Machine_init 1 rfl) (by show 1 ≤ 8 + _; omega) (Nat.le_trans (Nat.le_of_ble_eq_true rfl : _ ≤ 40) (by show 40 ≤ 120 + _; omega)) ?_
  refine W.eq (g2 := F0 m 4 ls []) rfl ?_
  refine lv_aload_n hx hb (xb_d D_Machine_init 2 rfl) rfl (lv_at hl 0 rfl) ?_
  obtain ⟨hcq1, hsq1, hw⟩ := hw
  refine xb_newo (C := R_Format) (T := F_Format) (N := 5) hx hb 5 hts fin_Format t_Format t_Format_ok hown (hts _ m_21de6f07) (hts _ m_56af0da6) (hts _ m_64857de5) hR hS hA (by decide) rfl dg_Format (show k + 1 ≤ MC by omega) (show n + 5 ≤ MS by omega) (xb_d D_Machine_init 3 rfl) (fun q1 H hqq1 hR hS => ?_)
  have hw := hw q1 hqq1
  obtain ⟨h2, eh2⟩ : ∃ x : xb_H, x = xb_new h q1 6 0 := ⟨_, rfl⟩
  rw [← eh2] at hR
  have hw := hw h2 eh2
  have hE : xb_ext h0 h2 := by rw [eh2]; exact hE.new _ _ hqq1
  have hk3 : xb_k h2 q1 = 6 := by rw [eh2]; exact xb_new_k _ _ _ _
  refine lv_dup hx hb (xb_d D_Machine_init 4 rfl) rfl ?_
  refine lv_bipush (v := 24) hx hb (xb_d D_Machine_init 5 rfl) (by decide) ?_
  refine lv_bipush (v := 127) hx hb (xb_d D_Machine_init 6 rfl) (by decide) ?_
  refine lv_ldc2 (v := 2147483648) hx hb hown (hts _ m_ee1f5528) (xb_d D_Machine_init 7 rfl) ?_
  refine xb_call0 (D := D) (A := A) (σ := σ) (h := h2) (d := 2) (maxL := 5) (rest := [.ref q1, .ref x0]) (av := [.ref q1, .int 24, .int 127, .long 2147483648]) (fun T hT X => xt_invI X hx hown rfl (hts _ m_8d5113d2) (hts _ m_f42f6adf) (hts _ m_cbf096b7) nm_Format_init (g := F0 m 16 ls [.long 2147483648, .int 127, .int 24, .ref q1, .ref q1, .ref x0]) rfl (b := q1) (argsL := [.int 24, .int 127, .long 2147483648]) (rest := [.ref q1, .ref x0]) rfl rfl (by rw [hb]; exact (xb_d D_Machine_init 8 rfl))) (ok_Format_init l hfl D A σ q1 24 127 2147483648 h2 _ hw) (hml.trans hl.1.symm) (by rw [hb]; exact (xb_d D_Machine_init 8 rfl)) (Nat.le_of_ble_eq_true rfl) (Nat.le_of_ble_eq_true rfl) (Nat.le_of_ble_eq_true rfl) (show (k + 1) ≤ MC by omega) (show (n + 5) ≤ MS by omega) (xt_w1 hB.1 m_cbf096b7) (xt_cdOf hB.1 m_cbf096b7) (hts _ m_64857de5) hB hR hS hA (fun vv h4 H locs hq hEh4 hR hS => ?_)
  obtain ⟨rfl, hw⟩ := hq
  have hw := hw hEh4
  have hE := hE.tr hEh4
  refine W.eq (g2 := F0 m 19 ls [.ref q1, .ref x0]) rfl ?_
  obtain ⟨hk6, hw⟩ := hw
  refine xb_putPF (C := R_Machine) (T := F_Machine) (N := 18) (ty := .object "StackHost$Format") (x := (some q1)) hx hb 7 1 hts fin_Machine t_Machine t_Machine_ok n_Machine hown hR hS hk6 (by decide) rfl (by decide) rfl (hts _ m_ae64f9ca) (fun _ h9 => h9) rfl hnm rfl (by decide +kernel) (xb_pnO _ _).1 (xb_pnO _ _).2 (xb_d D_Machine_init 9 rfl) (fun H locs hR hS => ?_)
  obtain ⟨h7, eh7⟩ : ∃ x : xb_H, x = xb_P h4 x0 1 (some q1) := ⟨_, rfl⟩
  rw [← eh7] at hR
  have hw := hw h7 eh7
  have hE : xb_ext h0 h7 := by rw [eh7]; exact hE
  refine lv_aload_n hx hb (xb_d D_Machine_init 10 rfl) rfl (lv_at hl 0 rfl) ?_
  obtain ⟨hcq8, hsq8, hw⟩ := hw
  refine xb_newo (C := R_Format) (T := F_Format) (N := 5) hx hb 5 hts fin_Format t_Format t_Format_ok hown (hts _ m_21de6f07) (hts _ m_56af0da6) (hts _ m_64857de5) hR hS hA (by decide) rfl dg_Format (show (k + 1) + 1 ≤ MC by omega) (show (n + 5) + 5 ≤ MS by omega) (xb_d D_Machine_init 11 rfl) (fun q8 H hqq8 hR hS => ?_)
  have hw := hw q8 hqq8
  obtain ⟨h9, eh9⟩ : ∃ x : xb_H, x = xb_new h7 q8 6 0 := ⟨_, rfl⟩
  rw [← eh9] at hR
  have hw := hw h9 eh9
  have hE : xb_ext h0 h9 := by rw [eh9]; exact hE.new _ _ hqq8
  have hk10 : xb_k h9 q8 = 6 := by rw [eh9]; exact xb_new_k _ _ _ _
  refine lv_dup hx hb (xb_d D_Machine_init 12 rfl) rfl ?_
  refine lv_bipush (v := 53) hx hb (xb_d D_Machine_init 13 rfl) (by decide) ?_
  refine lv_sipush (v := 1023) hx hb (xb_d D_Machine_init 14 rfl) (by decide) ?_
  refine lv_ldc2 (v := (-9223372036854775808)) hx hb hown (hts _ m_a8868524) (xb_d D_Machine_init 15 rfl) ?_
  refine xb_call0 (D := D) (A := A) (σ := σ) (h := h9) (d := 2) (maxL := 5) (rest := [.ref q8, .ref x0]) (av := [.ref q8, .int 53, .int 1023, .long (-9223372036854775808)]) (fun T hT X => xt_invI X hx hown rfl (hts _ m_8d5113d2) (hts _ m_f42f6adf) (hts _ m_cbf096b7) nm_Format_init (g := F0 m 35 ls [.long (-9223372036854775808), .int 1023, .int 53, .ref q8, .ref q8, .ref x0]) rfl (b := q8) (argsL := [.int 53, .int 1023, .long (-9223372036854775808)]) (rest := [.ref q8, .ref x0]) rfl rfl (by rw [hb]; exact (xb_d D_Machine_init 16 rfl))) (ok_Format_init l hfl D A σ q8 53 1023 (-9223372036854775808) h9 _ hw) (hml.trans hl.1.symm) (by rw [hb]; exact (xb_d D_Machine_init 16 rfl)) (Nat.le_of_ble_eq_true rfl) (Nat.le_of_ble_eq_true rfl) (Nat.le_of_ble_eq_true rfl) (show ((k + 1) + 1) ≤ MC by omega) (show ((n + 5) + 5) ≤ MS by omega) (xt_w1 hB.1 m_cbf096b7) (xt_cdOf hB.1 m_cbf096b7) (hts _ m_64857de5) hB hR hS hA (fun vv h11 H locs hq hEh11 hR hS => ?_)
  obtain ⟨rfl, hw⟩ := hq
  have hw := hw hEh11
  have hE := hE.tr hEh11
  refine W.eq (g2 := F0 m 38 ls [.ref q8, .ref x0]) rfl ?_
  have hk6 : xb_k h7 x0 = 8 := by rw [eh7]; exact hk6
  have hk6 : xb_k h9 x0 = 8 := by rw [eh9]; exact xb_nk hqq8 hk6
  have hk6 : xb_k h11 x0 = 8 := hEh11.k hk6
  refine xb_putPF (C := R_Machine) (T := F_Machine) (N := 18) (ty := .object "StackHost$Format") (x := (some q8)) hx hb 7 2 hts fin_Machine t_Machine t_Machine_ok n_Machine hown hR hS hk6 (by decide) rfl (by decide) rfl (hts _ m_ba1eb42f) (fun _ h9 => h9) rfl hnm rfl (by decide +kernel) (xb_pnO _ _).1 (xb_pnO _ _).2 (xb_d D_Machine_init 17 rfl) (fun H locs hR hS => ?_)
  obtain ⟨h13, eh13⟩ : ∃ x : xb_H, x = xb_P h11 x0 2 (some q8) := ⟨_, rfl⟩
  rw [← eh13] at hR
  have hw := hw h13 eh13
  have hE : xb_ext h0 h13 := by rw [eh13]; exact hE
  refine lv_aload_n hx hb (xb_d D_Machine_init 18 rfl) rfl (lv_at hl 0 rfl) ?_
  refine lv_iconst (v := 4) hx hb (xb_d D_Machine_init 19 rfl) (by decide) ?_
  obtain ⟨hcq14, hsq14, hw⟩ := hw
  have enq14 : (4 : Int32).toNatClampNeg = 4 := by decide
  refine xb_newa_i hx hb (hts _ m_d160d5ac) hR hS hA (by decide) (by decide +kernel) (show ((k + 1) + 1) + 1 ≤ MC by omega) (show ((n + 5) + 5) + _ ≤ MS by rw [enq14]; omega) (xb_d D_Machine_init 20 rfl) (fun q14 H hqq14 hR hS => ?_)
  rw [enq14] at hR ⊢
  have hw := hw q14 hqq14
  obtain ⟨h15, eh15⟩ : ∃ x : xb_H, x = xb_new h13 q14 102 4 := ⟨_, rfl⟩
  rw [← eh15] at hR
  have hw := hw h15 eh15
  have hE : xb_ext h0 h15 := by rw [eh15]; exact hE.new _ _ hqq14
  have hk16 : xb_k h15 q14 = 102 := by rw [eh15]; exact xb_new_k _ _ _ _
  refine lv_dup hx hb (xb_d D_Machine_init 21 rfl) rfl ?_
  refine lv_iconst (v := 0) hx hb (xb_d D_Machine_init 22 rfl) (by decide) ?_
  refine lv_iconst (v := 0) hx hb (xb_d D_Machine_init 23 rfl) (by decide) ?_
  obtain ⟨hi17, hw⟩ := hw
  refine xb_iast hx hb hR hS hk16 hi17 (xb_d D_Machine_init 24 rfl) (fun H locs hR hS => ?_)
  obtain ⟨h18, eh18⟩ : ∃ x : xb_H, x = xb_I h15 q14 (Int32.toNatClampNeg 0) 0 := ⟨_, rfl⟩
  rw [← eh18] at hR
  have hw := hw h18 eh18
  have hE : xb_ext h0 h18 := by rw [eh18]; exact hE
  refine lv_dup hx hb (xb_d D_Machine_init 25 rfl) rfl ?_
  refine lv_iconst (v := 1) hx hb (xb_d D_Machine_init 26 rfl) (by decide) ?_
  refine lv_iconst (v := (-1)) hx hb (xb_d D_Machine_init 27 rfl) (by decide) ?_
  have hk16 : xb_k h18 q14 = 102 := by rw [eh18]; exact hk16
  obtain ⟨hi19, hw⟩ := hw
  refine xb_iast hx hb hR hS hk16 hi19 (xb_d D_Machine_init 28 rfl) (fun H locs hR hS => ?_)
  obtain ⟨h20, eh20⟩ : ∃ x : xb_H, x = xb_I h18 q14 (Int32.toNatClampNeg 1) (-1) := ⟨_, rfl⟩
  rw [← eh20] at hR
  have hw := hw h20 eh20
  have hE : xb_ext h0 h20 := by rw [eh20]; exact hE
  refine lv_dup hx hb (xb_d D_Machine_init 29 rfl) rfl ?_
  refine lv_iconst (v := 2) hx hb (xb_d D_Machine_init 30 rfl) (by decide) ?_
  refine lv_iconst (v := (-1)) hx hb (xb_d D_Machine_init 31 rfl) (by decide) ?_
  have hk16 : xb_k h20 q14 = 102 := by rw [eh20]; exact hk16
  obtain ⟨hi21, hw⟩ := hw
  refine xb_iast hx hb hR hS hk16 hi21 (xb_d D_Machine_init 32 rfl) (fun H locs hR hS => ?_)
  obtain ⟨h22, eh22⟩ : ∃ x : xb_H, x = xb_I h20 q14 (Int32.toNatClampNeg 2) (-1) := ⟨_, rfl⟩
  rw [← eh22] at hR
  have hw := hw h22 eh22
  have hE : xb_ext h0 h22 := by rw [eh22]; exact hE
  refine lv_dup hx hb (xb_d D_Machine_init 33 rfl) rfl ?_
  refine lv_iconst (v := 3) hx hb (xb_d D_Machine_init 34 rfl) (by decide) ?_
  refine lv_iconst (v := (-1)) hx hb (xb_d D_Machine_init 35 rfl) (by decide) ?_
  have hk16 : xb_k h22 q14 = 102 := by rw [eh22]; exact hk16
  obtain ⟨hi23, hw⟩ := hw
  refine xb_iast hx hb hR hS hk16 hi23 (xb_d D_Machine_init 36 rfl) (fun H locs hR hS => ?_)
  obtain ⟨h24, eh24⟩ : ∃ x : xb_H, x = xb_I h22 q14 (Int32.toNatClampNeg 3) (-1) := ⟨_, rfl⟩
  rw [← eh24] at hR
  have hw := hw h24 eh24
  have hE : xb_ext h0 h24 := by rw [eh24]; exact hE
  have hk6 : xb_k h13 x0 = 8 := by rw [eh13]; exact hk6
  have hk6 : xb_k h15 x0 = 8 := by rw [eh15]; exact xb_nk hqq14 hk6
  have hk6 : xb_k h18 x0 = 8 := by rw [eh18]; exact hk6
  have hk6 : xb_k h20 x0 = 8 := by rw [eh20]; exact hk6
  have hk6 : xb_k h22 x0 = 8 := by rw [eh22]; exact hk6
  have hk6 : xb_k h24 x0 = 8 := by rw [eh24]; exact hk6
  refine xb_putPF (C := R_Machine) (T := F_Machine) (N := 18) (ty := .array .int) (x := (some q14)) hx hb 7 6 hts fin_Machine t_Machine t_Machine_ok n_Machine hown hR hS hk6 (by decide) rfl (by decide) rfl (hts _ m_731e5d01) (fun _ h9 => h9) rfl hnm rfl (by decide +kernel) (xb_pnA _ _).1 (xb_pnA _ _).2 (xb_d D_Machine_init 37 rfl) (fun H locs hR hS => ?_)
  obtain ⟨h25, eh25⟩ : ∃ x : xb_H, x = xb_P h24 x0 6 (some q14) := ⟨_, rfl⟩
  rw [← eh25] at hR
  have hw := hw h25 eh25
  have hE : xb_ext h0 h25 := by rw [eh25]; exact hE
  refine lv_aload_n hx hb (xb_d D_Machine_init 38 rfl) rfl (lv_at hl 0 rfl) ?_
  refine lv_iconst (v := (-1)) hx hb (xb_d D_Machine_init 39 rfl) (by decide) ?_
  have hk6 : xb_k h25 x0 = 8 := by rw [eh25]; exact hk6
  refine xb_putI (C := R_Machine) (T := F_Machine) (N := 18) (ty := .int) (x := (-1)) hx hb 7 8 hts fin_Machine t_Machine t_Machine_ok n_Machine hown hR hS hk6 (by decide) rfl (by decide) rfl (hts _ m_71c815d4) (fun _ h9 => h9) rfl (by decide +kernel) rfl rfl (xb_d D_Machine_init 40 rfl) (fun H locs hR hS => ?_)
  obtain ⟨h26, eh26⟩ : ∃ x : xb_H, x = xb_I h25 x0 8 (-1) := ⟨_, rfl⟩
  rw [← eh26] at hR
  have hw := hw h26 eh26
  have hE : xb_ext h0 h26 := by rw [eh26]; exact hE
  refine lv_aload_n hx hb (xb_d D_Machine_init 41 rfl) rfl (lv_at hl 0 rfl) ?_
  refine lv_bipush (v := 64) hx hb (xb_d D_Machine_init 42 rfl) (by decide) ?_
  obtain ⟨hcq27, hsq27, hw⟩ := hw
  have enq27 : (64 : Int32).toNatClampNeg = 64 := by decide
  refine xb_newa_l hx hb (hts _ m_f2af499d) hR hS hA (by decide) (by decide +kernel) (show (((k + 1) + 1) + 1) + 1 ≤ MC by omega) (show (((n + 5) + 5) + 4) + _ ≤ MS by rw [enq27]; omega) (xb_d D_Machine_init 43 rfl) (fun q27 H hqq27 hR hS => ?_)
  rw [enq27] at hR ⊢
  have hw := hw q27 hqq27
  obtain ⟨h28, eh28⟩ : ∃ x : xb_H, x = xb_new h26 q27 103 64 := ⟨_, rfl⟩
  rw [← eh28] at hR
  have hw := hw h28 eh28
  have hE : xb_ext h0 h28 := by rw [eh28]; exact hE.new _ _ hqq27
  have hk29 : xb_k h28 q27 = 103 := by rw [eh28]; exact xb_new_k _ _ _ _
  have hk6 : xb_k h26 x0 = 8 := by rw [eh26]; exact hk6
  have hk6 : xb_k h28 x0 = 8 := by rw [eh28]; exact xb_nk hqq27 hk6
  refine xb_putP (C := R_Machine) (T := F_Machine) (N := 18) (ty := .array .long) (x := (some q27)) hx hb 7 9 hts fin_Machine t_Machine t_Machine_ok n_Machine hown hR hS hk6 (by decide) rfl (by decide) rfl (hts _ m_6904195b) (fun _ h9 => h9) rfl (by decide +kernel) (xb_pnA _ _).1 (xb_pnA _ _).2 (xb_d D_Machine_init 44 rfl) (fun H locs hR hS => ?_)
  obtain ⟨h30, eh30⟩ : ∃ x : xb_H, x = xb_P h28 x0 9 (some q27) := ⟨_, rfl⟩
  rw [← eh30] at hR
  have hw := hw h30 eh30
  have hE : xb_ext h0 h30 := by rw [eh30]; exact hE
  refine lv_aload_n hx hb (xb_d D_Machine_init 45 rfl) rfl (lv_at hl 0 rfl) ?_
  refine lv_sipush (v := 1000) hx hb (xb_d D_Machine_init 46 rfl) (by decide) ?_
  obtain ⟨hcq31, hsq31, hw⟩ := hw
  have enq31 : (1000 : Int32).toNatClampNeg = 1000 := by decide
  refine xb_newa_i hx hb (hts _ m_d160d5ac) hR hS hA (by decide) (by decide +kernel) (show ((((k + 1) + 1) + 1) + 1) + 1 ≤ MC by omega) (show ((((n + 5) + 5) + 4) + 64) + _ ≤ MS by rw [enq31]; omega) (xb_d D_Machine_init 47 rfl) (fun q31 H hqq31 hR hS => ?_)
  rw [enq31] at hR ⊢
  have hw := hw q31 hqq31
  obtain ⟨h32, eh32⟩ : ∃ x : xb_H, x = xb_new h30 q31 102 1000 := ⟨_, rfl⟩
  rw [← eh32] at hR
  have hw := hw h32 eh32
  have hE : xb_ext h0 h32 := by rw [eh32]; exact hE.new _ _ hqq31
  have hk33 : xb_k h32 q31 = 102 := by rw [eh32]; exact xb_new_k _ _ _ _
  have hk6 : xb_k h30 x0 = 8 := by rw [eh30]; exact hk6
  have hk6 : xb_k h32 x0 = 8 := by rw [eh32]; exact xb_nk hqq31 hk6
  refine xb_putPF (C := R_Machine) (T := F_Machine) (N := 18) (ty := .array .int) (x := (some q31)) hx hb 7 11 hts fin_Machine t_Machine t_Machine_ok n_Machine hown hR hS hk6 (by decide) rfl (by decide) rfl (hts _ m_ca1fb183) (fun _ h9 => h9) rfl hnm rfl (by decide +kernel) (xb_pnA _ _).1 (xb_pnA _ _).2 (xb_d D_Machine_init 48 rfl) (fun H locs hR hS => ?_)
  obtain ⟨h34, eh34⟩ : ∃ x : xb_H, x = xb_P h32 x0 11 (some q31) := ⟨_, rfl⟩
  rw [← eh34] at hR
  have hw := hw h34 eh34
  have hE : xb_ext h0 h34 := by rw [eh34]; exact hE
  refine lv_aload_n hx hb (xb_d D_Machine_init 49 rfl) rfl (lv_at hl 0 rfl) ?_
  refine lv_aload_n hx hb (xb_d D_Machine_init 50 rfl) rfl (lv_at hl 1 rfl) ?_
  have hk6 : xb_k h34 x0 = 8 := by rw [eh34]; exact hk6
  refine xb_putPF (C := R_Machine) (T := F_Machine) (N := 18) (ty := .object "StackHost$World") (x := (some x1)) hx hb 7 0 hts fin_Machine t_Machine t_Machine_ok n_Machine hown hR hS hk6 (by decide) rfl (by decide) rfl (hts _ m_436e7c8c) (fun _ h9 => h9) rfl hnm rfl (by decide +kernel) (xb_pnO _ _).1 (xb_pnO _ _).2 (xb_d D_Machine_init 51 rfl) (fun H locs hR hS => ?_)
  obtain ⟨h35, eh35⟩ : ∃ x : xb_H, x = xb_P h34 x0 0 (some x1) := ⟨_, rfl⟩
  rw [← eh35] at hR
  have hw := hw h35 eh35
  have hE : xb_ext h0 h35 := by rw [eh35]; exact hE
  exact xb_vret (((((bc - 1) - 1) - 1) - 1) - 1) (((((bs - 5) - 5) - 4) - 64) - 1000) hx hb hr hlocks (show (((((k + 1) + 1) + 1) + 1) + 1) + (((((bc - 1) - 1) - 1) - 1) - 1) ≤ MC by omega) (show (((((n + 5) + 5) + 4) + 64) + 1000) + (((((bs - 5) - 5) - 4) - 64) - 1000) ≤ MS by omega) hE hR hS (xb_d D_Machine_init 52 rfl) hw

theorem m_51c4afd2 : (.methodLink "StackHost$Machine" 76 Lib.Math.max.name : Cond) ∈ xt_tbl := xt_in (xt_t7 (List.mem_of_getElem? (i := 188) (by decide +kernel))) (by decide +kernel)
theorem m_342e19d2 : (.methodLink "StackHost$Machine" 81 Lib.Math.min.name : Cond) ∈ xt_tbl := xt_in (xt_t7 (List.mem_of_getElem? (i := 189) (by decide +kernel))) (by decide +kernel)
theorem m_4b595091 : (.methodLink "StackHost$Machine" 84 y_Arrays_copyOf1 : Cond) ∈ xt_tbl := xt_in (xt_t7 (List.mem_of_getElem? (i := 190) (by decide +kernel))) (by decide +kernel)
set_option maxRecDepth 100000 in
def T_Machine_makeRoom : List (Nat × Instr × Nat) := [(0, .iload_n 1, 1), (1, .aload_n 0, 1), (2, .getfield 35, 3), (5, .arraylength, 1), (6, .if_icmp .le 31, 3), (9, .aload_n 0, 1), (10, .aload_n 0, 1), (11, .getfield 35, 3), (14, .sipush 16384, 3), (17, .iload_n 1, 1), (18, .iconst 2, 1), (19, .aload_n 0, 1), (20, .getfield 35, 3), (23, .arraylength, 1), (24, .imul, 1), (25, .invokestatic 76, 3), (28, .invokestatic 81, 3), (31, .invokestatic 84, 3), (34, .putfield 35, 3), (37, .return_, 1)]
theorem D_Machine_makeRoom : ∀ q ∈ T_Machine_makeRoom, decode b_Machine_makeRoom q.1 = .ok (q.2.1, q.2.2) := by decide +kernel

set_option maxHeartbeats 4000000 in
set_option maxRecDepth 100000 in
theorem am_Machine_makeRoom_L37 (l : Launch) (hfl : l.flags = pinnedFlags ++ [noTraceFlag]) (D : va_G) (A : Nat → Prop) (σ MC MS : Nat) (h0 : xb_H) (Qr : xb_H → Nat → Nat → Prop) (h : xb_H) (bc : Nat) (bs : Nat) (hw : w_Machine_makeRoom_L37 Qr h bc bs) : xb_am l D A σ 3 MC MS h0 (fun v h bc bs => v = none ∧ Qr h bc bs) (fun _ _ _ _ => False) y_Machine_makeRoom.cls y_Machine_makeRoom.name b_Machine_makeRoom 2 ([] : List ExceptionTableEntry) none 37 [] [] h bc bs := by
  unfold w_Machine_makeRoom_L37 at hw
  intro p e s m args below meth c hC H locs ls k n hE hl hR hS hk hn
  obtain ⟨hx, hb, hown, hlocks, htab, hml, hr, hB, hA, hnm⟩ := id hC
  have hts := hB.1.1.at args
  exact xb_vret bc bs hx hb hr hlocks (show k + bc ≤ MC by omega) (show n + bs ≤ MS by omega) hE hR hS (xb_d D_Machine_makeRoom 19 rfl) hw

set_option maxHeartbeats 4000000 in
set_option maxRecDepth 100000 in
theorem ok_Machine_makeRoom (l : Launch) (hfl : l.flags = pinnedFlags ++ [noTraceFlag]) (D : va_G) (A : Nat → Prop) (σ : Nat) (x0 : Nat) (x1 : Int32) (h : xb_H) (bc : Nat) (bs : Nat) (Qr : xb_H → Nat → Nat → Prop) (hw : w_Machine_makeRoom x0 x1 h bc bs Qr) : xb_Met l y_Machine_makeRoom [.code y_Machine_makeRoom b_Machine_makeRoom 2 none] (xb_rm 3 bc bs) (xb_Pc D A σ h [.ref x0, .int x1]) (xb_Qc D A h bc bs (fun v h bc bs => v = none ∧ Qr h bc bs) (fun _ _ _ _ => False)) A := by
  refine xb_ofAm (cc := b_Machine_makeRoom) (by decide) (Nat.le_of_ble_eq_true rfl) ?_
  unfold w_Machine_makeRoom at hw
  show xb_am l D A σ 3 bc bs h (fun v h bc bs => v = none ∧ Qr h bc bs) (fun _ _ _ _ => False) y_Machine_makeRoom.cls y_Machine_makeRoom.name b_Machine_makeRoom 2 ([] : List ExceptionTableEntry) none 0 [(0, .ref x0), (1, .int x1)] [] h bc bs
  obtain ⟨MC, hMC⟩ : ∃ x, x = bc := ⟨_, rfl⟩
  obtain ⟨MS, hMS⟩ : ∃ x, x = bs := ⟨_, rfl⟩
  rw [show xb_am l D A σ 3 bc bs = xb_am l D A σ 3 MC MS by rw [hMC, hMS]]
  obtain ⟨h0, hh0⟩ : ∃ x, x = h := ⟨_, rfl⟩
  rw [show xb_am l D A σ 3 MC MS h = xb_am l D A σ 3 MC MS h0 by rw [hh0]]
  intro p e s m args below meth c hC H locs ls k n hE hl hR hS hk hn
  obtain ⟨hx, hb, hown, hlocks, htab, hml, hr, hB, hA, hnm⟩ := id hC
  have hts := hB.1.1.at args
  refine lv_iload_n hx hb (xb_d D_Machine_makeRoom 0 rfl) rfl (lv_at hl 1 rfl) ?_
  refine lv_aload_n hx hb (xb_d D_Machine_makeRoom 1 rfl) rfl (lv_at hl 0 rfl) ?_
  obtain ⟨hk1, hw⟩ := hw
  refine xb_getP (C := R_Machine) (T := F_Machine) (N := 18) hx hb 7 9 hts fin_Machine hown hR hk1 (by decide) rfl (by decide) rfl (hts _ m_6904195b) (fun _ h9 => h9) (xb_d D_Machine_makeRoom 2 rfl) ?_
  obtain ⟨b2, eb2, hw⟩ := hw
  refine xb_some eb2 ?_
  obtain ⟨hk3, hw⟩ := hw
  refine xb_alen hx hb hR hk3 (by decide) (xb_d D_Machine_makeRoom 3 rfl) ?_
  refine lv_icmp_le (tgt := 37) hx hb (xb_d D_Machine_makeRoom 4 rfl) rfl (fun hc4 => ?_) (fun hc4 => ?_)
  · have hw := hw.1 hc4
    exact am_Machine_makeRoom_L37 l hfl D A σ MC MS h0 Qr h bc bs hw p e s m args below meth c hC H locs ls k n hE (lv_sub hl [] rfl) hR hS (by omega) (by omega)
  · have hw := hw.2 hc4
    refine lv_aload_n hx hb (xb_d D_Machine_makeRoom 5 rfl) rfl (lv_at hl 0 rfl) ?_
    refine lv_aload_n hx hb (xb_d D_Machine_makeRoom 6 rfl) rfl (lv_at hl 0 rfl) ?_
    refine xb_getP (C := R_Machine) (T := F_Machine) (N := 18) hx hb 7 9 hts fin_Machine hown hR hk1 (by decide) rfl (by decide) rfl (hts _ m_6904195b) (fun _ h9 => h9) (xb_d D_Machine_makeRoom 7 rfl) ?_
    obtain ⟨b5, eb5, hw⟩ := hw
    refine xb_some eb5 ?_
    refine lv_sipush (v := 16384) hx hb (xb_d D_Machine_makeRoom 8 rfl) (by decide) ?_
    refine lv_iload_n hx hb (xb_d D_Machine_makeRoom 9 rfl) rfl (lv_at hl 1 rfl) ?_
    refine lv_iconst (v := 2) hx hb (xb_d D_Machine_makeRoom 10 rfl) (by decide) ?_
    refine lv_aload_n hx hb (xb_d D_Machine_makeRoom 11 rfl) rfl (lv_at hl 0 rfl) ?_
    refine xb_getP (C := R_Machine) (T := F_Machine) (N := 18) hx hb 7 9 hts fin_Machine hown hR hk1 (by decide) rfl (by decide) rfl (hts _ m_6904195b) (fun _ h9 => h9) (xb_d D_Machine_makeRoom 12 rfl) ?_
    obtain ⟨b6, eb6, hw⟩ := hw
    refine xb_some eb6 ?_
    obtain ⟨hk7, hw⟩ := hw
    refine xb_alen hx hb hR hk7 (by decide) (xb_d D_Machine_makeRoom 13 rfl) ?_
    refine lv_imul hx hb (xb_d D_Machine_makeRoom 14 rfl) ?_
    refine va_mmax hx hb (hml.trans hl.1.symm) hown (hts _ m_51c4afd2) (hts _ m_80a2ec50) (hts _ m_868a9286) (hts _ m_b6349a14) (by show 1 ≤ 8 + _; omega) (Nat.le_trans (Nat.le_of_ble_eq_true rfl : _ ≤ 60) (by show 60 ≤ 120 + _; omega)) (show k ≤ MC by omega) (show n ≤ MS by omega) (xb_d D_Machine_makeRoom 15 rfl) ?_
    refine va_mmin hx hb (hml.trans hl.1.symm) hown (hts _ m_342e19d2) (hts _ m_79b26afc) (hts _ m_868a9286) (hts _ m_0fd793e2) (by show 1 ≤ 8 + _; omega) (Nat.le_trans (Nat.le_of_ble_eq_true rfl : _ ≤ 60) (by show 60 ≤ 120 + _; omega)) (show k ≤ MC by omega) (show n ≤ MS by omega) (xb_d D_Machine_makeRoom 16 rfl) ?_
    refine xb_call (D := D) (A := A) (σ := σ) (h := h) (d := 2) (mc := bc) (ms := bs) (maxL := 3) (rest := [.ref x0]) (av := [.ref b5, .int (if (if x1 < (2 * (nI (xb_n h b6))) then (2 * (nI (xb_n h b6))) else x1) < 16384 then (if x1 < (2 * (nI (xb_n h b6))) then (2 * (nI (xb_n h b6))) else x1) else 16384)]) (fun T hT X => xt_invS X hx hown (hts _ m_4b595091) (hts _ m_92cbae34) (hts _ m_b999e92a) (xt_sgS (hts _ m_00ffaf1f)).1 (xt_sgS (hts _ m_00ffaf1f)).2 nm_Arrays_copyOf1 (g := F0 m 31 ls [.int (if (if x1 < (2 * (nI (xb_n h b6))) then (2 * (nI (xb_n h b6))) else x1) < 16384 then (if x1 < (2 * (nI (xb_n h b6))) then (2 * (nI (xb_n h b6))) else x1) else 16384), .ref b5, .ref x0]) rfl (argsL := [.ref b5, .int (if (if x1 < (2 * (nI (xb_n h b6))) then (2 * (nI (xb_n h b6))) else x1) < 16384 then (if x1 < (2 * (nI (xb_n h b6))) then (2 * (nI (xb_n h b6))) else x1) else 16384)]) (rest := [.ref x0]) rfl rfl (by rw [hb]; exact (xb_d D_Machine_makeRoom 17 rfl))) (ok_Arrays_copyOf1 l hfl D A σ b5 (if (if x1 < (2 * (nI (xb_n h b6))) then (2 * (nI (xb_n h b6))) else x1) < 16384 then (if x1 < (2 * (nI (xb_n h b6))) then (2 * (nI (xb_n h b6))) else x1) else 16384) h bc bs _ hw) (hml.trans hl.1.symm) (by rw [hb]; exact (xb_d D_Machine_makeRoom 17 rfl)) (Nat.le_of_ble_eq_true rfl) (Nat.le_of_ble_eq_true rfl) (Nat.le_of_ble_eq_true rfl) (show k + bc ≤ MC by omega) (show n + bs ≤ MS by omega) (xt_w1 hB.1 m_00ffaf1f) (xt_cdOf hB.1 m_00ffaf1f) (hts _ m_b999e92a) hB hR hS hA (fun vv h8 bc9 bs9 kk9 nn9 H locs hk9 hn9 hq hEh8 hR hS => ?_) (fun XX ax h8 bc9 bs9 kk9 nn9 H locs hk9 hn9 hq hEh8 hex hR hS => ?_)
    · obtain ⟨r9, rfl, hw⟩ := hq
      have hw := hw hEh8
      have hE := hE.tr hEh8
      refine W.eq (g2 := F0 m 34 ls [.ref r9, .ref x0]) rfl ?_
      have hk1 : xb_k h8 x0 = 8 := hEh8.k hk1
      refine xb_putP (C := R_Machine) (T := F_Machine) (N := 18) (ty := .array .long) (x := (some r9)) hx hb 7 9 hts fin_Machine t_Machine t_Machine_ok n_Machine hown hR hS hk1 (by decide) rfl (by decide) rfl (hts _ m_6904195b) (fun _ h9 => h9) rfl (by decide +kernel) (xb_pnA _ _).1 (xb_pnA _ _).2 (xb_d D_Machine_makeRoom 18 rfl) (fun H locs hR hS => ?_)
      obtain ⟨h10, eh10⟩ : ∃ x : xb_H, x = xb_P h8 x0 9 (some r9) := ⟨_, rfl⟩
      rw [← eh10] at hR
      have hw := hw h10 eh10
      have hE : xb_ext h0 h10 := by rw [eh10]; exact hE
      exact am_Machine_makeRoom_L37 l hfl D A σ MC MS h0 Qr h10 bc9 bs9 hw p e s m args below meth c hC H locs ls (k + kk9) (n + nn9) hE (lv_sub hl [] rfl) hR hS (by omega) (by omega)
    · exact False.elim hq

theorem m_b93b25cc : (.methodLink "StackHost$Machine" 198 y_Machine_putValue : Cond) ∈ xt_tbl := xt_in (xt_t8 (List.mem_of_getElem? (i := 4) (by decide +kernel))) (by decide +kernel)
theorem m_5256b489 : (.instanceMethod y_Machine_putValue : Cond) ∈ xt_tbl := xt_in (xt_t8 (List.mem_of_getElem? (i := 6) (by decide +kernel))) (by decide +kernel)
theorem m_b846adde : (.selects "StackHost$Machine" y_Machine_putValue y_Machine_putValue : Cond) ∈ xt_tbl := xt_in (xt_v6 (q := (⟨"StackHost$Machine", "putValue", "(J)V"⟩, 18)) (List.mem_of_getElem? (i := 12) (by decide +kernel))) (by decide +kernel)
theorem m_ea231fcd : (.code y_Machine_putValue b_Machine_putValue 3 none : Cond) ∈ xt_tbl := xt_in (xt_t8 (List.mem_of_getElem? (i := 7) (by decide +kernel))) (by decide +kernel)
theorem m_b8379059 : (.fieldLink "StackHost$Machine" 256 "StackHost$World" "variables" "LStackHost$Row;" : Cond) ∈ xt_tbl := xt_in (xt_t1 (List.mem_of_getElem? (i := 173) (by decide +kernel))) (by decide +kernel)
theorem m_04d8c73d : (.fieldLink "StackHost$Machine" 71 "StackHost$Row" "items" "[J" : Cond) ∈ xt_tbl := xt_in (xt_t1 (List.mem_of_getElem? (i := 146) (by decide +kernel))) (by decide +kernel)
theorem m_f040af52 : (.methodLink "StackHost$Machine" 259 y_Instance_variableId : Cond) ∈ xt_tbl := xt_in (xt_t9 (List.mem_of_getElem? (i := 4) (by decide +kernel))) (by decide +kernel)
theorem nm_Machine_putValue : xt_nm y_Machine_putValue 1 := ⟨by decide +kernel, by decide +kernel⟩
set_option maxRecDepth 100000 in
def T_Machine_useNamed : List (Nat × Instr × Nat) := [(0, .aload_n 0, 1), (1, .getfield 111, 3), (4, .aload_n 0, 1), (5, .getfield 108, 3), (8, .iconst 1, 1), (9, .iadd, 1), (10, .iaload, 1), (11, .istore_n 2, 1), (12, .iload_n 1, 1), (13, .tableswitch 133 32 35 #[31, 49, 82, 107], 31), (44, .aload_n 0, 1), (45, .aload_n 0, 1), (46, .getfield 35, 3), (49, .aload_n 0, 1), (50, .getfield 188, 3), (53, .iload_n 2, 1), (54, .iadd, 1), (55, .laload, 1), (56, .invokevirtual 198, 3), (59, .goto 125, 3), (62, .aload_n 0, 1), (63, .dup, 1), (64, .getfield 53, 3), (67, .iconst 1, 1), (68, .isub, 1), (69, .putfield 53, 3), (72, .aload_n 0, 1), (73, .getfield 35, 3), (76, .aload_n 0, 1), (77, .getfield 188, 3), (80, .iload_n 2, 1), (81, .iadd, 1), (82, .aload_n 0, 1), (83, .getfield 35, 3), (86, .aload_n 0, 1), (87, .getfield 53, 3), (90, .laload, 1), (91, .lastore, 1), (92, .goto 92, 3), (95, .aload_n 0, 1), (96, .getfield 35, 3), (99, .aload_n 0, 1), (100, .getfield 188, 3), (103, .iload_n 2, 1), (104, .iadd, 1), (105, .aload_n 0, 1), (106, .getfield 35, 3), (109, .aload_n 0, 1), (110, .getfield 53, 3), (113, .iconst 1, 1), (114, .isub, 1), (115, .laload, 1), (116, .lastore, 1), (117, .goto 67, 3), (120, .aload_n 0, 1), (121, .aload_n 0, 1), (122, .getfield 42, 3), (125, .getfield 256, 3), (128, .getfield 71, 3), (131, .aload_n 0, 1), (132, .getfield 117, 3), (135, .iload_n 2, 1), (136, .invokevirtual 259, 3), (139, .laload, 1), (140, .invokevirtual 198, 3), (143, .goto 41, 3), (146, .aload_n 0, 1), (147, .dup, 1), (148, .getfield 53, 3), (151, .iconst 1, 1), (152, .isub, 1), (153, .putfield 53, 3), (156, .aload_n 0, 1), (157, .getfield 42, 3), (160, .getfield 256, 3), (163, .getfield 71, 3), (166, .aload_n 0, 1), (167, .getfield 117, 3), (170, .iload_n 2, 1), (171, .invokevirtual 259, 3), (174, .aload_n 0, 1), (175, .getfield 35, 3), (178, .aload_n 0, 1), (179, .getfield 53, 3), (182, .laload, 1), (183, .lastore, 1), (184, .return_, 1)]
theorem D_Machine_useNamed : ∀ q ∈ T_Machine_useNamed, decode b_Machine_useNamed q.1 = .ok (q.2.1, q.2.2) := by decide +kernel

set_option maxHeartbeats 4000000 in
set_option maxRecDepth 100000 in
theorem am_Machine_useNamed_L184 (l : Launch) (hfl : l.flags = pinnedFlags ++ [noTraceFlag]) (D : va_G) (A : Nat → Prop) (σ MC MS : Nat) (h0 : xb_H) (Qr : xb_H → Prop) (h : xb_H) (hw : w_Machine_useNamed_L184 Qr h) : xb_am l D A σ 3 MC MS h0 (fun v h _ _ => v = none ∧ Qr h) (fun _ _ _ _ => False) y_Machine_useNamed.cls y_Machine_useNamed.name b_Machine_useNamed 3 ([] : List ExceptionTableEntry) none 184 [] [] h 0 0 := by
  unfold w_Machine_useNamed_L184 at hw
  intro p e s m args below meth c hC H locs ls k n hE hl hR hS hk hn
  obtain ⟨hx, hb, hown, hlocks, htab, hml, hr, hB, hA, hnm⟩ := id hC
  have hts := hB.1.1.at args
  exact xb_vret 0 0 hx hb hr hlocks (show k + 0 ≤ MC by omega) (show n + 0 ≤ MS by omega) hE hR hS (xb_d D_Machine_useNamed 86 rfl) hw

set_option maxHeartbeats 4000000 in
set_option maxRecDepth 100000 in
theorem ok_Machine_useNamed (l : Launch) (hfl : l.flags = pinnedFlags ++ [noTraceFlag]) (D : va_G) (A : Nat → Prop) (σ : Nat) (x0 : Nat) (x1 : Int32) (h : xb_H) (Qr : xb_H → Prop) (hw : w_Machine_useNamed x0 x1 h Qr) : xb_Met l y_Machine_useNamed [.code y_Machine_useNamed b_Machine_useNamed 3 none] (xb_rm 3 0 0) (xb_Pc D A σ h [.ref x0, .int x1]) (xb_Qc D A h 0 0 (fun v h _ _ => v = none ∧ Qr h) (fun _ _ _ _ => False)) A := by
  refine xb_ofAm (cc := b_Machine_useNamed) (by decide) (Nat.le_of_ble_eq_true rfl) ?_
  unfold w_Machine_useNamed at hw
  show xb_am l D A σ 3 0 0 h (fun v h _ _ => v = none ∧ Qr h) (fun _ _ _ _ => False) y_Machine_useNamed.cls y_Machine_useNamed.name b_Machine_useNamed 3 ([] : List ExceptionTableEntry) none 0 [(0, .ref x0), (1, .int x1)] [] h 0 0
  obtain ⟨MC, hMC⟩ : ∃ x, x = 0 := ⟨_, rfl⟩
  obtain ⟨MS, hMS⟩ : ∃ x, x = 0 := ⟨_, rfl⟩
  rw [show xb_am l D A σ 3 0 0 = xb_am l D A σ 3 MC MS by rw [hMC, hMS]]
  obtain ⟨h0, hh0⟩ : ∃ x, x = h := ⟨_, rfl⟩
  rw [show xb_am l D A σ 3 MC MS h = xb_am l D A σ 3 MC MS h0 by rw [hh0]]
  intro p e s m args below meth c hC H locs ls k n hE hl hR hS hk hn
  obtain ⟨hx, hb, hown, hlocks, htab, hml, hr, hB, hA, hnm⟩ := id hC
  have hts := hB.1.1.at args
  refine lv_aload_n hx hb (xb_d D_Machine_useNamed 0 rfl) rfl (lv_at hl 0 rfl) ?_
  obtain ⟨hk1, hw⟩ := hw
  refine xb_getP (C := R_Machine) (T := F_Machine) (N := 18) hx hb 7 14 hts fin_Machine hown hR hk1 (by decide) rfl (by decide) rfl (hts _ m_8f763f86) (fun _ h9 => h9) (xb_d D_Machine_useNamed 1 rfl) ?_
  obtain ⟨b2, eb2, hw⟩ := hw
  refine xb_some eb2 ?_
  refine lv_aload_n hx hb (xb_d D_Machine_useNamed 2 rfl) rfl (lv_at hl 0 rfl) ?_
  refine xb_getI (C := R_Machine) (T := F_Machine) (N := 18) hx hb 7 15 hts fin_Machine hown hR hk1 (by decide) rfl (by decide) rfl (hts _ m_6a595805) (fun _ h9 => h9) (xb_d D_Machine_useNamed 3 rfl) ?_
  refine lv_iconst (v := 1) hx hb (xb_d D_Machine_useNamed 4 rfl) (by decide) ?_
  refine lv_iadd hx hb (xb_d D_Machine_useNamed 5 rfl) ?_
  obtain ⟨hk4, hw⟩ := hw
  obtain ⟨hi3, hw⟩ := hw
  refine xb_iald hx hb hR hk4 hi3 (xb_d D_Machine_useNamed 6 rfl) ?_
  obtain ⟨v5, ev5⟩ : ∃ x : Int32, x = (xb_i h b2 (Int32.toNatClampNeg ((xb_i h x0 15) + 1))) := ⟨_, rfl⟩
  have hw := hw v5 ev5
  refine xt_numi (y := v5) ev5.symm ?_
  refine lv_istore_n hx hb (xb_d D_Machine_useNamed 7 rfl) rfl hl (by decide) rfl (fun ls hl => ?_)
  have hl : lv_has ls 3 [(2, .int v5), (0, .ref x0), (1, .int x1)] := hl
  refine lv_iload_n hx hb (xb_d D_Machine_useNamed 8 rfl) rfl (lv_at hl 2 rfl) ?_
  by_cases hc6 : x1 = 32
  · have hw := hw.1 hc6
    refine xt_numi hc6 ?_
    refine lv_tableIn (off := 31) (tgt := 44) hx hb (xb_d D_Machine_useNamed 9 rfl) (by decide +kernel) (by decide +kernel) (by decide +kernel) (by decide) ?_
    refine lv_aload_n hx hb (xb_d D_Machine_useNamed 10 rfl) rfl (lv_at hl 1 rfl) ?_
    refine lv_aload_n hx hb (xb_d D_Machine_useNamed 11 rfl) rfl (lv_at hl 1 rfl) ?_
    refine xb_getP (C := R_Machine) (T := F_Machine) (N := 18) hx hb 7 9 hts fin_Machine hown hR hk1 (by decide) rfl (by decide) rfl (hts _ m_6904195b) (fun _ h9 => h9) (xb_d D_Machine_useNamed 12 rfl) ?_
    obtain ⟨b7, eb7, hw⟩ := hw
    refine xb_some eb7 ?_
    refine lv_aload_n hx hb (xb_d D_Machine_useNamed 13 rfl) rfl (lv_at hl 1 rfl) ?_
    refine xb_getI (C := R_Machine) (T := F_Machine) (N := 18) hx hb 7 16 hts fin_Machine hown hR hk1 (by decide) rfl (by decide) rfl (hts _ m_502dfafe) (fun _ h9 => h9) (xb_d D_Machine_useNamed 14 rfl) ?_
    refine lv_iload_n hx hb (xb_d D_Machine_useNamed 15 rfl) rfl (lv_at hl 0 rfl) ?_
    refine lv_iadd hx hb (xb_d D_Machine_useNamed 16 rfl) ?_
    obtain ⟨hk9, hw⟩ := hw
    obtain ⟨hi8, hw⟩ := hw
    refine xb_lald hx hb hR hk9 hi8 (xb_d D_Machine_useNamed 17 rfl) ?_
    refine xb_call0 (D := D) (A := A) (σ := σ) (h := h) (d := 2) (maxL := 3) (rest := []) (av := [.ref x0, .long (xb_l h b7 (Int32.toNatClampNeg ((xb_i h x0 16) + v5)))]) (fun T hT X => by obtain ⟨cb9, ra9, rb9, rc9⟩ := xb_recv (ci := 7) hR rfl hk1 (by decide); exact xt_invV X hx hown (hts _ m_b93b25cc) (hts _ m_5256b489) (hts _ m_b846adde) (xt_sigOf (hts _ m_ea231fcd)) nm_Machine_putValue (by rw [hT]; exact ra9) rb9 rc9 (g := F0 m 56 ls [.long (xb_l h b7 (Int32.toNatClampNeg ((xb_i h x0 16) + v5))), .ref x0]) rfl (argsL := [.long (xb_l h b7 (Int32.toNatClampNeg ((xb_i h x0 16) + v5)))]) (rest := []) rfl rfl (by rw [hb]; exact (xb_d D_Machine_useNamed 18 rfl))) (ok_Machine_putValue l hfl D A σ x0 (xb_l h b7 (Int32.toNatClampNeg ((xb_i h x0 16) + v5))) h _ hw) (hml.trans hl.1.symm) (by rw [hb]; exact (xb_d D_Machine_useNamed 18 rfl)) (Nat.le_of_ble_eq_true rfl) (Nat.le_of_ble_eq_true rfl) (Nat.le_of_ble_eq_true rfl) (show k ≤ MC by omega) (show n ≤ MS by omega) (xt_w1 hB.1 m_ea231fcd) (xt_cdOf hB.1 m_ea231fcd) (hts _ m_73451f9b) hB hR hS hA (fun vv h10 H locs hq hEh10 hR hS => ?_)
    obtain ⟨rfl, hw⟩ := hq
    have hw := hw hEh10
    have hE := hE.tr hEh10
    refine W.eq (g2 := F0 m 59 ls []) rfl ?_
    refine lv_goto (tgt := 184) hx hb (xb_d D_Machine_useNamed 19 rfl) rfl ?_
    exact am_Machine_useNamed_L184 l hfl D A σ MC MS h0 Qr h10 hw p e s m args below meth c hC H locs ls k n hE (lv_sub hl [] rfl) hR hS (by omega) (by omega)
  have hw := hw.2
  by_cases hc12 : x1 = 33
  · have hw := hw.1 hc12
    refine xt_numi hc12 ?_
    refine lv_tableIn (off := 49) (tgt := 62) hx hb (xb_d D_Machine_useNamed 9 rfl) (by decide +kernel) (by decide +kernel) (by decide +kernel) (by decide) ?_
    refine lv_aload_n hx hb (xb_d D_Machine_useNamed 20 rfl) rfl (lv_at hl 1 rfl) ?_
    refine lv_dup hx hb (xb_d D_Machine_useNamed 21 rfl) rfl ?_
    refine xb_getI (C := R_Machine) (T := F_Machine) (N := 18) hx hb 7 10 hts fin_Machine hown hR hk1 (by decide) rfl (by decide) rfl (hts _ m_79cf62f6) (fun _ h9 => h9) (xb_d D_Machine_useNamed 22 rfl) ?_
    refine lv_iconst (v := 1) hx hb (xb_d D_Machine_useNamed 23 rfl) (by decide) ?_
    refine lv_isub hx hb (xb_d D_Machine_useNamed 24 rfl) ?_
    refine xb_putI (C := R_Machine) (T := F_Machine) (N := 18) (ty := .int) (x := ((xb_i h x0 10) - 1)) hx hb 7 10 hts fin_Machine t_Machine t_Machine_ok n_Machine hown hR hS hk1 (by decide) rfl (by decide) rfl (hts _ m_79cf62f6) (fun _ h9 => h9) rfl (by decide +kernel) rfl rfl (xb_d D_Machine_useNamed 25 rfl) (fun H locs hR hS => ?_)
    obtain ⟨h13, eh13⟩ : ∃ x : xb_H, x = xb_I h x0 10 ((xb_i h x0 10) - 1) := ⟨_, rfl⟩
    rw [← eh13] at hR
    have hw := hw h13 eh13
    have hE : xb_ext h0 h13 := by rw [eh13]; exact hE
    refine lv_aload_n hx hb (xb_d D_Machine_useNamed 26 rfl) rfl (lv_at hl 1 rfl) ?_
    have hk1 : xb_k h13 x0 = 8 := by rw [eh13]; exact hk1
    refine xb_getP (C := R_Machine) (T := F_Machine) (N := 18) hx hb 7 9 hts fin_Machine hown hR hk1 (by decide) rfl (by decide) rfl (hts _ m_6904195b) (fun _ h9 => h9) (xb_d D_Machine_useNamed 27 rfl) ?_
    obtain ⟨b14, eb14, hw⟩ := hw
    refine xb_some eb14 ?_
    refine lv_aload_n hx hb (xb_d D_Machine_useNamed 28 rfl) rfl (lv_at hl 1 rfl) ?_
    refine xb_getI (C := R_Machine) (T := F_Machine) (N := 18) hx hb 7 16 hts fin_Machine hown hR hk1 (by decide) rfl (by decide) rfl (hts _ m_502dfafe) (fun _ h9 => h9) (xb_d D_Machine_useNamed 29 rfl) ?_
    refine lv_iload_n hx hb (xb_d D_Machine_useNamed 30 rfl) rfl (lv_at hl 0 rfl) ?_
    refine lv_iadd hx hb (xb_d D_Machine_useNamed 31 rfl) ?_
    refine lv_aload_n hx hb (xb_d D_Machine_useNamed 32 rfl) rfl (lv_at hl 1 rfl) ?_
    refine xb_getP (C := R_Machine) (T := F_Machine) (N := 18) hx hb 7 9 hts fin_Machine hown hR hk1 (by decide) rfl (by decide) rfl (hts _ m_6904195b) (fun _ h9 => h9) (xb_d D_Machine_useNamed 33 rfl) ?_
    obtain ⟨b15, eb15, hw⟩ := hw
    refine xb_some eb15 ?_
    refine lv_aload_n hx hb (xb_d D_Machine_useNamed 34 rfl) rfl (lv_at hl 1 rfl) ?_
    refine xb_getI (C := R_Machine) (T := F_Machine) (N := 18) hx hb 7 10 hts fin_Machine hown hR hk1 (by decide) rfl (by decide) rfl (hts _ m_79cf62f6) (fun _ h9 => h9) (xb_d D_Machine_useNamed 35 rfl) ?_
    obtain ⟨hk17, hw⟩ := hw
    obtain ⟨hi16, hw⟩ := hw
    refine xb_lald hx hb hR hk17 hi16 (xb_d D_Machine_useNamed 36 rfl) ?_
    obtain ⟨hk18, hw⟩ := hw
    obtain ⟨hi19, hw⟩ := hw
    refine xb_last hx hb hR hS hk18 hi19 (xb_d D_Machine_useNamed 37 rfl) (fun H locs hR hS => ?_)
    obtain ⟨h20, eh20⟩ : ∃ x : xb_H, x = xb_L h13 b14 (Int32.toNatClampNeg ((xb_i h13 x0 16) + v5)) (xb_l h13 b15 (Int32.toNatClampNeg (xb_i h13 x0 10))) := ⟨_, rfl⟩
    rw [← eh20] at hR
    have hw := hw h20 eh20
    have hE : xb_ext h0 h20 := by rw [eh20]; exact hE
    refine lv_goto (tgt := 184) hx hb (xb_d D_Machine_useNamed 38 rfl) rfl ?_
    exact am_Machine_useNamed_L184 l hfl D A σ MC MS h0 Qr h20 hw p e s m args below meth c hC H locs ls k n hE (lv_sub hl [] rfl) hR hS (by omega) (by omega)
  have hw := hw.2
  by_cases hc21 : x1 = 34
  · have hw := hw.1 hc21
    refine xt_numi hc21 ?_
    refine lv_tableIn (off := 82) (tgt := 95) hx hb (xb_d D_Machine_useNamed 9 rfl) (by decide +kernel) (by decide +kernel) (by decide +kernel) (by decide) ?_
    refine lv_aload_n hx hb (xb_d D_Machine_useNamed 39 rfl) rfl (lv_at hl 1 rfl) ?_
    refine xb_getP (C := R_Machine) (T := F_Machine) (N := 18) hx hb 7 9 hts fin_Machine hown hR hk1 (by decide) rfl (by decide) rfl (hts _ m_6904195b) (fun _ h9 => h9) (xb_d D_Machine_useNamed 40 rfl) ?_
    obtain ⟨b22, eb22, hw⟩ := hw
    refine xb_some eb22 ?_
    refine lv_aload_n hx hb (xb_d D_Machine_useNamed 41 rfl) rfl (lv_at hl 1 rfl) ?_
    refine xb_getI (C := R_Machine) (T := F_Machine) (N := 18) hx hb 7 16 hts fin_Machine hown hR hk1 (by decide) rfl (by decide) rfl (hts _ m_502dfafe) (fun _ h9 => h9) (xb_d D_Machine_useNamed 42 rfl) ?_
    refine lv_iload_n hx hb (xb_d D_Machine_useNamed 43 rfl) rfl (lv_at hl 0 rfl) ?_
    refine lv_iadd hx hb (xb_d D_Machine_useNamed 44 rfl) ?_
    refine lv_aload_n hx hb (xb_d D_Machine_useNamed 45 rfl) rfl (lv_at hl 1 rfl) ?_
    refine xb_getP (C := R_Machine) (T := F_Machine) (N := 18) hx hb 7 9 hts fin_Machine hown hR hk1 (by decide) rfl (by decide) rfl (hts _ m_6904195b) (fun _ h9 => h9) (xb_d D_Machine_useNamed 46 rfl) ?_
    obtain ⟨b23, eb23, hw⟩ := hw
    refine xb_some eb23 ?_
    refine lv_aload_n hx hb (xb_d D_Machine_useNamed 47 rfl) rfl (lv_at hl 1 rfl) ?_
    refine xb_getI (C := R_Machine) (T := F_Machine) (N := 18) hx hb 7 10 hts fin_Machine hown hR hk1 (by decide) rfl (by decide) rfl (hts _ m_79cf62f6) (fun _ h9 => h9) (xb_d D_Machine_useNamed 48 rfl) ?_
    refine lv_iconst (v := 1) hx hb (xb_d D_Machine_useNamed 49 rfl) (by decide) ?_
    refine lv_isub hx hb (xb_d D_Machine_useNamed 50 rfl) ?_
    obtain ⟨hk25, hw⟩ := hw
    obtain ⟨hi24, hw⟩ := hw
    refine xb_lald hx hb hR hk25 hi24 (xb_d D_Machine_useNamed 51 rfl) ?_
    obtain ⟨hk26, hw⟩ := hw
    obtain ⟨hi27, hw⟩ := hw
    refine xb_last hx hb hR hS hk26 hi27 (xb_d D_Machine_useNamed 52 rfl) (fun H locs hR hS => ?_)
    obtain ⟨h28, eh28⟩ : ∃ x : xb_H, x = xb_L h b22 (Int32.toNatClampNeg ((xb_i h x0 16) + v5)) (xb_l h b23 (Int32.toNatClampNeg ((xb_i h x0 10) - 1))) := ⟨_, rfl⟩
    rw [← eh28] at hR
    have hw := hw h28 eh28
    have hE : xb_ext h0 h28 := by rw [eh28]; exact hE
    refine lv_goto (tgt := 184) hx hb (xb_d D_Machine_useNamed 53 rfl) rfl ?_
    exact am_Machine_useNamed_L184 l hfl D A σ MC MS h0 Qr h28 hw p e s m args below meth c hC H locs ls k n hE (lv_sub hl [] rfl) hR hS (by omega) (by omega)
  have hw := hw.2
  by_cases hc29 : x1 = 35
  · have hw := hw.1 hc29
    refine xt_numi hc29 ?_
    refine lv_tableIn (off := 107) (tgt := 120) hx hb (xb_d D_Machine_useNamed 9 rfl) (by decide +kernel) (by decide +kernel) (by decide +kernel) (by decide) ?_
    refine lv_aload_n hx hb (xb_d D_Machine_useNamed 54 rfl) rfl (lv_at hl 1 rfl) ?_
    refine lv_aload_n hx hb (xb_d D_Machine_useNamed 55 rfl) rfl (lv_at hl 1 rfl) ?_
    refine xb_getP (C := R_Machine) (T := F_Machine) (N := 18) hx hb 7 0 hts fin_Machine hown hR hk1 (by decide) rfl (by decide) rfl (hts _ m_436e7c8c) (fun _ h9 => h9) (xb_d D_Machine_useNamed 56 rfl) ?_
    obtain ⟨b30, eb30, hw⟩ := hw
    refine xb_some eb30 ?_
    obtain ⟨hk31, hw⟩ := hw
    refine xb_getP (C := R_World) (T := F_World) (N := 16) hx hb 6 3 hts fin_World hown hR hk31 (by decide) rfl (by decide) rfl (hts _ m_b8379059) (fun _ h9 => h9) (xb_d D_Machine_useNamed 57 rfl) ?_
    obtain ⟨b32, eb32, hw⟩ := hw
    refine xb_some eb32 ?_
    obtain ⟨hk33, hw⟩ := hw
    refine xb_getP (C := R_Row) (T := F_Row) (N := 3) hx hb 1 0 hts fin_Row hown hR hk33 (by decide) rfl (by decide) rfl (hts _ m_04d8c73d) (fun _ h9 => h9) (xb_d D_Machine_useNamed 58 rfl) ?_
    obtain ⟨b34, eb34, hw⟩ := hw
    refine xb_some eb34 ?_
    refine lv_aload_n hx hb (xb_d D_Machine_useNamed 59 rfl) rfl (lv_at hl 1 rfl) ?_
    refine xb_getP (C := R_Machine) (T := F_Machine) (N := 18) hx hb 7 12 hts fin_Machine hown hR hk1 (by decide) rfl (by decide) rfl (hts _ m_a347cb26) (fun _ h9 => h9) (xb_d D_Machine_useNamed 60 rfl) ?_
    obtain ⟨b35, eb35, hw⟩ := hw
    refine xb_some eb35 ?_
    refine lv_iload_n hx hb (xb_d D_Machine_useNamed 61 rfl) rfl (lv_at hl 0 rfl) ?_
    obtain ⟨hk36, hw⟩ := hw
    refine xb_call0 (D := D) (A := A) (σ := σ) (h := h) (d := 2) (maxL := 3) (rest := [.ref b34, .ref x0]) (av := [.ref b35, .int v5]) (fun T hT X => by obtain ⟨cb9, ra9, rb9, rc9⟩ := xb_recv (ci := 10) hR rfl hk36 (by decide); exact xt_invV X hx hown (hts _ m_f040af52) (hts _ m_f0cc1dad) (hts _ m_2ed43dba) (xt_sigOf (hts _ m_806ee343)) nm_Instance_variableId (by rw [hT]; exact ra9) rb9 rc9 (g := F0 m 136 ls [.int v5, .ref b35, .ref b34, .ref x0]) rfl (argsL := [.int v5]) (rest := [.ref b34, .ref x0]) rfl rfl (by rw [hb]; exact (xb_d D_Machine_useNamed 62 rfl))) (ok_Instance_variableId l hfl D A σ b35 v5 h _ hw) (hml.trans hl.1.symm) (by rw [hb]; exact (xb_d D_Machine_useNamed 62 rfl)) (Nat.le_of_ble_eq_true rfl) (Nat.le_of_ble_eq_true rfl) (Nat.le_of_ble_eq_true rfl) (show k ≤ MC by omega) (show n ≤ MS by omega) (xt_w1 hB.1 m_806ee343) (xt_cdOf hB.1 m_806ee343) (hts _ m_7a4e907b) hB hR hS hA (fun vv h37 H locs hq hEh37 hR hS => ?_)
    obtain ⟨r38, rfl, hw⟩ := hq
    have hw := hw hEh37
    have hE := hE.tr hEh37
    refine W.eq (g2 := F0 m 139 ls [.int r38, .ref b34, .ref x0]) rfl ?_
    obtain ⟨hk40, hw⟩ := hw
    obtain ⟨hi39, hw⟩ := hw
    refine xb_lald hx hb hR hk40 hi39 (xb_d D_Machine_useNamed 63 rfl) ?_
    have hk1 : xb_k h37 x0 = 8 := hEh37.k hk1
    refine xb_call0 (D := D) (A := A) (σ := σ) (h := h37) (d := 2) (maxL := 3) (rest := []) (av := [.ref x0, .long (xb_l h37 b34 (Int32.toNatClampNeg r38))]) (fun T hT X => by obtain ⟨cb9, ra9, rb9, rc9⟩ := xb_recv (ci := 7) hR rfl hk1 (by decide); exact xt_invV X hx hown (hts _ m_b93b25cc) (hts _ m_5256b489) (hts _ m_b846adde) (xt_sigOf (hts _ m_ea231fcd)) nm_Machine_putValue (by rw [hT]; exact ra9) rb9 rc9 (g := F0 m 140 ls [.long (xb_l h37 b34 (Int32.toNatClampNeg r38)), .ref x0]) rfl (argsL := [.long (xb_l h37 b34 (Int32.toNatClampNeg r38))]) (rest := []) rfl rfl (by rw [hb]; exact (xb_d D_Machine_useNamed 64 rfl))) (ok_Machine_putValue l hfl D A σ x0 (xb_l h37 b34 (Int32.toNatClampNeg r38)) h37 _ hw) (hml.trans hl.1.symm) (by rw [hb]; exact (xb_d D_Machine_useNamed 64 rfl)) (Nat.le_of_ble_eq_true rfl) (Nat.le_of_ble_eq_true rfl) (Nat.le_of_ble_eq_true rfl) (show k ≤ MC by omega) (show n ≤ MS by omega) (xt_w1 hB.1 m_ea231fcd) (xt_cdOf hB.1 m_ea231fcd) (hts _ m_73451f9b) hB hR hS hA (fun vv h41 H locs hq hEh41 hR hS => ?_)
    obtain ⟨rfl, hw⟩ := hq
    have hw := hw hEh41
    have hE := hE.tr hEh41
    refine W.eq (g2 := F0 m 143 ls []) rfl ?_
    refine lv_goto (tgt := 184) hx hb (xb_d D_Machine_useNamed 65 rfl) rfl ?_
    exact am_Machine_useNamed_L184 l hfl D A σ MC MS h0 Qr h41 hw p e s m args below meth c hC H locs ls k n hE (lv_sub hl [] rfl) hR hS (by omega) (by omega)
  have hw := hw.2
  have hw := hw hc6 hc12 hc21 hc29
  refine lv_tableOut (tgt := 146) hx hb (xb_d D_Machine_useNamed 9 rfl) (by have a0 := xb_nl (32) 32 (by decide) hc6; have a1 := xb_nl (33) 33 (by decide) hc12; have a2 := xb_nl (34) 34 (by decide) hc21; have a3 := xb_nl (35) 35 (by decide) hc29; omega) (by decide) ?_
  refine lv_aload_n hx hb (xb_d D_Machine_useNamed 66 rfl) rfl (lv_at hl 1 rfl) ?_
  refine lv_dup hx hb (xb_d D_Machine_useNamed 67 rfl) rfl ?_
  refine xb_getI (C := R_Machine) (T := F_Machine) (N := 18) hx hb 7 10 hts fin_Machine hown hR hk1 (by decide) rfl (by decide) rfl (hts _ m_79cf62f6) (fun _ h9 => h9) (xb_d D_Machine_useNamed 68 rfl) ?_
  refine lv_iconst (v := 1) hx hb (xb_d D_Machine_useNamed 69 rfl) (by decide) ?_
  refine lv_isub hx hb (xb_d D_Machine_useNamed 70 rfl) ?_
  refine xb_putI (C := R_Machine) (T := F_Machine) (N := 18) (ty := .int) (x := ((xb_i h x0 10) - 1)) hx hb 7 10 hts fin_Machine t_Machine t_Machine_ok n_Machine hown hR hS hk1 (by decide) rfl (by decide) rfl (hts _ m_79cf62f6) (fun _ h9 => h9) rfl (by decide +kernel) rfl rfl (xb_d D_Machine_useNamed 71 rfl) (fun H locs hR hS => ?_)
  obtain ⟨h43, eh43⟩ : ∃ x : xb_H, x = xb_I h x0 10 ((xb_i h x0 10) - 1) := ⟨_, rfl⟩
  rw [← eh43] at hR
  have hw := hw h43 eh43
  have hE : xb_ext h0 h43 := by rw [eh43]; exact hE
  refine lv_aload_n hx hb (xb_d D_Machine_useNamed 72 rfl) rfl (lv_at hl 1 rfl) ?_
  have hk1 : xb_k h43 x0 = 8 := by rw [eh43]; exact hk1
  refine xb_getP (C := R_Machine) (T := F_Machine) (N := 18) hx hb 7 0 hts fin_Machine hown hR hk1 (by decide) rfl (by decide) rfl (hts _ m_436e7c8c) (fun _ h9 => h9) (xb_d D_Machine_useNamed 73 rfl) ?_
  obtain ⟨b44, eb44, hw⟩ := hw
  refine xb_some eb44 ?_
  obtain ⟨hk45, hw⟩ := hw
  refine xb_getP (C := R_World) (T := F_World) (N := 16) hx hb 6 3 hts fin_World hown hR hk45 (by decide) rfl (by decide) rfl (hts _ m_b8379059) (fun _ h9 => h9) (xb_d D_Machine_useNamed 74 rfl) ?_
  obtain ⟨b46, eb46, hw⟩ := hw
  refine xb_some eb46 ?_
  obtain ⟨hk47, hw⟩ := hw
  refine xb_getP (C := R_Row) (T := F_Row) (N := 3) hx hb 1 0 hts fin_Row hown hR hk47 (by decide) rfl (by decide) rfl (hts _ m_04d8c73d) (fun _ h9 => h9) (xb_d D_Machine_useNamed 75 rfl) ?_
  obtain ⟨b48, eb48, hw⟩ := hw
  refine xb_some eb48 ?_
  refine lv_aload_n hx hb (xb_d D_Machine_useNamed 76 rfl) rfl (lv_at hl 1 rfl) ?_
  refine xb_getP (C := R_Machine) (T := F_Machine) (N := 18) hx hb 7 12 hts fin_Machine hown hR hk1 (by decide) rfl (by decide) rfl (hts _ m_a347cb26) (fun _ h9 => h9) (xb_d D_Machine_useNamed 77 rfl) ?_
  obtain ⟨b49, eb49, hw⟩ := hw
  refine xb_some eb49 ?_
  refine lv_iload_n hx hb (xb_d D_Machine_useNamed 78 rfl) rfl (lv_at hl 0 rfl) ?_
  obtain ⟨hk50, hw⟩ := hw
  refine xb_call0 (D := D) (A := A) (σ := σ) (h := h43) (d := 2) (maxL := 3) (rest := [.ref b48]) (av := [.ref b49, .int v5]) (fun T hT X => by obtain ⟨cb9, ra9, rb9, rc9⟩ := xb_recv (ci := 10) hR rfl hk50 (by decide); exact xt_invV X hx hown (hts _ m_f040af52) (hts _ m_f0cc1dad) (hts _ m_2ed43dba) (xt_sigOf (hts _ m_806ee343)) nm_Instance_variableId (by rw [hT]; exact ra9) rb9 rc9 (g := F0 m 171 ls [.int v5, .ref b49, .ref b48]) rfl (argsL := [.int v5]) (rest := [.ref b48]) rfl rfl (by rw [hb]; exact (xb_d D_Machine_useNamed 79 rfl))) (ok_Instance_variableId l hfl D A σ b49 v5 h43 _ hw) (hml.trans hl.1.symm) (by rw [hb]; exact (xb_d D_Machine_useNamed 79 rfl)) (Nat.le_of_ble_eq_true rfl) (Nat.le_of_ble_eq_true rfl) (Nat.le_of_ble_eq_true rfl) (show k ≤ MC by omega) (show n ≤ MS by omega) (xt_w1 hB.1 m_806ee343) (xt_cdOf hB.1 m_806ee343) (hts _ m_7a4e907b) hB hR hS hA (fun vv h51 H locs hq hEh51 hR hS => ?_)
  obtain ⟨r52, rfl, hw⟩ := hq
  have hw := hw hEh51
  have hE := hE.tr hEh51
  refine W.eq (g2 := F0 m 174 ls [.int r52, .ref b48]) rfl ?_
  refine lv_aload_n hx hb (xb_d D_Machine_useNamed 80 rfl) rfl (lv_at hl 1 rfl) ?_
  have hk1 : xb_k h51 x0 = 8 := hEh51.k hk1
  refine xb_getP (C := R_Machine) (T := F_Machine) (N := 18) hx hb 7 9 hts fin_Machine hown hR hk1 (by decide) rfl (by decide) rfl (hts _ m_6904195b) (fun _ h9 => h9) (xb_d D_Machine_useNamed 81 rfl) ?_
  obtain ⟨b53, eb53, hw⟩ := hw
  refine xb_some eb53 ?_
  refine lv_aload_n hx hb (xb_d D_Machine_useNamed 82 rfl) rfl (lv_at hl 1 rfl) ?_
  refine xb_getI (C := R_Machine) (T := F_Machine) (N := 18) hx hb 7 10 hts fin_Machine hown hR hk1 (by decide) rfl (by decide) rfl (hts _ m_79cf62f6) (fun _ h9 => h9) (xb_d D_Machine_useNamed 83 rfl) ?_
  obtain ⟨hk55, hw⟩ := hw
  obtain ⟨hi54, hw⟩ := hw
  refine xb_lald hx hb hR hk55 hi54 (xb_d D_Machine_useNamed 84 rfl) ?_
  obtain ⟨hk56, hw⟩ := hw
  obtain ⟨hi57, hw⟩ := hw
  refine xb_last hx hb hR hS hk56 hi57 (xb_d D_Machine_useNamed 85 rfl) (fun H locs hR hS => ?_)
  obtain ⟨h58, eh58⟩ : ∃ x : xb_H, x = xb_L h51 b48 (Int32.toNatClampNeg r52) (xb_l h51 b53 (Int32.toNatClampNeg (xb_i h51 x0 10))) := ⟨_, rfl⟩
  rw [← eh58] at hR
  have hw := hw h58 eh58
  have hE : xb_ext h0 h58 := by rw [eh58]; exact hE
  exact am_Machine_useNamed_L184 l hfl D A σ MC MS h0 Qr h58 hw p e s m args below meth c hC H locs ls k n hE (lv_sub hl [] rfl) hR hS (by omega) (by omega)

theorem m_3e6783db : (.fieldLink "StackHost$Memory" 29 "StackHost$Row" "items" "[J" : Cond) ∈ xt_tbl := xt_in (xt_t1 (List.mem_of_getElem? (i := 147) (by decide +kernel))) (by decide +kernel)
theorem m_da9631d9 : (.methodLink "StackHost$Memory" 35 y_Memory_wordOf : Cond) ∈ xt_tbl := xt_in (xt_t7 (List.mem_of_getElem? (i := 108) (by decide +kernel))) (by decide +kernel)
theorem m_7d011739 : (.instanceMethod y_Memory_wordOf : Cond) ∈ xt_tbl := xt_in (xt_t7 (List.mem_of_getElem? (i := 110) (by decide +kernel))) (by decide +kernel)
theorem m_81c59efd : (.selects "StackHost$Memory" y_Memory_wordOf y_Memory_wordOf : Cond) ∈ xt_tbl := xt_in (xt_v6 (q := (⟨"StackHost$Memory", "wordOf", "(I)I"⟩, 4)) (List.mem_of_getElem? (i := 1) (by decide +kernel))) (by decide +kernel)
theorem m_69b3bf2a : (.code y_Memory_wordOf b_Memory_wordOf 2 (some .int) : Cond) ∈ xt_tbl := xt_in (xt_t7 (List.mem_of_getElem? (i := 111) (by decide +kernel))) (by decide +kernel)
theorem nm_Memory_wordOf : xt_nm y_Memory_wordOf 1 := ⟨by decide +kernel, by decide +kernel⟩
set_option maxRecDepth 100000 in
def T_Memory_byteAt : List (Nat × Instr × Nat) := [(0, .aload_n 0, 1), (1, .getfield 15, 3), (4, .getfield 29, 3), (7, .aload_n 0, 1), (8, .iload_n 1, 1), (9, .invokevirtual 35, 3), (12, .laload, 1), (13, .iload_n 1, 1), (14, .bipush 7, 2), (16, .iand, 1), (17, .iconst 3, 1), (18, .ishl, 1), (19, .lushr, 1), (20, .l2i, 1), (21, .sipush 255, 3), (24, .iand, 1), (25, .ireturn, 1)]
theorem D_Memory_byteAt : ∀ q ∈ T_Memory_byteAt, decode b_Memory_byteAt q.1 = .ok (q.2.1, q.2.2) := by decide +kernel

set_option maxHeartbeats 4000000 in
set_option maxRecDepth 100000 in
theorem ok_Memory_byteAt (l : Launch) (hfl : l.flags = pinnedFlags ++ [noTraceFlag]) (D : va_G) (A : Nat → Prop) (σ : Nat) (x0 : Nat) (x1 : Int32) (h : xb_H) (Qr : Int32 → xb_H → Prop) (hw : w_Memory_byteAt x0 x1 h Qr) : xb_Met l y_Memory_byteAt [.code y_Memory_byteAt b_Memory_byteAt 2 (some .int)] (xb_rm 3 0 0) (xb_Pc D A σ h [.ref x0, .int x1]) (xb_Qc D A h 0 0 (fun v h _ _ => ∃ r, v = some (.int r) ∧ Qr r h) (fun _ _ _ _ => False)) A := by
  refine xb_ofAm (cc := b_Memory_byteAt) (by decide) (Nat.le_of_ble_eq_true rfl) ?_
  unfold w_Memory_byteAt at hw
  show xb_am l D A σ 3 0 0 h (fun v h _ _ => ∃ r, v = some (.int r) ∧ Qr r h) (fun _ _ _ _ => False) y_Memory_byteAt.cls y_Memory_byteAt.name b_Memory_byteAt 2 ([] : List ExceptionTableEntry) (some .int) 0 [(0, .ref x0), (1, .int x1)] [] h 0 0
  obtain ⟨MC, hMC⟩ : ∃ x, x = 0 := ⟨_, rfl⟩
  obtain ⟨MS, hMS⟩ : ∃ x, x = 0 := ⟨_, rfl⟩
  rw [show xb_am l D A σ 3 0 0 = xb_am l D A σ 3 MC MS by rw [hMC, hMS]]
  obtain ⟨h0, hh0⟩ : ∃ x, x = h := ⟨_, rfl⟩
  rw [show xb_am l D A σ 3 MC MS h = xb_am l D A σ 3 MC MS h0 by rw [hh0]]
  intro p e s m args below meth c hC H locs ls k n hE hl hR hS hk hn
  obtain ⟨hx, hb, hown, hlocks, htab, hml, hr, hB, hA, hnm⟩ := id hC
  have hts := hB.1.1.at args
  refine lv_aload_n hx hb (xb_d D_Memory_byteAt 0 rfl) rfl (lv_at hl 0 rfl) ?_
  obtain ⟨hk1, hw⟩ := hw
  refine xb_getP (C := R_Memory) (T := F_Memory) (N := 4) hx hb 12 0 hts fin_Memory hown hR hk1 (by decide) rfl (by decide) rfl (hts _ m_2e5685af) (fun _ h9 => h9) (xb_d D_Memory_byteAt 1 rfl) ?_
  obtain ⟨b2, eb2, hw⟩ := hw
  refine xb_some eb2 ?_
  obtain ⟨hk3, hw⟩ := hw
  refine xb_getP (C := R_Row) (T := F_Row) (N := 3) hx hb 1 0 hts fin_Row hown hR hk3 (by decide) rfl (by decide) rfl (hts _ m_3e6783db) (fun _ h9 => h9) (xb_d D_Memory_byteAt 2 rfl) ?_
  obtain ⟨b4, eb4, hw⟩ := hw
  refine xb_some eb4 ?_
  refine lv_aload_n hx hb (xb_d D_Memory_byteAt 3 rfl) rfl (lv_at hl 0 rfl) ?_
  refine lv_iload_n hx hb (xb_d D_Memory_byteAt 4 rfl) rfl (lv_at hl 1 rfl) ?_
  refine xb_call0 (D := D) (A := A) (σ := σ) (h := h) (d := 2) (maxL := 2) (rest := [.ref b4]) (av := [.ref x0, .int x1]) (fun T hT X => by obtain ⟨cb9, ra9, rb9, rc9⟩ := xb_recv (ci := 12) hR rfl hk1 (by decide); exact xt_invV X hx hown (hts _ m_da9631d9) (hts _ m_7d011739) (hts _ m_81c59efd) (xt_sigOf (hts _ m_69b3bf2a)) nm_Memory_wordOf (by rw [hT]; exact ra9) rb9 rc9 (g := F0 m 9 ls [.int x1, .ref x0, .ref b4]) rfl (argsL := [.int x1]) (rest := [.ref b4]) rfl rfl (by rw [hb]; exact (xb_d D_Memory_byteAt 5 rfl))) (ok_Memory_wordOf l hfl D A σ x0 x1 h _ hw) (hml.trans hl.1.symm) (by rw [hb]; exact (xb_d D_Memory_byteAt 5 rfl)) (Nat.le_of_ble_eq_true rfl) (Nat.le_of_ble_eq_true rfl) (Nat.le_of_ble_eq_true rfl) (show k ≤ MC by omega) (show n ≤ MS by omega) (xt_w1 hB.1 m_69b3bf2a) (xt_cdOf hB.1 m_69b3bf2a) (hts _ m_e7289b5f) hB hR hS hA (fun vv h5 H locs hq hEh5 hR hS => ?_)
  obtain ⟨r6, rfl, hw⟩ := hq
  have hw := hw hEh5
  have hE := hE.tr hEh5
  refine W.eq (g2 := F0 m 12 ls [.int r6, .ref b4]) rfl ?_
  obtain ⟨hk8, hw⟩ := hw
  obtain ⟨hi7, hw⟩ := hw
  refine xb_lald hx hb hR hk8 hi7 (xb_d D_Memory_byteAt 6 rfl) ?_
  refine lv_iload_n hx hb (xb_d D_Memory_byteAt 7 rfl) rfl (lv_at hl 1 rfl) ?_
  refine lv_bipush (v := 7) hx hb (xb_d D_Memory_byteAt 8 rfl) (by decide) ?_
  refine lv_iand hx hb (xb_d D_Memory_byteAt 9 rfl) ?_
  refine lv_iconst (v := 3) hx hb (xb_d D_Memory_byteAt 10 rfl) (by decide) ?_
  refine lv_ishl hx hb (xb_d D_Memory_byteAt 11 rfl) ?_
  refine lv_lushr (v := (xb_lushr (xb_l h5 b4 (Int32.toNatClampNeg r6)) ((x1 &&& 7) <<< (3 &&& 31)))) hx hb (xb_d D_Memory_byteAt 12 rfl) rfl ?_
  refine lv_l2i hx hb (xb_d D_Memory_byteAt 13 rfl) rfl ?_
  refine lv_sipush (v := 255) hx hb (xb_d D_Memory_byteAt 14 rfl) (by decide) ?_
  refine lv_iand hx hb (xb_d D_Memory_byteAt 15 rfl) ?_
  exact xb_iret 0 0 hx hb hr hlocks (show k + 0 ≤ MC by omega) (show n + 0 ≤ MS by omega) hE hR hS (xb_d D_Memory_byteAt 16 rfl) hw

theorem m_70d6edd6 : (.constantLong "StackHost$Memory" 39 255 : Cond) ∈ xt_tbl := xt_in (xt_t7 (List.mem_of_getElem? (i := 113) (by decide +kernel))) (by decide +kernel)
theorem m_5807cf7f : (.constantLong "StackHost$Memory" 41 (-1) : Cond) ∈ xt_tbl := xt_in (xt_t7 (List.mem_of_getElem? (i := 114) (by decide +kernel))) (by decide +kernel)
set_option maxRecDepth 100000 in
def T_Memory_setByte : List (Nat × Instr × Nat) := [(0, .aload_n 0, 1), (1, .iload_n 1, 1), (2, .invokevirtual 35, 3), (5, .istore_n 3, 1), (6, .iload_n 1, 1), (7, .bipush 7, 2), (9, .iand, 1), (10, .iconst 3, 1), (11, .ishl, 1), (12, .istore 4, 2), (14, .aload_n 0, 1), (15, .getfield 15, 3), (18, .getfield 29, 3), (21, .iload_n 3, 1), (22, .aload_n 0, 1), (23, .getfield 15, 3), (26, .getfield 29, 3), (29, .iload_n 3, 1), (30, .laload, 1), (31, .ldc2_w 39, 3), (34, .iload 4, 2), (36, .lshl, 1), (37, .ldc2_w 41, 3), (40, .lxor, 1), (41, .land, 1), (42, .iload_n 2, 1), (43, .i2l, 1), (44, .ldc2_w 39, 3), (47, .land, 1), (48, .iload 4, 2), (50, .lshl, 1), (51, .lor, 1), (52, .lastore, 1), (53, .return_, 1)]
theorem D_Memory_setByte : ∀ q ∈ T_Memory_setByte, decode b_Memory_setByte q.1 = .ok (q.2.1, q.2.2) := by decide +kernel

set_option maxHeartbeats 4000000 in
set_option maxRecDepth 100000 in
theorem ok_Memory_setByte (l : Launch) (hfl : l.flags = pinnedFlags ++ [noTraceFlag]) (D : va_G) (A : Nat → Prop) (σ : Nat) (x0 : Nat) (x1 : Int32) (x2 : Int32) (h : xb_H) (Qr : xb_H → Prop) (hw : w_Memory_setByte x0 x1 x2 h Qr) : xb_Met l y_Memory_setByte [.code y_Memory_setByte b_Memory_setByte 5 none] (xb_rm 3 0 0) (xb_Pc D A σ h [.ref x0, .int x1, .int x2]) (xb_Qc D A h 0 0 (fun v h _ _ => v = none ∧ Qr h) (fun _ _ _ _ => False)) A := by
  refine xb_ofAm (cc := b_Memory_setByte) (by decide) (Nat.le_of_ble_eq_true rfl) ?_
  unfold w_Memory_setByte at hw
  show xb_am l D A σ 3 0 0 h (fun v h _ _ => v = none ∧ Qr h) (fun _ _ _ _ => False) y_Memory_setByte.cls y_Memory_setByte.name b_Memory_setByte 5 ([] : List ExceptionTableEntry) none 0 [(0, .ref x0), (1, .int x1), (2, .int x2)] [] h 0 0
  obtain ⟨MC, hMC⟩ : ∃ x, x = 0 := ⟨_, rfl⟩
  obtain ⟨MS, hMS⟩ : ∃ x, x = 0 := ⟨_, rfl⟩
  rw [show xb_am l D A σ 3 0 0 = xb_am l D A σ 3 MC MS by rw [hMC, hMS]]
  obtain ⟨h0, hh0⟩ : ∃ x, x = h := ⟨_, rfl⟩
  rw [show xb_am l D A σ 3 MC MS h = xb_am l D A σ 3 MC MS h0 by rw [hh0]]
  intro p e s m args below meth c hC H locs ls k n hE hl hR hS hk hn
  obtain ⟨hx, hb, hown, hlocks, htab, hml, hr, hB, hA, hnm⟩ := id hC
  have hts := hB.1.1.at args
  refine lv_aload_n hx hb (xb_d D_Memory_setByte 0 rfl) rfl (lv_at hl 0 rfl) ?_
  refine lv_iload_n hx hb (xb_d D_Memory_setByte 1 rfl) rfl (lv_at hl 1 rfl) ?_
  obtain ⟨hk1, hw⟩ := hw
  refine xb_call0 (D := D) (A := A) (σ := σ) (h := h) (d := 2) (maxL := 2) (rest := []) (av := [.ref x0, .int x1]) (fun T hT X => by obtain ⟨cb9, ra9, rb9, rc9⟩ := xb_recv (ci := 12) hR rfl hk1 (by decide); exact xt_invV X hx hown (hts _ m_da9631d9) (hts _ m_7d011739) (hts _ m_81c59efd) (xt_sigOf (hts _ m_69b3bf2a)) nm_Memory_wordOf (by rw [hT]; exact ra9) rb9 rc9 (g := F0 m 2 ls [.int x1, .ref x0]) rfl (argsL := [.int x1]) (rest := []) rfl rfl (by rw [hb]; exact (xb_d D_Memory_setByte 2 rfl))) (ok_Memory_wordOf l hfl D A σ x0 x1 h _ hw) (hml.trans hl.1.symm) (by rw [hb]; exact (xb_d D_Memory_setByte 2 rfl)) (Nat.le_of_ble_eq_true rfl) (Nat.le_of_ble_eq_true rfl) (Nat.le_of_ble_eq_true rfl) (show k ≤ MC by omega) (show n ≤ MS by omega) (xt_w1 hB.1 m_69b3bf2a) (xt_cdOf hB.1 m_69b3bf2a) (hts _ m_e7289b5f) hB hR hS hA (fun vv h2 H locs hq hEh2 hR hS => ?_)
  obtain ⟨r3, rfl, hw⟩ := hq
  have hw := hw hEh2
  have hE := hE.tr hEh2
  refine W.eq (g2 := F0 m 5 ls [.int r3]) rfl ?_
  refine lv_istore_n hx hb (xb_d D_Memory_setByte 3 rfl) rfl hl (by decide) rfl (fun ls hl => ?_)
  have hl : lv_has ls 5 [(3, .int r3), (0, .ref x0), (1, .int x1), (2, .int x2)] := hl
  refine lv_iload_n hx hb (xb_d D_Memory_setByte 4 rfl) rfl (lv_at hl 2 rfl) ?_
  refine lv_bipush (v := 7) hx hb (xb_d D_Memory_setByte 5 rfl) (by decide) ?_
  refine lv_iand hx hb (xb_d D_Memory_setByte 6 rfl) ?_
  refine lv_iconst (v := 3) hx hb (xb_d D_Memory_setByte 7 rfl) (by decide) ?_
  refine lv_ishl hx hb (xb_d D_Memory_setByte 8 rfl) ?_
  obtain ⟨v4, ev4⟩ : ∃ x : Int32, x = ((x1 &&& 7) <<< (3 &&& 31)) := ⟨_, rfl⟩
  have hw := hw v4 ev4
  refine xt_numi (y := v4) ev4.symm ?_
  refine lv_istore hx hb (xb_d D_Memory_setByte 9 rfl) hl (by decide) rfl (fun ls hl => ?_)
  have hl : lv_has ls 5 [(4, .int v4), (3, .int r3), (0, .ref x0), (1, .int x1), (2, .int x2)] := hl
  refine lv_aload_n hx hb (xb_d D_Memory_setByte 10 rfl) rfl (lv_at hl 2 rfl) ?_
  have hk1 : xb_k h2 x0 = 13 := hEh2.k hk1
  refine xb_getP (C := R_Memory) (T := F_Memory) (N := 4) hx hb 12 0 hts fin_Memory hown hR hk1 (by decide) rfl (by decide) rfl (hts _ m_2e5685af) (fun _ h9 => h9) (xb_d D_Memory_setByte 11 rfl) ?_
  obtain ⟨b5, eb5, hw⟩ := hw
  refine xb_some eb5 ?_
  obtain ⟨hk6, hw⟩ := hw
  refine xb_getP (C := R_Row) (T := F_Row) (N := 3) hx hb 1 0 hts fin_Row hown hR hk6 (by decide) rfl (by decide) rfl (hts _ m_3e6783db) (fun _ h9 => h9) (xb_d D_Memory_setByte 12 rfl) ?_
  obtain ⟨b7, eb7, hw⟩ := hw
  refine xb_some eb7 ?_
  refine lv_iload_n hx hb (xb_d D_Memory_setByte 13 rfl) rfl (lv_at hl 1 rfl) ?_
  refine lv_aload_n hx hb (xb_d D_Memory_setByte 14 rfl) rfl (lv_at hl 2 rfl) ?_
  refine xb_getP (C := R_Memory) (T := F_Memory) (N := 4) hx hb 12 0 hts fin_Memory hown hR hk1 (by decide) rfl (by decide) rfl (hts _ m_2e5685af) (fun _ h9 => h9) (xb_d D_Memory_setByte 15 rfl) ?_
  obtain ⟨b8, eb8, hw⟩ := hw
  refine xb_some eb8 ?_
  obtain ⟨hk9, hw⟩ := hw
  refine xb_getP (C := R_Row) (T := F_Row) (N := 3) hx hb 1 0 hts fin_Row hown hR hk9 (by decide) rfl (by decide) rfl (hts _ m_3e6783db) (fun _ h9 => h9) (xb_d D_Memory_setByte 16 rfl) ?_
  obtain ⟨b10, eb10, hw⟩ := hw
  refine xb_some eb10 ?_
  refine lv_iload_n hx hb (xb_d D_Memory_setByte 17 rfl) rfl (lv_at hl 1 rfl) ?_
  obtain ⟨hk12, hw⟩ := hw
  obtain ⟨hi11, hw⟩ := hw
  refine xb_lald hx hb hR hk12 hi11 (xb_d D_Memory_setByte 18 rfl) ?_
  refine lv_ldc2 (v := 255) hx hb hown (hts _ m_70d6edd6) (xb_d D_Memory_setByte 19 rfl) ?_
  refine lv_iload hx hb (xb_d D_Memory_setByte 20 rfl) (lv_at hl 0 rfl) ?_
  refine lv_lshl (v := (xb_lshl 255 v4)) hx hb (xb_d D_Memory_setByte 21 rfl) rfl ?_
  refine lv_ldc2 (v := (-1)) hx hb hown (hts _ m_5807cf7f) (xb_d D_Memory_setByte 22 rfl) ?_
  refine lv_lxor hx hb (xb_d D_Memory_setByte 23 rfl) ?_
  refine lv_land hx hb (xb_d D_Memory_setByte 24 rfl) ?_
  refine lv_iload_n hx hb (xb_d D_Memory_setByte 25 rfl) rfl (lv_at hl 4 rfl) ?_
  refine lv_i2l hx hb (xb_d D_Memory_setByte 26 rfl) rfl ?_
  refine lv_ldc2 (v := 255) hx hb hown (hts _ m_70d6edd6) (xb_d D_Memory_setByte 27 rfl) ?_
  refine lv_land hx hb (xb_d D_Memory_setByte 28 rfl) ?_
  refine lv_iload hx hb (xb_d D_Memory_setByte 29 rfl) (lv_at hl 0 rfl) ?_
  refine lv_lshl (v := (xb_lshl ((Int32.toInt64 x2) &&& 255) v4)) hx hb (xb_d D_Memory_setByte 30 rfl) rfl ?_
  refine lv_lor hx hb (xb_d D_Memory_setByte 31 rfl) ?_
  obtain ⟨hk13, hw⟩ := hw
  obtain ⟨hi14, hw⟩ := hw
  refine xb_last hx hb hR hS hk13 hi14 (xb_d D_Memory_setByte 32 rfl) (fun H locs hR hS => ?_)
  obtain ⟨h15, eh15⟩ : ∃ x : xb_H, x = xb_L h2 b7 (Int32.toNatClampNeg r3) (((xb_l h2 b10 (Int32.toNatClampNeg r3)) &&& ((xb_lshl 255 v4) ^^^ (-1))) ||| (xb_lshl ((Int32.toInt64 x2) &&& 255) v4)) := ⟨_, rfl⟩
  rw [← eh15] at hR
  have hw := hw h15 eh15
  have hE : xb_ext h0 h15 := by rw [eh15]; exact hE
  exact xb_vret 0 0 hx hb hr hlocks (show k + 0 ≤ MC by omega) (show n + 0 ≤ MS by omega) hE hR hS (xb_d D_Memory_setByte 33 rfl) hw

theorem m_76d8349c : (.fieldLink "StackHost$Reader" 15 "StackHost$Reader" "into" "LStackHost$StackModule;" : Cond) ∈ xt_tbl := xt_in (xt_t1 (List.mem_of_getElem? (i := 50) (by decide +kernel))) (by decide +kernel)
theorem m_6fcde429 : (.methodLink "StackHost$Reader" 37 y_StackModule_fail : Cond) ∈ xt_tbl := xt_in (xt_t3 (List.mem_of_getElem? (i := 173) (by decide +kernel))) (by decide +kernel)
theorem m_49916c4b : (.fieldLink "StackHost$Reader" 30 "StackHost$Reader" "limit" "I" : Cond) ∈ xt_tbl := xt_in (xt_t1 (List.mem_of_getElem? (i := 54) (by decide +kernel))) (by decide +kernel)
set_option maxRecDepth 100000 in
def T_Reader_count : List (Nat × Instr × Nat) := [(0, .iconst 0, 1), (1, .istore_n 1, 1), (2, .iconst 0, 1), (3, .istore_n 2, 1), (4, .iload_n 2, 1), (5, .iconst 5, 1), (6, .if_icmp .ge 101, 3), (9, .aload_n 0, 1), (10, .getfield 41, 3), (13, .aload_n 0, 1), (14, .getfield 30, 3), (17, .if_icmp .lt 15, 3), (20, .aload_n 0, 1), (21, .getfield 15, 3), (24, .iconst 2, 1), (25, .aload_n 0, 1), (26, .getfield 30, 3), (29, .invokevirtual 37, 3), (32, .aload_n 0, 1), (33, .getfield 25, 3), (36, .aload_n 0, 1), (37, .getfield 41, 3), (40, .baload, 1), (41, .sipush 255, 3), (44, .iand, 1), (45, .istore_n 3, 1), (46, .iload_n 2, 1), (47, .iconst 4, 1), (48, .if_icmp .ne 21, 3), (51, .iload_n 3, 1), (52, .bipush 15, 2), (54, .if_icmp .le 15, 3), (57, .aload_n 0, 1), (58, .getfield 15, 3), (61, .iconst 3, 1), (62, .aload_n 0, 1), (63, .getfield 41, 3), (66, .invokevirtual 37, 3), (69, .aload_n 0, 1), (70, .dup, 1), (71, .getfield 41, 3), (74, .iconst 1, 1), (75, .iadd, 1), (76, .putfield 41, 3), (79, .iload_n 1, 1), (80, .iload_n 3, 1), (81, .bipush 127, 2), (83, .iand, 1), (84, .bipush 7, 2), (86, .iload_n 2, 1), (87, .imul, 1), (88, .ishl, 1), (89, .ior, 1), (90, .istore_n 1, 1), (91, .iload_n 3, 1), (92, .sipush 128, 3), (95, .if_icmp .ge 6, 3), (98, .goto 9, 3), (101, .iinc 2 1, 3), (104, .goto (-100), 3), (107, .iload_n 1, 1), (108, .ireturn, 1)]
theorem D_Reader_count : ∀ q ∈ T_Reader_count, decode b_Reader_count q.1 = .ok (q.2.1, q.2.2) := by decide +kernel

set_option maxHeartbeats 4000000 in
set_option maxRecDepth 100000 in
theorem am_Reader_count_L107 (l : Launch) (hfl : l.flags = pinnedFlags ++ [noTraceFlag]) (D : va_G) (A : Nat → Prop) (σ MC MS : Nat) (h0 : xb_H) (Qr : Int32 → xb_H → Nat → Nat → Prop) (Qt : String → xb_H → Nat → Nat → Prop) (x1 : Int32) (h : xb_H) (bc : Nat) (bs : Nat) (hw : w_Reader_count_L107 Qr Qt x1 h bc bs) : xb_am l D A σ 3 MC MS h0 (fun v h bc bs => ∃ r, v = some (.int r) ∧ Qr r h bc bs) Qt y_Reader_count.cls y_Reader_count.name b_Reader_count 4 ([] : List ExceptionTableEntry) (some .int) 107 [(1, .int x1)] [] h bc bs := by
  unfold w_Reader_count_L107 at hw
  intro p e s m args below meth c hC H locs ls k n hE hl hR hS hk hn
  obtain ⟨hx, hb, hown, hlocks, htab, hml, hr, hB, hA, hnm⟩ := id hC
  have hts := hB.1.1.at args
  refine lv_iload_n hx hb (xb_d D_Reader_count 60 rfl) rfl (lv_at hl 0 rfl) ?_
  exact xb_iret bc bs hx hb hr hlocks (show k + bc ≤ MC by omega) (show n + bs ≤ MS by omega) hE hR hS (xb_d D_Reader_count 61 rfl) hw

set_option maxHeartbeats 4000000 in
set_option maxRecDepth 100000 in
theorem am_Reader_count_L69 (l : Launch) (hfl : l.flags = pinnedFlags ++ [noTraceFlag]) (D : va_G) (A : Nat → Prop) (σ MC MS : Nat) (h0 : xb_H) (Qr : Int32 → xb_H → Nat → Nat → Prop) (Qt : String → xb_H → Nat → Nat → Prop) (K4 : Nat → Int32 → Int32 → xb_H → Nat → Nat → Prop) (hK4 : ∀ (x0 : Nat) (x1 : Int32) (x2 : Int32) (h : xb_H) (bc : Nat) (bs : Nat), K4 x0 x1 x2 h bc bs → xb_am l D A σ 3 MC MS h0 (fun v h bc bs => ∃ r, v = some (.int r) ∧ Qr r h bc bs) Qt y_Reader_count.cls y_Reader_count.name b_Reader_count 4 ([] : List ExceptionTableEntry) (some .int) 4 [(0, .ref x0), (1, .int x1), (2, .int x2)] [] h bc bs) (x0 : Nat) (x1 : Int32) (x2 : Int32) (x3 : Int32) (h : xb_H) (bc : Nat) (bs : Nat) (hw : w_Reader_count_L69 K4 Qr Qt x0 x1 x2 x3 h bc bs) : xb_am l D A σ 3 MC MS h0 (fun v h bc bs => ∃ r, v = some (.int r) ∧ Qr r h bc bs) Qt y_Reader_count.cls y_Reader_count.name b_Reader_count 4 ([] : List ExceptionTableEntry) (some .int) 69 [(0, .ref x0), (1, .int x1), (2, .int x2), (3, .int x3)] [] h bc bs := by
  unfold w_Reader_count_L69 at hw
  intro p e s m args below meth c hC H locs ls k n hE hl hR hS hk hn
  obtain ⟨hx, hb, hown, hlocks, htab, hml, hr, hB, hA, hnm⟩ := id hC
  have hts := hB.1.1.at args
  refine lv_aload_n hx hb (xb_d D_Reader_count 38 rfl) rfl (lv_at hl 0 rfl) ?_
  refine lv_dup hx hb (xb_d D_Reader_count 39 rfl) rfl ?_
  obtain ⟨hk1, hw⟩ := hw
  refine xb_getI (C := R_Reader) (T := F_Reader) (N := 6) hx hb 3 3 hts fin_Reader hown hR hk1 (by decide) rfl (by decide) rfl (hts _ m_a9b84ac2) (fun _ h9 => h9) (xb_d D_Reader_count 40 rfl) ?_
  refine lv_iconst (v := 1) hx hb (xb_d D_Reader_count 41 rfl) (by decide) ?_
  refine lv_iadd hx hb (xb_d D_Reader_count 42 rfl) ?_
  refine xb_putI (C := R_Reader) (T := F_Reader) (N := 6) (ty := .int) (x := ((xb_i h x0 3) + 1)) hx hb 3 3 hts fin_Reader t_Reader t_Reader_ok n_Reader hown hR hS hk1 (by decide) rfl (by decide) rfl (hts _ m_a9b84ac2) (fun _ h9 => h9) rfl (by decide +kernel) rfl rfl (xb_d D_Reader_count 43 rfl) (fun H locs hR hS => ?_)
  obtain ⟨h2, eh2⟩ : ∃ x : xb_H, x = xb_I h x0 3 ((xb_i h x0 3) + 1) := ⟨_, rfl⟩
  rw [← eh2] at hR
  have hw := hw h2 eh2
  have hE : xb_ext h0 h2 := by rw [eh2]; exact hE
  refine lv_iload_n hx hb (xb_d D_Reader_count 44 rfl) rfl (lv_at hl 1 rfl) ?_
  refine lv_iload_n hx hb (xb_d D_Reader_count 45 rfl) rfl (lv_at hl 3 rfl) ?_
  refine lv_bipush (v := 127) hx hb (xb_d D_Reader_count 46 rfl) (by decide) ?_
  refine lv_iand hx hb (xb_d D_Reader_count 47 rfl) ?_
  refine lv_bipush (v := 7) hx hb (xb_d D_Reader_count 48 rfl) (by decide) ?_
  refine lv_iload_n hx hb (xb_d D_Reader_count 49 rfl) rfl (lv_at hl 2 rfl) ?_
  refine lv_imul hx hb (xb_d D_Reader_count 50 rfl) ?_
  refine lv_ishl hx hb (xb_d D_Reader_count 51 rfl) ?_
  refine lv_ior hx hb (xb_d D_Reader_count 52 rfl) ?_
  obtain ⟨v3, ev3⟩ : ∃ x : Int32, x = (x1 ||| ((x3 &&& 127) <<< ((7 * x2) &&& 31))) := ⟨_, rfl⟩
  have hw := hw v3 ev3
  refine xt_numi (y := v3) ev3.symm ?_
  refine lv_istore_n hx hb (xb_d D_Reader_count 53 rfl) rfl hl (by decide) rfl (fun ls hl => ?_)
  have hl : lv_has ls 4 [(1, .int v3), (0, .ref x0), (2, .int x2), (3, .int x3)] := hl
  refine lv_iload_n hx hb (xb_d D_Reader_count 54 rfl) rfl (lv_at hl 3 rfl) ?_
  refine lv_sipush (v := 128) hx hb (xb_d D_Reader_count 55 rfl) (by decide) ?_
  refine lv_icmp_ge (tgt := 101) hx hb (xb_d D_Reader_count 56 rfl) rfl (fun hc4 => ?_) (fun hc4 => ?_)
  · have hw := hw.1 hc4
    refine lv_iinc (v := (x2 + 1)) (k := 2) hx hb (xb_d D_Reader_count 58 rfl) hl rfl (by first | rfl | decide) (by decide) rfl (fun ls hl => ?_)
    have hl : lv_has ls 4 [(2, .int (x2 + 1)), (1, .int v3), (0, .ref x0), (3, .int x3)] := hl
    refine lv_goto (tgt := 4) hx hb (xb_d D_Reader_count 59 rfl) rfl ?_
    exact hK4 x0 v3 (x2 + 1) h2 bc bs hw p e s m args below meth c hC H locs ls k n hE (lv_sub hl [2, 1, 0] rfl) hR hS (by omega) (by omega)
  · have hw := hw.2 hc4
    refine lv_goto (tgt := 107) hx hb (xb_d D_Reader_count 57 rfl) rfl ?_
    exact am_Reader_count_L107 l hfl D A σ MC MS h0 Qr Qt v3 h2 bc bs hw p e s m args below meth c hC H locs ls k n hE (lv_sub hl [0] rfl) hR hS (by omega) (by omega)

set_option maxHeartbeats 4000000 in
set_option maxRecDepth 100000 in
theorem am_Reader_count_L32 (l : Launch) (hfl : l.flags = pinnedFlags ++ [noTraceFlag]) (D : va_G) (A : Nat → Prop) (σ MC MS : Nat) (h0 : xb_H) (Qr : Int32 → xb_H → Nat → Nat → Prop) (Qt : String → xb_H → Nat → Nat → Prop) (K4 : Nat → Int32 → Int32 → xb_H → Nat → Nat → Prop) (hK4 : ∀ (x0 : Nat) (x1 : Int32) (x2 : Int32) (h : xb_H) (bc : Nat) (bs : Nat), K4 x0 x1 x2 h bc bs → xb_am l D A σ 3 MC MS h0 (fun v h bc bs => ∃ r, v = some (.int r) ∧ Qr r h bc bs) Qt y_Reader_count.cls y_Reader_count.name b_Reader_count 4 ([] : List ExceptionTableEntry) (some .int) 4 [(0, .ref x0), (1, .int x1), (2, .int x2)] [] h bc bs) (x0 : Nat) (x1 : Int32) (x2 : Int32) (h : xb_H) (bc : Nat) (bs : Nat) (hw : w_Reader_count_L32 K4 Qr Qt x0 x1 x2 h bc bs) : xb_am l D A σ 3 MC MS h0 (fun v h bc bs => ∃ r, v = some (.int r) ∧ Qr r h bc bs) Qt y_Reader_count.cls y_Reader_count.name b_Reader_count 4 ([] : List ExceptionTableEntry) (some .int) 32 [(0, .ref x0), (1, .int x1), (2, .int x2)] [] h bc bs := by
  unfold w_Reader_count_L32 at hw
  intro p e s m args below meth c hC H locs ls k n hE hl hR hS hk hn
  obtain ⟨hx, hb, hown, hlocks, htab, hml, hr, hB, hA, hnm⟩ := id hC
  have hts := hB.1.1.at args
  refine lv_aload_n hx hb (xb_d D_Reader_count 18 rfl) rfl (lv_at hl 0 rfl) ?_
  obtain ⟨hk1, hw⟩ := hw
  refine xb_getP (C := R_Reader) (T := F_Reader) (N := 6) hx hb 3 1 hts fin_Reader hown hR hk1 (by decide) rfl (by decide) rfl (hts _ m_d1ba4be8) (fun _ h9 => h9) (xb_d D_Reader_count 19 rfl) ?_
  obtain ⟨b2, eb2, hw⟩ := hw
  refine xb_some eb2 ?_
  refine lv_aload_n hx hb (xb_d D_Reader_count 20 rfl) rfl (lv_at hl 0 rfl) ?_
  refine xb_getI (C := R_Reader) (T := F_Reader) (N := 6) hx hb 3 3 hts fin_Reader hown hR hk1 (by decide) rfl (by decide) rfl (hts _ m_a9b84ac2) (fun _ h9 => h9) (xb_d D_Reader_count 21 rfl) ?_
  obtain ⟨hk4, hw⟩ := hw
  obtain ⟨hi3, hw⟩ := hw
  refine xb_bald hx hb hR hk4 hi3 (xb_d D_Reader_count 22 rfl) ?_
  refine lv_sipush (v := 255) hx hb (xb_d D_Reader_count 23 rfl) (by decide) ?_
  refine lv_iand hx hb (xb_d D_Reader_count 24 rfl) ?_
  obtain ⟨v5, ev5⟩ : ∃ x : Int32, x = ((xb_i h b2 (Int32.toNatClampNeg (xb_i h x0 3))) &&& 255) := ⟨_, rfl⟩
  have hw := hw v5 ev5
  refine xt_numi (y := v5) ev5.symm ?_
  refine lv_istore_n hx hb (xb_d D_Reader_count 25 rfl) rfl hl (by decide) rfl (fun ls hl => ?_)
  have hl : lv_has ls 4 [(3, .int v5), (0, .ref x0), (1, .int x1), (2, .int x2)] := hl
  refine lv_iload_n hx hb (xb_d D_Reader_count 26 rfl) rfl (lv_at hl 3 rfl) ?_
  refine lv_iconst (v := 4) hx hb (xb_d D_Reader_count 27 rfl) (by decide) ?_
  refine lv_icmp_ne (tgt := 69) hx hb (xb_d D_Reader_count 28 rfl) rfl (fun hc6 => ?_) (fun hc6 => ?_)
  · have hw := hw.1 hc6
    exact am_Reader_count_L69 l hfl D A σ MC MS h0 Qr Qt K4 hK4 x0 x1 x2 v5 h bc bs hw p e s m args below meth c hC H locs ls k n hE (lv_sub hl [1, 2, 3, 0] rfl) hR hS (by omega) (by omega)
  · have hw := hw.2 hc6
    refine lv_iload_n hx hb (xb_d D_Reader_count 29 rfl) rfl (lv_at hl 0 rfl) ?_
    refine lv_bipush (v := 15) hx hb (xb_d D_Reader_count 30 rfl) (by decide) ?_
    refine lv_icmp_le (tgt := 69) hx hb (xb_d D_Reader_count 31 rfl) rfl (fun hc7 => ?_) (fun hc7 => ?_)
    · have hw := hw.1 hc7
      exact am_Reader_count_L69 l hfl D A σ MC MS h0 Qr Qt K4 hK4 x0 x1 x2 v5 h bc bs hw p e s m args below meth c hC H locs ls k n hE (lv_sub hl [1, 2, 3, 0] rfl) hR hS (by omega) (by omega)
    · have hw := hw.2 hc7
      refine lv_aload_n hx hb (xb_d D_Reader_count 32 rfl) rfl (lv_at hl 1 rfl) ?_
      refine xb_getP (C := R_Reader) (T := F_Reader) (N := 6) hx hb 3 0 hts fin_Reader hown hR hk1 (by decide) rfl (by decide) rfl (hts _ m_76d8349c) (fun _ h9 => h9) (xb_d D_Reader_count 33 rfl) ?_
      obtain ⟨b8, eb8, hw⟩ := hw
      refine xb_some eb8 ?_
      refine lv_iconst (v := 3) hx hb (xb_d D_Reader_count 34 rfl) (by decide) ?_
      refine lv_aload_n hx hb (xb_d D_Reader_count 35 rfl) rfl (lv_at hl 1 rfl) ?_
      refine xb_getI (C := R_Reader) (T := F_Reader) (N := 6) hx hb 3 3 hts fin_Reader hown hR hk1 (by decide) rfl (by decide) rfl (hts _ m_a9b84ac2) (fun _ h9 => h9) (xb_d D_Reader_count 36 rfl) ?_
      obtain ⟨hk9, hw⟩ := hw
      refine xb_call (D := D) (A := A) (σ := σ) (h := h) (d := 2) (mc := bc) (ms := bs) (maxL := 3) (rest := []) (av := [.ref b8, .int 3, .int (xb_i h x0 3)]) (fun T hT X => by obtain ⟨cb9, ra9, rb9, rc9⟩ := xb_recv (ci := 2) hR rfl hk9 (by decide); exact xt_invV X hx hown (hts _ m_6fcde429) (hts _ m_865d5b07) (hts _ m_113f8f75) (xt_sigOf (hts _ m_73e65e5f)) nm_StackModule_fail (by rw [hT]; exact ra9) rb9 rc9 (g := F0 m 66 ls [.int (xb_i h x0 3), .int 3, .ref b8]) rfl (argsL := [.int 3, .int (xb_i h x0 3)]) (rest := []) rfl rfl (by rw [hb]; exact (xb_d D_Reader_count 37 rfl))) (ok_StackModule_fail l hfl D A σ b8 3 (xb_i h x0 3) h bc bs _ _ hw) (hml.trans hl.1.symm) (by rw [hb]; exact (xb_d D_Reader_count 37 rfl)) (Nat.le_of_ble_eq_true rfl) (Nat.le_of_ble_eq_true rfl) (Nat.le_of_ble_eq_true rfl) (show k + bc ≤ MC by omega) (show n + bs ≤ MS by omega) (xt_w1 hB.1 m_73e65e5f) (xt_cdOf hB.1 m_73e65e5f) (hts _ m_9c375545) hB hR hS hA (fun vv h10 bc11 bs11 kk11 nn11 H locs hk11 hn11 hq hEh10 hR hS => ?_) (fun XX ax h10 bc11 bs11 kk11 nn11 H locs hk11 hn11 hq hEh10 hex hR hS => ?_)
      · obtain ⟨rfl, hw⟩ := hq
        have hw := hw hEh10
        have hE := hE.tr hEh10
        refine W.eq (g2 := F0 m 69 ls []) rfl ?_
        exact am_Reader_count_L69 l hfl D A σ MC MS h0 Qr Qt K4 hK4 x0 x1 x2 v5 h10 bc11 bs11 hw p e s m args below meth c hC H locs ls (k + kk11) (n + nn11) hE (lv_sub hl [1, 2, 3, 0] rfl) hR hS (by omega) (by omega)
      · exact xb_pass hlocks (fun x hx9 => by rw [htab] at hx9; first | (cases hx9; done) | (simp [tableOf] at hx9; subst hx9; decide) | (simp [tableOf] at hx9; rcases hx9 with rfl | rfl <;> decide) | (simp [tableOf] at hx9; rcases hx9 with rfl | rfl | rfl <;> decide)) (show (k + kk11) + bc11 ≤ MC by omega) (show (n + nn11) + bs11 ≤ MS by omega) (hE.tr hEh10) hR hS hex hq

set_option maxHeartbeats 4000000 in
set_option maxRecDepth 100000 in
theorem am_Reader_count_L4 (l : Launch) (hfl : l.flags = pinnedFlags ++ [noTraceFlag]) (D : va_G) (A : Nat → Prop) (σ MC MS : Nat) (h0 : xb_H) (Qr : Int32 → xb_H → Nat → Nat → Prop) (Qt : String → xb_H → Nat → Nat → Prop) (n9 : Nat) : ∀ (x0 : Nat) (x1 : Int32) (x2 : Int32) (h : xb_H) (bc : Nat) (bs : Nat), w_Reader_count_L4 Qr Qt n9 x0 x1 x2 h bc bs → xb_am l D A σ 3 MC MS h0 (fun v h bc bs => ∃ r, v = some (.int r) ∧ Qr r h bc bs) Qt y_Reader_count.cls y_Reader_count.name b_Reader_count 4 ([] : List ExceptionTableEntry) (some .int) 4 [(0, .ref x0), (1, .int x1), (2, .int x2)] [] h bc bs := by
  induction n9 with
  | zero => intro x0 x1 x2 h bc bs hw; exact False.elim hw
  | succ n9 ih =>
    intro x0 x1 x2 h bc bs hw
    unfold w_Reader_count_L4 at hw
    intro p e s m args below meth c hC H locs ls k n hE hl hR hS hk hn
    obtain ⟨hx, hb, hown, hlocks, htab, hml, hr, hB, hA, hnm⟩ := id hC
    have hts := hB.1.1.at args
    refine lv_iload_n hx hb (xb_d D_Reader_count 4 rfl) rfl (lv_at hl 2 rfl) ?_
    refine lv_iconst (v := 5) hx hb (xb_d D_Reader_count 5 rfl) (by decide) ?_
    refine lv_icmp_ge (tgt := 107) hx hb (xb_d D_Reader_count 6 rfl) rfl (fun hc1 => ?_) (fun hc1 => ?_)
    · have hw := hw.1 hc1
      exact am_Reader_count_L107 l hfl D A σ MC MS h0 Qr Qt x1 h bc bs hw p e s m args below meth c hC H locs ls k n hE (lv_sub hl [1] rfl) hR hS (by omega) (by omega)
    · have hw := hw.2 hc1
      refine lv_aload_n hx hb (xb_d D_Reader_count 7 rfl) rfl (lv_at hl 0 rfl) ?_
      obtain ⟨hk2, hw⟩ := hw
      refine xb_getI (C := R_Reader) (T := F_Reader) (N := 6) hx hb 3 3 hts fin_Reader hown hR hk2 (by decide) rfl (by decide) rfl (hts _ m_a9b84ac2) (fun _ h9 => h9) (xb_d D_Reader_count 8 rfl) ?_
      refine lv_aload_n hx hb (xb_d D_Reader_count 9 rfl) rfl (lv_at hl 0 rfl) ?_
      refine xb_getI (C := R_Reader) (T := F_Reader) (N := 6) hx hb 3 4 hts fin_Reader hown hR hk2 (by decide) rfl (by decide) rfl (hts _ m_49916c4b) (fun _ h9 => h9) (xb_d D_Reader_count 10 rfl) ?_
      refine lv_icmp_lt (tgt := 32) hx hb (xb_d D_Reader_count 11 rfl) rfl (fun hc3 => ?_) (fun hc3 => ?_)
      · have hw := hw.1 hc3
        exact am_Reader_count_L32 l hfl D A σ MC MS h0 Qr Qt (w_Reader_count_L4 Qr Qt n9) ih x0 x1 x2 h bc bs hw p e s m args below meth c hC H locs ls k n hE (lv_sub hl [0, 1, 2] rfl) hR hS (by omega) (by omega)
      · have hw := hw.2 hc3
        refine lv_aload_n hx hb (xb_d D_Reader_count 12 rfl) rfl (lv_at hl 0 rfl) ?_
        refine xb_getP (C := R_Reader) (T := F_Reader) (N := 6) hx hb 3 0 hts fin_Reader hown hR hk2 (by decide) rfl (by decide) rfl (hts _ m_76d8349c) (fun _ h9 => h9) (xb_d D_Reader_count 13 rfl) ?_
        obtain ⟨b4, eb4, hw⟩ := hw
        refine xb_some eb4 ?_
        refine lv_iconst (v := 2) hx hb (xb_d D_Reader_count 14 rfl) (by decide) ?_
        refine lv_aload_n hx hb (xb_d D_Reader_count 15 rfl) rfl (lv_at hl 0 rfl) ?_
        refine xb_getI (C := R_Reader) (T := F_Reader) (N := 6) hx hb 3 4 hts fin_Reader hown hR hk2 (by decide) rfl (by decide) rfl (hts _ m_49916c4b) (fun _ h9 => h9) (xb_d D_Reader_count 16 rfl) ?_
        obtain ⟨hk5, hw⟩ := hw
        refine xb_call (D := D) (A := A) (σ := σ) (h := h) (d := 2) (mc := bc) (ms := bs) (maxL := 3) (rest := []) (av := [.ref b4, .int 2, .int (xb_i h x0 4)]) (fun T hT X => by obtain ⟨cb9, ra9, rb9, rc9⟩ := xb_recv (ci := 2) hR rfl hk5 (by decide); exact xt_invV X hx hown (hts _ m_6fcde429) (hts _ m_865d5b07) (hts _ m_113f8f75) (xt_sigOf (hts _ m_73e65e5f)) nm_StackModule_fail (by rw [hT]; exact ra9) rb9 rc9 (g := F0 m 29 ls [.int (xb_i h x0 4), .int 2, .ref b4]) rfl (argsL := [.int 2, .int (xb_i h x0 4)]) (rest := []) rfl rfl (by rw [hb]; exact (xb_d D_Reader_count 17 rfl))) (ok_StackModule_fail l hfl D A σ b4 2 (xb_i h x0 4) h bc bs _ _ hw) (hml.trans hl.1.symm) (by rw [hb]; exact (xb_d D_Reader_count 17 rfl)) (Nat.le_of_ble_eq_true rfl) (Nat.le_of_ble_eq_true rfl) (Nat.le_of_ble_eq_true rfl) (show k + bc ≤ MC by omega) (show n + bs ≤ MS by omega) (xt_w1 hB.1 m_73e65e5f) (xt_cdOf hB.1 m_73e65e5f) (hts _ m_9c375545) hB hR hS hA (fun vv h6 bc7 bs7 kk7 nn7 H locs hk7 hn7 hq hEh6 hR hS => ?_) (fun XX ax h6 bc7 bs7 kk7 nn7 H locs hk7 hn7 hq hEh6 hex hR hS => ?_)
        · obtain ⟨rfl, hw⟩ := hq
          have hw := hw hEh6
          have hE := hE.tr hEh6
          refine W.eq (g2 := F0 m 32 ls []) rfl ?_
          exact am_Reader_count_L32 l hfl D A σ MC MS h0 Qr Qt (w_Reader_count_L4 Qr Qt n9) ih x0 x1 x2 h6 bc7 bs7 hw p e s m args below meth c hC H locs ls (k + kk7) (n + nn7) hE (lv_sub hl [0, 1, 2] rfl) hR hS (by omega) (by omega)
        · exact xb_pass hlocks (fun x hx9 => by rw [htab] at hx9; first | (cases hx9; done) | (simp [tableOf] at hx9; subst hx9; decide) | (simp [tableOf] at hx9; rcases hx9 with rfl | rfl <;> decide) | (simp [tableOf] at hx9; rcases hx9 with rfl | rfl | rfl <;> decide)) (show (k + kk7) + bc7 ≤ MC by omega) (show (n + nn7) + bs7 ≤ MS by omega) (hE.tr hEh6) hR hS hex hq

set_option maxHeartbeats 4000000 in
set_option maxRecDepth 100000 in
theorem ok_Reader_count (l : Launch) (hfl : l.flags = pinnedFlags ++ [noTraceFlag]) (D : va_G) (A : Nat → Prop) (σ : Nat) (x0 : Nat) (h : xb_H) (bc : Nat) (bs : Nat) (Qr : Int32 → xb_H → Nat → Nat → Prop) (Qt : String → xb_H → Nat → Nat → Prop) (hw : w_Reader_count x0 h bc bs Qr Qt) : xb_Met l y_Reader_count [.code y_Reader_count b_Reader_count 4 (some .int)] (xb_rm 3 bc bs) (xb_Pc D A σ h [.ref x0]) (xb_Qc D A h bc bs (fun v h bc bs => ∃ r, v = some (.int r) ∧ Qr r h bc bs) Qt) A := by
  refine xb_ofAm (cc := b_Reader_count) (by decide) (Nat.le_of_ble_eq_true rfl) ?_
  unfold w_Reader_count at hw
  show xb_am l D A σ 3 bc bs h (fun v h bc bs => ∃ r, v = some (.int r) ∧ Qr r h bc bs) Qt y_Reader_count.cls y_Reader_count.name b_Reader_count 4 ([] : List ExceptionTableEntry) (some .int) 0 [(0, .ref x0)] [] h bc bs
  obtain ⟨MC, hMC⟩ : ∃ x, x = bc := ⟨_, rfl⟩
  obtain ⟨MS, hMS⟩ : ∃ x, x = bs := ⟨_, rfl⟩
  rw [show xb_am l D A σ 3 bc bs = xb_am l D A σ 3 MC MS by rw [hMC, hMS]]
  obtain ⟨h0, hh0⟩ : ∃ x, x = h := ⟨_, rfl⟩
  rw [show xb_am l D A σ 3 MC MS h = xb_am l D A σ 3 MC MS h0 by rw [hh0]]
  intro p e s m args below meth c hC H locs ls k n hE hl hR hS hk hn
  obtain ⟨hx, hb, hown, hlocks, htab, hml, hr, hB, hA, hnm⟩ := id hC
  have hts := hB.1.1.at args
  refine lv_iconst (v := 0) hx hb (xb_d D_Reader_count 0 rfl) (by decide) ?_
  refine lv_istore_n hx hb (xb_d D_Reader_count 1 rfl) rfl hl (by decide) rfl (fun ls hl => ?_)
  have hl : lv_has ls 4 [(1, .int 0), (0, .ref x0)] := hl
  refine lv_iconst (v := 0) hx hb (xb_d D_Reader_count 2 rfl) (by decide) ?_
  refine lv_istore_n hx hb (xb_d D_Reader_count 3 rfl) rfl hl (by decide) rfl (fun ls hl => ?_)
  have hl : lv_has ls 4 [(2, .int 0), (1, .int 0), (0, .ref x0)] := hl
  obtain ⟨n8, hw⟩ := hw
  exact am_Reader_count_L4 l hfl D A σ MC MS h0 Qr Qt n8 x0 0 0 h bc bs hw p e s m args below meth c hC H locs ls k n hE (lv_sub hl [2, 1, 0] rfl) hR hS (by omega) (by omega)

set_option maxRecDepth 100000 in
def T_Reader_limitTo : List (Nat × Instr × Nat) := [(0, .iload_n 1, 1), (1, .ifCond .lt 16, 3), (4, .iload_n 1, 1), (5, .aload_n 0, 1), (6, .getfield 30, 3), (9, .aload_n 0, 1), (10, .getfield 41, 3), (13, .isub, 1), (14, .if_icmp .le 15, 3), (17, .aload_n 0, 1), (18, .getfield 15, 3), (21, .iconst 2, 1), (22, .aload_n 0, 1), (23, .getfield 30, 3), (26, .invokevirtual 37, 3), (29, .aload_n 0, 1), (30, .aload_n 0, 1), (31, .getfield 41, 3), (34, .iload_n 1, 1), (35, .iadd, 1), (36, .putfield 30, 3), (39, .return_, 1)]
theorem D_Reader_limitTo : ∀ q ∈ T_Reader_limitTo, decode b_Reader_limitTo q.1 = .ok (q.2.1, q.2.2) := by decide +kernel

set_option maxHeartbeats 4000000 in
set_option maxRecDepth 100000 in
theorem am_Reader_limitTo_L29 (l : Launch) (hfl : l.flags = pinnedFlags ++ [noTraceFlag]) (D : va_G) (A : Nat → Prop) (σ MC MS : Nat) (h0 : xb_H) (Qr : xb_H → Nat → Nat → Prop) (Qt : String → xb_H → Nat → Nat → Prop) (x0 : Nat) (x1 : Int32) (h : xb_H) (bc : Nat) (bs : Nat) (hw : w_Reader_limitTo_L29 Qr Qt x0 x1 h bc bs) : xb_am l D A σ 3 MC MS h0 (fun v h bc bs => v = none ∧ Qr h bc bs) Qt y_Reader_limitTo.cls y_Reader_limitTo.name b_Reader_limitTo 2 ([] : List ExceptionTableEntry) none 29 [(0, .ref x0), (1, .int x1)] [] h bc bs := by
  unfold w_Reader_limitTo_L29 at hw
  intro p e s m args below meth c hC H locs ls k n hE hl hR hS hk hn
  obtain ⟨hx, hb, hown, hlocks, htab, hml, hr, hB, hA, hnm⟩ := id hC
  have hts := hB.1.1.at args
  refine lv_aload_n hx hb (xb_d D_Reader_limitTo 15 rfl) rfl (lv_at hl 0 rfl) ?_
  refine lv_aload_n hx hb (xb_d D_Reader_limitTo 16 rfl) rfl (lv_at hl 0 rfl) ?_
  obtain ⟨hk1, hw⟩ := hw
  refine xb_getI (C := R_Reader) (T := F_Reader) (N := 6) hx hb 3 3 hts fin_Reader hown hR hk1 (by decide) rfl (by decide) rfl (hts _ m_a9b84ac2) (fun _ h9 => h9) (xb_d D_Reader_limitTo 17 rfl) ?_
  refine lv_iload_n hx hb (xb_d D_Reader_limitTo 18 rfl) rfl (lv_at hl 1 rfl) ?_
  refine lv_iadd hx hb (xb_d D_Reader_limitTo 19 rfl) ?_
  refine xb_putI (C := R_Reader) (T := F_Reader) (N := 6) (ty := .int) (x := ((xb_i h x0 3) + x1)) hx hb 3 4 hts fin_Reader t_Reader t_Reader_ok n_Reader hown hR hS hk1 (by decide) rfl (by decide) rfl (hts _ m_49916c4b) (fun _ h9 => h9) rfl (by decide +kernel) rfl rfl (xb_d D_Reader_limitTo 20 rfl) (fun H locs hR hS => ?_)
  obtain ⟨h2, eh2⟩ : ∃ x : xb_H, x = xb_I h x0 4 ((xb_i h x0 3) + x1) := ⟨_, rfl⟩
  rw [← eh2] at hR
  have hw := hw h2 eh2
  have hE : xb_ext h0 h2 := by rw [eh2]; exact hE
  exact xb_vret bc bs hx hb hr hlocks (show k + bc ≤ MC by omega) (show n + bs ≤ MS by omega) hE hR hS (xb_d D_Reader_limitTo 21 rfl) hw

set_option maxHeartbeats 4000000 in
set_option maxRecDepth 100000 in
theorem am_Reader_limitTo_L17 (l : Launch) (hfl : l.flags = pinnedFlags ++ [noTraceFlag]) (D : va_G) (A : Nat → Prop) (σ MC MS : Nat) (h0 : xb_H) (Qr : xb_H → Nat → Nat → Prop) (Qt : String → xb_H → Nat → Nat → Prop) (x0 : Nat) (x1 : Int32) (h : xb_H) (bc : Nat) (bs : Nat) (hw : w_Reader_limitTo_L17 Qr Qt x0 x1 h bc bs) : xb_am l D A σ 3 MC MS h0 (fun v h bc bs => v = none ∧ Qr h bc bs) Qt y_Reader_limitTo.cls y_Reader_limitTo.name b_Reader_limitTo 2 ([] : List ExceptionTableEntry) none 17 [(0, .ref x0), (1, .int x1)] [] h bc bs := by
  unfold w_Reader_limitTo_L17 at hw
  intro p e s m args below meth c hC H locs ls k n hE hl hR hS hk hn
  obtain ⟨hx, hb, hown, hlocks, htab, hml, hr, hB, hA, hnm⟩ := id hC
  have hts := hB.1.1.at args
  refine lv_aload_n hx hb (xb_d D_Reader_limitTo 9 rfl) rfl (lv_at hl 0 rfl) ?_
  obtain ⟨hk1, hw⟩ := hw
  refine xb_getP (C := R_Reader) (T := F_Reader) (N := 6) hx hb 3 0 hts fin_Reader hown hR hk1 (by decide) rfl (by decide) rfl (hts _ m_76d8349c) (fun _ h9 => h9) (xb_d D_Reader_limitTo 10 rfl) ?_
  obtain ⟨b2, eb2, hw⟩ := hw
  refine xb_some eb2 ?_
  refine lv_iconst (v := 2) hx hb (xb_d D_Reader_limitTo 11 rfl) (by decide) ?_
  refine lv_aload_n hx hb (xb_d D_Reader_limitTo 12 rfl) rfl (lv_at hl 0 rfl) ?_
  refine xb_getI (C := R_Reader) (T := F_Reader) (N := 6) hx hb 3 4 hts fin_Reader hown hR hk1 (by decide) rfl (by decide) rfl (hts _ m_49916c4b) (fun _ h9 => h9) (xb_d D_Reader_limitTo 13 rfl) ?_
  obtain ⟨hk3, hw⟩ := hw
  refine xb_call (D := D) (A := A) (σ := σ) (h := h) (d := 2) (mc := bc) (ms := bs) (maxL := 3) (rest := []) (av := [.ref b2, .int 2, .int (xb_i h x0 4)]) (fun T hT X => by obtain ⟨cb9, ra9, rb9, rc9⟩ := xb_recv (ci := 2) hR rfl hk3 (by decide); exact xt_invV X hx hown (hts _ m_6fcde429) (hts _ m_865d5b07) (hts _ m_113f8f75) (xt_sigOf (hts _ m_73e65e5f)) nm_StackModule_fail (by rw [hT]; exact ra9) rb9 rc9 (g := F0 m 26 ls [.int (xb_i h x0 4), .int 2, .ref b2]) rfl (argsL := [.int 2, .int (xb_i h x0 4)]) (rest := []) rfl rfl (by rw [hb]; exact (xb_d D_Reader_limitTo 14 rfl))) (ok_StackModule_fail l hfl D A σ b2 2 (xb_i h x0 4) h bc bs _ _ hw) (hml.trans hl.1.symm) (by rw [hb]; exact (xb_d D_Reader_limitTo 14 rfl)) (Nat.le_of_ble_eq_true rfl) (Nat.le_of_ble_eq_true rfl) (Nat.le_of_ble_eq_true rfl) (show k + bc ≤ MC by omega) (show n + bs ≤ MS by omega) (xt_w1 hB.1 m_73e65e5f) (xt_cdOf hB.1 m_73e65e5f) (hts _ m_9c375545) hB hR hS hA (fun vv h4 bc5 bs5 kk5 nn5 H locs hk5 hn5 hq hEh4 hR hS => ?_) (fun XX ax h4 bc5 bs5 kk5 nn5 H locs hk5 hn5 hq hEh4 hex hR hS => ?_)
  · obtain ⟨rfl, hw⟩ := hq
    have hw := hw hEh4
    have hE := hE.tr hEh4
    refine W.eq (g2 := F0 m 29 ls []) rfl ?_
    exact am_Reader_limitTo_L29 l hfl D A σ MC MS h0 Qr Qt x0 x1 h4 bc5 bs5 hw p e s m args below meth c hC H locs ls (k + kk5) (n + nn5) hE (lv_sub hl [0, 1] rfl) hR hS (by omega) (by omega)
  · exact xb_pass hlocks (fun x hx9 => by rw [htab] at hx9; first | (cases hx9; done) | (simp [tableOf] at hx9; subst hx9; decide) | (simp [tableOf] at hx9; rcases hx9 with rfl | rfl <;> decide) | (simp [tableOf] at hx9; rcases hx9 with rfl | rfl | rfl <;> decide)) (show (k + kk5) + bc5 ≤ MC by omega) (show (n + nn5) + bs5 ≤ MS by omega) (hE.tr hEh4) hR hS hex hq

set_option maxHeartbeats 4000000 in
set_option maxRecDepth 100000 in
theorem ok_Reader_limitTo (l : Launch) (hfl : l.flags = pinnedFlags ++ [noTraceFlag]) (D : va_G) (A : Nat → Prop) (σ : Nat) (x0 : Nat) (x1 : Int32) (h : xb_H) (bc : Nat) (bs : Nat) (Qr : xb_H → Nat → Nat → Prop) (Qt : String → xb_H → Nat → Nat → Prop) (hw : w_Reader_limitTo x0 x1 h bc bs Qr Qt) : xb_Met l y_Reader_limitTo [.code y_Reader_limitTo b_Reader_limitTo 2 none] (xb_rm 3 bc bs) (xb_Pc D A σ h [.ref x0, .int x1]) (xb_Qc D A h bc bs (fun v h bc bs => v = none ∧ Qr h bc bs) Qt) A := by
  refine xb_ofAm (cc := b_Reader_limitTo) (by decide) (Nat.le_of_ble_eq_true rfl) ?_
  unfold w_Reader_limitTo at hw
  show xb_am l D A σ 3 bc bs h (fun v h bc bs => v = none ∧ Qr h bc bs) Qt y_Reader_limitTo.cls y_Reader_limitTo.name b_Reader_limitTo 2 ([] : List ExceptionTableEntry) none 0 [(0, .ref x0), (1, .int x1)] [] h bc bs
  obtain ⟨MC, hMC⟩ : ∃ x, x = bc := ⟨_, rfl⟩
  obtain ⟨MS, hMS⟩ : ∃ x, x = bs := ⟨_, rfl⟩
  rw [show xb_am l D A σ 3 bc bs = xb_am l D A σ 3 MC MS by rw [hMC, hMS]]
  obtain ⟨h0, hh0⟩ : ∃ x, x = h := ⟨_, rfl⟩
  rw [show xb_am l D A σ 3 MC MS h = xb_am l D A σ 3 MC MS h0 by rw [hh0]]
  intro p e s m args below meth c hC H locs ls k n hE hl hR hS hk hn
  obtain ⟨hx, hb, hown, hlocks, htab, hml, hr, hB, hA, hnm⟩ := id hC
  have hts := hB.1.1.at args
  refine lv_iload_n hx hb (xb_d D_Reader_limitTo 0 rfl) rfl (lv_at hl 1 rfl) ?_
  refine lv_if_lt (tgt := 17) hx hb (xb_d D_Reader_limitTo 1 rfl) rfl (fun hc1 => ?_) (fun hc1 => ?_)
  · have hw := hw.1 hc1
    exact am_Reader_limitTo_L17 l hfl D A σ MC MS h0 Qr Qt x0 x1 h bc bs hw p e s m args below meth c hC H locs ls k n hE (lv_sub hl [0, 1] rfl) hR hS (by omega) (by omega)
  · have hw := hw.2 hc1
    refine lv_iload_n hx hb (xb_d D_Reader_limitTo 2 rfl) rfl (lv_at hl 1 rfl) ?_
    refine lv_aload_n hx hb (xb_d D_Reader_limitTo 3 rfl) rfl (lv_at hl 0 rfl) ?_
    obtain ⟨hk2, hw⟩ := hw
    refine xb_getI (C := R_Reader) (T := F_Reader) (N := 6) hx hb 3 4 hts fin_Reader hown hR hk2 (by decide) rfl (by decide) rfl (hts _ m_49916c4b) (fun _ h9 => h9) (xb_d D_Reader_limitTo 4 rfl) ?_
    refine lv_aload_n hx hb (xb_d D_Reader_limitTo 5 rfl) rfl (lv_at hl 0 rfl) ?_
    refine xb_getI (C := R_Reader) (T := F_Reader) (N := 6) hx hb 3 3 hts fin_Reader hown hR hk2 (by decide) rfl (by decide) rfl (hts _ m_a9b84ac2) (fun _ h9 => h9) (xb_d D_Reader_limitTo 6 rfl) ?_
    refine lv_isub hx hb (xb_d D_Reader_limitTo 7 rfl) ?_
    refine lv_icmp_le (tgt := 29) hx hb (xb_d D_Reader_limitTo 8 rfl) rfl (fun hc3 => ?_) (fun hc3 => ?_)
    · have hw := hw.1 hc3
      exact am_Reader_limitTo_L29 l hfl D A σ MC MS h0 Qr Qt x0 x1 h bc bs hw p e s m args below meth c hC H locs ls k n hE (lv_sub hl [0, 1] rfl) hR hS (by omega) (by omega)
    · have hw := hw.2 hc3
      exact am_Reader_limitTo_L17 l hfl D A σ MC MS h0 Qr Qt x0 x1 h bc bs hw p e s m args below meth c hC H locs ls k n hE (lv_sub hl [0, 1] rfl) hR hS (by omega) (by omega)

set_option maxRecDepth 100000 in
def T_Reader_nextByte : List (Nat × Instr × Nat) := [(0, .aload_n 0, 1), (1, .getfield 41, 3), (4, .aload_n 0, 1), (5, .getfield 30, 3), (8, .if_icmp .lt 15, 3), (11, .aload_n 0, 1), (12, .getfield 15, 3), (15, .iconst 2, 1), (16, .aload_n 0, 1), (17, .getfield 30, 3), (20, .invokevirtual 37, 3), (23, .aload_n 0, 1), (24, .dup, 1), (25, .getfield 41, 3), (28, .iconst 1, 1), (29, .iadd, 1), (30, .putfield 41, 3), (33, .aload_n 0, 1), (34, .getfield 25, 3), (37, .aload_n 0, 1), (38, .getfield 41, 3), (41, .iconst 1, 1), (42, .isub, 1), (43, .baload, 1), (44, .sipush 255, 3), (47, .iand, 1), (48, .ireturn, 1)]
theorem D_Reader_nextByte : ∀ q ∈ T_Reader_nextByte, decode b_Reader_nextByte q.1 = .ok (q.2.1, q.2.2) := by decide +kernel

set_option maxHeartbeats 4000000 in
set_option maxRecDepth 100000 in
theorem am_Reader_nextByte_L23 (l : Launch) (hfl : l.flags = pinnedFlags ++ [noTraceFlag]) (D : va_G) (A : Nat → Prop) (σ MC MS : Nat) (h0 : xb_H) (Qr : Int32 → xb_H → Nat → Nat → Prop) (Qt : String → xb_H → Nat → Nat → Prop) (x0 : Nat) (h : xb_H) (bc : Nat) (bs : Nat) (hw : w_Reader_nextByte_L23 Qr Qt x0 h bc bs) : xb_am l D A σ 3 MC MS h0 (fun v h bc bs => ∃ r, v = some (.int r) ∧ Qr r h bc bs) Qt y_Reader_nextByte.cls y_Reader_nextByte.name b_Reader_nextByte 1 ([] : List ExceptionTableEntry) (some .int) 23 [(0, .ref x0)] [] h bc bs := by
  unfold w_Reader_nextByte_L23 at hw
  intro p e s m args below meth c hC H locs ls k n hE hl hR hS hk hn
  obtain ⟨hx, hb, hown, hlocks, htab, hml, hr, hB, hA, hnm⟩ := id hC
  have hts := hB.1.1.at args
  refine lv_aload_n hx hb (xb_d D_Reader_nextByte 11 rfl) rfl (lv_at hl 0 rfl) ?_
  refine lv_dup hx hb (xb_d D_Reader_nextByte 12 rfl) rfl ?_
  obtain ⟨hk1, hw⟩ := hw
  refine xb_getI (C := R_Reader) (T := F_Reader) (N := 6) hx hb 3 3 hts fin_Reader hown hR hk1 (by decide) rfl (by decide) rfl (hts _ m_a9b84ac2) (fun _ h9 => h9) (xb_d D_Reader_nextByte 13 rfl) ?_
  refine lv_iconst (v := 1) hx hb (xb_d D_Reader_nextByte 14 rfl) (by decide) ?_
  refine lv_iadd hx hb (xb_d D_Reader_nextByte 15 rfl) ?_
  refine xb_putI (C := R_Reader) (T := F_Reader) (N := 6) (ty := .int) (x := ((xb_i h x0 3) + 1)) hx hb 3 3 hts fin_Reader t_Reader t_Reader_ok n_Reader hown hR hS hk1 (by decide) rfl (by decide) rfl (hts _ m_a9b84ac2) (fun _ h9 => h9) rfl (by decide +kernel) rfl rfl (xb_d D_Reader_nextByte 16 rfl) (fun H locs hR hS => ?_)
  obtain ⟨h2, eh2⟩ : ∃ x : xb_H, x = xb_I h x0 3 ((xb_i h x0 3) + 1) := ⟨_, rfl⟩
  rw [← eh2] at hR
  have hw := hw h2 eh2
  have hE : xb_ext h0 h2 := by rw [eh2]; exact hE
  refine lv_aload_n hx hb (xb_d D_Reader_nextByte 17 rfl) rfl (lv_at hl 0 rfl) ?_
  have hk1 : xb_k h2 x0 = 4 := by rw [eh2]; exact hk1
  refine xb_getP (C := R_Reader) (T := F_Reader) (N := 6) hx hb 3 1 hts fin_Reader hown hR hk1 (by decide) rfl (by decide) rfl (hts _ m_d1ba4be8) (fun _ h9 => h9) (xb_d D_Reader_nextByte 18 rfl) ?_
  obtain ⟨b3, eb3, hw⟩ := hw
  refine xb_some eb3 ?_
  refine lv_aload_n hx hb (xb_d D_Reader_nextByte 19 rfl) rfl (lv_at hl 0 rfl) ?_
  refine xb_getI (C := R_Reader) (T := F_Reader) (N := 6) hx hb 3 3 hts fin_Reader hown hR hk1 (by decide) rfl (by decide) rfl (hts _ m_a9b84ac2) (fun _ h9 => h9) (xb_d D_Reader_nextByte 20 rfl) ?_
  refine lv_iconst (v := 1) hx hb (xb_d D_Reader_nextByte 21 rfl) (by decide) ?_
  refine lv_isub hx hb (xb_d D_Reader_nextByte 22 rfl) ?_
  obtain ⟨hk5, hw⟩ := hw
  obtain ⟨hi4, hw⟩ := hw
  refine xb_bald hx hb hR hk5 hi4 (xb_d D_Reader_nextByte 23 rfl) ?_
  refine lv_sipush (v := 255) hx hb (xb_d D_Reader_nextByte 24 rfl) (by decide) ?_
  refine lv_iand hx hb (xb_d D_Reader_nextByte 25 rfl) ?_
  exact xb_iret bc bs hx hb hr hlocks (show k + bc ≤ MC by omega) (show n + bs ≤ MS by omega) hE hR hS (xb_d D_Reader_nextByte 26 rfl) hw

set_option maxHeartbeats 4000000 in
set_option maxRecDepth 100000 in
theorem ok_Reader_nextByte (l : Launch) (hfl : l.flags = pinnedFlags ++ [noTraceFlag]) (D : va_G) (A : Nat → Prop) (σ : Nat) (x0 : Nat) (h : xb_H) (bc : Nat) (bs : Nat) (Qr : Int32 → xb_H → Nat → Nat → Prop) (Qt : String → xb_H → Nat → Nat → Prop) (hw : w_Reader_nextByte x0 h bc bs Qr Qt) : xb_Met l y_Reader_nextByte [.code y_Reader_nextByte b_Reader_nextByte 1 (some .int)] (xb_rm 3 bc bs) (xb_Pc D A σ h [.ref x0]) (xb_Qc D A h bc bs (fun v h bc bs => ∃ r, v = some (.int r) ∧ Qr r h bc bs) Qt) A := by
  refine xb_ofAm (cc := b_Reader_nextByte) (by decide) (Nat.le_of_ble_eq_true rfl) ?_
  unfold w_Reader_nextByte at hw
  show xb_am l D A σ 3 bc bs h (fun v h bc bs => ∃ r, v = some (.int r) ∧ Qr r h bc bs) Qt y_Reader_nextByte.cls y_Reader_nextByte.name b_Reader_nextByte 1 ([] : List ExceptionTableEntry) (some .int) 0 [(0, .ref x0)] [] h bc bs
  obtain ⟨MC, hMC⟩ : ∃ x, x = bc := ⟨_, rfl⟩
  obtain ⟨MS, hMS⟩ : ∃ x, x = bs := ⟨_, rfl⟩
  rw [show xb_am l D A σ 3 bc bs = xb_am l D A σ 3 MC MS by rw [hMC, hMS]]
  obtain ⟨h0, hh0⟩ : ∃ x, x = h := ⟨_, rfl⟩
  rw [show xb_am l D A σ 3 MC MS h = xb_am l D A σ 3 MC MS h0 by rw [hh0]]
  intro p e s m args below meth c hC H locs ls k n hE hl hR hS hk hn
  obtain ⟨hx, hb, hown, hlocks, htab, hml, hr, hB, hA, hnm⟩ := id hC
  have hts := hB.1.1.at args
  refine lv_aload_n hx hb (xb_d D_Reader_nextByte 0 rfl) rfl (lv_at hl 0 rfl) ?_
  obtain ⟨hk1, hw⟩ := hw
  refine xb_getI (C := R_Reader) (T := F_Reader) (N := 6) hx hb 3 3 hts fin_Reader hown hR hk1 (by decide) rfl (by decide) rfl (hts _ m_a9b84ac2) (fun _ h9 => h9) (xb_d D_Reader_nextByte 1 rfl) ?_
  refine lv_aload_n hx hb (xb_d D_Reader_nextByte 2 rfl) rfl (lv_at hl 0 rfl) ?_
  refine xb_getI (C := R_Reader) (T := F_Reader) (N := 6) hx hb 3 4 hts fin_Reader hown hR hk1 (by decide) rfl (by decide) rfl (hts _ m_49916c4b) (fun _ h9 => h9) (xb_d D_Reader_nextByte 3 rfl) ?_
  refine lv_icmp_lt (tgt := 23) hx hb (xb_d D_Reader_nextByte 4 rfl) rfl (fun hc2 => ?_) (fun hc2 => ?_)
  · have hw := hw.1 hc2
    exact am_Reader_nextByte_L23 l hfl D A σ MC MS h0 Qr Qt x0 h bc bs hw p e s m args below meth c hC H locs ls k n hE (lv_sub hl [0] rfl) hR hS (by omega) (by omega)
  · have hw := hw.2 hc2
    refine lv_aload_n hx hb (xb_d D_Reader_nextByte 5 rfl) rfl (lv_at hl 0 rfl) ?_
    refine xb_getP (C := R_Reader) (T := F_Reader) (N := 6) hx hb 3 0 hts fin_Reader hown hR hk1 (by decide) rfl (by decide) rfl (hts _ m_76d8349c) (fun _ h9 => h9) (xb_d D_Reader_nextByte 6 rfl) ?_
    obtain ⟨b3, eb3, hw⟩ := hw
    refine xb_some eb3 ?_
    refine lv_iconst (v := 2) hx hb (xb_d D_Reader_nextByte 7 rfl) (by decide) ?_
    refine lv_aload_n hx hb (xb_d D_Reader_nextByte 8 rfl) rfl (lv_at hl 0 rfl) ?_
    refine xb_getI (C := R_Reader) (T := F_Reader) (N := 6) hx hb 3 4 hts fin_Reader hown hR hk1 (by decide) rfl (by decide) rfl (hts _ m_49916c4b) (fun _ h9 => h9) (xb_d D_Reader_nextByte 9 rfl) ?_
    obtain ⟨hk4, hw⟩ := hw
    refine xb_call (D := D) (A := A) (σ := σ) (h := h) (d := 2) (mc := bc) (ms := bs) (maxL := 3) (rest := []) (av := [.ref b3, .int 2, .int (xb_i h x0 4)]) (fun T hT X => by obtain ⟨cb9, ra9, rb9, rc9⟩ := xb_recv (ci := 2) hR rfl hk4 (by decide); exact xt_invV X hx hown (hts _ m_6fcde429) (hts _ m_865d5b07) (hts _ m_113f8f75) (xt_sigOf (hts _ m_73e65e5f)) nm_StackModule_fail (by rw [hT]; exact ra9) rb9 rc9 (g := F0 m 20 ls [.int (xb_i h x0 4), .int 2, .ref b3]) rfl (argsL := [.int 2, .int (xb_i h x0 4)]) (rest := []) rfl rfl (by rw [hb]; exact (xb_d D_Reader_nextByte 10 rfl))) (ok_StackModule_fail l hfl D A σ b3 2 (xb_i h x0 4) h bc bs _ _ hw) (hml.trans hl.1.symm) (by rw [hb]; exact (xb_d D_Reader_nextByte 10 rfl)) (Nat.le_of_ble_eq_true rfl) (Nat.le_of_ble_eq_true rfl) (Nat.le_of_ble_eq_true rfl) (show k + bc ≤ MC by omega) (show n + bs ≤ MS by omega) (xt_w1 hB.1 m_73e65e5f) (xt_cdOf hB.1 m_73e65e5f) (hts _ m_9c375545) hB hR hS hA (fun vv h5 bc6 bs6 kk6 nn6 H locs hk6 hn6 hq hEh5 hR hS => ?_) (fun XX ax h5 bc6 bs6 kk6 nn6 H locs hk6 hn6 hq hEh5 hex hR hS => ?_)
    · obtain ⟨rfl, hw⟩ := hq
      have hw := hw hEh5
      have hE := hE.tr hEh5
      refine W.eq (g2 := F0 m 23 ls []) rfl ?_
      exact am_Reader_nextByte_L23 l hfl D A σ MC MS h0 Qr Qt x0 h5 bc6 bs6 hw p e s m args below meth c hC H locs ls (k + kk6) (n + nn6) hE (lv_sub hl [0] rfl) hR hS (by omega) (by omega)
    · exact xb_pass hlocks (fun x hx9 => by rw [htab] at hx9; first | (cases hx9; done) | (simp [tableOf] at hx9; subst hx9; decide) | (simp [tableOf] at hx9; rcases hx9 with rfl | rfl <;> decide) | (simp [tableOf] at hx9; rcases hx9 with rfl | rfl | rfl <;> decide)) (show (k + kk6) + bc6 ≤ MC by omega) (show (n + nn6) + bs6 ≤ MS by omega) (hE.tr hEh5) hR hS hex hq

