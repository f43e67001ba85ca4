theorem m_bb531879 : (.methodLink "StackHostModel" 324 y_M_go : Cond) ∈ xt_tbl := xt_in (xt_t11 (List.mem_of_getElem? (i := 76) (by decide +kernel))) (by decide +kernel)
theorem m_4a6cd4a0 : (.instanceMethod y_M_go : Cond) ∈ xt_tbl := xt_in (xt_t11 (List.mem_of_getElem? (i := 78) (by decide +kernel))) (by decide +kernel)
theorem m_d1c31e3c : (.selects "StackHostModel" y_M_go y_M_go : Cond) ∈ xt_tbl := xt_in (xt_v10 (q := (⟨"StackHostModel", "go", "(II)V"⟩, 97)) (List.mem_of_getElem? (i := 11) (by decide +kernel))) (by decide +kernel)
theorem m_48217fba : (.code y_M_go b_M_go 3 none : Cond) ∈ xt_tbl := xt_in (xt_t11 (List.mem_of_getElem? (i := 79) (by decide +kernel))) (by decide +kernel)
theorem nm_M_go : xt_nm y_M_go 2 := ⟨by decide +kernel, by decide +kernel⟩
set_option maxRecDepth 100000 in
def T_M_isNamed : List (Nat × Instr × Nat) := [(0, .aload_n 0, 1), (1, .iload_n 1, 1), (2, .iload_n 2, 1), (3, .invokevirtual 324, 3), (6, .aload_n 0, 1), (7, .invokevirtual 218, 3), (10, .l2i, 1), (11, .iload 4, 2), (13, .if_icmp .ne 7, 3), (16, .iconst 1, 1), (17, .goto 4, 3), (20, .iconst 0, 1), (21, .istore 5, 2), (23, .iconst 0, 1), (24, .istore 6, 2), (26, .iload 6, 2), (28, .iload 4, 2), (30, .if_icmp .ge 45, 3), (33, .iload 5, 2), (35, .ifCond .eq 40, 3), (38, .aload_n 0, 1), (39, .getfield 14, 3), (42, .aload_n 0, 1), (43, .getfield 202, 3), (46, .iload 6, 2), (48, .iadd, 1), (49, .baload, 1), (50, .aload_n 0, 1), (51, .getfield 14, 3), (54, .iload_n 3, 1), (55, .iload 6, 2), (57, .iadd, 1), (58, .baload, 1), (59, .if_icmp .ne 7, 3), (62, .iconst 1, 1), (63, .goto 4, 3), (66, .iconst 0, 1), (67, .istore 5, 2), (69, .iinc 6 1, 3), (72, .goto (-46), 3), (75, .iload 5, 2), (77, .ireturn, 1)]
theorem D_M_isNamed : ∀ q ∈ T_M_isNamed, decode b_M_isNamed q.1 = .ok (q.2.1, q.2.2) := by decide +kernel

set_option maxHeartbeats 4000000 in
set_option maxRecDepth 100000 in
theorem am_M_isNamed_L75 (l : Launch) (hfl : l.flags = pinnedFlags ++ [noTraceFlag]) (D : va_G) (A : Nat → Prop) (σ MC MS : Nat) (h0 : xb_H) (Qr : Int32 → xb_H → Prop) (x5 : Int32) (h : xb_H) (hw : w_M_isNamed_L75 Qr x5 h) : xb_am l D A σ 5 MC MS h0 (fun v h _ _ => ∃ r, v = some (.int r) ∧ Qr r h) (fun _ _ _ _ => False) y_M_isNamed.cls y_M_isNamed.name b_M_isNamed 7 ([] : List ExceptionTableEntry) (some .boolean) 75 [(5, .int x5)] [] h 0 0 := by
  unfold w_M_isNamed_L75 at hw
  intro p e s m args below meth c hC H locs ls k n hE hl hR hS hk hn
  obtain ⟨hx, hb, hown, hlocks, htab, hml, hr, hB, hA, hnm⟩ := id hC
  have hts := hB.1.1.at args
  refine lv_iload hx hb (xb_d D_M_isNamed 40 rfl) (lv_at hl 0 rfl) ?_
  exact xb_zret 0 0 hx hb hr hlocks (show k + 0 ≤ MC by omega) (show n + 0 ≤ MS by omega) hw.1 hE hR hS (xb_d D_M_isNamed 41 rfl) hw.2

set_option maxHeartbeats 4000000 in
set_option maxRecDepth 100000 in
theorem am_M_isNamed_L67 (l : Launch) (hfl : l.flags = pinnedFlags ++ [noTraceFlag]) (D : va_G) (A : Nat → Prop) (σ MC MS : Nat) (h0 : xb_H) (Qr : Int32 → xb_H → Prop) (K26 : Nat → Int32 → Int32 → Int32 → Int32 → xb_H → Prop) (hK26 : ∀ (x0 : Nat) (x3 : Int32) (x4 : Int32) (x5 : Int32) (x6 : Int32) (h : xb_H), K26 x0 x3 x4 x5 x6 h → xb_am l D A σ 5 MC MS h0 (fun v h _ _ => ∃ r, v = some (.int r) ∧ Qr r h) (fun _ _ _ _ => False) y_M_isNamed.cls y_M_isNamed.name b_M_isNamed 7 ([] : List ExceptionTableEntry) (some .boolean) 26 [(0, .ref x0), (3, .int x3), (4, .int x4), (5, .int x5), (6, .int x6)] [] h 0 0) (x0 : Nat) (x3 : Int32) (x4 : Int32) (x6 : Int32) (y0 : Int32) (h : xb_H) (hw : w_M_isNamed_L67 K26 Qr x0 x3 x4 x6 y0 h) : xb_am l D A σ 5 MC MS h0 (fun v h _ _ => ∃ r, v = some (.int r) ∧ Qr r h) (fun _ _ _ _ => False) y_M_isNamed.cls y_M_isNamed.name b_M_isNamed 7 ([] : List ExceptionTableEntry) (some .boolean) 67 [(0, .ref x0), (3, .int x3), (4, .int x4), (6, .int x6)] [.int y0] h 0 0 := by
  unfold w_M_isNamed_L67 at hw
  intro p e s m args below meth c hC H locs ls k n hE hl hR hS hk hn
  obtain ⟨hx, hb, hown, hlocks, htab, hml, hr, hB, hA, hnm⟩ := id hC
  have hts := hB.1.1.at args
  refine lv_istore hx hb (xb_d D_M_isNamed 37 rfl) hl (by decide) rfl (fun ls hl => ?_)
  have hl : lv_has ls 7 [(5, .int y0), (0, .ref x0), (3, .int x3), (4, .int x4), (6, .int x6)] := hl
  refine lv_iinc (v := (x6 + 1)) (k := 4) hx hb (xb_d D_M_isNamed 38 rfl) hl rfl (by first | rfl | decide) (by decide) rfl (fun ls hl => ?_)
  have hl : lv_has ls 7 [(6, .int (x6 + 1)), (5, .int y0), (0, .ref x0), (3, .int x3), (4, .int x4)] := hl
  refine lv_goto (tgt := 26) hx hb (xb_d D_M_isNamed 39 rfl) rfl ?_
  exact hK26 x0 x3 x4 y0 (x6 + 1) h hw p e s m args below meth c hC H locs ls k n hE (lv_sub hl [2, 3, 4, 1, 0] rfl) hR hS (by omega) (by omega)

set_option maxHeartbeats 4000000 in
set_option maxRecDepth 100000 in
theorem am_M_isNamed_L26 (l : Launch) (hfl : l.flags = pinnedFlags ++ [noTraceFlag]) (D : va_G) (A : Nat → Prop) (σ MC MS : Nat) (h0 : xb_H) (Qr : Int32 → xb_H → Prop) (n9 : Nat) : ∀ (x0 : Nat) (x3 : Int32) (x4 : Int32) (x5 : Int32) (x6 : Int32) (h : xb_H), w_M_isNamed_L26 Qr n9 x0 x3 x4 x5 x6 h → xb_am l D A σ 5 MC MS h0 (fun v h _ _ => ∃ r, v = some (.int r) ∧ Qr r h) (fun _ _ _ _ => False) y_M_isNamed.cls y_M_isNamed.name b_M_isNamed 7 ([] : List ExceptionTableEntry) (some .boolean) 26 [(0, .ref x0), (3, .int x3), (4, .int x4), (5, .int x5), (6, .int x6)] [] h 0 0 := by
  induction n9 with
  | zero => intro x0 x3 x4 x5 x6 h hw; exact False.elim hw
  | succ n9 ih =>
    intro x0 x3 x4 x5 x6 h hw
    unfold w_M_isNamed_L26 at hw
    intro p e s m args below meth c hC H locs ls k n hE hl hR hS hk hn
    obtain ⟨hx, hb, hown, hlocks, htab, hml, hr, hB, hA, hnm⟩ := id hC
    have hts := hB.1.1.at args
    refine lv_iload hx hb (xb_d D_M_isNamed 15 rfl) (lv_at hl 4 rfl) ?_
    refine lv_iload hx hb (xb_d D_M_isNamed 16 rfl) (lv_at hl 2 rfl) ?_
    refine lv_icmp_ge (tgt := 75) hx hb (xb_d D_M_isNamed 17 rfl) rfl (fun hc1 => ?_) (fun hc1 => ?_)
    · have hw := hw.1 hc1
      exact am_M_isNamed_L75 l hfl D A σ MC MS h0 Qr x5 h hw p e s m args below meth c hC H locs ls k n hE (lv_sub hl [3] rfl) hR hS (by omega) (by omega)
    · have hw := hw.2 hc1
      refine lv_iload hx hb (xb_d D_M_isNamed 18 rfl) (lv_at hl 3 rfl) ?_
      refine lv_if_eq (tgt := 75) hx hb (xb_d D_M_isNamed 19 rfl) rfl (fun hc2 => ?_) (fun hc2 => ?_)
      · have hw := hw.1 hc2
        exact am_M_isNamed_L75 l hfl D A σ MC MS h0 Qr x5 h hw p e s m args below meth c hC H locs ls k n hE (lv_sub hl [3] rfl) hR hS (by omega) (by omega)
      · have hw := hw.2 hc2
        refine lv_aload_n hx hb (xb_d D_M_isNamed 20 rfl) rfl (lv_at hl 0 rfl) ?_
        obtain ⟨hk3, hw⟩ := hw
        refine xb_getP (C := R_M) (T := F_M) (N := 97) hx hb 8 3 hts fin_M hown hR hk3 (by decide) rfl (by decide) rfl (hts _ m_4f0568af) (fun _ h9 => h9) (xb_d D_M_isNamed 21 rfl) ?_
        obtain ⟨b4, eb4, hw⟩ := hw
        refine xb_some eb4 ?_
        refine lv_aload_n hx hb (xb_d D_M_isNamed 22 rfl) rfl (lv_at hl 0 rfl) ?_
        refine xb_getI (C := R_M) (T := F_M) (N := 97) hx hb 8 15 hts fin_M hown hR hk3 (by decide) rfl (by decide) rfl (hts _ m_6c2d27ad) (fun _ h9 => h9) (xb_d D_M_isNamed 23 rfl) ?_
        refine lv_iload hx hb (xb_d D_M_isNamed 24 rfl) (lv_at hl 4 rfl) ?_
        refine lv_iadd hx hb (xb_d D_M_isNamed 25 rfl) ?_
        obtain ⟨hk6, hw⟩ := hw
        obtain ⟨hi5, hw⟩ := hw
        refine xb_bald hx hb hR hk6 hi5 (xb_d D_M_isNamed 26 rfl) ?_
        refine lv_aload_n hx hb (xb_d D_M_isNamed 27 rfl) rfl (lv_at hl 0 rfl) ?_
        refine xb_getP (C := R_M) (T := F_M) (N := 97) hx hb 8 3 hts fin_M hown hR hk3 (by decide) rfl (by decide) rfl (hts _ m_4f0568af) (fun _ h9 => h9) (xb_d D_M_isNamed 28 rfl) ?_
        obtain ⟨b7, eb7, hw⟩ := hw
        refine xb_some eb7 ?_
        refine lv_iload_n hx hb (xb_d D_M_isNamed 29 rfl) rfl (lv_at hl 1 rfl) ?_
        refine lv_iload hx hb (xb_d D_M_isNamed 30 rfl) (lv_at hl 4 rfl) ?_
        refine lv_iadd hx hb (xb_d D_M_isNamed 31 rfl) ?_
        obtain ⟨hk9, hw⟩ := hw
        obtain ⟨hi8, hw⟩ := hw
        refine xb_bald hx hb hR hk9 hi8 (xb_d D_M_isNamed 32 rfl) ?_
        refine lv_icmp_ne (tgt := 66) hx hb (xb_d D_M_isNamed 33 rfl) rfl (fun hc10 => ?_) (fun hc10 => ?_)
        · have hw := hw.1 hc10
          refine lv_iconst (v := 0) hx hb (xb_d D_M_isNamed 36 rfl) (by decide) ?_
          exact am_M_isNamed_L67 l hfl D A σ MC MS h0 Qr (w_M_isNamed_L26 Qr n9) ih x0 x3 x4 x6 0 h hw p e s m args below meth c hC H locs ls k n hE (lv_sub hl [0, 1, 2, 4] rfl) hR hS (by omega) (by omega)
        · have hw := hw.2 hc10
          refine lv_iconst (v := 1) hx hb (xb_d D_M_isNamed 34 rfl) (by decide) ?_
          refine lv_goto (tgt := 67) hx hb (xb_d D_M_isNamed 35 rfl) rfl ?_
          exact am_M_isNamed_L67 l hfl D A σ MC MS h0 Qr (w_M_isNamed_L26 Qr n9) ih x0 x3 x4 x6 1 h hw p e s m args below meth c hC H locs ls k n hE (lv_sub hl [0, 1, 2, 4] rfl) hR hS (by omega) (by omega)

set_option maxHeartbeats 4000000 in
set_option maxRecDepth 100000 in
theorem am_M_isNamed_L21 (l : Launch) (hfl : l.flags = pinnedFlags ++ [noTraceFlag]) (D : va_G) (A : Nat → Prop) (σ MC MS : Nat) (h0 : xb_H) (Qr : Int32 → xb_H → Prop) (x0 : Nat) (x3 : Int32) (x4 : Int32) (y0 : Int32) (h : xb_H) (hw : w_M_isNamed_L21 Qr x0 x3 x4 y0 h) : xb_am l D A σ 5 MC MS h0 (fun v h _ _ => ∃ r, v = some (.int r) ∧ Qr r h) (fun _ _ _ _ => False) y_M_isNamed.cls y_M_isNamed.name b_M_isNamed 7 ([] : List ExceptionTableEntry) (some .boolean) 21 [(0, .ref x0), (3, .int x3), (4, .int x4)] [.int y0] h 0 0 := by
  unfold w_M_isNamed_L21 at hw
  intro p e s m args below meth c hC H locs ls k n hE hl hR hS hk hn
  obtain ⟨hx, hb, hown, hlocks, htab, hml, hr, hB, hA, hnm⟩ := id hC
  have hts := hB.1.1.at args
  refine lv_istore hx hb (xb_d D_M_isNamed 12 rfl) hl (by decide) rfl (fun ls hl => ?_)
  have hl : lv_has ls 7 [(5, .int y0), (0, .ref x0), (3, .int x3), (4, .int x4)] := hl
  refine lv_iconst (v := 0) hx hb (xb_d D_M_isNamed 13 rfl) (by decide) ?_
  refine lv_istore hx hb (xb_d D_M_isNamed 14 rfl) hl (by decide) rfl (fun ls hl => ?_)
  have hl : lv_has ls 7 [(6, .int 0), (5, .int y0), (0, .ref x0), (3, .int x3), (4, .int x4)] := hl
  obtain ⟨n8, hw⟩ := hw
  exact am_M_isNamed_L26 l hfl D A σ MC MS h0 Qr n8 x0 x3 x4 y0 0 h hw p e s m args below meth c hC H locs ls k n hE (lv_sub hl [2, 3, 4, 1, 0] rfl) hR hS (by omega) (by omega)

set_option maxHeartbeats 4000000 in
set_option maxRecDepth 100000 in
theorem ok_M_isNamed (l : Launch) (hfl : l.flags = pinnedFlags ++ [noTraceFlag]) (D : va_G) (A : Nat → Prop) (σ : Nat) (x0 : Nat) (x1 : Int32) (x2 : Int32) (x3 : Int32) (x4 : Int32) (h : xb_H) (Qr : Int32 → xb_H → Prop) (hw : w_M_isNamed x0 x1 x2 x3 x4 h Qr) : xb_Met l y_M_isNamed [.code y_M_isNamed b_M_isNamed 7 (some .boolean)] (xb_rm 5 0 0) (xb_Pc D A σ h [.ref x0, .int x1, .int x2, .int x3, .int x4]) (xb_Qc D A h 0 0 (fun v h _ _ => ∃ r, v = some (.int r) ∧ Qr r h) (fun _ _ _ _ => False)) A := by
  refine xb_ofAm (cc := b_M_isNamed) (by decide) (Nat.le_of_ble_eq_true rfl) ?_
  unfold w_M_isNamed at hw
  show xb_am l D A σ 5 0 0 h (fun v h _ _ => ∃ r, v = some (.int r) ∧ Qr r h) (fun _ _ _ _ => False) y_M_isNamed.cls y_M_isNamed.name b_M_isNamed 7 ([] : List ExceptionTableEntry) (some .boolean) 0 [(0, .ref x0), (1, .int x1), (2, .int x2), (3, .int x3), (4, .int x4)] [] h 0 0
  obtain ⟨MC, hMC⟩ : ∃ x, x = 0 := ⟨_, rfl⟩
  obtain ⟨MS, hMS⟩ : ∃ x, x = 0 := ⟨_, rfl⟩
  rw [show xb_am l D A σ 5 0 0 = xb_am l D A σ 5 MC MS by rw [hMC, hMS]]
  obtain ⟨h0, hh0⟩ : ∃ x, x = h := ⟨_, rfl⟩
  rw [show xb_am l D A σ 5 MC MS h = xb_am l D A σ 5 MC MS h0 by rw [hh0]]
  intro p e s m args below meth c hC H locs ls k n hE hl hR hS hk hn
  obtain ⟨hx, hb, hown, hlocks, htab, hml, hr, hB, hA, hnm⟩ := id hC
  have hts := hB.1.1.at args
  refine lv_aload_n hx hb (xb_d D_M_isNamed 0 rfl) rfl (lv_at hl 0 rfl) ?_
  refine lv_iload_n hx hb (xb_d D_M_isNamed 1 rfl) rfl (lv_at hl 1 rfl) ?_
  refine lv_iload_n hx hb (xb_d D_M_isNamed 2 rfl) rfl (lv_at hl 2 rfl) ?_
  obtain ⟨hk1, hw⟩ := hw
  refine xb_call0 (D := D) (A := A) (σ := σ) (h := h) (d := 2) (maxL := 3) (rest := []) (av := [.ref x0, .int x1, .int x2]) (fun T hT X => by obtain ⟨cb9, ra9, rb9, rc9⟩ := xb_recv (ci := 8) hR rfl hk1 (by decide); exact xt_invV X hx hown (hts _ m_bb531879) (hts _ m_4a6cd4a0) (hts _ m_d1c31e3c) (xt_sigOf (hts _ m_48217fba)) nm_M_go (by rw [hT]; exact ra9) rb9 rc9 (g := F0 m 3 ls [.int x2, .int x1, .ref x0]) rfl (argsL := [.int x1, .int x2]) (rest := []) rfl rfl (by rw [hb]; exact (xb_d D_M_isNamed 3 rfl))) (ok_M_go l hfl D A σ x0 x1 x2 h _ hw) (hml.trans hl.1.symm) (by rw [hb]; exact (xb_d D_M_isNamed 3 rfl)) (Nat.le_of_ble_eq_true rfl) (Nat.le_of_ble_eq_true rfl) (Nat.le_of_ble_eq_true rfl) (show k ≤ MC by omega) (show n ≤ MS by omega) (xt_w1 hB.1 m_48217fba) (xt_cdOf hB.1 m_48217fba) (hts _ m_d5ed7bed) hB hR hS hA (fun vv h2 H locs hq hEh2 hR hS => ?_)
  obtain ⟨rfl, hw⟩ := hq
  have hw := hw hEh2
  have hE := hE.tr hEh2
  refine W.eq (g2 := F0 m 6 ls []) rfl ?_
  refine lv_aload_n hx hb (xb_d D_M_isNamed 4 rfl) rfl (lv_at hl 0 rfl) ?_
  have hk1 : xb_k h2 x0 = 9 := hEh2.k hk1
  refine xb_call0 (D := D) (A := A) (σ := σ) (h := h2) (d := 4) (maxL := 5) (rest := []) (av := [.ref x0]) (fun T hT X => by obtain ⟨cb9, ra9, rb9, rc9⟩ := xb_recv (ci := 8) hR rfl hk1 (by decide); exact xt_invV X hx hown (hts _ m_e991293f) (hts _ m_385a74b3) (hts _ m_c9fbcd02) (xt_sigOf (hts _ m_1f53f210)) nm_M_count (by rw [hT]; exact ra9) rb9 rc9 (g := F0 m 7 ls [.ref x0]) rfl (argsL := []) (rest := []) rfl rfl (by rw [hb]; exact (xb_d D_M_isNamed 5 rfl))) (ok_M_count l hfl D A σ x0 h2 _ hw) (hml.trans hl.1.symm) (by rw [hb]; exact (xb_d D_M_isNamed 5 rfl)) (Nat.le_of_ble_eq_true rfl) (Nat.le_of_ble_eq_true rfl) (Nat.le_of_ble_eq_true rfl) (show k ≤ MC by omega) (show n ≤ MS by omega) (xt_w1 hB.1 m_1f53f210) (xt_cdOf hB.1 m_1f53f210) (hts _ m_d5ed7bed) hB hR hS hA (fun vv h4 H locs hq hEh4 hR hS => ?_)
  obtain ⟨r5, rfl, hw⟩ := hq
  have hw := hw hEh4
  have hE := hE.tr hEh4
  refine W.eq (g2 := F0 m 10 ls [.long r5]) rfl ?_
  refine lv_l2i hx hb (xb_d D_M_isNamed 6 rfl) rfl ?_
  refine lv_iload hx hb (xb_d D_M_isNamed 7 rfl) (lv_at hl 4 rfl) ?_
  refine lv_icmp_ne (tgt := 20) hx hb (xb_d D_M_isNamed 8 rfl) rfl (fun hc6 => ?_) (fun hc6 => ?_)
  · have hw := hw.1 hc6
    refine lv_iconst (v := 0) hx hb (xb_d D_M_isNamed 11 rfl) (by decide) ?_
    exact am_M_isNamed_L21 l hfl D A σ MC MS h0 Qr x0 x3 x4 0 h4 hw p e s m args below meth c hC H locs ls k n hE (lv_sub hl [0, 3, 4] rfl) hR hS (by omega) (by omega)
  · have hw := hw.2 hc6
    refine lv_iconst (v := 1) hx hb (xb_d D_M_isNamed 9 rfl) (by decide) ?_
    refine lv_goto (tgt := 21) hx hb (xb_d D_M_isNamed 10 rfl) rfl ?_
    exact am_M_isNamed_L21 l hfl D A σ MC MS h0 Qr x0 x3 x4 1 h4 hw p e s m args below meth c hC H locs ls k n hE (lv_sub hl [0, 3, 4] rfl) hR hS (by omega) (by omega)

theorem m_6aa0a8b9 : (.fieldLink "StackHostModel" 345 "StackHostModel" "mostRead" "J" : Cond) ∈ xt_tbl := xt_in (xt_t9 (List.mem_of_getElem? (i := 229) (by decide +kernel))) (by decide +kernel)
set_option maxRecDepth 100000 in
def T_M_leastRead : List (Nat × Instr × Nat) := [(0, .aload_n 0, 1), (1, .invokevirtual 212, 3), (4, .iconst 1, 1), (5, .if_icmp .ne 7, 3), (8, .iconst 1, 1), (9, .goto 4, 3), (12, .iconst 0, 1), (13, .istore_n 1, 1), (14, .aload_n 0, 1), (15, .invokevirtual 218, 3), (18, .lstore_n 2, 1), (19, .aload_n 0, 1), (20, .iload_n 1, 1), (21, .ifCond .eq 10, 3), (24, .aload_n 0, 1), (25, .invokevirtual 218, 3), (28, .goto 6, 3), (31, .ldc2_w 216, 3), (34, .putfield 345, 3), (37, .lload_n 2, 1), (38, .lreturn, 1)]
theorem D_M_leastRead : ∀ q ∈ T_M_leastRead, decode b_M_leastRead q.1 = .ok (q.2.1, q.2.2) := by decide +kernel

set_option maxHeartbeats 4000000 in
set_option maxRecDepth 100000 in
theorem am_M_leastRead_L34 (l : Launch) (hfl : l.flags = pinnedFlags ++ [noTraceFlag]) (D : va_G) (A : Nat → Prop) (σ MC MS : Nat) (h0 : xb_H) (Qr : Int64 → xb_H → Prop) (x2 : Int64) (y0 : Int64) (y1 : Nat) (h : xb_H) (hw : w_M_leastRead_L34 Qr x2 y0 y1 h) : xb_am l D A σ 5 MC MS h0 (fun v h _ _ => ∃ r, v = some (.long r) ∧ Qr r h) (fun _ _ _ _ => False) y_M_leastRead.cls y_M_leastRead.name b_M_leastRead 4 ([] : List ExceptionTableEntry) (some .long) 34 [(2, .long x2)] [.long y0, .ref y1] h 0 0 := by
  unfold w_M_leastRead_L34 at hw
  intro p e s m args below meth c hC H locs ls k n hE hl hR hS hk hn
  obtain ⟨hx, hb, hown, hlocks, htab, hml, hr, hB, hA, hnm⟩ := id hC
  have hts := hB.1.1.at args
  obtain ⟨hk1, hw⟩ := hw
  refine xb_putL (C := R_M) (T := F_M) (N := 97) (ty := .long) (x := y0) hx hb 8 91 hts fin_M t_M t_M_ok n_M hown hR hS hk1 (by decide) rfl (by decide) rfl (hts _ m_6aa0a8b9) (fun _ h9 => h9) rfl (by decide +kernel) rfl rfl (xb_d D_M_leastRead 18 rfl) (fun H locs hR hS => ?_)
  obtain ⟨h2, eh2⟩ : ∃ x : xb_H, x = xb_L h y1 91 y0 := ⟨_, rfl⟩
  rw [← eh2] at hR
  have hw := hw h2 eh2
  have hE : xb_ext h0 h2 := by rw [eh2]; exact hE
  refine lv_lload_n hx hb (xb_d D_M_leastRead 19 rfl) rfl (lv_at hl 0 rfl) ?_
  exact xb_lret 0 0 hx hb hr hlocks (show k + 0 ≤ MC by omega) (show n + 0 ≤ MS by omega) hE hR hS (xb_d D_M_leastRead 20 rfl) hw

set_option maxHeartbeats 4000000 in
set_option maxRecDepth 100000 in
theorem am_M_leastRead_L13 (l : Launch) (hfl : l.flags = pinnedFlags ++ [noTraceFlag]) (D : va_G) (A : Nat → Prop) (σ MC MS : Nat) (h0 : xb_H) (Qr : Int64 → xb_H → Prop) (x0 : Nat) (y0 : Int32) (h : xb_H) (hw : w_M_leastRead_L13 Qr x0 y0 h) : xb_am l D A σ 5 MC MS h0 (fun v h _ _ => ∃ r, v = some (.long r) ∧ Qr r h) (fun _ _ _ _ => False) y_M_leastRead.cls y_M_leastRead.name b_M_leastRead 4 ([] : List ExceptionTableEntry) (some .long) 13 [(0, .ref x0)] [.int y0] h 0 0 := by
  unfold w_M_leastRead_L13 at hw
  intro p e s m args below meth c hC H locs ls k n hE hl hR hS hk hn
  obtain ⟨hx, hb, hown, hlocks, htab, hml, hr, hB, hA, hnm⟩ := id hC
  have hts := hB.1.1.at args
  refine lv_istore_n hx hb (xb_d D_M_leastRead 7 rfl) rfl hl (by decide) rfl (fun ls hl => ?_)
  have hl : lv_has ls 4 [(1, .int y0), (0, .ref x0)] := hl
  refine lv_aload_n hx hb (xb_d D_M_leastRead 8 rfl) rfl (lv_at hl 1 rfl) ?_
  obtain ⟨hk1, hw⟩ := hw
  refine xb_call0 (D := D) (A := A) (σ := σ) (h := h) (d := 4) (maxL := 5) (rest := []) (av := [.ref x0]) (fun T hT X => by obtain ⟨cb9, ra9, rb9, rc9⟩ := xb_recv (ci := 8) hR rfl hk1 (by decide); exact xt_invV X hx hown (hts _ m_e991293f) (hts _ m_385a74b3) (hts _ m_c9fbcd02) (xt_sigOf (hts _ m_1f53f210)) nm_M_count (by rw [hT]; exact ra9) rb9 rc9 (g := F0 m 15 ls [.ref x0]) rfl (argsL := []) (rest := []) rfl rfl (by rw [hb]; exact (xb_d D_M_leastRead 9 rfl))) (ok_M_count l hfl D A σ x0 h _ hw) (hml.trans hl.1.symm) (by rw [hb]; exact (xb_d D_M_leastRead 9 rfl)) (Nat.le_of_ble_eq_true rfl) (Nat.le_of_ble_eq_true rfl) (Nat.le_of_ble_eq_true rfl) (show k ≤ MC by omega) (show n ≤ MS by omega) (xt_w1 hB.1 m_1f53f210) (xt_cdOf hB.1 m_1f53f210) (hts _ m_d5ed7bed) hB hR hS hA (fun vv h2 H locs hq hEh2 hR hS => ?_)
  obtain ⟨r3, rfl, hw⟩ := hq
  have hw := hw hEh2
  have hE := hE.tr hEh2
  refine W.eq (g2 := F0 m 18 ls [.long r3]) rfl ?_
  refine lv_lstore_n hx hb (xb_d D_M_leastRead 10 rfl) rfl hl (by decide) rfl (fun ls hl => ?_)
  have hl : lv_has ls 4 [(2, .long r3), (1, .int y0), (0, .ref x0)] := hl
  refine lv_aload_n hx hb (xb_d D_M_leastRead 11 rfl) rfl (lv_at hl 2 rfl) ?_
  refine lv_iload_n hx hb (xb_d D_M_leastRead 12 rfl) rfl (lv_at hl 1 rfl) ?_
  refine lv_if_eq (tgt := 31) hx hb (xb_d D_M_leastRead 13 rfl) rfl (fun hc4 => ?_) (fun hc4 => ?_)
  · have hw := hw.1 hc4
    refine lv_ldc2 (v := (-1)) hx hb hown (hts _ m_a1d4f677) (xb_d D_M_leastRead 17 rfl) ?_
    exact am_M_leastRead_L34 l hfl D A σ MC MS h0 Qr r3 (-1) x0 h2 hw p e s m args below meth c hC H locs ls k n hE (lv_sub hl [0] rfl) hR hS (by omega) (by omega)
  · have hw := hw.2 hc4
    refine lv_aload_n hx hb (xb_d D_M_leastRead 14 rfl) rfl (lv_at hl 2 rfl) ?_
    have hk1 : xb_k h2 x0 = 9 := hEh2.k hk1
    refine xb_call0 (D := D) (A := A) (σ := σ) (h := h2) (d := 4) (maxL := 5) (rest := [.ref x0]) (av := [.ref x0]) (fun T hT X => by obtain ⟨cb9, ra9, rb9, rc9⟩ := xb_recv (ci := 8) hR rfl hk1 (by decide); exact xt_invV X hx hown (hts _ m_e991293f) (hts _ m_385a74b3) (hts _ m_c9fbcd02) (xt_sigOf (hts _ m_1f53f210)) nm_M_count (by rw [hT]; exact ra9) rb9 rc9 (g := F0 m 25 ls [.ref x0, .ref x0]) rfl (argsL := []) (rest := [.ref x0]) rfl rfl (by rw [hb]; exact (xb_d D_M_leastRead 15 rfl))) (ok_M_count l hfl D A σ x0 h2 _ hw) (hml.trans hl.1.symm) (by rw [hb]; exact (xb_d D_M_leastRead 15 rfl)) (Nat.le_of_ble_eq_true rfl) (Nat.le_of_ble_eq_true rfl) (Nat.le_of_ble_eq_true rfl) (show k ≤ MC by omega) (show n ≤ MS by omega) (xt_w1 hB.1 m_1f53f210) (xt_cdOf hB.1 m_1f53f210) (hts _ m_d5ed7bed) hB hR hS hA (fun vv h5 H locs hq hEh5 hR hS => ?_)
    obtain ⟨r6, rfl, hw⟩ := hq
    have hw := hw hEh5
    have hE := hE.tr hEh5
    refine W.eq (g2 := F0 m 28 ls [.long r6, .ref x0]) rfl ?_
    refine lv_goto (tgt := 34) hx hb (xb_d D_M_leastRead 16 rfl) rfl ?_
    exact am_M_leastRead_L34 l hfl D A σ MC MS h0 Qr r3 r6 x0 h5 hw p e s m args below meth c hC H locs ls k n hE (lv_sub hl [0] rfl) hR hS (by omega) (by omega)

set_option maxHeartbeats 4000000 in
set_option maxRecDepth 100000 in
theorem ok_M_leastRead (l : Launch) (hfl : l.flags = pinnedFlags ++ [noTraceFlag]) (D : va_G) (A : Nat → Prop) (σ : Nat) (x0 : Nat) (h : xb_H) (Qr : Int64 → xb_H → Prop) (hw : w_M_leastRead x0 h Qr) : xb_Met l y_M_leastRead [.code y_M_leastRead b_M_leastRead 4 (some .long)] (xb_rm 5 0 0) (xb_Pc D A σ h [.ref x0]) (xb_Qc D A h 0 0 (fun v h _ _ => ∃ r, v = some (.long r) ∧ Qr r h) (fun _ _ _ _ => False)) A := by
  refine xb_ofAm (cc := b_M_leastRead) (by decide) (Nat.le_of_ble_eq_true rfl) ?_
  unfold w_M_leastRead at hw
  show xb_am l D A σ 5 0 0 h (fun v h _ _ => ∃ r, v = some (.long r) ∧ Qr r h) (fun _ _ _ _ => False) y_M_leastRead.cls y_M_leastRead.name b_M_leastRead 4 ([] : List ExceptionTableEntry) (some .long) 0 [(0, .ref x0)] [] h 0 0
  obtain ⟨MC, hMC⟩ : ∃ x, x = 0 := ⟨_, rfl⟩
  obtain ⟨MS, hMS⟩ : ∃ x, x = 0 := ⟨_, rfl⟩
  rw [show xb_am l D A σ 5 0 0 = xb_am l D A σ 5 MC MS by rw [hMC, hMS]]
  obtain ⟨h0, hh0⟩ : ∃ x, x = h := ⟨_, rfl⟩
  rw [show xb_am l D A σ 5 MC MS h = xb_am l D A σ 5 MC MS h0 by rw [hh0]]
  intro p e s m args below meth c hC H locs ls k n hE hl hR hS hk hn
  obtain ⟨hx, hb, hown, hlocks, htab, hml, hr, hB, hA, hnm⟩ := id hC
  have hts := hB.1.1.at args
  refine lv_aload_n hx hb (xb_d D_M_leastRead 0 rfl) rfl (lv_at hl 0 rfl) ?_
  obtain ⟨hk1, hw⟩ := hw
  refine xb_call0 (D := D) (A := A) (σ := σ) (h := h) (d := 3) (maxL := 2) (rest := []) (av := [.ref x0]) (fun T hT X => by obtain ⟨cb9, ra9, rb9, rc9⟩ := xb_recv (ci := 8) hR rfl hk1 (by decide); exact xt_invV X hx hown (hts _ m_0e978570) (hts _ m_40099f98) (hts _ m_a7dbfd07) (xt_sigOf (hts _ m_0af1ec6a)) nm_M_next (by rw [hT]; exact ra9) rb9 rc9 (g := F0 m 1 ls [.ref x0]) rfl (argsL := []) (rest := []) rfl rfl (by rw [hb]; exact (xb_d D_M_leastRead 1 rfl))) (ok_M_next l hfl D A σ x0 h _ hw) (hml.trans hl.1.symm) (by rw [hb]; exact (xb_d D_M_leastRead 1 rfl)) (Nat.le_of_ble_eq_true rfl) (Nat.le_of_ble_eq_true rfl) (Nat.le_of_ble_eq_true rfl) (show k ≤ MC by omega) (show n ≤ MS by omega) (xt_w1 hB.1 m_0af1ec6a) (xt_cdOf hB.1 m_0af1ec6a) (hts _ m_d5ed7bed) hB hR hS hA (fun vv h2 H locs hq hEh2 hR hS => ?_)
  obtain ⟨r3, rfl, hw⟩ := hq
  have hw := hw hEh2
  have hE := hE.tr hEh2
  refine W.eq (g2 := F0 m 4 ls [.int r3]) rfl ?_
  refine lv_iconst (v := 1) hx hb (xb_d D_M_leastRead 2 rfl) (by decide) ?_
  refine lv_icmp_ne (tgt := 12) hx hb (xb_d D_M_leastRead 3 rfl) rfl (fun hc4 => ?_) (fun hc4 => ?_)
  · have hw := hw.1 hc4
    refine lv_iconst (v := 0) hx hb (xb_d D_M_leastRead 6 rfl) (by decide) ?_
    exact am_M_leastRead_L13 l hfl D A σ MC MS h0 Qr x0 0 h2 hw p e s m args below meth c hC H locs ls k n hE (lv_sub hl [0] rfl) hR hS (by omega) (by omega)
  · have hw := hw.2 hc4
    refine lv_iconst (v := 1) hx hb (xb_d D_M_leastRead 4 rfl) (by decide) ?_
    refine lv_goto (tgt := 13) hx hb (xb_d D_M_leastRead 5 rfl) rfl ?_
    exact am_M_leastRead_L13 l hfl D A σ MC MS h0 Qr x0 1 h2 hw p e s m args below meth c hC H locs ls k n hE (lv_sub hl [0] rfl) hR hS (by omega) (by omega)

theorem m_8f6f4626 : (.methodLink "StackHostModel" 234 y_M_wanted : Cond) ∈ xt_tbl := xt_in (xt_t11 (List.mem_of_getElem? (i := 5) (by decide +kernel))) (by decide +kernel)
theorem m_01caba2f : (.instanceMethod y_M_wanted : Cond) ∈ xt_tbl := xt_in (xt_t11 (List.mem_of_getElem? (i := 7) (by decide +kernel))) (by decide +kernel)
theorem m_4616b4d4 : (.selects "StackHostModel" y_M_wanted y_M_wanted : Cond) ∈ xt_tbl := xt_in (xt_v9 (q := (⟨"StackHostModel", "wanted", "(II)V"⟩, 97)) (List.mem_of_getElem? (i := 11) (by decide +kernel))) (by decide +kernel)
theorem m_6db7f9f9 : (.code y_M_wanted b_M_wanted 4 none : Cond) ∈ xt_tbl := xt_in (xt_t11 (List.mem_of_getElem? (i := 8) (by decide +kernel))) (by decide +kernel)
theorem nm_M_wanted : xt_nm y_M_wanted 2 := ⟨by decide +kernel, by decide +kernel⟩
set_option maxRecDepth 100000 in
def T_M_limits : List (Nat × Instr × Nat) := [(0, .aload_n 0, 1), (1, .getfield 202, 3), (4, .istore_n 1, 1), (5, .aload_n 0, 1), (6, .iconst 0, 1), (7, .iconst 1, 1), (8, .invokevirtual 234, 3), (11, .aload_n 0, 1), (12, .getfield 193, 3), (15, .ifCond .ne 17, 3), (18, .aload_n 0, 1), (19, .getfield 14, 3), (22, .iload_n 1, 1), (23, .baload, 1), (24, .iconst 1, 1), (25, .if_icmp .ne 7, 3), (28, .iconst 1, 1), (29, .goto 4, 3), (32, .iconst 0, 1), (33, .istore_n 2, 1), (34, .aload_n 0, 1), (35, .invokevirtual 218, 3), (38, .pop2, 1), (39, .iload_n 2, 1), (40, .ifCond .eq 8, 3), (43, .aload_n 0, 1), (44, .invokevirtual 218, 3), (47, .pop2, 1), (48, .return_, 1)]
theorem D_M_limits : ∀ q ∈ T_M_limits, decode b_M_limits q.1 = .ok (q.2.1, q.2.2) := by decide +kernel

set_option maxHeartbeats 4000000 in
set_option maxRecDepth 100000 in
theorem am_M_limits_L48 (l : Launch) (hfl : l.flags = pinnedFlags ++ [noTraceFlag]) (D : va_G) (A : Nat → Prop) (σ MC MS : Nat) (h0 : xb_H) (Qr : xb_H → Prop) (h : xb_H) (hw : w_M_limits_L48 Qr h) : xb_am l D A σ 5 MC MS h0 (fun v h _ _ => v = none ∧ Qr h) (fun _ _ _ _ => False) y_M_limits.cls y_M_limits.name b_M_limits 3 ([] : List ExceptionTableEntry) none 48 [] [] h 0 0 := by
  unfold w_M_limits_L48 at hw
  intro p e s m args below meth c hC H locs ls k n hE hl hR hS hk hn
  obtain ⟨hx, hb, hown, hlocks, htab, hml, hr, hB, hA, hnm⟩ := id hC
  have hts := hB.1.1.at args
  exact xb_vret 0 0 hx hb hr hlocks (show k + 0 ≤ MC by omega) (show n + 0 ≤ MS by omega) hE hR hS (xb_d D_M_limits 28 rfl) hw

set_option maxHeartbeats 4000000 in
set_option maxRecDepth 100000 in
theorem am_M_limits_L33 (l : Launch) (hfl : l.flags = pinnedFlags ++ [noTraceFlag]) (D : va_G) (A : Nat → Prop) (σ MC MS : Nat) (h0 : xb_H) (Qr : xb_H → Prop) (x0 : Nat) (y0 : Int32) (h : xb_H) (hw : w_M_limits_L33 Qr x0 y0 h) : xb_am l D A σ 5 MC MS h0 (fun v h _ _ => v = none ∧ Qr h) (fun _ _ _ _ => False) y_M_limits.cls y_M_limits.name b_M_limits 3 ([] : List ExceptionTableEntry) none 33 [(0, .ref x0)] [.int y0] h 0 0 := by
  unfold w_M_limits_L33 at hw
  intro p e s m args below meth c hC H locs ls k n hE hl hR hS hk hn
  obtain ⟨hx, hb, hown, hlocks, htab, hml, hr, hB, hA, hnm⟩ := id hC
  have hts := hB.1.1.at args
  refine lv_istore_n hx hb (xb_d D_M_limits 19 rfl) rfl hl (by decide) rfl (fun ls hl => ?_)
  have hl : lv_has ls 3 [(2, .int y0), (0, .ref x0)] := hl
  refine lv_aload_n hx hb (xb_d D_M_limits 20 rfl) rfl (lv_at hl 1 rfl) ?_
  obtain ⟨hk1, hw⟩ := hw
  refine xb_call0 (D := D) (A := A) (σ := σ) (h := h) (d := 4) (maxL := 5) (rest := []) (av := [.ref x0]) (fun T hT X => by obtain ⟨cb9, ra9, rb9, rc9⟩ := xb_recv (ci := 8) hR rfl hk1 (by decide); exact xt_invV X hx hown (hts _ m_e991293f) (hts _ m_385a74b3) (hts _ m_c9fbcd02) (xt_sigOf (hts _ m_1f53f210)) nm_M_count (by rw [hT]; exact ra9) rb9 rc9 (g := F0 m 35 ls [.ref x0]) rfl (argsL := []) (rest := []) rfl rfl (by rw [hb]; exact (xb_d D_M_limits 21 rfl))) (ok_M_count l hfl D A σ x0 h _ hw) (hml.trans hl.1.symm) (by rw [hb]; exact (xb_d D_M_limits 21 rfl)) (Nat.le_of_ble_eq_true rfl) (Nat.le_of_ble_eq_true rfl) (Nat.le_of_ble_eq_true rfl) (show k ≤ MC by omega) (show n ≤ MS by omega) (xt_w1 hB.1 m_1f53f210) (xt_cdOf hB.1 m_1f53f210) (hts _ m_d5ed7bed) hB hR hS hA (fun vv h2 H locs hq hEh2 hR hS => ?_)
  obtain ⟨r3, rfl, hw⟩ := hq
  have hw := hw hEh2
  have hE := hE.tr hEh2
  refine W.eq (g2 := F0 m 38 ls [.long r3]) rfl ?_
  refine lv_pop2_2 hx hb (xb_d D_M_limits 22 rfl) rfl ?_
  refine lv_iload_n hx hb (xb_d D_M_limits 23 rfl) rfl (lv_at hl 0 rfl) ?_
  refine lv_if_eq (tgt := 48) hx hb (xb_d D_M_limits 24 rfl) rfl (fun hc4 => ?_) (fun hc4 => ?_)
  · have hw := hw.1 hc4
    exact am_M_limits_L48 l hfl D A σ MC MS h0 Qr h2 hw p e s m args below meth c hC H locs ls k n hE (lv_sub hl [] rfl) hR hS (by omega) (by omega)
  · have hw := hw.2 hc4
    refine lv_aload_n hx hb (xb_d D_M_limits 25 rfl) rfl (lv_at hl 1 rfl) ?_
    have hk1 : xb_k h2 x0 = 9 := hEh2.k hk1
    refine xb_call0 (D := D) (A := A) (σ := σ) (h := h2) (d := 4) (maxL := 5) (rest := []) (av := [.ref x0]) (fun T hT X => by obtain ⟨cb9, ra9, rb9, rc9⟩ := xb_recv (ci := 8) hR rfl hk1 (by decide); exact xt_invV X hx hown (hts _ m_e991293f) (hts _ m_385a74b3) (hts _ m_c9fbcd02) (xt_sigOf (hts _ m_1f53f210)) nm_M_count (by rw [hT]; exact ra9) rb9 rc9 (g := F0 m 44 ls [.ref x0]) rfl (argsL := []) (rest := []) rfl rfl (by rw [hb]; exact (xb_d D_M_limits 26 rfl))) (ok_M_count l hfl D A σ x0 h2 _ hw) (hml.trans hl.1.symm) (by rw [hb]; exact (xb_d D_M_limits 26 rfl)) (Nat.le_of_ble_eq_true rfl) (Nat.le_of_ble_eq_true rfl) (Nat.le_of_ble_eq_true rfl) (show k ≤ MC by omega) (show n ≤ MS by omega) (xt_w1 hB.1 m_1f53f210) (xt_cdOf hB.1 m_1f53f210) (hts _ m_d5ed7bed) hB hR hS hA (fun vv h5 H locs hq hEh5 hR hS => ?_)
    obtain ⟨r6, rfl, hw⟩ := hq
    have hw := hw hEh5
    have hE := hE.tr hEh5
    refine W.eq (g2 := F0 m 47 ls [.long r6]) rfl ?_
    refine lv_pop2_2 hx hb (xb_d D_M_limits 27 rfl) rfl ?_
    exact am_M_limits_L48 l hfl D A σ MC MS h0 Qr h5 hw p e s m args below meth c hC H locs ls k n hE (lv_sub hl [] rfl) hR hS (by omega) (by omega)

set_option maxHeartbeats 4000000 in
set_option maxRecDepth 100000 in
theorem am_M_limits_L32 (l : Launch) (hfl : l.flags = pinnedFlags ++ [noTraceFlag]) (D : va_G) (A : Nat → Prop) (σ MC MS : Nat) (h0 : xb_H) (Qr : xb_H → Prop) (x0 : Nat) (h : xb_H) (hw : w_M_limits_L32 Qr x0 h) : xb_am l D A σ 5 MC MS h0 (fun v h _ _ => v = none ∧ Qr h) (fun _ _ _ _ => False) y_M_limits.cls y_M_limits.name b_M_limits 3 ([] : List ExceptionTableEntry) none 32 [(0, .ref x0)] [] h 0 0 := by
  unfold w_M_limits_L32 at hw
  intro p e s m args below meth c hC H locs ls k n hE hl hR hS hk hn
  obtain ⟨hx, hb, hown, hlocks, htab, hml, hr, hB, hA, hnm⟩ := id hC
  have hts := hB.1.1.at args
  refine lv_iconst (v := 0) hx hb (xb_d D_M_limits 18 rfl) (by decide) ?_
  exact am_M_limits_L33 l hfl D A σ MC MS h0 Qr x0 0 h hw p e s m args below meth c hC H locs ls k n hE (lv_sub hl [0] rfl) hR hS (by omega) (by omega)

set_option maxHeartbeats 4000000 in
set_option maxRecDepth 100000 in
theorem ok_M_limits (l : Launch) (hfl : l.flags = pinnedFlags ++ [noTraceFlag]) (D : va_G) (A : Nat → Prop) (σ : Nat) (x0 : Nat) (h : xb_H) (Qr : xb_H → Prop) (hw : w_M_limits x0 h Qr) : xb_Met l y_M_limits [.code y_M_limits b_M_limits 3 none] (xb_rm 5 0 0) (xb_Pc D A σ h [.ref x0]) (xb_Qc D A h 0 0 (fun v h _ _ => v = none ∧ Qr h) (fun _ _ _ _ => False)) A := by
  refine xb_ofAm (cc := b_M_limits) (by decide) (Nat.le_of_ble_eq_true rfl) ?_
  unfold w_M_limits at hw
  show xb_am l D A σ 5 0 0 h (fun v h _ _ => v = none ∧ Qr h) (fun _ _ _ _ => False) y_M_limits.cls y_M_limits.name b_M_limits 3 ([] : List ExceptionTableEntry) none 0 [(0, .ref x0)] [] h 0 0
  obtain ⟨MC, hMC⟩ : ∃ x, x = 0 := ⟨_, rfl⟩
  obtain ⟨MS, hMS⟩ : ∃ x, x = 0 := ⟨_, rfl⟩
  rw [show xb_am l D A σ 5 0 0 = xb_am l D A σ 5 MC MS by rw [hMC, hMS]]
  obtain ⟨h0, hh0⟩ : ∃ x, x = h := ⟨_, rfl⟩
  rw [show xb_am l D A σ 5 MC MS h = xb_am l D A σ 5 MC MS h0 by rw [hh0]]
  intro p e s m args below meth c hC H locs ls k n hE hl hR hS hk hn
  obtain ⟨hx, hb, hown, hlocks, htab, hml, hr, hB, hA, hnm⟩ := id hC
  have hts := hB.1.1.at args
  refine lv_aload_n hx hb (xb_d D_M_limits 0 rfl) rfl (lv_at hl 0 rfl) ?_
  obtain ⟨hk1, hw⟩ := hw
  refine xb_getI (C := R_M) (T := F_M) (N := 97) hx hb 8 15 hts fin_M hown hR hk1 (by decide) rfl (by decide) rfl (hts _ m_6c2d27ad) (fun _ h9 => h9) (xb_d D_M_limits 1 rfl) ?_
  obtain ⟨v2, ev2⟩ : ∃ x : Int32, x = (xb_i h x0 15) := ⟨_, rfl⟩
  have hw := hw v2 ev2
  refine xt_numi (y := v2) ev2.symm ?_
  refine lv_istore_n hx hb (xb_d D_M_limits 2 rfl) rfl hl (by decide) rfl (fun ls hl => ?_)
  have hl : lv_has ls 3 [(1, .int v2), (0, .ref x0)] := hl
  refine lv_aload_n hx hb (xb_d D_M_limits 3 rfl) rfl (lv_at hl 1 rfl) ?_
  refine lv_iconst (v := 0) hx hb (xb_d D_M_limits 4 rfl) (by decide) ?_
  refine lv_iconst (v := 1) hx hb (xb_d D_M_limits 5 rfl) (by decide) ?_
  refine xb_call0 (D := D) (A := A) (σ := σ) (h := h) (d := 4) (maxL := 4) (rest := []) (av := [.ref x0, .int 0, .int 1]) (fun T hT X => by obtain ⟨cb9, ra9, rb9, rc9⟩ := xb_recv (ci := 8) hR rfl hk1 (by decide); exact xt_invV X hx hown (hts _ m_8f6f4626) (hts _ m_01caba2f) (hts _ m_4616b4d4) (xt_sigOf (hts _ m_6db7f9f9)) nm_M_wanted (by rw [hT]; exact ra9) rb9 rc9 (g := F0 m 8 ls [.int 1, .int 0, .ref x0]) rfl (argsL := [.int 0, .int 1]) (rest := []) rfl rfl (by rw [hb]; exact (xb_d D_M_limits 6 rfl))) (ok_M_wanted l hfl D A σ x0 0 1 h _ hw) (hml.trans hl.1.symm) (by rw [hb]; exact (xb_d D_M_limits 6 rfl)) (Nat.le_of_ble_eq_true rfl) (Nat.le_of_ble_eq_true rfl) (Nat.le_of_ble_eq_true rfl) (show k ≤ MC by omega) (show n ≤ MS by omega) (xt_w1 hB.1 m_6db7f9f9) (xt_cdOf hB.1 m_6db7f9f9) (hts _ m_d5ed7bed) hB hR hS hA (fun vv h3 H locs hq hEh3 hR hS => ?_)
  obtain ⟨rfl, hw⟩ := hq
  have hw := hw hEh3
  have hE := hE.tr hEh3
  refine W.eq (g2 := F0 m 11 ls []) rfl ?_
  refine lv_aload_n hx hb (xb_d D_M_limits 7 rfl) rfl (lv_at hl 1 rfl) ?_
  have hk1 : xb_k h3 x0 = 9 := hEh3.k hk1
  refine xb_getI (C := R_M) (T := F_M) (N := 97) hx hb 8 17 hts fin_M hown hR hk1 (by decide) rfl (by decide) rfl (hts _ m_ff69da61) (fun _ h9 => h9) (xb_d D_M_limits 8 rfl) ?_
  refine lv_if_ne (tgt := 32) hx hb (xb_d D_M_limits 9 rfl) rfl (fun hc5 => ?_) (fun hc5 => ?_)
  · have hw := hw.1 hc5
    exact am_M_limits_L32 l hfl D A σ MC MS h0 Qr x0 h3 hw p e s m args below meth c hC H locs ls k n hE (lv_sub hl [1] rfl) hR hS (by omega) (by omega)
  · have hw := hw.2 hc5
    refine lv_aload_n hx hb (xb_d D_M_limits 10 rfl) rfl (lv_at hl 1 rfl) ?_
    refine xb_getP (C := R_M) (T := F_M) (N := 97) hx hb 8 3 hts fin_M hown hR hk1 (by decide) rfl (by decide) rfl (hts _ m_4f0568af) (fun _ h9 => h9) (xb_d D_M_limits 11 rfl) ?_
    obtain ⟨b6, eb6, hw⟩ := hw
    refine xb_some eb6 ?_
    refine lv_iload_n hx hb (xb_d D_M_limits 12 rfl) rfl (lv_at hl 0 rfl) ?_
    obtain ⟨hk8, hw⟩ := hw
    obtain ⟨hi7, hw⟩ := hw
    refine xb_bald hx hb hR hk8 hi7 (xb_d D_M_limits 13 rfl) ?_
    refine lv_iconst (v := 1) hx hb (xb_d D_M_limits 14 rfl) (by decide) ?_
    refine lv_icmp_ne (tgt := 32) hx hb (xb_d D_M_limits 15 rfl) rfl (fun hc9 => ?_) (fun hc9 => ?_)
    · have hw := hw.1 hc9
      exact am_M_limits_L32 l hfl D A σ MC MS h0 Qr x0 h3 hw p e s m args below meth c hC H locs ls k n hE (lv_sub hl [1] rfl) hR hS (by omega) (by omega)
    · have hw := hw.2 hc9
      refine lv_iconst (v := 1) hx hb (xb_d D_M_limits 16 rfl) (by decide) ?_
      refine lv_goto (tgt := 33) hx hb (xb_d D_M_limits 17 rfl) rfl ?_
      exact am_M_limits_L33 l hfl D A σ MC MS h0 Qr x0 1 h3 hw p e s m args below meth c hC H locs ls k n hE (lv_sub hl [1] rfl) hR hS (by omega) (by omega)

theorem m_7f3f10d2 : (.methodLink "StackHostModel" 222 y_M_behindLead : Cond) ∈ xt_tbl := xt_in (xt_t10 (List.mem_of_getElem? (i := 230) (by decide +kernel))) (by decide +kernel)
theorem m_6c39bdd5 : (.static y_M_behindLead : Cond) ∈ xt_tbl := xt_in (xt_t10 (List.mem_of_getElem? (i := 231) (by decide +kernel))) (by decide +kernel)
theorem m_32aa8d6c : (.code y_M_behindLead b_M_behindLead 1 (some .int) : Cond) ∈ xt_tbl := xt_in (xt_t10 (List.mem_of_getElem? (i := 232) (by decide +kernel))) (by decide +kernel)
theorem m_109d47fa : (.methodLink "StackHostModel" 226 y_M_isGroup : Cond) ∈ xt_tbl := xt_in (xt_t10 (List.mem_of_getElem? (i := 233) (by decide +kernel))) (by decide +kernel)
theorem m_d7305af4 : (.instanceMethod y_M_isGroup : Cond) ∈ xt_tbl := xt_in (xt_t10 (List.mem_of_getElem? (i := 235) (by decide +kernel))) (by decide +kernel)
theorem m_abc69551 : (.selects "StackHostModel" y_M_isGroup y_M_isGroup : Cond) ∈ xt_tbl := xt_in (xt_v9 (q := (⟨"StackHostModel", "isGroup", "(III)Z"⟩, 97)) (List.mem_of_getElem? (i := 8) (by decide +kernel))) (by decide +kernel)
theorem m_e0d33ac0 : (.code y_M_isGroup b_M_isGroup 7 (some .boolean) : Cond) ∈ xt_tbl := xt_in (xt_t10 (List.mem_of_getElem? (i := 236) (by decide +kernel))) (by decide +kernel)
theorem nm_M_behindLead : xt_nm y_M_behindLead 1 := ⟨by decide +kernel, by decide +kernel⟩
theorem nm_M_isGroup : xt_nm y_M_isGroup 3 := ⟨by decide +kernel, by decide +kernel⟩
set_option maxRecDepth 100000 in
def T_M_name0 : List (Nat × Instr × Nat) := [(0, .aload_n 0, 1), (1, .invokevirtual 218, 3), (4, .lstore_n 1, 1), (5, .aload_n 0, 1), (6, .getfield 193, 3), (9, .ifCond .ne 27, 3), (12, .lload_n 1, 1), (13, .aload_n 0, 1), (14, .getfield 205, 3), (17, .aload_n 0, 1), (18, .getfield 202, 3), (21, .isub, 1), (22, .i2l, 1), (23, .lcmp, 1), (24, .ifCond .le 12, 3), (27, .aload_n 0, 1), (28, .iconst 2, 1), (29, .aload_n 0, 1), (30, .getfield 205, 3), (33, .invokevirtual 208, 3), (36, .aload_n 0, 1), (37, .getfield 193, 3), (40, .ifCond .eq 4, 3), (43, .return_, 1), (44, .aload_n 0, 1), (45, .getfield 202, 3), (48, .lload_n 1, 1), (49, .l2i, 1), (50, .iadd, 1), (51, .istore_n 3, 1), (52, .aload_n 0, 1), (53, .getfield 202, 3), (56, .iload_n 3, 1), (57, .if_icmp .ge 70, 3), (60, .aload_n 0, 1), (61, .getfield 193, 3), (64, .ifCond .ne 63, 3), (67, .aload_n 0, 1), (68, .getfield 14, 3), (71, .aload_n 0, 1), (72, .getfield 202, 3), (75, .baload, 1), (76, .sipush 255, 3), (79, .iand, 1), (80, .invokestatic 222, 3), (83, .istore 4, 2), (85, .aload_n 0, 1), (86, .aload_n 0, 1), (87, .getfield 202, 3), (90, .iload 4, 2), (92, .iload_n 3, 1), (93, .invokevirtual 226, 3), (96, .ifCond .eq 19, 3), (99, .aload_n 0, 1), (100, .aload_n 0, 1), (101, .getfield 202, 3), (104, .iload 4, 2), (106, .iadd, 1), (107, .iconst 1, 1), (108, .iadd, 1), (109, .putfield 202, 3), (112, .goto 12, 3), (115, .aload_n 0, 1), (116, .iconst 4, 1), (117, .aload_n 0, 1), (118, .getfield 202, 3), (121, .invokevirtual 208, 3), (124, .goto (-72), 3), (127, .return_, 1)]
theorem D_M_name0 : ∀ q ∈ T_M_name0, decode b_M_name0 q.1 = .ok (q.2.1, q.2.2) := by decide +kernel

set_option maxHeartbeats 4000000 in
set_option maxRecDepth 100000 in
theorem am_M_name0_L127 (l : Launch) (hfl : l.flags = pinnedFlags ++ [noTraceFlag]) (D : va_G) (A : Nat → Prop) (σ MC MS : Nat) (h0 : xb_H) (Qr : xb_H → Prop) (h : xb_H) (hw : w_M_name0_L127 Qr h) : xb_am l D A σ 5 MC MS h0 (fun v h _ _ => v = none ∧ Qr h) (fun _ _ _ _ => False) y_M_name0.cls y_M_name0.name b_M_name0 5 ([] : List ExceptionTableEntry) none 127 [] [] h 0 0 := by
  unfold w_M_name0_L127 at hw
  intro p e s m args below meth c hC H locs ls k n hE hl hR hS hk hn
  obtain ⟨hx, hb, hown, hlocks, htab, hml, hr, hB, hA, hnm⟩ := id hC
  have hts := hB.1.1.at args
  exact xb_vret 0 0 hx hb hr hlocks (show k + 0 ≤ MC by omega) (show n + 0 ≤ MS by omega) hE hR hS (xb_d D_M_name0 68 rfl) hw

set_option maxHeartbeats 4000000 in
set_option maxRecDepth 100000 in
theorem am_M_name0_L124 (l : Launch) (hfl : l.flags = pinnedFlags ++ [noTraceFlag]) (D : va_G) (A : Nat → Prop) (σ MC MS : Nat) (h0 : xb_H) (Qr : xb_H → Prop) (K52 : Nat → Int32 → xb_H → Prop) (hK52 : ∀ (x0 : Nat) (x3 : Int32) (h : xb_H), K52 x0 x3 h → xb_am l D A σ 5 MC MS h0 (fun v h _ _ => v = none ∧ Qr h) (fun _ _ _ _ => False) y_M_name0.cls y_M_name0.name b_M_name0 5 ([] : List ExceptionTableEntry) none 52 [(0, .ref x0), (3, .int x3)] [] h 0 0) (x0 : Nat) (x3 : Int32) (h : xb_H) (hw : w_M_name0_L124 K52 Qr x0 x3 h) : xb_am l D A σ 5 MC MS h0 (fun v h _ _ => v = none ∧ Qr h) (fun _ _ _ _ => False) y_M_name0.cls y_M_name0.name b_M_name0 5 ([] : List ExceptionTableEntry) none 124 [(0, .ref x0), (3, .int x3)] [] h 0 0 := by
  unfold w_M_name0_L124 at hw
  intro p e s m args below meth c hC H locs ls k n hE hl hR hS hk hn
  obtain ⟨hx, hb, hown, hlocks, htab, hml, hr, hB, hA, hnm⟩ := id hC
  have hts := hB.1.1.at args
  refine lv_goto (tgt := 52) hx hb (xb_d D_M_name0 67 rfl) rfl ?_
  exact hK52 x0 x3 h hw p e s m args below meth c hC H locs ls k n hE (lv_sub hl [0, 1] rfl) hR hS (by omega) (by omega)

set_option maxHeartbeats 4000000 in
set_option maxRecDepth 100000 in
theorem am_M_name0_L52 (l : Launch) (hfl : l.flags = pinnedFlags ++ [noTraceFlag]) (D : va_G) (A : Nat → Prop) (σ MC MS : Nat) (h0 : xb_H) (Qr : xb_H → Prop) (n9 : Nat) : ∀ (x0 : Nat) (x3 : Int32) (h : xb_H), w_M_name0_L52 Qr n9 x0 x3 h → xb_am l D A σ 5 MC MS h0 (fun v h _ _ => v = none ∧ Qr h) (fun _ _ _ _ => False) y_M_name0.cls y_M_name0.name b_M_name0 5 ([] : List ExceptionTableEntry) none 52 [(0, .ref x0), (3, .int x3)] [] h 0 0 := by
  induction n9 with
  | zero => intro x0 x3 h hw; exact False.elim hw
  | succ n9 ih =>
    intro x0 x3 h hw
    unfold w_M_name0_L52 at hw
    intro p e s m args below meth c hC H locs ls k n hE hl hR hS hk hn
    obtain ⟨hx, hb, hown, hlocks, htab, hml, hr, hB, hA, hnm⟩ := id hC
    have hts := hB.1.1.at args
    refine lv_aload_n hx hb (xb_d D_M_name0 30 rfl) rfl (lv_at hl 0 rfl) ?_
    obtain ⟨hk1, hw⟩ := hw
    refine xb_getI (C := R_M) (T := F_M) (N := 97) hx hb 8 15 hts fin_M hown hR hk1 (by decide) rfl (by decide) rfl (hts _ m_6c2d27ad) (fun _ h9 => h9) (xb_d D_M_name0 31 rfl) ?_
    refine lv_iload_n hx hb (xb_d D_M_name0 32 rfl) rfl (lv_at hl 1 rfl) ?_
    refine lv_icmp_ge (tgt := 127) hx hb (xb_d D_M_name0 33 rfl) rfl (fun hc2 => ?_) (fun hc2 => ?_)
    · have hw := hw.1 hc2
      exact am_M_name0_L127 l hfl D A σ MC MS h0 Qr h hw p e s m args below meth c hC H locs ls k n hE (lv_sub hl [] rfl) hR hS (by omega) (by omega)
    · have hw := hw.2 hc2
      refine lv_aload_n hx hb (xb_d D_M_name0 34 rfl) rfl (lv_at hl 0 rfl) ?_
      refine xb_getI (C := R_M) (T := F_M) (N := 97) hx hb 8 17 hts fin_M hown hR hk1 (by decide) rfl (by decide) rfl (hts _ m_ff69da61) (fun _ h9 => h9) (xb_d D_M_name0 35 rfl) ?_
      refine lv_if_ne (tgt := 127) hx hb (xb_d D_M_name0 36 rfl) rfl (fun hc3 => ?_) (fun hc3 => ?_)
      · have hw := hw.1 hc3
        exact am_M_name0_L127 l hfl D A σ MC MS h0 Qr h hw p e s m args below meth c hC H locs ls k n hE (lv_sub hl [] rfl) hR hS (by omega) (by omega)
      · have hw := hw.2 hc3
        refine lv_aload_n hx hb (xb_d D_M_name0 37 rfl) rfl (lv_at hl 0 rfl) ?_
        refine xb_getP (C := R_M) (T := F_M) (N := 97) hx hb 8 3 hts fin_M hown hR hk1 (by decide) rfl (by decide) rfl (hts _ m_4f0568af) (fun _ h9 => h9) (xb_d D_M_name0 38 rfl) ?_
        obtain ⟨b4, eb4, hw⟩ := hw
        refine xb_some eb4 ?_
        refine lv_aload_n hx hb (xb_d D_M_name0 39 rfl) rfl (lv_at hl 0 rfl) ?_
        refine xb_getI (C := R_M) (T := F_M) (N := 97) hx hb 8 15 hts fin_M hown hR hk1 (by decide) rfl (by decide) rfl (hts _ m_6c2d27ad) (fun _ h9 => h9) (xb_d D_M_name0 40 rfl) ?_
        obtain ⟨hk6, hw⟩ := hw
        obtain ⟨hi5, hw⟩ := hw
        refine xb_bald hx hb hR hk6 hi5 (xb_d D_M_name0 41 rfl) ?_
        refine lv_sipush (v := 255) hx hb (xb_d D_M_name0 42 rfl) (by decide) ?_
        refine lv_iand hx hb (xb_d D_M_name0 43 rfl) ?_
        refine xb_call0 (D := D) (A := A) (σ := σ) (h := h) (d := 2) (maxL := 1) (rest := []) (av := [.int ((xb_i h b4 (Int32.toNatClampNeg (xb_i h x0 15))) &&& 255)]) (fun T hT X => xt_invS X hx hown (hts _ m_7f3f10d2) (hts _ m_6c39bdd5) (hts _ m_d5ed7bed) (xt_sgS (hts _ m_32aa8d6c)).1 (xt_sgS (hts _ m_32aa8d6c)).2 nm_M_behindLead (g := F0 m 80 ls [.int ((xb_i h b4 (Int32.toNatClampNeg (xb_i h x0 15))) &&& 255)]) rfl (argsL := [.int ((xb_i h b4 (Int32.toNatClampNeg (xb_i h x0 15))) &&& 255)]) (rest := []) rfl rfl (by rw [hb]; exact (xb_d D_M_name0 44 rfl))) (ok_M_behindLead l hfl D A σ ((xb_i h b4 (Int32.toNatClampNeg (xb_i h x0 15))) &&& 255) h _ hw) (hml.trans hl.1.symm) (by rw [hb]; exact (xb_d D_M_name0 44 rfl)) (Nat.le_of_ble_eq_true rfl) (Nat.le_of_ble_eq_true rfl) (Nat.le_of_ble_eq_true rfl) (show k ≤ MC by omega) (show n ≤ MS by omega) (xt_w1 hB.1 m_32aa8d6c) (xt_cdOf hB.1 m_32aa8d6c) (hts _ m_d5ed7bed) hB hR hS hA (fun vv h7 H locs hq hEh7 hR hS => ?_)
        obtain ⟨r8, rfl, hw⟩ := hq
        have hw := hw hEh7
        have hE := hE.tr hEh7
        refine W.eq (g2 := F0 m 83 ls [.int r8]) rfl ?_
        refine lv_istore hx hb (xb_d D_M_name0 45 rfl) hl (by decide) rfl (fun ls hl => ?_)
        have hl : lv_has ls 5 [(4, .int r8), (0, .ref x0), (3, .int x3)] := hl
        refine lv_aload_n hx hb (xb_d D_M_name0 46 rfl) rfl (lv_at hl 1 rfl) ?_
        refine lv_aload_n hx hb (xb_d D_M_name0 47 rfl) rfl (lv_at hl 1 rfl) ?_
        have hk1 : xb_k h7 x0 = 9 := hEh7.k hk1
        refine xb_getI (C := R_M) (T := F_M) (N := 97) hx hb 8 15 hts fin_M hown hR hk1 (by decide) rfl (by decide) rfl (hts _ m_6c2d27ad) (fun _ h9 => h9) (xb_d D_M_name0 48 rfl) ?_
        refine lv_iload hx hb (xb_d D_M_name0 49 rfl) (lv_at hl 0 rfl) ?_
        refine lv_iload_n hx hb (xb_d D_M_name0 50 rfl) rfl (lv_at hl 2 rfl) ?_
        refine xb_call0 (D := D) (A := A) (σ := σ) (h := h7) (d := 2) (maxL := 7) (rest := []) (av := [.ref x0, .int (xb_i h7 x0 15), .int r8, .int x3]) (fun T hT X => by obtain ⟨cb9, ra9, rb9, rc9⟩ := xb_recv (ci := 8) hR rfl hk1 (by decide); exact xt_invV X hx hown (hts _ m_109d47fa) (hts _ m_d7305af4) (hts _ m_abc69551) (xt_sigOf (hts _ m_e0d33ac0)) nm_M_isGroup (by rw [hT]; exact ra9) rb9 rc9 (g := F0 m 93 ls [.int x3, .int r8, .int (xb_i h7 x0 15), .ref x0]) rfl (argsL := [.int (xb_i h7 x0 15), .int r8, .int x3]) (rest := []) rfl rfl (by rw [hb]; exact (xb_d D_M_name0 51 rfl))) (ok_M_isGroup l hfl D A σ x0 (xb_i h7 x0 15) r8 x3 h7 _ hw) (hml.trans hl.1.symm) (by rw [hb]; exact (xb_d D_M_name0 51 rfl)) (Nat.le_of_ble_eq_true rfl) (Nat.le_of_ble_eq_true rfl) (Nat.le_of_ble_eq_true rfl) (show k ≤ MC by omega) (show n ≤ MS by omega) (xt_w1 hB.1 m_e0d33ac0) (xt_cdOf hB.1 m_e0d33ac0) (hts _ m_d5ed7bed) hB hR hS hA (fun vv h9 H locs hq hEh9 hR hS => ?_)
        obtain ⟨r10, rfl, hw⟩ := hq
        have hw := hw hEh9
        have hE := hE.tr hEh9
        refine W.eq (g2 := F0 m 96 ls [.int r10]) rfl ?_
        refine lv_if_eq (tgt := 115) hx hb (xb_d D_M_name0 52 rfl) rfl (fun hc11 => ?_) (fun hc11 => ?_)
        · have hw := hw.1 hc11
          refine lv_aload_n hx hb (xb_d D_M_name0 62 rfl) rfl (lv_at hl 1 rfl) ?_
          refine lv_iconst (v := 4) hx hb (xb_d D_M_name0 63 rfl) (by decide) ?_
          refine lv_aload_n hx hb (xb_d D_M_name0 64 rfl) rfl (lv_at hl 1 rfl) ?_
          have hk1 : xb_k h9 x0 = 9 := hEh9.k hk1
          refine xb_getI (C := R_M) (T := F_M) (N := 97) hx hb 8 15 hts fin_M hown hR hk1 (by decide) rfl (by decide) rfl (hts _ m_6c2d27ad) (fun _ h9 => h9) (xb_d D_M_name0 65 rfl) ?_
          refine xb_call0 (D := D) (A := A) (σ := σ) (h := h9) (d := 2) (maxL := 3) (rest := []) (av := [.ref x0, .int 4, .int (xb_i h9 x0 15)]) (fun T hT X => by obtain ⟨cb9, ra9, rb9, rc9⟩ := xb_recv (ci := 8) hR rfl hk1 (by decide); exact xt_invV X hx hown (hts _ m_939052ad) (hts _ m_29cc8c73) (hts _ m_3b1ac7ab) (xt_sigOf (hts _ m_8f062ecd)) nm_M_fail (by rw [hT]; exact ra9) rb9 rc9 (g := F0 m 121 ls [.int (xb_i h9 x0 15), .int 4, .ref x0]) rfl (argsL := [.int 4, .int (xb_i h9 x0 15)]) (rest := []) rfl rfl (by rw [hb]; exact (xb_d D_M_name0 66 rfl))) (ok_M_fail l hfl D A σ x0 4 (xb_i h9 x0 15) h9 _ hw) (hml.trans hl.1.symm) (by rw [hb]; exact (xb_d D_M_name0 66 rfl)) (Nat.le_of_ble_eq_true rfl) (Nat.le_of_ble_eq_true rfl) (Nat.le_of_ble_eq_true rfl) (show k ≤ MC by omega) (show n ≤ MS by omega) (xt_w1 hB.1 m_8f062ecd) (xt_cdOf hB.1 m_8f062ecd) (hts _ m_d5ed7bed) hB hR hS hA (fun vv h12 H locs hq hEh12 hR hS => ?_)
          obtain ⟨rfl, hw⟩ := hq
          have hw := hw hEh12
          have hE := hE.tr hEh12
          refine W.eq (g2 := F0 m 124 ls []) rfl ?_
          exact am_M_name0_L124 l hfl D A σ MC MS h0 Qr (w_M_name0_L52 Qr n9) ih x0 x3 h12 hw p e s m args below meth c hC H locs ls k n hE (lv_sub hl [1, 2] rfl) hR hS (by omega) (by omega)
        · have hw := hw.2 hc11
          refine lv_aload_n hx hb (xb_d D_M_name0 53 rfl) rfl (lv_at hl 1 rfl) ?_
          refine lv_aload_n hx hb (xb_d D_M_name0 54 rfl) rfl (lv_at hl 1 rfl) ?_
          have hk1 : xb_k h9 x0 = 9 := hEh9.k hk1
          refine xb_getI (C := R_M) (T := F_M) (N := 97) hx hb 8 15 hts fin_M hown hR hk1 (by decide) rfl (by decide) rfl (hts _ m_6c2d27ad) (fun _ h9 => h9) (xb_d D_M_name0 55 rfl) ?_
          refine lv_iload hx hb (xb_d D_M_name0 56 rfl) (lv_at hl 0 rfl) ?_
          refine lv_iadd hx hb (xb_d D_M_name0 57 rfl) ?_
          refine lv_iconst (v := 1) hx hb (xb_d D_M_name0 58 rfl) (by decide) ?_
          refine lv_iadd hx hb (xb_d D_M_name0 59 rfl) ?_
          refine xb_putI (C := R_M) (T := F_M) (N := 97) (ty := .int) (x := (((xb_i h9 x0 15) + r8) + 1)) hx hb 8 15 hts fin_M t_M t_M_ok n_M hown hR hS hk1 (by decide) rfl (by decide) rfl (hts _ m_6c2d27ad) (fun _ h9 => h9) rfl (by decide +kernel) rfl rfl (xb_d D_M_name0 60 rfl) (fun H locs hR hS => ?_)
          obtain ⟨h14, eh14⟩ : ∃ x : xb_H, x = xb_I h9 x0 15 (((xb_i h9 x0 15) + r8) + 1) := ⟨_, rfl⟩
          rw [← eh14] at hR
          have hw := hw h14 eh14
          have hE : xb_ext h0 h14 := by rw [eh14]; exact hE
          refine lv_goto (tgt := 124) hx hb (xb_d D_M_name0 61 rfl) rfl ?_
          exact am_M_name0_L124 l hfl D A σ MC MS h0 Qr (w_M_name0_L52 Qr n9) ih x0 x3 h14 hw p e s m args below meth c hC H locs ls k n hE (lv_sub hl [1, 2] rfl) hR hS (by omega) (by omega)

set_option maxHeartbeats 4000000 in
set_option maxRecDepth 100000 in
theorem am_M_name0_L36 (l : Launch) (hfl : l.flags = pinnedFlags ++ [noTraceFlag]) (D : va_G) (A : Nat → Prop) (σ MC MS : Nat) (h0 : xb_H) (Qr : xb_H → Prop) (x0 : Nat) (x1 : Int64) (h : xb_H) (hw : w_M_name0_L36 Qr x0 x1 h) : xb_am l D A σ 5 MC MS h0 (fun v h _ _ => v = none ∧ Qr h) (fun _ _ _ _ => False) y_M_name0.cls y_M_name0.name b_M_name0 5 ([] : List ExceptionTableEntry) none 36 [(0, .ref x0), (1, .long x1)] [] h 0 0 := by
  unfold w_M_name0_L36 at hw
  intro p e s m args below meth c hC H locs ls k n hE hl hR hS hk hn
  obtain ⟨hx, hb, hown, hlocks, htab, hml, hr, hB, hA, hnm⟩ := id hC
  have hts := hB.1.1.at args
  refine lv_aload_n hx hb (xb_d D_M_name0 20 rfl) rfl (lv_at hl 0 rfl) ?_
  obtain ⟨hk1, hw⟩ := hw
  refine xb_getI (C := R_M) (T := F_M) (N := 97) hx hb 8 17 hts fin_M hown hR hk1 (by decide) rfl (by decide) rfl (hts _ m_ff69da61) (fun _ h9 => h9) (xb_d D_M_name0 21 rfl) ?_
  refine lv_if_eq (tgt := 44) hx hb (xb_d D_M_name0 22 rfl) rfl (fun hc2 => ?_) (fun hc2 => ?_)
  · have hw := hw.1 hc2
    refine lv_aload_n hx hb (xb_d D_M_name0 24 rfl) rfl (lv_at hl 0 rfl) ?_
    refine xb_getI (C := R_M) (T := F_M) (N := 97) hx hb 8 15 hts fin_M hown hR hk1 (by decide) rfl (by decide) rfl (hts _ m_6c2d27ad) (fun _ h9 => h9) (xb_d D_M_name0 25 rfl) ?_
    refine lv_lload_n hx hb (xb_d D_M_name0 26 rfl) rfl (lv_at hl 1 rfl) ?_
    refine lv_l2i hx hb (xb_d D_M_name0 27 rfl) rfl ?_
    refine lv_iadd hx hb (xb_d D_M_name0 28 rfl) ?_
    obtain ⟨v3, ev3⟩ : ∃ x : Int32, x = ((xb_i h x0 15) + (Int64.toInt32 x1)) := ⟨_, rfl⟩
    have hw := hw v3 ev3
    refine xt_numi (y := v3) ev3.symm ?_
    refine lv_istore_n hx hb (xb_d D_M_name0 29 rfl) rfl hl (by decide) rfl (fun ls hl => ?_)
    have hl : lv_has ls 5 [(3, .int v3), (0, .ref x0), (1, .long x1)] := hl
    obtain ⟨n8, hw⟩ := hw
    exact am_M_name0_L52 l hfl D A σ MC MS h0 Qr n8 x0 v3 h hw p e s m args below meth c hC H locs ls k n hE (lv_sub hl [1, 0] rfl) hR hS (by omega) (by omega)
  · have hw := hw.2 hc2
    exact xb_vret 0 0 hx hb hr hlocks (show k + 0 ≤ MC by omega) (show n + 0 ≤ MS by omega) hE hR hS (xb_d D_M_name0 23 rfl) hw

set_option maxHeartbeats 4000000 in
set_option maxRecDepth 100000 in
theorem ok_M_name0 (l : Launch) (hfl : l.flags = pinnedFlags ++ [noTraceFlag]) (D : va_G) (A : Nat → Prop) (σ : Nat) (x0 : Nat) (h : xb_H) (Qr : xb_H → Prop) (hw : w_M_name0 x0 h Qr) : xb_Met l y_M_name0 [.code y_M_name0 b_M_name0 5 none] (xb_rm 5 0 0) (xb_Pc D A σ h [.ref x0]) (xb_Qc D A h 0 0 (fun v h _ _ => v = none ∧ Qr h) (fun _ _ _ _ => False)) A := by
  refine xb_ofAm (cc := b_M_name0) (by decide) (Nat.le_of_ble_eq_true rfl) ?_
  unfold w_M_name0 at hw
  show xb_am l D A σ 5 0 0 h (fun v h _ _ => v = none ∧ Qr h) (fun _ _ _ _ => False) y_M_name0.cls y_M_name0.name b_M_name0 5 ([] : List ExceptionTableEntry) none 0 [(0, .ref x0)] [] h 0 0
  obtain ⟨MC, hMC⟩ : ∃ x, x = 0 := ⟨_, rfl⟩
  obtain ⟨MS, hMS⟩ : ∃ x, x = 0 := ⟨_, rfl⟩
  rw [show xb_am l D A σ 5 0 0 = xb_am l D A σ 5 MC MS by rw [hMC, hMS]]
  obtain ⟨h0, hh0⟩ : ∃ x, x = h := ⟨_, rfl⟩
  rw [show xb_am l D A σ 5 MC MS h = xb_am l D A σ 5 MC MS h0 by rw [hh0]]
  intro p e s m args below meth c hC H locs ls k n hE hl hR hS hk hn
  obtain ⟨hx, hb, hown, hlocks, htab, hml, hr, hB, hA, hnm⟩ := id hC
  have hts := hB.1.1.at args
  refine lv_aload_n hx hb (xb_d D_M_name0 0 rfl) rfl (lv_at hl 0 rfl) ?_
  obtain ⟨hk1, hw⟩ := hw
  refine xb_call0 (D := D) (A := A) (σ := σ) (h := h) (d := 4) (maxL := 5) (rest := []) (av := [.ref x0]) (fun T hT X => by obtain ⟨cb9, ra9, rb9, rc9⟩ := xb_recv (ci := 8) hR rfl hk1 (by decide); exact xt_invV X hx hown (hts _ m_e991293f) (hts _ m_385a74b3) (hts _ m_c9fbcd02) (xt_sigOf (hts _ m_1f53f210)) nm_M_count (by rw [hT]; exact ra9) rb9 rc9 (g := F0 m 1 ls [.ref x0]) rfl (argsL := []) (rest := []) rfl rfl (by rw [hb]; exact (xb_d D_M_name0 1 rfl))) (ok_M_count l hfl D A σ x0 h _ hw) (hml.trans hl.1.symm) (by rw [hb]; exact (xb_d D_M_name0 1 rfl)) (Nat.le_of_ble_eq_true rfl) (Nat.le_of_ble_eq_true rfl) (Nat.le_of_ble_eq_true rfl) (show k ≤ MC by omega) (show n ≤ MS by omega) (xt_w1 hB.1 m_1f53f210) (xt_cdOf hB.1 m_1f53f210) (hts _ m_d5ed7bed) hB hR hS hA (fun vv h2 H locs hq hEh2 hR hS => ?_)
  obtain ⟨r3, rfl, hw⟩ := hq
  have hw := hw hEh2
  have hE := hE.tr hEh2
  refine W.eq (g2 := F0 m 4 ls [.long r3]) rfl ?_
  refine lv_lstore_n hx hb (xb_d D_M_name0 2 rfl) rfl hl (by decide) rfl (fun ls hl => ?_)
  have hl : lv_has ls 5 [(1, .long r3), (0, .ref x0)] := hl
  refine lv_aload_n hx hb (xb_d D_M_name0 3 rfl) rfl (lv_at hl 1 rfl) ?_
  have hk1 : xb_k h2 x0 = 9 := hEh2.k hk1
  refine xb_getI (C := R_M) (T := F_M) (N := 97) hx hb 8 17 hts fin_M hown hR hk1 (by decide) rfl (by decide) rfl (hts _ m_ff69da61) (fun _ h9 => h9) (xb_d D_M_name0 4 rfl) ?_
  refine lv_if_ne (tgt := 36) hx hb (xb_d D_M_name0 5 rfl) rfl (fun hc4 => ?_) (fun hc4 => ?_)
  · have hw := hw.1 hc4
    exact am_M_name0_L36 l hfl D A σ MC MS h0 Qr x0 r3 h2 hw p e s m args below meth c hC H locs ls k n hE (lv_sub hl [1, 0] rfl) hR hS (by omega) (by omega)
  · have hw := hw.2 hc4
    refine lv_lload_n hx hb (xb_d D_M_name0 6 rfl) rfl (lv_at hl 0 rfl) ?_
    refine lv_aload_n hx hb (xb_d D_M_name0 7 rfl) rfl (lv_at hl 1 rfl) ?_
    refine xb_getI (C := R_M) (T := F_M) (N := 97) hx hb 8 16 hts fin_M hown hR hk1 (by decide) rfl (by decide) rfl (hts _ m_48124c81) (fun _ h9 => h9) (xb_d D_M_name0 8 rfl) ?_
    refine lv_aload_n hx hb (xb_d D_M_name0 9 rfl) rfl (lv_at hl 1 rfl) ?_
    refine xb_getI (C := R_M) (T := F_M) (N := 97) hx hb 8 15 hts fin_M hown hR hk1 (by decide) rfl (by decide) rfl (hts _ m_6c2d27ad) (fun _ h9 => h9) (xb_d D_M_name0 10 rfl) ?_
    refine lv_isub hx hb (xb_d D_M_name0 11 rfl) ?_
    refine lv_i2l hx hb (xb_d D_M_name0 12 rfl) rfl ?_
    refine xb_lc_le (tgt := 36) hx hb (xb_d D_M_name0 13 rfl) (xb_d D_M_name0 14 rfl) rfl (fun hc5 => ?_) (fun hc5 => ?_)
    · have hw := hw.1 hc5
      exact am_M_name0_L36 l hfl D A σ MC MS h0 Qr x0 r3 h2 hw p e s m args below meth c hC H locs ls k n hE (lv_sub hl [1, 0] rfl) hR hS (by omega) (by omega)
    · have hw := hw.2 hc5
      refine lv_aload_n hx hb (xb_d D_M_name0 15 rfl) rfl (lv_at hl 1 rfl) ?_
      refine lv_iconst (v := 2) hx hb (xb_d D_M_name0 16 rfl) (by decide) ?_
      refine lv_aload_n hx hb (xb_d D_M_name0 17 rfl) rfl (lv_at hl 1 rfl) ?_
      refine xb_getI (C := R_M) (T := F_M) (N := 97) hx hb 8 16 hts fin_M hown hR hk1 (by decide) rfl (by decide) rfl (hts _ m_48124c81) (fun _ h9 => h9) (xb_d D_M_name0 18 rfl) ?_
      refine xb_call0 (D := D) (A := A) (σ := σ) (h := h2) (d := 2) (maxL := 3) (rest := []) (av := [.ref x0, .int 2, .int (xb_i h2 x0 16)]) (fun T hT X => by obtain ⟨cb9, ra9, rb9, rc9⟩ := xb_recv (ci := 8) hR rfl hk1 (by decide); exact xt_invV X hx hown (hts _ m_939052ad) (hts _ m_29cc8c73) (hts _ m_3b1ac7ab) (xt_sigOf (hts _ m_8f062ecd)) nm_M_fail (by rw [hT]; exact ra9) rb9 rc9 (g := F0 m 33 ls [.int (xb_i h2 x0 16), .int 2, .ref x0]) rfl (argsL := [.int 2, .int (xb_i h2 x0 16)]) (rest := []) rfl rfl (by rw [hb]; exact (xb_d D_M_name0 19 rfl))) (ok_M_fail l hfl D A σ x0 2 (xb_i h2 x0 16) h2 _ hw) (hml.trans hl.1.symm) (by rw [hb]; exact (xb_d D_M_name0 19 rfl)) (Nat.le_of_ble_eq_true rfl) (Nat.le_of_ble_eq_true rfl) (Nat.le_of_ble_eq_true rfl) (show k ≤ MC by omega) (show n ≤ MS by omega) (xt_w1 hB.1 m_8f062ecd) (xt_cdOf hB.1 m_8f062ecd) (hts _ m_d5ed7bed) hB hR hS hA (fun vv h6 H locs hq hEh6 hR hS => ?_)
      obtain ⟨rfl, hw⟩ := hq
      have hw := hw hEh6
      have hE := hE.tr hEh6
      refine W.eq (g2 := F0 m 36 ls []) rfl ?_
      exact am_M_name0_L36 l hfl D A σ MC MS h0 Qr x0 r3 h6 hw p e s m args below meth c hC H locs ls k n hE (lv_sub hl [1, 0] rfl) hR hS (by omega) (by omega)

theorem m_0517c3da : (.constant "StackHostModel" 489 100000 : Cond) ∈ xt_tbl := xt_in (xt_t12 (List.mem_of_getElem? (i := 41) (by decide +kernel))) (by decide +kernel)
set_option maxRecDepth 100000 in
def T_M_ofHost : List (Nat × Instr × Nat) := [(0, .aload_n 0, 1), (1, .iload_n 1, 1), (2, .iload_n 3, 1), (3, .invokevirtual 324, 3), (6, .aload_n 0, 1), (7, .invokevirtual 218, 3), (10, .l2i, 1), (11, .istore 4, 2), (13, .iload 4, 2), (15, .iconst 1, 1), (16, .if_icmp .ne 19, 3), (19, .aload_n 0, 1), (20, .getfield 14, 3), (23, .aload_n 0, 1), (24, .getfield 202, 3), (27, .baload, 1), (28, .sipush 255, 3), (31, .iand, 1), (32, .goto 4, 3), (35, .iconst 0, 1), (36, .istore 5, 2), (38, .iload 5, 2), (40, .bipush 105, 2), (42, .if_icmp .ne 7, 3), (45, .iconst 0, 1), (46, .goto 37, 3), (49, .iload 5, 2), (51, .bipush 108, 2), (53, .if_icmp .ne 7, 3), (56, .iconst 1, 1), (57, .goto 26, 3), (60, .iload 5, 2), (62, .bipush 102, 2), (64, .if_icmp .ne 7, 3), (67, .iconst 2, 1), (68, .goto 15, 3), (71, .iload 5, 2), (73, .bipush 100, 2), (75, .if_icmp .ne 7, 3), (78, .iconst 3, 1), (79, .goto 4, 3), (82, .iconst (-1), 1), (83, .istore 6, 2), (85, .iload 6, 2), (87, .ifCond .ge 6, 3), (90, .bipush (-42), 2), (92, .ireturn, 1), (93, .iload_n 2, 1), (94, .ifCond .ne 12, 3), (97, .ldc_w 489, 3), (100, .iload 6, 2), (102, .iadd, 1), (103, .goto 5, 3), (106, .bipush (-43), 2), (108, .ireturn, 1)]
theorem D_M_ofHost : ∀ q ∈ T_M_ofHost, decode b_M_ofHost q.1 = .ok (q.2.1, q.2.2) := by decide +kernel

set_option maxHeartbeats 4000000 in
set_option maxRecDepth 100000 in
theorem am_M_ofHost_L108 (l : Launch) (hfl : l.flags = pinnedFlags ++ [noTraceFlag]) (D : va_G) (A : Nat → Prop) (σ MC MS : Nat) (h0 : xb_H) (Qr : Int32 → xb_H → Prop) (y0 : Int32) (h : xb_H) (hw : w_M_ofHost_L108 Qr y0 h) : xb_am l D A σ 5 MC MS h0 (fun v h _ _ => ∃ r, v = some (.int r) ∧ Qr r h) (fun _ _ _ _ => False) y_M_ofHost.cls y_M_ofHost.name b_M_ofHost 7 ([] : List ExceptionTableEntry) (some .int) 108 [] [.int y0] h 0 0 := by
  unfold w_M_ofHost_L108 at hw
  intro p e s m args below meth c hC H locs ls k n hE hl hR hS hk hn
  obtain ⟨hx, hb, hown, hlocks, htab, hml, hr, hB, hA, hnm⟩ := id hC
  have hts := hB.1.1.at args
  exact xb_iret 0 0 hx hb hr hlocks (show k + 0 ≤ MC by omega) (show n + 0 ≤ MS by omega) hE hR hS (xb_d D_M_ofHost 54 rfl) hw

set_option maxHeartbeats 4000000 in
set_option maxRecDepth 100000 in
theorem am_M_ofHost_L83 (l : Launch) (hfl : l.flags = pinnedFlags ++ [noTraceFlag]) (D : va_G) (A : Nat → Prop) (σ MC MS : Nat) (h0 : xb_H) (Qr : Int32 → xb_H → Prop) (x2 : Int32) (y0 : Int32) (h : xb_H) (hw : w_M_ofHost_L83 Qr x2 y0 h) : xb_am l D A σ 5 MC MS h0 (fun v h _ _ => ∃ r, v = some (.int r) ∧ Qr r h) (fun _ _ _ _ => False) y_M_ofHost.cls y_M_ofHost.name b_M_ofHost 7 ([] : List ExceptionTableEntry) (some .int) 83 [(2, .int x2)] [.int y0] h 0 0 := by
  unfold w_M_ofHost_L83 at hw
  intro p e s m args below meth c hC H locs ls k n hE hl hR hS hk hn
  obtain ⟨hx, hb, hown, hlocks, htab, hml, hr, hB, hA, hnm⟩ := id hC
  have hts := hB.1.1.at args
  refine lv_istore hx hb (xb_d D_M_ofHost 42 rfl) hl (by decide) rfl (fun ls hl => ?_)
  have hl : lv_has ls 7 [(6, .int y0), (2, .int x2)] := hl
  refine lv_iload hx hb (xb_d D_M_ofHost 43 rfl) (lv_at hl 0 rfl) ?_
  refine lv_if_ge (tgt := 93) hx hb (xb_d D_M_ofHost 44 rfl) rfl (fun hc1 => ?_) (fun hc1 => ?_)
  · have hw := hw.1 hc1
    refine lv_iload_n hx hb (xb_d D_M_ofHost 47 rfl) rfl (lv_at hl 1 rfl) ?_
    refine lv_if_ne (tgt := 106) hx hb (xb_d D_M_ofHost 48 rfl) rfl (fun hc2 => ?_) (fun hc2 => ?_)
    · have hw := hw.1 hc2
      refine lv_bipush (v := (-43)) hx hb (xb_d D_M_ofHost 53 rfl) (by decide) ?_
      exact am_M_ofHost_L108 l hfl D A σ MC MS h0 Qr (-43) h hw p e s m args below meth c hC H locs ls k n hE (lv_sub hl [] rfl) hR hS (by omega) (by omega)
    · have hw := hw.2 hc2
      refine lv_ldcw (v := 100000) hx hb hown (hts _ m_0517c3da) (xb_d D_M_ofHost 49 rfl) ?_
      refine lv_iload hx hb (xb_d D_M_ofHost 50 rfl) (lv_at hl 0 rfl) ?_
      refine lv_iadd hx hb (xb_d D_M_ofHost 51 rfl) ?_
      refine lv_goto (tgt := 108) hx hb (xb_d D_M_ofHost 52 rfl) rfl ?_
      exact am_M_ofHost_L108 l hfl D A σ MC MS h0 Qr (100000 + y0) h hw p e s m args below meth c hC H locs ls k n hE (lv_sub hl [] rfl) hR hS (by omega) (by omega)
  · have hw := hw.2 hc1
    refine lv_bipush (v := (-42)) hx hb (xb_d D_M_ofHost 45 rfl) (by decide) ?_
    exact xb_iret 0 0 hx hb hr hlocks (show k + 0 ≤ MC by omega) (show n + 0 ≤ MS by omega) hE hR hS (xb_d D_M_ofHost 46 rfl) hw

set_option maxHeartbeats 4000000 in
set_option maxRecDepth 100000 in
theorem am_M_ofHost_L36 (l : Launch) (hfl : l.flags = pinnedFlags ++ [noTraceFlag]) (D : va_G) (A : Nat → Prop) (σ MC MS : Nat) (h0 : xb_H) (Qr : Int32 → xb_H → Prop) (x2 : Int32) (y0 : Int32) (h : xb_H) (hw : w_M_ofHost_L36 Qr x2 y0 h) : xb_am l D A σ 5 MC MS h0 (fun v h _ _ => ∃ r, v = some (.int r) ∧ Qr r h) (fun _ _ _ _ => False) y_M_ofHost.cls y_M_ofHost.name b_M_ofHost 7 ([] : List ExceptionTableEntry) (some .int) 36 [(2, .int x2)] [.int y0] h 0 0 := by
  unfold w_M_ofHost_L36 at hw
  intro p e s m args below meth c hC H locs ls k n hE hl hR hS hk hn
  obtain ⟨hx, hb, hown, hlocks, htab, hml, hr, hB, hA, hnm⟩ := id hC
  have hts := hB.1.1.at args
  refine lv_istore hx hb (xb_d D_M_ofHost 20 rfl) hl (by decide) rfl (fun ls hl => ?_)
  have hl : lv_has ls 7 [(5, .int y0), (2, .int x2)] := hl
  refine lv_iload hx hb (xb_d D_M_ofHost 21 rfl) (lv_at hl 0 rfl) ?_
  refine lv_bipush (v := 105) hx hb (xb_d D_M_ofHost 22 rfl) (by decide) ?_
  refine lv_icmp_ne (tgt := 49) hx hb (xb_d D_M_ofHost 23 rfl) rfl (fun hc1 => ?_) (fun hc1 => ?_)
  · have hw := hw.1 hc1
    refine lv_iload hx hb (xb_d D_M_ofHost 26 rfl) (lv_at hl 0 rfl) ?_
    refine lv_bipush (v := 108) hx hb (xb_d D_M_ofHost 27 rfl) (by decide) ?_
    refine lv_icmp_ne (tgt := 60) hx hb (xb_d D_M_ofHost 28 rfl) rfl (fun hc2 => ?_) (fun hc2 => ?_)
    · have hw := hw.1 hc2
      refine lv_iload hx hb (xb_d D_M_ofHost 31 rfl) (lv_at hl 0 rfl) ?_
      refine lv_bipush (v := 102) hx hb (xb_d D_M_ofHost 32 rfl) (by decide) ?_
      refine lv_icmp_ne (tgt := 71) hx hb (xb_d D_M_ofHost 33 rfl) rfl (fun hc3 => ?_) (fun hc3 => ?_)
      · have hw := hw.1 hc3
        refine lv_iload hx hb (xb_d D_M_ofHost 36 rfl) (lv_at hl 0 rfl) ?_
        refine lv_bipush (v := 100) hx hb (xb_d D_M_ofHost 37 rfl) (by decide) ?_
        refine lv_icmp_ne (tgt := 82) hx hb (xb_d D_M_ofHost 38 rfl) rfl (fun hc4 => ?_) (fun hc4 => ?_)
        · have hw := hw.1 hc4
          refine lv_iconst (v := (-1)) hx hb (xb_d D_M_ofHost 41 rfl) (by decide) ?_
          exact am_M_ofHost_L83 l hfl D A σ MC MS h0 Qr x2 (-1) h hw p e s m args below meth c hC H locs ls k n hE (lv_sub hl [1] rfl) hR hS (by omega) (by omega)
        · have hw := hw.2 hc4
          refine lv_iconst (v := 3) hx hb (xb_d D_M_ofHost 39 rfl) (by decide) ?_
          refine lv_goto (tgt := 83) hx hb (xb_d D_M_ofHost 40 rfl) rfl ?_
          exact am_M_ofHost_L83 l hfl D A σ MC MS h0 Qr x2 3 h hw p e s m args below meth c hC H locs ls k n hE (lv_sub hl [1] rfl) hR hS (by omega) (by omega)
      · have hw := hw.2 hc3
        refine lv_iconst (v := 2) hx hb (xb_d D_M_ofHost 34 rfl) (by decide) ?_
        refine lv_goto (tgt := 83) hx hb (xb_d D_M_ofHost 35 rfl) rfl ?_
        exact am_M_ofHost_L83 l hfl D A σ MC MS h0 Qr x2 2 h hw p e s m args below meth c hC H locs ls k n hE (lv_sub hl [1] rfl) hR hS (by omega) (by omega)
    · have hw := hw.2 hc2
      refine lv_iconst (v := 1) hx hb (xb_d D_M_ofHost 29 rfl) (by decide) ?_
      refine lv_goto (tgt := 83) hx hb (xb_d D_M_ofHost 30 rfl) rfl ?_
      exact am_M_ofHost_L83 l hfl D A σ MC MS h0 Qr x2 1 h hw p e s m args below meth c hC H locs ls k n hE (lv_sub hl [1] rfl) hR hS (by omega) (by omega)
  · have hw := hw.2 hc1
    refine lv_iconst (v := 0) hx hb (xb_d D_M_ofHost 24 rfl) (by decide) ?_
    refine lv_goto (tgt := 83) hx hb (xb_d D_M_ofHost 25 rfl) rfl ?_
    exact am_M_ofHost_L83 l hfl D A σ MC MS h0 Qr x2 0 h hw p e s m args below meth c hC H locs ls k n hE (lv_sub hl [1] rfl) hR hS (by omega) (by omega)

set_option maxHeartbeats 4000000 in
set_option maxRecDepth 100000 in
theorem ok_M_ofHost (l : Launch) (hfl : l.flags = pinnedFlags ++ [noTraceFlag]) (D : va_G) (A : Nat → Prop) (σ : Nat) (x0 : Nat) (x1 : Int32) (x2 : Int32) (x3 : Int32) (h : xb_H) (Qr : Int32 → xb_H → Prop) (hw : w_M_ofHost x0 x1 x2 x3 h Qr) : xb_Met l y_M_ofHost [.code y_M_ofHost b_M_ofHost 7 (some .int)] (xb_rm 5 0 0) (xb_Pc D A σ h [.ref x0, .int x1, .int x2, .int x3]) (xb_Qc D A h 0 0 (fun v h _ _ => ∃ r, v = some (.int r) ∧ Qr r h) (fun _ _ _ _ => False)) A := by
  refine xb_ofAm (cc := b_M_ofHost) (by decide) (Nat.le_of_ble_eq_true rfl) ?_
  unfold w_M_ofHost at hw
  show xb_am l D A σ 5 0 0 h (fun v h _ _ => ∃ r, v = some (.int r) ∧ Qr r h) (fun _ _ _ _ => False) y_M_ofHost.cls y_M_ofHost.name b_M_ofHost 7 ([] : List ExceptionTableEntry) (some .int) 0 [(0, .ref x0), (1, .int x1), (2, .int x2), (3, .int x3)] [] h 0 0
  obtain ⟨MC, hMC⟩ : ∃ x, x = 0 := ⟨_, rfl⟩
  obtain ⟨MS, hMS⟩ : ∃ x, x = 0 := ⟨_, rfl⟩
  rw [show xb_am l D A σ 5 0 0 = xb_am l D A σ 5 MC MS by rw [hMC, hMS]]
  obtain ⟨h0, hh0⟩ : ∃ x, x = h := ⟨_, rfl⟩
  rw [show xb_am l D A σ 5 MC MS h = xb_am l D A σ 5 MC MS h0 by rw [hh0]]
  intro p e s m args below meth c hC H locs ls k n hE hl hR hS hk hn
  obtain ⟨hx, hb, hown, hlocks, htab, hml, hr, hB, hA, hnm⟩ := id hC
  have hts := hB.1.1.at args
  refine lv_aload_n hx hb (xb_d D_M_ofHost 0 rfl) rfl (lv_at hl 0 rfl) ?_
  refine lv_iload_n hx hb (xb_d D_M_ofHost 1 rfl) rfl (lv_at hl 1 rfl) ?_
  refine lv_iload_n hx hb (xb_d D_M_ofHost 2 rfl) rfl (lv_at hl 3 rfl) ?_
  obtain ⟨hk1, hw⟩ := hw
  refine xb_call0 (D := D) (A := A) (σ := σ) (h := h) (d := 2) (maxL := 3) (rest := []) (av := [.ref x0, .int x1, .int x3]) (fun T hT X => by obtain ⟨cb9, ra9, rb9, rc9⟩ := xb_recv (ci := 8) hR rfl hk1 (by decide); exact xt_invV X hx hown (hts _ m_bb531879) (hts _ m_4a6cd4a0) (hts _ m_d1c31e3c) (xt_sigOf (hts _ m_48217fba)) nm_M_go (by rw [hT]; exact ra9) rb9 rc9 (g := F0 m 3 ls [.int x3, .int x1, .ref x0]) rfl (argsL := [.int x1, .int x3]) (rest := []) rfl rfl (by rw [hb]; exact (xb_d D_M_ofHost 3 rfl))) (ok_M_go l hfl D A σ x0 x1 x3 h _ hw) (hml.trans hl.1.symm) (by rw [hb]; exact (xb_d D_M_ofHost 3 rfl)) (Nat.le_of_ble_eq_true rfl) (Nat.le_of_ble_eq_true rfl) (Nat.le_of_ble_eq_true rfl) (show k ≤ MC by omega) (show n ≤ MS by omega) (xt_w1 hB.1 m_48217fba) (xt_cdOf hB.1 m_48217fba) (hts _ m_d5ed7bed) hB hR hS hA (fun vv h2 H locs hq hEh2 hR hS => ?_)
  obtain ⟨rfl, hw⟩ := hq
  have hw := hw hEh2
  have hE := hE.tr hEh2
  refine W.eq (g2 := F0 m 6 ls []) rfl ?_
  refine lv_aload_n hx hb (xb_d D_M_ofHost 4 rfl) rfl (lv_at hl 0 rfl) ?_
  have hk1 : xb_k h2 x0 = 9 := hEh2.k hk1
  refine xb_call0 (D := D) (A := A) (σ := σ) (h := h2) (d := 4) (maxL := 5) (rest := []) (av := [.ref x0]) (fun T hT X => by obtain ⟨cb9, ra9, rb9, rc9⟩ := xb_recv (ci := 8) hR rfl hk1 (by decide); exact xt_invV X hx hown (hts _ m_e991293f) (hts _ m_385a74b3) (hts _ m_c9fbcd02) (xt_sigOf (hts _ m_1f53f210)) nm_M_count (by rw [hT]; exact ra9) rb9 rc9 (g := F0 m 7 ls [.ref x0]) rfl (argsL := []) (rest := []) rfl rfl (by rw [hb]; exact (xb_d D_M_ofHost 5 rfl))) (ok_M_count l hfl D A σ x0 h2 _ hw) (hml.trans hl.1.symm) (by rw [hb]; exact (xb_d D_M_ofHost 5 rfl)) (Nat.le_of_ble_eq_true rfl) (Nat.le_of_ble_eq_true rfl) (Nat.le_of_ble_eq_true rfl) (show k ≤ MC by omega) (show n ≤ MS by omega) (xt_w1 hB.1 m_1f53f210) (xt_cdOf hB.1 m_1f53f210) (hts _ m_d5ed7bed) hB hR hS hA (fun vv h4 H locs hq hEh4 hR hS => ?_)
  obtain ⟨r5, rfl, hw⟩ := hq
  have hw := hw hEh4
  have hE := hE.tr hEh4
  refine W.eq (g2 := F0 m 10 ls [.long r5]) rfl ?_
  refine lv_l2i hx hb (xb_d D_M_ofHost 6 rfl) rfl ?_
  obtain ⟨v6, ev6⟩ : ∃ x : Int32, x = (Int64.toInt32 r5) := ⟨_, rfl⟩
  have hw := hw v6 ev6
  refine xt_numi (y := v6) ev6.symm ?_
  refine lv_istore hx hb (xb_d D_M_ofHost 7 rfl) hl (by decide) rfl (fun ls hl => ?_)
  have hl : lv_has ls 7 [(4, .int v6), (0, .ref x0), (1, .int x1), (2, .int x2), (3, .int x3)] := hl
  refine lv_iload hx hb (xb_d D_M_ofHost 8 rfl) (lv_at hl 0 rfl) ?_
  refine lv_iconst (v := 1) hx hb (xb_d D_M_ofHost 9 rfl) (by decide) ?_
  refine lv_icmp_ne (tgt := 35) hx hb (xb_d D_M_ofHost 10 rfl) rfl (fun hc7 => ?_) (fun hc7 => ?_)
  · have hw := hw.1 hc7
    refine lv_iconst (v := 0) hx hb (xb_d D_M_ofHost 19 rfl) (by decide) ?_
    exact am_M_ofHost_L36 l hfl D A σ MC MS h0 Qr x2 0 h4 hw p e s m args below meth c hC H locs ls k n hE (lv_sub hl [3] rfl) hR hS (by omega) (by omega)
  · have hw := hw.2 hc7
    refine lv_aload_n hx hb (xb_d D_M_ofHost 11 rfl) rfl (lv_at hl 1 rfl) ?_
    have hk1 : xb_k h4 x0 = 9 := hEh4.k hk1
    refine xb_getP (C := R_M) (T := F_M) (N := 97) hx hb 8 3 hts fin_M hown hR hk1 (by decide) rfl (by decide) rfl (hts _ m_4f0568af) (fun _ h9 => h9) (xb_d D_M_ofHost 12 rfl) ?_
    obtain ⟨b8, eb8, hw⟩ := hw
    refine xb_some eb8 ?_
    refine lv_aload_n hx hb (xb_d D_M_ofHost 13 rfl) rfl (lv_at hl 1 rfl) ?_
    refine xb_getI (C := R_M) (T := F_M) (N := 97) hx hb 8 15 hts fin_M hown hR hk1 (by decide) rfl (by decide) rfl (hts _ m_6c2d27ad) (fun _ h9 => h9) (xb_d D_M_ofHost 14 rfl) ?_
    obtain ⟨hk10, hw⟩ := hw
    obtain ⟨hi9, hw⟩ := hw
    refine xb_bald hx hb hR hk10 hi9 (xb_d D_M_ofHost 15 rfl) ?_
    refine lv_sipush (v := 255) hx hb (xb_d D_M_ofHost 16 rfl) (by decide) ?_
    refine lv_iand hx hb (xb_d D_M_ofHost 17 rfl) ?_
    refine lv_goto (tgt := 36) hx hb (xb_d D_M_ofHost 18 rfl) rfl ?_
    exact am_M_ofHost_L36 l hfl D A σ MC MS h0 Qr x2 ((xb_i h4 b8 (Int32.toNatClampNeg (xb_i h4 x0 15))) &&& 255) h4 hw p e s m args below meth c hC H locs ls k n hE (lv_sub hl [3] rfl) hR hS (by omega) (by omega)

theorem m_7f41753e : (.methodLink "StackHostModel" 320 y_M_placeOf : Cond) ∈ xt_tbl := xt_in (xt_t11 (List.mem_of_getElem? (i := 72) (by decide +kernel))) (by decide +kernel)
theorem m_8cdd7108 : (.instanceMethod y_M_placeOf : Cond) ∈ xt_tbl := xt_in (xt_t11 (List.mem_of_getElem? (i := 74) (by decide +kernel))) (by decide +kernel)
theorem m_e228318f : (.selects "StackHostModel" y_M_placeOf y_M_placeOf : Cond) ∈ xt_tbl := xt_in (xt_v10 (q := (⟨"StackHostModel", "placeOf", "(III)I"⟩, 97)) (List.mem_of_getElem? (i := 10) (by decide +kernel))) (by decide +kernel)
theorem m_89667ad5 : (.code y_M_placeOf b_M_placeOf 4 (some .int) : Cond) ∈ xt_tbl := xt_in (xt_t11 (List.mem_of_getElem? (i := 75) (by decide +kernel))) (by decide +kernel)
theorem nm_M_placeOf : xt_nm y_M_placeOf 3 := ⟨by decide +kernel, by decide +kernel⟩
set_option maxRecDepth 100000 in
def T_M_parameters : List (Nat × Instr × Nat) := [(0, .aload_n 0, 1), (1, .iload_n 1, 1), (2, .aload_n 0, 1), (3, .iload_n 1, 1), (4, .iconst 1, 1), (5, .iload_n 2, 1), (6, .invokevirtual 320, 3), (9, .iconst 1, 1), (10, .iadd, 1), (11, .invokevirtual 324, 3), (14, .aload_n 0, 1), (15, .invokevirtual 218, 3), (18, .l2i, 1), (19, .ireturn, 1)]
theorem D_M_parameters : ∀ q ∈ T_M_parameters, decode b_M_parameters q.1 = .ok (q.2.1, q.2.2) := by decide +kernel

set_option maxHeartbeats 4000000 in
set_option maxRecDepth 100000 in
theorem ok_M_parameters (l : Launch) (hfl : l.flags = pinnedFlags ++ [noTraceFlag]) (D : va_G) (A : Nat → Prop) (σ : Nat) (x0 : Nat) (x1 : Int32) (x2 : Int32) (h : xb_H) (Qr : Int32 → xb_H → Prop) (hw : w_M_parameters x0 x1 x2 h Qr) : xb_Met l y_M_parameters [.code y_M_parameters b_M_parameters 3 (some .int)] (xb_rm 5 0 0) (xb_Pc D A σ h [.ref x0, .int x1, .int x2]) (xb_Qc D A h 0 0 (fun v h _ _ => ∃ r, v = some (.int r) ∧ Qr r h) (fun _ _ _ _ => False)) A := by
  refine xb_ofAm (cc := b_M_parameters) (by decide) (Nat.le_of_ble_eq_true rfl) ?_
  unfold w_M_parameters at hw
  show xb_am l D A σ 5 0 0 h (fun v h _ _ => ∃ r, v = some (.int r) ∧ Qr r h) (fun _ _ _ _ => False) y_M_parameters.cls y_M_parameters.name b_M_parameters 3 ([] : List ExceptionTableEntry) (some .int) 0 [(0, .ref x0), (1, .int x1), (2, .int x2)] [] h 0 0
  obtain ⟨MC, hMC⟩ : ∃ x, x = 0 := ⟨_, rfl⟩
  obtain ⟨MS, hMS⟩ : ∃ x, x = 0 := ⟨_, rfl⟩
  rw [show xb_am l D A σ 5 0 0 = xb_am l D A σ 5 MC MS by rw [hMC, hMS]]
  obtain ⟨h0, hh0⟩ : ∃ x, x = h := ⟨_, rfl⟩
  rw [show xb_am l D A σ 5 MC MS h = xb_am l D A σ 5 MC MS h0 by rw [hh0]]
  intro p e s m args below meth c hC H locs ls k n hE hl hR hS hk hn
  obtain ⟨hx, hb, hown, hlocks, htab, hml, hr, hB, hA, hnm⟩ := id hC
  have hts := hB.1.1.at args
  refine lv_aload_n hx hb (xb_d D_M_parameters 0 rfl) rfl (lv_at hl 0 rfl) ?_
  refine lv_iload_n hx hb (xb_d D_M_parameters 1 rfl) rfl (lv_at hl 1 rfl) ?_
  refine lv_aload_n hx hb (xb_d D_M_parameters 2 rfl) rfl (lv_at hl 0 rfl) ?_
  refine lv_iload_n hx hb (xb_d D_M_parameters 3 rfl) rfl (lv_at hl 1 rfl) ?_
  refine lv_iconst (v := 1) hx hb (xb_d D_M_parameters 4 rfl) (by decide) ?_
  refine lv_iload_n hx hb (xb_d D_M_parameters 5 rfl) rfl (lv_at hl 2 rfl) ?_
  obtain ⟨hk1, hw⟩ := hw
  refine xb_call0 (D := D) (A := A) (σ := σ) (h := h) (d := 2) (maxL := 4) (rest := [.int x1, .ref x0]) (av := [.ref x0, .int x1, .int 1, .int x2]) (fun T hT X => by obtain ⟨cb9, ra9, rb9, rc9⟩ := xb_recv (ci := 8) hR rfl hk1 (by decide); exact xt_invV X hx hown (hts _ m_7f41753e) (hts _ m_8cdd7108) (hts _ m_e228318f) (xt_sigOf (hts _ m_89667ad5)) nm_M_placeOf (by rw [hT]; exact ra9) rb9 rc9 (g := F0 m 6 ls [.int x2, .int 1, .int x1, .ref x0, .int x1, .ref x0]) rfl (argsL := [.int x1, .int 1, .int x2]) (rest := [.int x1, .ref x0]) rfl rfl (by rw [hb]; exact (xb_d D_M_parameters 6 rfl))) (ok_M_placeOf l hfl D A σ x0 x1 1 x2 h _ hw) (hml.trans hl.1.symm) (by rw [hb]; exact (xb_d D_M_parameters 6 rfl)) (Nat.le_of_ble_eq_true rfl) (Nat.le_of_ble_eq_true rfl) (Nat.le_of_ble_eq_true rfl) (show k ≤ MC by omega) (show n ≤ MS by omega) (xt_w1 hB.1 m_89667ad5) (xt_cdOf hB.1 m_89667ad5) (hts _ m_d5ed7bed) hB hR hS hA (fun vv h2 H locs hq hEh2 hR hS => ?_)
  obtain ⟨r3, rfl, hw⟩ := hq
  have hw := hw hEh2
  have hE := hE.tr hEh2
  refine W.eq (g2 := F0 m 9 ls [.int r3, .int x1, .ref x0]) rfl ?_
  refine lv_iconst (v := 1) hx hb (xb_d D_M_parameters 7 rfl) (by decide) ?_
  refine lv_iadd hx hb (xb_d D_M_parameters 8 rfl) ?_
  have hk1 : xb_k h2 x0 = 9 := hEh2.k hk1
  refine xb_call0 (D := D) (A := A) (σ := σ) (h := h2) (d := 2) (maxL := 3) (rest := []) (av := [.ref x0, .int x1, .int (r3 + 1)]) (fun T hT X => by obtain ⟨cb9, ra9, rb9, rc9⟩ := xb_recv (ci := 8) hR rfl hk1 (by decide); exact xt_invV X hx hown (hts _ m_bb531879) (hts _ m_4a6cd4a0) (hts _ m_d1c31e3c) (xt_sigOf (hts _ m_48217fba)) nm_M_go (by rw [hT]; exact ra9) rb9 rc9 (g := F0 m 11 ls [.int (r3 + 1), .int x1, .ref x0]) rfl (argsL := [.int x1, .int (r3 + 1)]) (rest := []) rfl rfl (by rw [hb]; exact (xb_d D_M_parameters 9 rfl))) (ok_M_go l hfl D A σ x0 x1 (r3 + 1) h2 _ hw) (hml.trans hl.1.symm) (by rw [hb]; exact (xb_d D_M_parameters 9 rfl)) (Nat.le_of_ble_eq_true rfl) (Nat.le_of_ble_eq_true rfl) (Nat.le_of_ble_eq_true rfl) (show k ≤ MC by omega) (show n ≤ MS by omega) (xt_w1 hB.1 m_48217fba) (xt_cdOf hB.1 m_48217fba) (hts _ m_d5ed7bed) hB hR hS hA (fun vv h4 H locs hq hEh4 hR hS => ?_)
  obtain ⟨rfl, hw⟩ := hq
  have hw := hw hEh4
  have hE := hE.tr hEh4
  refine W.eq (g2 := F0 m 14 ls []) rfl ?_
  refine lv_aload_n hx hb (xb_d D_M_parameters 10 rfl) rfl (lv_at hl 0 rfl) ?_
  have hk1 : xb_k h4 x0 = 9 := hEh4.k hk1
  refine xb_call0 (D := D) (A := A) (σ := σ) (h := h4) (d := 4) (maxL := 5) (rest := []) (av := [.ref x0]) (fun T hT X => by obtain ⟨cb9, ra9, rb9, rc9⟩ := xb_recv (ci := 8) hR rfl hk1 (by decide); exact xt_invV X hx hown (hts _ m_e991293f) (hts _ m_385a74b3) (hts _ m_c9fbcd02) (xt_sigOf (hts _ m_1f53f210)) nm_M_count (by rw [hT]; exact ra9) rb9 rc9 (g := F0 m 15 ls [.ref x0]) rfl (argsL := []) (rest := []) rfl rfl (by rw [hb]; exact (xb_d D_M_parameters 11 rfl))) (ok_M_count l hfl D A σ x0 h4 _ hw) (hml.trans hl.1.symm) (by rw [hb]; exact (xb_d D_M_parameters 11 rfl)) (Nat.le_of_ble_eq_true rfl) (Nat.le_of_ble_eq_true rfl) (Nat.le_of_ble_eq_true rfl) (show k ≤ MC by omega) (show n ≤ MS by omega) (xt_w1 hB.1 m_1f53f210) (xt_cdOf hB.1 m_1f53f210) (hts _ m_d5ed7bed) hB hR hS hA (fun vv h6 H locs hq hEh6 hR hS => ?_)
  obtain ⟨r7, rfl, hw⟩ := hq
  have hw := hw hEh6
  have hE := hE.tr hEh6
  refine W.eq (g2 := F0 m 18 ls [.long r7]) rfl ?_
  refine lv_l2i hx hb (xb_d D_M_parameters 12 rfl) rfl ?_
  exact xb_iret 0 0 hx hb hr hlocks (show k + 0 ≤ MC by omega) (show n + 0 ≤ MS by omega) hE hR hS (xb_d D_M_parameters 13 rfl) hw

theorem m_8b8b9169 : (.methodLink "StackHostModel" 240 y_M_valueType : Cond) ∈ xt_tbl := xt_in (xt_t11 (List.mem_of_getElem? (i := 13) (by decide +kernel))) (by decide +kernel)
theorem m_667aad99 : (.instanceMethod y_M_valueType : Cond) ∈ xt_tbl := xt_in (xt_t11 (List.mem_of_getElem? (i := 15) (by decide +kernel))) (by decide +kernel)
theorem m_67a4431f : (.selects "StackHostModel" y_M_valueType y_M_valueType : Cond) ∈ xt_tbl := xt_in (xt_v9 (q := (⟨"StackHostModel", "valueType", "()V"⟩, 97)) (List.mem_of_getElem? (i := 13) (by decide +kernel))) (by decide +kernel)
theorem m_8f1ca5e5 : (.code y_M_valueType b_M_valueType 2 none : Cond) ∈ xt_tbl := xt_in (xt_t11 (List.mem_of_getElem? (i := 16) (by decide +kernel))) (by decide +kernel)
theorem nm_M_valueType : xt_nm y_M_valueType 0 := ⟨by decide +kernel, by decide +kernel⟩
set_option maxRecDepth 100000 in
def T_M_row : List (Nat × Instr × Nat) := [(0, .aload_n 0, 1), (1, .invokevirtual 218, 3), (4, .lstore_n 2, 1), (5, .lconst 0, 1), (6, .lstore 4, 2), (8, .lload 4, 2), (10, .lload_n 2, 1), (11, .lcmp, 1), (12, .ifCond .ge 35, 3), (15, .aload_n 0, 1), (16, .getfield 193, 3), (19, .ifCond .ne 28, 3), (22, .iload_n 1, 1), (23, .ifCond .eq 10, 3), (26, .aload_n 0, 1), (27, .invokevirtual 240, 3), (30, .goto 8, 3), (33, .aload_n 0, 1), (34, .invokevirtual 218, 3), (37, .pop2, 1), (38, .lload 4, 2), (40, .lconst 1, 1), (41, .ladd, 1), (42, .lstore 4, 2), (44, .goto (-36), 3), (47, .return_, 1)]
theorem D_M_row : ∀ q ∈ T_M_row, decode b_M_row q.1 = .ok (q.2.1, q.2.2) := by decide +kernel

set_option maxHeartbeats 4000000 in
set_option maxRecDepth 100000 in
theorem am_M_row_L47 (l : Launch) (hfl : l.flags = pinnedFlags ++ [noTraceFlag]) (D : va_G) (A : Nat → Prop) (σ MC MS : Nat) (h0 : xb_H) (Qr : xb_H → Prop) (h : xb_H) (hw : w_M_row_L47 Qr h) : xb_am l D A σ 5 MC MS h0 (fun v h _ _ => v = none ∧ Qr h) (fun _ _ _ _ => False) y_M_row.cls y_M_row.name b_M_row 6 ([] : List ExceptionTableEntry) none 47 [] [] h 0 0 := by
  unfold w_M_row_L47 at hw
  intro p e s m args below meth c hC H locs ls k n hE hl hR hS hk hn
  obtain ⟨hx, hb, hown, hlocks, htab, hml, hr, hB, hA, hnm⟩ := id hC
  have hts := hB.1.1.at args
  exact xb_vret 0 0 hx hb hr hlocks (show k + 0 ≤ MC by omega) (show n + 0 ≤ MS by omega) hE hR hS (xb_d D_M_row 25 rfl) hw

set_option maxHeartbeats 4000000 in
set_option maxRecDepth 100000 in
theorem am_M_row_L38 (l : Launch) (hfl : l.flags = pinnedFlags ++ [noTraceFlag]) (D : va_G) (A : Nat → Prop) (σ MC MS : Nat) (h0 : xb_H) (Qr : xb_H → Prop) (K8 : Nat → Int32 → Int64 → Int64 → xb_H → Prop) (hK8 : ∀ (x0 : Nat) (x1 : Int32) (x2 : Int64) (x4 : Int64) (h : xb_H), K8 x0 x1 x2 x4 h → xb_am l D A σ 5 MC MS h0 (fun v h _ _ => v = none ∧ Qr h) (fun _ _ _ _ => False) y_M_row.cls y_M_row.name b_M_row 6 ([] : List ExceptionTableEntry) none 8 [(0, .ref x0), (1, .int x1), (2, .long x2), (4, .long x4)] [] h 0 0) (x0 : Nat) (x1 : Int32) (x2 : Int64) (x4 : Int64) (h : xb_H) (hw : w_M_row_L38 K8 Qr x0 x1 x2 x4 h) : xb_am l D A σ 5 MC MS h0 (fun v h _ _ => v = none ∧ Qr h) (fun _ _ _ _ => False) y_M_row.cls y_M_row.name b_M_row 6 ([] : List ExceptionTableEntry) none 38 [(0, .ref x0), (1, .int x1), (2, .long x2), (4, .long x4)] [] h 0 0 := by
  unfold w_M_row_L38 at hw
  intro p e s m args below meth c hC H locs ls k n hE hl hR hS hk hn
  obtain ⟨hx, hb, hown, hlocks, htab, hml, hr, hB, hA, hnm⟩ := id hC
  have hts := hB.1.1.at args
  refine lv_lload hx hb (xb_d D_M_row 20 rfl) (lv_at hl 3 rfl) ?_
  refine lv_lconst (v := 1) hx hb (xb_d D_M_row 21 rfl) (by decide) ?_
  refine lv_ladd hx hb (xb_d D_M_row 22 rfl) ?_
  obtain ⟨v1, ev1⟩ : ∃ x : Int64, x = (x4 + 1) := ⟨_, rfl⟩
  have hw := hw v1 ev1
  refine xt_numl (y := v1) ev1.symm ?_
  refine lv_lstore hx hb (xb_d D_M_row 23 rfl) hl (by decide) rfl (fun ls hl => ?_)
  have hl : lv_has ls 6 [(4, .long v1), (0, .ref x0), (1, .int x1), (2, .long x2)] := hl
  refine lv_goto (tgt := 8) hx hb (xb_d D_M_row 24 rfl) rfl ?_
  exact hK8 x0 x1 x2 v1 h hw p e s m args below meth c hC H locs ls k n hE (lv_sub hl [1, 2, 3, 0] rfl) hR hS (by omega) (by omega)

set_option maxHeartbeats 4000000 in
set_option maxRecDepth 100000 in
theorem am_M_row_L8 (l : Launch) (hfl : l.flags = pinnedFlags ++ [noTraceFlag]) (D : va_G) (A : Nat → Prop) (σ MC MS : Nat) (h0 : xb_H) (Qr : xb_H → Prop) (n9 : Nat) : ∀ (x0 : Nat) (x1 : Int32) (x2 : Int64) (x4 : Int64) (h : xb_H), w_M_row_L8 Qr n9 x0 x1 x2 x4 h → xb_am l D A σ 5 MC MS h0 (fun v h _ _ => v = none ∧ Qr h) (fun _ _ _ _ => False) y_M_row.cls y_M_row.name b_M_row 6 ([] : List ExceptionTableEntry) none 8 [(0, .ref x0), (1, .int x1), (2, .long x2), (4, .long x4)] [] h 0 0 := by
  induction n9 with
  | zero => intro x0 x1 x2 x4 h hw; exact False.elim hw
  | succ n9 ih =>
    intro x0 x1 x2 x4 h hw
    unfold w_M_row_L8 at hw
    intro p e s m args below meth c hC H locs ls k n hE hl hR hS hk hn
    obtain ⟨hx, hb, hown, hlocks, htab, hml, hr, hB, hA, hnm⟩ := id hC
    have hts := hB.1.1.at args
    refine lv_lload hx hb (xb_d D_M_row 5 rfl) (lv_at hl 3 rfl) ?_
    refine lv_lload_n hx hb (xb_d D_M_row 6 rfl) rfl (lv_at hl 2 rfl) ?_
    refine xb_lc_ge (tgt := 47) hx hb (xb_d D_M_row 7 rfl) (xb_d D_M_row 8 rfl) rfl (fun hc1 => ?_) (fun hc1 => ?_)
    · have hw := hw.1 hc1
      exact am_M_row_L47 l hfl D A σ MC MS h0 Qr h hw p e s m args below meth c hC H locs ls k n hE (lv_sub hl [] rfl) hR hS (by omega) (by omega)
    · have hw := hw.2 hc1
      refine lv_aload_n hx hb (xb_d D_M_row 9 rfl) rfl (lv_at hl 0 rfl) ?_
      obtain ⟨hk2, hw⟩ := hw
      refine xb_getI (C := R_M) (T := F_M) (N := 97) hx hb 8 17 hts fin_M hown hR hk2 (by decide) rfl (by decide) rfl (hts _ m_ff69da61) (fun _ h9 => h9) (xb_d D_M_row 10 rfl) ?_
      refine lv_if_ne (tgt := 47) hx hb (xb_d D_M_row 11 rfl) rfl (fun hc3 => ?_) (fun hc3 => ?_)
      · have hw := hw.1 hc3
        exact am_M_row_L47 l hfl D A σ MC MS h0 Qr h hw p e s m args below meth c hC H locs ls k n hE (lv_sub hl [] rfl) hR hS (by omega) (by omega)
      · have hw := hw.2 hc3
        refine lv_iload_n hx hb (xb_d D_M_row 12 rfl) rfl (lv_at hl 1 rfl) ?_
        refine lv_if_eq (tgt := 33) hx hb (xb_d D_M_row 13 rfl) rfl (fun hc4 => ?_) (fun hc4 => ?_)
        · have hw := hw.1 hc4
          refine lv_aload_n hx hb (xb_d D_M_row 17 rfl) rfl (lv_at hl 0 rfl) ?_
          refine xb_call0 (D := D) (A := A) (σ := σ) (h := h) (d := 4) (maxL := 5) (rest := []) (av := [.ref x0]) (fun T hT X => by obtain ⟨cb9, ra9, rb9, rc9⟩ := xb_recv (ci := 8) hR rfl hk2 (by decide); exact xt_invV X hx hown (hts _ m_e991293f) (hts _ m_385a74b3) (hts _ m_c9fbcd02) (xt_sigOf (hts _ m_1f53f210)) nm_M_count (by rw [hT]; exact ra9) rb9 rc9 (g := F0 m 34 ls [.ref x0]) rfl (argsL := []) (rest := []) rfl rfl (by rw [hb]; exact (xb_d D_M_row 18 rfl))) (ok_M_count l hfl D A σ x0 h _ hw) (hml.trans hl.1.symm) (by rw [hb]; exact (xb_d D_M_row 18 rfl)) (Nat.le_of_ble_eq_true rfl) (Nat.le_of_ble_eq_true rfl) (Nat.le_of_ble_eq_true rfl) (show k ≤ MC by omega) (show n ≤ MS by omega) (xt_w1 hB.1 m_1f53f210) (xt_cdOf hB.1 m_1f53f210) (hts _ m_d5ed7bed) hB hR hS hA (fun vv h5 H locs hq hEh5 hR hS => ?_)
          obtain ⟨r6, rfl, hw⟩ := hq
          have hw := hw hEh5
          have hE := hE.tr hEh5
          refine W.eq (g2 := F0 m 37 ls [.long r6]) rfl ?_
          refine lv_pop2_2 hx hb (xb_d D_M_row 19 rfl) rfl ?_
          exact am_M_row_L38 l hfl D A σ MC MS h0 Qr (w_M_row_L8 Qr n9) ih x0 x1 x2 x4 h5 hw p e s m args below meth c hC H locs ls k n hE (lv_sub hl [0, 1, 2, 3] rfl) hR hS (by omega) (by omega)
        · have hw := hw.2 hc4
          refine lv_aload_n hx hb (xb_d D_M_row 14 rfl) rfl (lv_at hl 0 rfl) ?_
          refine xb_call0 (D := D) (A := A) (σ := σ) (h := h) (d := 4) (maxL := 2) (rest := []) (av := [.ref x0]) (fun T hT X => by obtain ⟨cb9, ra9, rb9, rc9⟩ := xb_recv (ci := 8) hR rfl hk2 (by decide); exact xt_invV X hx hown (hts _ m_8b8b9169) (hts _ m_667aad99) (hts _ m_67a4431f) (xt_sigOf (hts _ m_8f1ca5e5)) nm_M_valueType (by rw [hT]; exact ra9) rb9 rc9 (g := F0 m 27 ls [.ref x0]) rfl (argsL := []) (rest := []) rfl rfl (by rw [hb]; exact (xb_d D_M_row 15 rfl))) (ok_M_valueType l hfl D A σ x0 h _ hw) (hml.trans hl.1.symm) (by rw [hb]; exact (xb_d D_M_row 15 rfl)) (Nat.le_of_ble_eq_true rfl) (Nat.le_of_ble_eq_true rfl) (Nat.le_of_ble_eq_true rfl) (show k ≤ MC by omega) (show n ≤ MS by omega) (xt_w1 hB.1 m_8f1ca5e5) (xt_cdOf hB.1 m_8f1ca5e5) (hts _ m_d5ed7bed) hB hR hS hA (fun vv h7 H locs hq hEh7 hR hS => ?_)
          obtain ⟨rfl, hw⟩ := hq
          have hw := hw hEh7
          have hE := hE.tr hEh7
          refine W.eq (g2 := F0 m 30 ls []) rfl ?_
          refine lv_goto (tgt := 38) hx hb (xb_d D_M_row 16 rfl) rfl ?_
          exact am_M_row_L38 l hfl D A σ MC MS h0 Qr (w_M_row_L8 Qr n9) ih x0 x1 x2 x4 h7 hw p e s m args below meth c hC H locs ls k n hE (lv_sub hl [0, 1, 2, 3] rfl) hR hS (by omega) (by omega)

set_option maxHeartbeats 4000000 in
set_option maxRecDepth 100000 in
theorem ok_M_row (l : Launch) (hfl : l.flags = pinnedFlags ++ [noTraceFlag]) (D : va_G) (A : Nat → Prop) (σ : Nat) (x0 : Nat) (x1 : Int32) (h : xb_H) (Qr : xb_H → Prop) (hw : w_M_row x0 x1 h Qr) : xb_Met l y_M_row [.code y_M_row b_M_row 6 none] (xb_rm 5 0 0) (xb_Pc D A σ h [.ref x0, .int x1]) (xb_Qc D A h 0 0 (fun v h _ _ => v = none ∧ Qr h) (fun _ _ _ _ => False)) A := by
  refine xb_ofAm (cc := b_M_row) (by decide) (Nat.le_of_ble_eq_true rfl) ?_
  unfold w_M_row at hw
  show xb_am l D A σ 5 0 0 h (fun v h _ _ => v = none ∧ Qr h) (fun _ _ _ _ => False) y_M_row.cls y_M_row.name b_M_row 6 ([] : List ExceptionTableEntry) none 0 [(0, .ref x0), (1, .int x1)] [] h 0 0
  obtain ⟨MC, hMC⟩ : ∃ x, x = 0 := ⟨_, rfl⟩
  obtain ⟨MS, hMS⟩ : ∃ x, x = 0 := ⟨_, rfl⟩
  rw [show xb_am l D A σ 5 0 0 = xb_am l D A σ 5 MC MS by rw [hMC, hMS]]
  obtain ⟨h0, hh0⟩ : ∃ x, x = h := ⟨_, rfl⟩
  rw [show xb_am l D A σ 5 MC MS h = xb_am l D A σ 5 MC MS h0 by rw [hh0]]
  intro p e s m args below meth c hC H locs ls k n hE hl hR hS hk hn
  obtain ⟨hx, hb, hown, hlocks, htab, hml, hr, hB, hA, hnm⟩ := id hC
  have hts := hB.1.1.at args
  refine lv_aload_n hx hb (xb_d D_M_row 0 rfl) rfl (lv_at hl 0 rfl) ?_
  obtain ⟨hk1, hw⟩ := hw
  refine xb_call0 (D := D) (A := A) (σ := σ) (h := h) (d := 4) (maxL := 5) (rest := []) (av := [.ref x0]) (fun T hT X => by obtain ⟨cb9, ra9, rb9, rc9⟩ := xb_recv (ci := 8) hR rfl hk1 (by decide); exact xt_invV X hx hown (hts _ m_e991293f) (hts _ m_385a74b3) (hts _ m_c9fbcd02) (xt_sigOf (hts _ m_1f53f210)) nm_M_count (by rw [hT]; exact ra9) rb9 rc9 (g := F0 m 1 ls [.ref x0]) rfl (argsL := []) (rest := []) rfl rfl (by rw [hb]; exact (xb_d D_M_row 1 rfl))) (ok_M_count l hfl D A σ x0 h _ hw) (hml.trans hl.1.symm) (by rw [hb]; exact (xb_d D_M_row 1 rfl)) (Nat.le_of_ble_eq_true rfl) (Nat.le_of_ble_eq_true rfl) (Nat.le_of_ble_eq_true rfl) (show k ≤ MC by omega) (show n ≤ MS by omega) (xt_w1 hB.1 m_1f53f210) (xt_cdOf hB.1 m_1f53f210) (hts _ m_d5ed7bed) hB hR hS hA (fun vv h2 H locs hq hEh2 hR hS => ?_)
  obtain ⟨r3, rfl, hw⟩ := hq
  have hw := hw hEh2
  have hE := hE.tr hEh2
  refine W.eq (g2 := F0 m 4 ls [.long r3]) rfl ?_
  refine lv_lstore_n hx hb (xb_d D_M_row 2 rfl) rfl hl (by decide) rfl (fun ls hl => ?_)
  have hl : lv_has ls 6 [(2, .long r3), (0, .ref x0), (1, .int x1)] := hl
  refine lv_lconst (v := 0) hx hb (xb_d D_M_row 3 rfl) (by decide) ?_
  refine lv_lstore hx hb (xb_d D_M_row 4 rfl) hl (by decide) rfl (fun ls hl => ?_)
  have hl : lv_has ls 6 [(4, .long 0), (2, .long r3), (0, .ref x0), (1, .int x1)] := hl
  obtain ⟨n8, hw⟩ := hw
  exact am_M_row_L8 l hfl D A σ MC MS h0 Qr n8 x0 x1 r3 0 h2 hw p e s m args below meth c hC H locs ls k n hE (lv_sub hl [2, 3, 1, 0] rfl) hR hS (by omega) (by omega)

set_option maxRecDepth 100000 in
def T_M_sameName : List (Nat × Instr × Nat) := [(0, .aload_n 0, 1), (1, .iload_n 1, 1), (2, .iload_n 2, 1), (3, .invokevirtual 324, 3), (6, .aload_n 0, 1), (7, .invokevirtual 218, 3), (10, .l2i, 1), (11, .istore 4, 2), (13, .aload_n 0, 1), (14, .getfield 202, 3), (17, .istore 5, 2), (19, .aload_n 0, 1), (20, .iload_n 1, 1), (21, .iload_n 3, 1), (22, .invokevirtual 324, 3), (25, .aload_n 0, 1), (26, .invokevirtual 218, 3), (29, .l2i, 1), (30, .iload 4, 2), (32, .if_icmp .ne 7, 3), (35, .iconst 1, 1), (36, .goto 4, 3), (39, .iconst 0, 1), (40, .istore 6, 2), (42, .iconst 0, 1), (43, .istore 7, 2), (45, .iload 7, 2), (47, .iload 4, 2), (49, .if_icmp .ge 46, 3), (52, .iload 6, 2), (54, .ifCond .eq 41, 3), (57, .aload_n 0, 1), (58, .getfield 14, 3), (61, .iload 5, 2), (63, .iload 7, 2), (65, .iadd, 1), (66, .baload, 1), (67, .aload_n 0, 1), (68, .getfield 14, 3), (71, .aload_n 0, 1), (72, .getfield 202, 3), (75, .iload 7, 2), (77, .iadd, 1), (78, .baload, 1), (79, .if_icmp .ne 7, 3), (82, .iconst 1, 1), (83, .goto 4, 3), (86, .iconst 0, 1), (87, .istore 6, 2), (89, .iinc 7 1, 3), (92, .goto (-47), 3), (95, .iload 6, 2), (97, .ireturn, 1)]
theorem D_M_sameName : ∀ q ∈ T_M_sameName, decode b_M_sameName q.1 = .ok (q.2.1, q.2.2) := by decide +kernel

set_option maxHeartbeats 4000000 in
set_option maxRecDepth 100000 in
theorem am_M_sameName_L95 (l : Launch) (hfl : l.flags = pinnedFlags ++ [noTraceFlag]) (D : va_G) (A : Nat → Prop) (σ MC MS : Nat) (h0 : xb_H) (Qr : Int32 → xb_H → Prop) (x6 : Int32) (h : xb_H) (hw : w_M_sameName_L95 Qr x6 h) : xb_am l D A σ 5 MC MS h0 (fun v h _ _ => ∃ r, v = some (.int r) ∧ Qr r h) (fun _ _ _ _ => False) y_M_sameName.cls y_M_sameName.name b_M_sameName 8 ([] : List ExceptionTableEntry) (some .boolean) 95 [(6, .int x6)] [] h 0 0 := by
  unfold w_M_sameName_L95 at hw
  intro p e s m args below meth c hC H locs ls k n hE hl hR hS hk hn
  obtain ⟨hx, hb, hown, hlocks, htab, hml, hr, hB, hA, hnm⟩ := id hC
  have hts := hB.1.1.at args
  refine lv_iload hx hb (xb_d D_M_sameName 51 rfl) (lv_at hl 0 rfl) ?_
  exact xb_zret 0 0 hx hb hr hlocks (show k + 0 ≤ MC by omega) (show n + 0 ≤ MS by omega) hw.1 hE hR hS (xb_d D_M_sameName 52 rfl) hw.2

set_option maxHeartbeats 4000000 in
set_option maxRecDepth 100000 in
theorem am_M_sameName_L87 (l : Launch) (hfl : l.flags = pinnedFlags ++ [noTraceFlag]) (D : va_G) (A : Nat → Prop) (σ MC MS : Nat) (h0 : xb_H) (Qr : Int32 → xb_H → Prop) (K45 : Nat → Int32 → Int32 → Int32 → Int32 → xb_H → Prop) (hK45 : ∀ (x0 : Nat) (x4 : Int32) (x5 : Int32) (x6 : Int32) (x7 : Int32) (h : xb_H), K45 x0 x4 x5 x6 x7 h → xb_am l D A σ 5 MC MS h0 (fun v h _ _ => ∃ r, v = some (.int r) ∧ Qr r h) (fun _ _ _ _ => False) y_M_sameName.cls y_M_sameName.name b_M_sameName 8 ([] : List ExceptionTableEntry) (some .boolean) 45 [(0, .ref x0), (4, .int x4), (5, .int x5), (6, .int x6), (7, .int x7)] [] h 0 0) (x0 : Nat) (x4 : Int32) (x5 : Int32) (x7 : Int32) (y0 : Int32) (h : xb_H) (hw : w_M_sameName_L87 K45 Qr x0 x4 x5 x7 y0 h) : xb_am l D A σ 5 MC MS h0 (fun v h _ _ => ∃ r, v = some (.int r) ∧ Qr r h) (fun _ _ _ _ => False) y_M_sameName.cls y_M_sameName.name b_M_sameName 8 ([] : List ExceptionTableEntry) (some .boolean) 87 [(0, .ref x0), (4, .int x4), (5, .int x5), (7, .int x7)] [.int y0] h 0 0 := by
  unfold w_M_sameName_L87 at hw
  intro p e s m args below meth c hC H locs ls k n hE hl hR hS hk hn
  obtain ⟨hx, hb, hown, hlocks, htab, hml, hr, hB, hA, hnm⟩ := id hC
  have hts := hB.1.1.at args
  refine lv_istore hx hb (xb_d D_M_sameName 48 rfl) hl (by decide) rfl (fun ls hl => ?_)
  have hl : lv_has ls 8 [(6, .int y0), (0, .ref x0), (4, .int x4), (5, .int x5), (7, .int x7)] := hl
  refine lv_iinc (v := (x7 + 1)) (k := 4) hx hb (xb_d D_M_sameName 49 rfl) hl rfl (by first | rfl | decide) (by decide) rfl (fun ls hl => ?_)
  have hl : lv_has ls 8 [(7, .int (x7 + 1)), (6, .int y0), (0, .ref x0), (4, .int x4), (5, .int x5)] := hl
  refine lv_goto (tgt := 45) hx hb (xb_d D_M_sameName 50 rfl) rfl ?_
  exact hK45 x0 x4 x5 y0 (x7 + 1) h hw p e s m args below meth c hC H locs ls k n hE (lv_sub hl [2, 3, 4, 1, 0] rfl) hR hS (by omega) (by omega)

set_option maxHeartbeats 4000000 in
set_option maxRecDepth 100000 in
theorem am_M_sameName_L45 (l : Launch) (hfl : l.flags = pinnedFlags ++ [noTraceFlag]) (D : va_G) (A : Nat → Prop) (σ MC MS : Nat) (h0 : xb_H) (Qr : Int32 → xb_H → Prop) (n9 : Nat) : ∀ (x0 : Nat) (x4 : Int32) (x5 : Int32) (x6 : Int32) (x7 : Int32) (h : xb_H), w_M_sameName_L45 Qr n9 x0 x4 x5 x6 x7 h → xb_am l D A σ 5 MC MS h0 (fun v h _ _ => ∃ r, v = some (.int r) ∧ Qr r h) (fun _ _ _ _ => False) y_M_sameName.cls y_M_sameName.name b_M_sameName 8 ([] : List ExceptionTableEntry) (some .boolean) 45 [(0, .ref x0), (4, .int x4), (5, .int x5), (6, .int x6), (7, .int x7)] [] h 0 0 := by
  induction n9 with
  | zero => intro x0 x4 x5 x6 x7 h hw; exact False.elim hw
  | succ n9 ih =>
    intro x0 x4 x5 x6 x7 h hw
    unfold w_M_sameName_L45 at hw
    intro p e s m args below meth c hC H locs ls k n hE hl hR hS hk hn
    obtain ⟨hx, hb, hown, hlocks, htab, hml, hr, hB, hA, hnm⟩ := id hC
    have hts := hB.1.1.at args
    refine lv_iload hx hb (xb_d D_M_sameName 26 rfl) (lv_at hl 4 rfl) ?_
    refine lv_iload hx hb (xb_d D_M_sameName 27 rfl) (lv_at hl 1 rfl) ?_
    refine lv_icmp_ge (tgt := 95) hx hb (xb_d D_M_sameName 28 rfl) rfl (fun hc1 => ?_) (fun hc1 => ?_)
    · have hw := hw.1 hc1
      exact am_M_sameName_L95 l hfl D A σ MC MS h0 Qr x6 h hw p e s m args below meth c hC H locs ls k n hE (lv_sub hl [3] rfl) hR hS (by omega) (by omega)
    · have hw := hw.2 hc1
      refine lv_iload hx hb (xb_d D_M_sameName 29 rfl) (lv_at hl 3 rfl) ?_
      refine lv_if_eq (tgt := 95) hx hb (xb_d D_M_sameName 30 rfl) rfl (fun hc2 => ?_) (fun hc2 => ?_)
      · have hw := hw.1 hc2
        exact am_M_sameName_L95 l hfl D A σ MC MS h0 Qr x6 h hw p e s m args below meth c hC H locs ls k n hE (lv_sub hl [3] rfl) hR hS (by omega) (by omega)
      · have hw := hw.2 hc2
        refine lv_aload_n hx hb (xb_d D_M_sameName 31 rfl) rfl (lv_at hl 0 rfl) ?_
        obtain ⟨hk3, hw⟩ := hw
        refine xb_getP (C := R_M) (T := F_M) (N := 97) hx hb 8 3 hts fin_M hown hR hk3 (by decide) rfl (by decide) rfl (hts _ m_4f0568af) (fun _ h9 => h9) (xb_d D_M_sameName 32 rfl) ?_
        obtain ⟨b4, eb4, hw⟩ := hw
        refine xb_some eb4 ?_
        refine lv_iload hx hb (xb_d D_M_sameName 33 rfl) (lv_at hl 2 rfl) ?_
        refine lv_iload hx hb (xb_d D_M_sameName 34 rfl) (lv_at hl 4 rfl) ?_
        refine lv_iadd hx hb (xb_d D_M_sameName 35 rfl) ?_
        obtain ⟨hk6, hw⟩ := hw
        obtain ⟨hi5, hw⟩ := hw
        refine xb_bald hx hb hR hk6 hi5 (xb_d D_M_sameName 36 rfl) ?_
        refine lv_aload_n hx hb (xb_d D_M_sameName 37 rfl) rfl (lv_at hl 0 rfl) ?_
        refine xb_getP (C := R_M) (T := F_M) (N := 97) hx hb 8 3 hts fin_M hown hR hk3 (by decide) rfl (by decide) rfl (hts _ m_4f0568af) (fun _ h9 => h9) (xb_d D_M_sameName 38 rfl) ?_
        obtain ⟨b7, eb7, hw⟩ := hw
        refine xb_some eb7 ?_
        refine lv_aload_n hx hb (xb_d D_M_sameName 39 rfl) rfl (lv_at hl 0 rfl) ?_
        refine xb_getI (C := R_M) (T := F_M) (N := 97) hx hb 8 15 hts fin_M hown hR hk3 (by decide) rfl (by decide) rfl (hts _ m_6c2d27ad) (fun _ h9 => h9) (xb_d D_M_sameName 40 rfl) ?_
        refine lv_iload hx hb (xb_d D_M_sameName 41 rfl) (lv_at hl 4 rfl) ?_
        refine lv_iadd hx hb (xb_d D_M_sameName 42 rfl) ?_
        obtain ⟨hk9, hw⟩ := hw
        obtain ⟨hi8, hw⟩ := hw
        refine xb_bald hx hb hR hk9 hi8 (xb_d D_M_sameName 43 rfl) ?_
        refine lv_icmp_ne (tgt := 86) hx hb (xb_d D_M_sameName 44 rfl) rfl (fun hc10 => ?_) (fun hc10 => ?_)
        · have hw := hw.1 hc10
          refine lv_iconst (v := 0) hx hb (xb_d D_M_sameName 47 rfl) (by decide) ?_
          exact am_M_sameName_L87 l hfl D A σ MC MS h0 Qr (w_M_sameName_L45 Qr n9) ih x0 x4 x5 x7 0 h hw p e s m args below meth c hC H locs ls k n hE (lv_sub hl [0, 1, 2, 4] rfl) hR hS (by omega) (by omega)
        · have hw := hw.2 hc10
          refine lv_iconst (v := 1) hx hb (xb_d D_M_sameName 45 rfl) (by decide) ?_
          refine lv_goto (tgt := 87) hx hb (xb_d D_M_sameName 46 rfl) rfl ?_
          exact am_M_sameName_L87 l hfl D A σ MC MS h0 Qr (w_M_sameName_L45 Qr n9) ih x0 x4 x5 x7 1 h hw p e s m args below meth c hC H locs ls k n hE (lv_sub hl [0, 1, 2, 4] rfl) hR hS (by omega) (by omega)

set_option maxHeartbeats 4000000 in
set_option maxRecDepth 100000 in
theorem am_M_sameName_L40 (l : Launch) (hfl : l.flags = pinnedFlags ++ [noTraceFlag]) (D : va_G) (A : Nat → Prop) (σ MC MS : Nat) (h0 : xb_H) (Qr : Int32 → xb_H → Prop) (x0 : Nat) (x4 : Int32) (x5 : Int32) (y0 : Int32) (h : xb_H) (hw : w_M_sameName_L40 Qr x0 x4 x5 y0 h) : xb_am l D A σ 5 MC MS h0 (fun v h _ _ => ∃ r, v = some (.int r) ∧ Qr r h) (fun _ _ _ _ => False) y_M_sameName.cls y_M_sameName.name b_M_sameName 8 ([] : List ExceptionTableEntry) (some .boolean) 40 [(0, .ref x0), (4, .int x4), (5, .int x5)] [.int y0] h 0 0 := by
  unfold w_M_sameName_L40 at hw
  intro p e s m args below meth c hC H locs ls k n hE hl hR hS hk hn
  obtain ⟨hx, hb, hown, hlocks, htab, hml, hr, hB, hA, hnm⟩ := id hC
  have hts := hB.1.1.at args
  refine lv_istore hx hb (xb_d D_M_sameName 23 rfl) hl (by decide) rfl (fun ls hl => ?_)
  have hl : lv_has ls 8 [(6, .int y0), (0, .ref x0), (4, .int x4), (5, .int x5)] := hl
  refine lv_iconst (v := 0) hx hb (xb_d D_M_sameName 24 rfl) (by decide) ?_
  refine lv_istore hx hb (xb_d D_M_sameName 25 rfl) hl (by decide) rfl (fun ls hl => ?_)
  have hl : lv_has ls 8 [(7, .int 0), (6, .int y0), (0, .ref x0), (4, .int x4), (5, .int x5)] := hl
  obtain ⟨n8, hw⟩ := hw
  exact am_M_sameName_L45 l hfl D A σ MC MS h0 Qr n8 x0 x4 x5 y0 0 h hw p e s m args below meth c hC H locs ls k n hE (lv_sub hl [2, 3, 4, 1, 0] rfl) hR hS (by omega) (by omega)

set_option maxHeartbeats 4000000 in
set_option maxRecDepth 100000 in
theorem ok_M_sameName (l : Launch) (hfl : l.flags = pinnedFlags ++ [noTraceFlag]) (D : va_G) (A : Nat → Prop) (σ : Nat) (x0 : Nat) (x1 : Int32) (x2 : Int32) (x3 : Int32) (h : xb_H) (Qr : Int32 → xb_H → Prop) (hw : w_M_sameName x0 x1 x2 x3 h Qr) : xb_Met l y_M_sameName [.code y_M_sameName b_M_sameName 8 (some .boolean)] (xb_rm 5 0 0) (xb_Pc D A σ h [.ref x0, .int x1, .int x2, .int x3]) (xb_Qc D A h 0 0 (fun v h _ _ => ∃ r, v = some (.int r) ∧ Qr r h) (fun _ _ _ _ => False)) A := by
  refine xb_ofAm (cc := b_M_sameName) (by decide) (Nat.le_of_ble_eq_true rfl) ?_
  unfold w_M_sameName at hw
  show xb_am l D A σ 5 0 0 h (fun v h _ _ => ∃ r, v = some (.int r) ∧ Qr r h) (fun _ _ _ _ => False) y_M_sameName.cls y_M_sameName.name b_M_sameName 8 ([] : List ExceptionTableEntry) (some .boolean) 0 [(0, .ref x0), (1, .int x1), (2, .int x2), (3, .int x3)] [] h 0 0
  obtain ⟨MC, hMC⟩ : ∃ x, x = 0 := ⟨_, rfl⟩
  obtain ⟨MS, hMS⟩ : ∃ x, x = 0 := ⟨_, rfl⟩
  rw [show xb_am l D A σ 5 0 0 = xb_am l D A σ 5 MC MS by rw [hMC, hMS]]
  obtain ⟨h0, hh0⟩ : ∃ x, x = h := ⟨_, rfl⟩
  rw [show xb_am l D A σ 5 MC MS h = xb_am l D A σ 5 MC MS h0 by rw [hh0]]
  intro p e s m args below meth c hC H locs ls k n hE hl hR hS hk hn
  obtain ⟨hx, hb, hown, hlocks, htab, hml, hr, hB, hA, hnm⟩ := id hC
  have hts := hB.1.1.at args
  refine lv_aload_n hx hb (xb_d D_M_sameName 0 rfl) rfl (lv_at hl 0 rfl) ?_
  refine lv_iload_n hx hb (xb_d D_M_sameName 1 rfl) rfl (lv_at hl 1 rfl) ?_
  refine lv_iload_n hx hb (xb_d D_M_sameName 2 rfl) rfl (lv_at hl 2 rfl) ?_
  obtain ⟨hk1, hw⟩ := hw
  refine xb_call0 (D := D) (A := A) (σ := σ) (h := h) (d := 2) (maxL := 3) (rest := []) (av := [.ref x0, .int x1, .int x2]) (fun T hT X => by obtain ⟨cb9, ra9, rb9, rc9⟩ := xb_recv (ci := 8) hR rfl hk1 (by decide); exact xt_invV X hx hown (hts _ m_bb531879) (hts _ m_4a6cd4a0) (hts _ m_d1c31e3c) (xt_sigOf (hts _ m_48217fba)) nm_M_go (by rw [hT]; exact ra9) rb9 rc9 (g := F0 m 3 ls [.int x2, .int x1, .ref x0]) rfl (argsL := [.int x1, .int x2]) (rest := []) rfl rfl (by rw [hb]; exact (xb_d D_M_sameName 3 rfl))) (ok_M_go l hfl D A σ x0 x1 x2 h _ hw) (hml.trans hl.1.symm) (by rw [hb]; exact (xb_d D_M_sameName 3 rfl)) (Nat.le_of_ble_eq_true rfl) (Nat.le_of_ble_eq_true rfl) (Nat.le_of_ble_eq_true rfl) (show k ≤ MC by omega) (show n ≤ MS by omega) (xt_w1 hB.1 m_48217fba) (xt_cdOf hB.1 m_48217fba) (hts _ m_d5ed7bed) hB hR hS hA (fun vv h2 H locs hq hEh2 hR hS => ?_)
  obtain ⟨rfl, hw⟩ := hq
  have hw := hw hEh2
  have hE := hE.tr hEh2
  refine W.eq (g2 := F0 m 6 ls []) rfl ?_
  refine lv_aload_n hx hb (xb_d D_M_sameName 4 rfl) rfl (lv_at hl 0 rfl) ?_
  have hk1 : xb_k h2 x0 = 9 := hEh2.k hk1
  refine xb_call0 (D := D) (A := A) (σ := σ) (h := h2) (d := 4) (maxL := 5) (rest := []) (av := [.ref x0]) (fun T hT X => by obtain ⟨cb9, ra9, rb9, rc9⟩ := xb_recv (ci := 8) hR rfl hk1 (by decide); exact xt_invV X hx hown (hts _ m_e991293f) (hts _ m_385a74b3) (hts _ m_c9fbcd02) (xt_sigOf (hts _ m_1f53f210)) nm_M_count (by rw [hT]; exact ra9) rb9 rc9 (g := F0 m 7 ls [.ref x0]) rfl (argsL := []) (rest := []) rfl rfl (by rw [hb]; exact (xb_d D_M_sameName 5 rfl))) (ok_M_count l hfl D A σ x0 h2 _ hw) (hml.trans hl.1.symm) (by rw [hb]; exact (xb_d D_M_sameName 5 rfl)) (Nat.le_of_ble_eq_true rfl) (Nat.le_of_ble_eq_true rfl) (Nat.le_of_ble_eq_true rfl) (show k ≤ MC by omega) (show n ≤ MS by omega) (xt_w1 hB.1 m_1f53f210) (xt_cdOf hB.1 m_1f53f210) (hts _ m_d5ed7bed) hB hR hS hA (fun vv h4 H locs hq hEh4 hR hS => ?_)
  obtain ⟨r5, rfl, hw⟩ := hq
  have hw := hw hEh4
  have hE := hE.tr hEh4
  refine W.eq (g2 := F0 m 10 ls [.long r5]) rfl ?_
  refine lv_l2i hx hb (xb_d D_M_sameName 6 rfl) rfl ?_
  obtain ⟨v6, ev6⟩ : ∃ x : Int32, x = (Int64.toInt32 r5) := ⟨_, rfl⟩
  have hw := hw v6 ev6
  refine xt_numi (y := v6) ev6.symm ?_
  refine lv_istore hx hb (xb_d D_M_sameName 7 rfl) hl (by decide) rfl (fun ls hl => ?_)
  have hl : lv_has ls 8 [(4, .int v6), (0, .ref x0), (1, .int x1), (2, .int x2), (3, .int x3)] := hl
  refine lv_aload_n hx hb (xb_d D_M_sameName 8 rfl) rfl (lv_at hl 1 rfl) ?_
  have hk1 : xb_k h4 x0 = 9 := hEh4.k hk1
  refine xb_getI (C := R_M) (T := F_M) (N := 97) hx hb 8 15 hts fin_M hown hR hk1 (by decide) rfl (by decide) rfl (hts _ m_6c2d27ad) (fun _ h9 => h9) (xb_d D_M_sameName 9 rfl) ?_
  obtain ⟨v7, ev7⟩ : ∃ x : Int32, x = (xb_i h4 x0 15) := ⟨_, rfl⟩
  have hw := hw v7 ev7
  refine xt_numi (y := v7) ev7.symm ?_
  refine lv_istore hx hb (xb_d D_M_sameName 10 rfl) hl (by decide) rfl (fun ls hl => ?_)
  have hl : lv_has ls 8 [(5, .int v7), (4, .int v6), (0, .ref x0), (1, .int x1), (2, .int x2), (3, .int x3)] := hl
  refine lv_aload_n hx hb (xb_d D_M_sameName 11 rfl) rfl (lv_at hl 2 rfl) ?_
  refine lv_iload_n hx hb (xb_d D_M_sameName 12 rfl) rfl (lv_at hl 3 rfl) ?_
  refine lv_iload_n hx hb (xb_d D_M_sameName 13 rfl) rfl (lv_at hl 5 rfl) ?_
  refine xb_call0 (D := D) (A := A) (σ := σ) (h := h4) (d := 2) (maxL := 3) (rest := []) (av := [.ref x0, .int x1, .int x3]) (fun T hT X => by obtain ⟨cb9, ra9, rb9, rc9⟩ := xb_recv (ci := 8) hR rfl hk1 (by decide); exact xt_invV X hx hown (hts _ m_bb531879) (hts _ m_4a6cd4a0) (hts _ m_d1c31e3c) (xt_sigOf (hts _ m_48217fba)) nm_M_go (by rw [hT]; exact ra9) rb9 rc9 (g := F0 m 22 ls [.int x3, .int x1, .ref x0]) rfl (argsL := [.int x1, .int x3]) (rest := []) rfl rfl (by rw [hb]; exact (xb_d D_M_sameName 14 rfl))) (ok_M_go l hfl D A σ x0 x1 x3 h4 _ hw) (hml.trans hl.1.symm) (by rw [hb]; exact (xb_d D_M_sameName 14 rfl)) (Nat.le_of_ble_eq_true rfl) (Nat.le_of_ble_eq_true rfl) (Nat.le_of_ble_eq_true rfl) (show k ≤ MC by omega) (show n ≤ MS by omega) (xt_w1 hB.1 m_48217fba) (xt_cdOf hB.1 m_48217fba) (hts _ m_d5ed7bed) hB hR hS hA (fun vv h8 H locs hq hEh8 hR hS => ?_)
  obtain ⟨rfl, hw⟩ := hq
  have hw := hw hEh8
  have hE := hE.tr hEh8
  refine W.eq (g2 := F0 m 25 ls []) rfl ?_
  refine lv_aload_n hx hb (xb_d D_M_sameName 15 rfl) rfl (lv_at hl 2 rfl) ?_
  have hk1 : xb_k h8 x0 = 9 := hEh8.k hk1
  refine xb_call0 (D := D) (A := A) (σ := σ) (h := h8) (d := 4) (maxL := 5) (rest := []) (av := [.ref x0]) (fun T hT X => by obtain ⟨cb9, ra9, rb9, rc9⟩ := xb_recv (ci := 8) hR rfl hk1 (by decide); exact xt_invV X hx hown (hts _ m_e991293f) (hts _ m_385a74b3) (hts _ m_c9fbcd02) (xt_sigOf (hts _ m_1f53f210)) nm_M_count (by rw [hT]; exact ra9) rb9 rc9 (g := F0 m 26 ls [.ref x0]) rfl (argsL := []) (rest := []) rfl rfl (by rw [hb]; exact (xb_d D_M_sameName 16 rfl))) (ok_M_count l hfl D A σ x0 h8 _ hw) (hml.trans hl.1.symm) (by rw [hb]; exact (xb_d D_M_sameName 16 rfl)) (Nat.le_of_ble_eq_true rfl) (Nat.le_of_ble_eq_true rfl) (Nat.le_of_ble_eq_true rfl) (show k ≤ MC by omega) (show n ≤ MS by omega) (xt_w1 hB.1 m_1f53f210) (xt_cdOf hB.1 m_1f53f210) (hts _ m_d5ed7bed) hB hR hS hA (fun vv h10 H locs hq hEh10 hR hS => ?_)
  obtain ⟨r11, rfl, hw⟩ := hq
  have hw := hw hEh10
  have hE := hE.tr hEh10
  refine W.eq (g2 := F0 m 29 ls [.long r11]) rfl ?_
  refine lv_l2i hx hb (xb_d D_M_sameName 17 rfl) rfl ?_
  refine lv_iload hx hb (xb_d D_M_sameName 18 rfl) (lv_at hl 1 rfl) ?_
  refine lv_icmp_ne (tgt := 39) hx hb (xb_d D_M_sameName 19 rfl) rfl (fun hc12 => ?_) (fun hc12 => ?_)
  · have hw := hw.1 hc12
    refine lv_iconst (v := 0) hx hb (xb_d D_M_sameName 22 rfl) (by decide) ?_
    exact am_M_sameName_L40 l hfl D A σ MC MS h0 Qr x0 v6 v7 0 h10 hw p e s m args below meth c hC H locs ls k n hE (lv_sub hl [2, 1, 0] rfl) hR hS (by omega) (by omega)
  · have hw := hw.2 hc12
    refine lv_iconst (v := 1) hx hb (xb_d D_M_sameName 20 rfl) (by decide) ?_
    refine lv_goto (tgt := 40) hx hb (xb_d D_M_sameName 21 rfl) rfl ?_
    exact am_M_sameName_L40 l hfl D A σ MC MS h0 Qr x0 v6 v7 1 h10 hw p e s m args below meth c hC H locs ls k n hE (lv_sub hl [2, 1, 0] rfl) hR hS (by omega) (by omega)

set_option maxRecDepth 100000 in
def T_M_variableKind : List (Nat × Instr × Nat) := [(0, .aload_n 0, 1), (1, .invokevirtual 240, 3), (4, .aload_n 0, 1), (5, .iconst 0, 1), (6, .iconst 1, 1), (7, .invokevirtual 234, 3), (10, .return_, 1)]
theorem D_M_variableKind : ∀ q ∈ T_M_variableKind, decode b_M_variableKind q.1 = .ok (q.2.1, q.2.2) := by decide +kernel

set_option maxHeartbeats 4000000 in
set_option maxRecDepth 100000 in
theorem ok_M_variableKind (l : Launch) (hfl : l.flags = pinnedFlags ++ [noTraceFlag]) (D : va_G) (A : Nat → Prop) (σ : Nat) (x0 : Nat) (h : xb_H) (Qr : xb_H → Prop) (hw : w_M_variableKind x0 h Qr) : xb_Met l y_M_variableKind [.code y_M_variableKind b_M_variableKind 1 none] (xb_rm 5 0 0) (xb_Pc D A σ h [.ref x0]) (xb_Qc D A h 0 0 (fun v h _ _ => v = none ∧ Qr h) (fun _ _ _ _ => False)) A := by
  refine xb_ofAm (cc := b_M_variableKind) (by decide) (Nat.le_of_ble_eq_true rfl) ?_
  unfold w_M_variableKind at hw
  show xb_am l D A σ 5 0 0 h (fun v h _ _ => v = none ∧ Qr h) (fun _ _ _ _ => False) y_M_variableKind.cls y_M_variableKind.name b_M_variableKind 1 ([] : List ExceptionTableEntry) none 0 [(0, .ref x0)] [] h 0 0
  obtain ⟨MC, hMC⟩ : ∃ x, x = 0 := ⟨_, rfl⟩
  obtain ⟨MS, hMS⟩ : ∃ x, x = 0 := ⟨_, rfl⟩
  rw [show xb_am l D A σ 5 0 0 = xb_am l D A σ 5 MC MS by rw [hMC, hMS]]
  obtain ⟨h0, hh0⟩ : ∃ x, x = h := ⟨_, rfl⟩
  rw [show xb_am l D A σ 5 MC MS h = xb_am l D A σ 5 MC MS h0 by rw [hh0]]
  intro p e s m args below meth c hC H locs ls k n hE hl hR hS hk hn
  obtain ⟨hx, hb, hown, hlocks, htab, hml, hr, hB, hA, hnm⟩ := id hC
  have hts := hB.1.1.at args
  refine lv_aload_n hx hb (xb_d D_M_variableKind 0 rfl) rfl (lv_at hl 0 rfl) ?_
  obtain ⟨hk1, hw⟩ := hw
  refine xb_call0 (D := D) (A := A) (σ := σ) (h := h) (d := 4) (maxL := 2) (rest := []) (av := [.ref x0]) (fun T hT X => by obtain ⟨cb9, ra9, rb9, rc9⟩ := xb_recv (ci := 8) hR rfl hk1 (by decide); exact xt_invV X hx hown (hts _ m_8b8b9169) (hts _ m_667aad99) (hts _ m_67a4431f) (xt_sigOf (hts _ m_8f1ca5e5)) nm_M_valueType (by rw [hT]; exact ra9) rb9 rc9 (g := F0 m 1 ls [.ref x0]) rfl (argsL := []) (rest := []) rfl rfl (by rw [hb]; exact (xb_d D_M_variableKind 1 rfl))) (ok_M_valueType l hfl D A σ x0 h _ hw) (hml.trans hl.1.symm) (by rw [hb]; exact (xb_d D_M_variableKind 1 rfl)) (Nat.le_of_ble_eq_true rfl) (Nat.le_of_ble_eq_true rfl) (Nat.le_of_ble_eq_true rfl) (show k ≤ MC by omega) (show n ≤ MS by omega) (xt_w1 hB.1 m_8f1ca5e5) (xt_cdOf hB.1 m_8f1ca5e5) (hts _ m_d5ed7bed) hB hR hS hA (fun vv h2 H locs hq hEh2 hR hS => ?_)
  obtain ⟨rfl, hw⟩ := hq
  have hw := hw hEh2
  have hE := hE.tr hEh2
  refine W.eq (g2 := F0 m 4 ls []) rfl ?_
  refine lv_aload_n hx hb (xb_d D_M_variableKind 2 rfl) rfl (lv_at hl 0 rfl) ?_
  refine lv_iconst (v := 0) hx hb (xb_d D_M_variableKind 3 rfl) (by decide) ?_
  refine lv_iconst (v := 1) hx hb (xb_d D_M_variableKind 4 rfl) (by decide) ?_
  have hk1 : xb_k h2 x0 = 9 := hEh2.k hk1
  refine xb_call0 (D := D) (A := A) (σ := σ) (h := h2) (d := 4) (maxL := 4) (rest := []) (av := [.ref x0, .int 0, .int 1]) (fun T hT X => by obtain ⟨cb9, ra9, rb9, rc9⟩ := xb_recv (ci := 8) hR rfl hk1 (by decide); exact xt_invV X hx hown (hts _ m_8f6f4626) (hts _ m_01caba2f) (hts _ m_4616b4d4) (xt_sigOf (hts _ m_6db7f9f9)) nm_M_wanted (by rw [hT]; exact ra9) rb9 rc9 (g := F0 m 7 ls [.int 1, .int 0, .ref x0]) rfl (argsL := [.int 0, .int 1]) (rest := []) rfl rfl (by rw [hb]; exact (xb_d D_M_variableKind 5 rfl))) (ok_M_wanted l hfl D A σ x0 0 1 h2 _ hw) (hml.trans hl.1.symm) (by rw [hb]; exact (xb_d D_M_variableKind 5 rfl)) (Nat.le_of_ble_eq_true rfl) (Nat.le_of_ble_eq_true rfl) (Nat.le_of_ble_eq_true rfl) (show k ≤ MC by omega) (show n ≤ MS by omega) (xt_w1 hB.1 m_6db7f9f9) (xt_cdOf hB.1 m_6db7f9f9) (hts _ m_d5ed7bed) hB hR hS hA (fun vv h4 H locs hq hEh4 hR hS => ?_)
  obtain ⟨rfl, hw⟩ := hq
  have hw := hw hEh4
  have hE := hE.tr hEh4
  refine W.eq (g2 := F0 m 10 ls []) rfl ?_
  exact xb_vret 0 0 hx hb hr hlocks (show k + 0 ≤ MC by omega) (show n + 0 ≤ MS by omega) hE hR hS (xb_d D_M_variableKind 6 rfl) hw

theorem m_e6998383 : (.methodLink "StackHostModel$Exact" 90 y_Exact_isNone : Cond) ∈ xt_tbl := xt_in (xt_t12 (List.mem_of_getElem? (i := 214) (by decide +kernel))) (by decide +kernel)
theorem m_c3a6d16d : (.instanceMethod y_Exact_isNone : Cond) ∈ xt_tbl := xt_in (xt_t12 (List.mem_of_getElem? (i := 216) (by decide +kernel))) (by decide +kernel)
theorem m_67f195fc : (.selects "StackHostModel$Exact" y_Exact_isNone y_Exact_isNone : Cond) ∈ xt_tbl := xt_in (xt_v15 (q := (⟨"StackHostModel$Exact", "isNone", "(J)Z"⟩, 11)) (List.mem_of_getElem? (i := 5) (by decide +kernel))) (by decide +kernel)
theorem m_e0ca15fb : (.code y_Exact_isNone b_Exact_isNone 3 (some .boolean) : Cond) ∈ xt_tbl := xt_in (xt_t12 (List.mem_of_getElem? (i := 217) (by decide +kernel))) (by decide +kernel)
theorem nm_Exact_isNone : xt_nm y_Exact_isNone 1 := ⟨by decide +kernel, by decide +kernel⟩
set_option maxRecDepth 100000 in
def T_Exact_compared : List (Nat × Instr × Nat) := [(0, .aload_n 0, 1), (1, .lload_n 2, 1), (2, .invokevirtual 90, 3), (5, .ifCond .ne 12, 3), (8, .aload_n 0, 1), (9, .lload 4, 2), (11, .invokevirtual 90, 3), (14, .ifCond .eq 14, 3), (17, .iload_n 1, 1), (18, .iconst 1, 1), (19, .if_icmp .ne 7, 3), (22, .iconst 1, 1), (23, .goto 4, 3), (26, .iconst 0, 1), (27, .ireturn, 1), (28, .aload_n 0, 1), (29, .lload_n 2, 1), (30, .iconst 1, 1), (31, .lload 4, 2), (33, .invokevirtual 93, 3), (36, .ifCond .eq 18, 3), (39, .aload_n 0, 1), (40, .lload 4, 2), (42, .iconst 1, 1), (43, .lload_n 2, 1), (44, .invokevirtual 93, 3), (47, .ifCond .eq 7, 3), (50, .iconst 1, 1), (51, .goto 4, 3), (54, .iconst 0, 1), (55, .istore 6, 2), (57, .iload_n 1, 1), (58, .tableswitch 75 0 4 #[34, 37, 48, 57, 66], 34), (92, .iload 6, 2), (94, .ireturn, 1), (95, .iload 6, 2), (97, .ifCond .ne 7, 3), (100, .iconst 1, 1), (101, .goto 4, 3), (104, .iconst 0, 1), (105, .ireturn, 1), (106, .aload_n 0, 1), (107, .lload_n 2, 1), (108, .iconst 0, 1), (109, .lload 4, 2), (111, .invokevirtual 93, 3), (114, .ireturn, 1), (115, .aload_n 0, 1), (116, .lload 4, 2), (118, .iconst 0, 1), (119, .lload_n 2, 1), (120, .invokevirtual 93, 3), (123, .ireturn, 1), (124, .aload_n 0, 1), (125, .lload_n 2, 1), (126, .iconst 1, 1), (127, .lload 4, 2), (129, .invokevirtual 93, 3), (132, .ireturn, 1), (133, .aload_n 0, 1), (134, .lload 4, 2), (136, .iconst 1, 1), (137, .lload_n 2, 1), (138, .invokevirtual 93, 3), (141, .ireturn, 1)]
theorem D_Exact_compared : ∀ q ∈ T_Exact_compared, decode b_Exact_compared q.1 = .ok (q.2.1, q.2.2) := by decide +kernel

set_option maxHeartbeats 4000000 in
set_option maxRecDepth 100000 in
theorem am_Exact_compared_L105 (l : Launch) (hfl : l.flags = pinnedFlags ++ [noTraceFlag]) (D : va_G) (A : Nat → Prop) (σ MC MS : Nat) (h0 : xb_H) (Qr : Int32 → xb_H → Prop) (y0 : Int32) (h : xb_H) (hw : w_Exact_compared_L105 Qr y0 h) : xb_am l D A σ 5 MC MS h0 (fun v h _ _ => ∃ r, v = some (.int r) ∧ Qr r h) (fun _ _ _ _ => False) y_Exact_compared.cls y_Exact_compared.name b_Exact_compared 7 ([] : List ExceptionTableEntry) (some .boolean) 105 [] [.int y0] h 0 0 := by
  unfold w_Exact_compared_L105 at hw
  intro p e s m args below meth c hC H locs ls k n hE hl hR hS hk hn
  obtain ⟨hx, hb, hown, hlocks, htab, hml, hr, hB, hA, hnm⟩ := id hC
  have hts := hB.1.1.at args
  exact xb_zret 0 0 hx hb hr hlocks (show k + 0 ≤ MC by omega) (show n + 0 ≤ MS by omega) hw.1 hE hR hS (xb_d D_Exact_compared 40 rfl) hw.2

set_option maxHeartbeats 4000000 in
set_option maxRecDepth 100000 in
theorem am_Exact_compared_L55 (l : Launch) (hfl : l.flags = pinnedFlags ++ [noTraceFlag]) (D : va_G) (A : Nat → Prop) (σ MC MS : Nat) (h0 : xb_H) (Qr : Int32 → xb_H → Prop) (x0 : Nat) (x1 : Int32) (x2 : Int64) (x4 : Int64) (y0 : Int32) (h : xb_H) (hw : w_Exact_compared_L55 Qr x0 x1 x2 x4 y0 h) : xb_am l D A σ 5 MC MS h0 (fun v h _ _ => ∃ r, v = some (.int r) ∧ Qr r h) (fun _ _ _ _ => False) y_Exact_compared.cls y_Exact_compared.name b_Exact_compared 7 ([] : List ExceptionTableEntry) (some .boolean) 55 [(0, .ref x0), (1, .int x1), (2, .long x2), (4, .long x4)] [.int y0] h 0 0 := by
  unfold w_Exact_compared_L55 at hw
  intro p e s m args below meth c hC H locs ls k n hE hl hR hS hk hn
  obtain ⟨hx, hb, hown, hlocks, htab, hml, hr, hB, hA, hnm⟩ := id hC
  have hts := hB.1.1.at args
  refine lv_istore hx hb (xb_d D_Exact_compared 30 rfl) hl (by decide) rfl (fun ls hl => ?_)
  have hl : lv_has ls 7 [(6, .int y0), (0, .ref x0), (1, .int x1), (2, .long x2), (4, .long x4)] := hl
  refine lv_iload_n hx hb (xb_d D_Exact_compared 31 rfl) rfl (lv_at hl 2 rfl) ?_
  by_cases hc1 : x1 = 0
  · have hw := hw.1 hc1
    refine xt_numi hc1 ?_
    refine lv_tableIn (off := 34) (tgt := 92) hx hb (xb_d D_Exact_compared 32 rfl) (by decide +kernel) (by decide +kernel) (by decide +kernel) (by decide) ?_
    refine lv_iload hx hb (xb_d D_Exact_compared 33 rfl) (lv_at hl 0 rfl) ?_
    exact xb_zret 0 0 hx hb hr hlocks (show k + 0 ≤ MC by omega) (show n + 0 ≤ MS by omega) hw.1 hE hR hS (xb_d D_Exact_compared 34 rfl) hw.2
  have hw := hw.2
  by_cases hc2 : x1 = 1
  · have hw := hw.1 hc2
    refine xt_numi hc2 ?_
    refine lv_tableIn (off := 37) (tgt := 95) hx hb (xb_d D_Exact_compared 32 rfl) (by decide +kernel) (by decide +kernel) (by decide +kernel) (by decide) ?_
    refine lv_iload hx hb (xb_d D_Exact_compared 35 rfl) (lv_at hl 0 rfl) ?_
    refine lv_if_ne (tgt := 104) hx hb (xb_d D_Exact_compared 36 rfl) rfl (fun hc3 => ?_) (fun hc3 => ?_)
    · have hw := hw.1 hc3
      refine lv_iconst (v := 0) hx hb (xb_d D_Exact_compared 39 rfl) (by decide) ?_
      exact am_Exact_compared_L105 l hfl D A σ MC MS h0 Qr 0 h hw p e s m args below meth c hC H locs ls k n hE (lv_sub hl [] rfl) hR hS (by omega) (by omega)
    · have hw := hw.2 hc3
      refine lv_iconst (v := 1) hx hb (xb_d D_Exact_compared 37 rfl) (by decide) ?_
      refine lv_goto (tgt := 105) hx hb (xb_d D_Exact_compared 38 rfl) rfl ?_
      exact am_Exact_compared_L105 l hfl D A σ MC MS h0 Qr 1 h hw p e s m args below meth c hC H locs ls k n hE (lv_sub hl [] rfl) hR hS (by omega) (by omega)
  have hw := hw.2
  by_cases hc4 : x1 = 2
  · have hw := hw.1 hc4
    refine xt_numi hc4 ?_
    refine lv_tableIn (off := 48) (tgt := 106) hx hb (xb_d D_Exact_compared 32 rfl) (by decide +kernel) (by decide +kernel) (by decide +kernel) (by decide) ?_
    refine lv_aload_n hx hb (xb_d D_Exact_compared 41 rfl) rfl (lv_at hl 1 rfl) ?_
    refine lv_lload_n hx hb (xb_d D_Exact_compared 42 rfl) rfl (lv_at hl 3 rfl) ?_
    refine lv_iconst (v := 0) hx hb (xb_d D_Exact_compared 43 rfl) (by decide) ?_
    refine lv_lload hx hb (xb_d D_Exact_compared 44 rfl) (lv_at hl 4 rfl) ?_
    obtain ⟨hk5, hw⟩ := hw
    refine xb_call0 (D := D) (A := A) (σ := σ) (h := h) (d := 3) (maxL := 10) (rest := []) (av := [.ref x0, .long x2, .int 0, .long x4]) (fun T hT X => by obtain ⟨cb9, ra9, rb9, rc9⟩ := xb_recv (ci := 9) hR rfl hk5 (by decide); exact xt_invV X hx hown (hts _ m_eb5d6020) (hts _ m_a6ef2795) (hts _ m_a49f9496) (xt_sigOf (hts _ m_68c5032f)) nm_Exact_less (by rw [hT]; exact ra9) rb9 rc9 (g := F0 m 111 ls [.long x4, .int 0, .long x2, .ref x0]) rfl (argsL := [.long x2, .int 0, .long x4]) (rest := []) rfl rfl (by rw [hb]; exact (xb_d D_Exact_compared 45 rfl))) (ok_Exact_less l hfl D A σ x0 x2 0 x4 h _ hw) (hml.trans hl.1.symm) (by rw [hb]; exact (xb_d D_Exact_compared 45 rfl)) (Nat.le_of_ble_eq_true rfl) (Nat.le_of_ble_eq_true rfl) (Nat.le_of_ble_eq_true rfl) (show k ≤ MC by omega) (show n ≤ MS by omega) (xt_w1 hB.1 m_68c5032f) (xt_cdOf hB.1 m_68c5032f) (hts _ m_b807310b) hB hR hS hA (fun vv h6 H locs hq hEh6 hR hS => ?_)
    obtain ⟨r7, rfl, hw⟩ := hq
    have hw := hw hEh6
    have hE := hE.tr hEh6
    refine W.eq (g2 := F0 m 114 ls [.int r7]) rfl ?_
    exact xb_zret 0 0 hx hb hr hlocks (show k + 0 ≤ MC by omega) (show n + 0 ≤ MS by omega) hw.1 hE hR hS (xb_d D_Exact_compared 46 rfl) hw.2
  have hw := hw.2
  by_cases hc8 : x1 = 3
  · have hw := hw.1 hc8
    refine xt_numi hc8 ?_
    refine lv_tableIn (off := 57) (tgt := 115) hx hb (xb_d D_Exact_compared 32 rfl) (by decide +kernel) (by decide +kernel) (by decide +kernel) (by decide) ?_
    refine lv_aload_n hx hb (xb_d D_Exact_compared 47 rfl) rfl (lv_at hl 1 rfl) ?_
    refine lv_lload hx hb (xb_d D_Exact_compared 48 rfl) (lv_at hl 4 rfl) ?_
    refine lv_iconst (v := 0) hx hb (xb_d D_Exact_compared 49 rfl) (by decide) ?_
    refine lv_lload_n hx hb (xb_d D_Exact_compared 50 rfl) rfl (lv_at hl 3 rfl) ?_
    obtain ⟨hk9, hw⟩ := hw
    refine xb_call0 (D := D) (A := A) (σ := σ) (h := h) (d := 3) (maxL := 10) (rest := []) (av := [.ref x0, .long x4, .int 0, .long x2]) (fun T hT X => by obtain ⟨cb9, ra9, rb9, rc9⟩ := xb_recv (ci := 9) hR rfl hk9 (by decide); exact xt_invV X hx hown (hts _ m_eb5d6020) (hts _ m_a6ef2795) (hts _ m_a49f9496) (xt_sigOf (hts _ m_68c5032f)) nm_Exact_less (by rw [hT]; exact ra9) rb9 rc9 (g := F0 m 120 ls [.long x2, .int 0, .long x4, .ref x0]) rfl (argsL := [.long x4, .int 0, .long x2]) (rest := []) rfl rfl (by rw [hb]; exact (xb_d D_Exact_compared 51 rfl))) (ok_Exact_less l hfl D A σ x0 x4 0 x2 h _ hw) (hml.trans hl.1.symm) (by rw [hb]; exact (xb_d D_Exact_compared 51 rfl)) (Nat.le_of_ble_eq_true rfl) (Nat.le_of_ble_eq_true rfl) (Nat.le_of_ble_eq_true rfl) (show k ≤ MC by omega) (show n ≤ MS by omega) (xt_w1 hB.1 m_68c5032f) (xt_cdOf hB.1 m_68c5032f) (hts _ m_b807310b) hB hR hS hA (fun vv h10 H locs hq hEh10 hR hS => ?_)
    obtain ⟨r11, rfl, hw⟩ := hq
    have hw := hw hEh10
    have hE := hE.tr hEh10
    refine W.eq (g2 := F0 m 123 ls [.int r11]) rfl ?_
    exact xb_zret 0 0 hx hb hr hlocks (show k + 0 ≤ MC by omega) (show n + 0 ≤ MS by omega) hw.1 hE hR hS (xb_d D_Exact_compared 52 rfl) hw.2
  have hw := hw.2
  by_cases hc12 : x1 = 4
  · have hw := hw.1 hc12
    refine xt_numi hc12 ?_
    refine lv_tableIn (off := 66) (tgt := 124) hx hb (xb_d D_Exact_compared 32 rfl) (by decide +kernel) (by decide +kernel) (by decide +kernel) (by decide) ?_
    refine lv_aload_n hx hb (xb_d D_Exact_compared 53 rfl) rfl (lv_at hl 1 rfl) ?_
    refine lv_lload_n hx hb (xb_d D_Exact_compared 54 rfl) rfl (lv_at hl 3 rfl) ?_
    refine lv_iconst (v := 1) hx hb (xb_d D_Exact_compared 55 rfl) (by decide) ?_
    refine lv_lload hx hb (xb_d D_Exact_compared 56 rfl) (lv_at hl 4 rfl) ?_
    obtain ⟨hk13, hw⟩ := hw
    refine xb_call0 (D := D) (A := A) (σ := σ) (h := h) (d := 3) (maxL := 10) (rest := []) (av := [.ref x0, .long x2, .int 1, .long x4]) (fun T hT X => by obtain ⟨cb9, ra9, rb9, rc9⟩ := xb_recv (ci := 9) hR rfl hk13 (by decide); exact xt_invV X hx hown (hts _ m_eb5d6020) (hts _ m_a6ef2795) (hts _ m_a49f9496) (xt_sigOf (hts _ m_68c5032f)) nm_Exact_less (by rw [hT]; exact ra9) rb9 rc9 (g := F0 m 129 ls [.long x4, .int 1, .long x2, .ref x0]) rfl (argsL := [.long x2, .int 1, .long x4]) (rest := []) rfl rfl (by rw [hb]; exact (xb_d D_Exact_compared 57 rfl))) (ok_Exact_less l hfl D A σ x0 x2 1 x4 h _ hw) (hml.trans hl.1.symm) (by rw [hb]; exact (xb_d D_Exact_compared 57 rfl)) (Nat.le_of_ble_eq_true rfl) (Nat.le_of_ble_eq_true rfl) (Nat.le_of_ble_eq_true rfl) (show k ≤ MC by omega) (show n ≤ MS by omega) (xt_w1 hB.1 m_68c5032f) (xt_cdOf hB.1 m_68c5032f) (hts _ m_b807310b) hB hR hS hA (fun vv h14 H locs hq hEh14 hR hS => ?_)
    obtain ⟨r15, rfl, hw⟩ := hq
    have hw := hw hEh14
    have hE := hE.tr hEh14
    refine W.eq (g2 := F0 m 132 ls [.int r15]) rfl ?_
    exact xb_zret 0 0 hx hb hr hlocks (show k + 0 ≤ MC by omega) (show n + 0 ≤ MS by omega) hw.1 hE hR hS (xb_d D_Exact_compared 58 rfl) hw.2
  have hw := hw.2
  have hw := hw hc1 hc2 hc4 hc8 hc12
  refine lv_tableOut (tgt := 133) hx hb (xb_d D_Exact_compared 32 rfl) (by have a0 := xb_nl (0) 0 (by decide) hc1; have a1 := xb_nl (1) 1 (by decide) hc2; have a2 := xb_nl (2) 2 (by decide) hc4; have a3 := xb_nl (3) 3 (by decide) hc8; have a4 := xb_nl (4) 4 (by decide) hc12; omega) (by decide) ?_
  refine lv_aload_n hx hb (xb_d D_Exact_compared 59 rfl) rfl (lv_at hl 1 rfl) ?_
  refine lv_lload hx hb (xb_d D_Exact_compared 60 rfl) (lv_at hl 4 rfl) ?_
  refine lv_iconst (v := 1) hx hb (xb_d D_Exact_compared 61 rfl) (by decide) ?_
  refine lv_lload_n hx hb (xb_d D_Exact_compared 62 rfl) rfl (lv_at hl 3 rfl) ?_
  obtain ⟨hk16, hw⟩ := hw
  refine xb_call0 (D := D) (A := A) (σ := σ) (h := h) (d := 3) (maxL := 10) (rest := []) (av := [.ref x0, .long x4, .int 1, .long x2]) (fun T hT X => by obtain ⟨cb9, ra9, rb9, rc9⟩ := xb_recv (ci := 9) hR rfl hk16 (by decide); exact xt_invV X hx hown (hts _ m_eb5d6020) (hts _ m_a6ef2795) (hts _ m_a49f9496) (xt_sigOf (hts _ m_68c5032f)) nm_Exact_less (by rw [hT]; exact ra9) rb9 rc9 (g := F0 m 138 ls [.long x2, .int 1, .long x4, .ref x0]) rfl (argsL := [.long x4, .int 1, .long x2]) (rest := []) rfl rfl (by rw [hb]; exact (xb_d D_Exact_compared 63 rfl))) (ok_Exact_less l hfl D A σ x0 x4 1 x2 h _ hw) (hml.trans hl.1.symm) (by rw [hb]; exact (xb_d D_Exact_compared 63 rfl)) (Nat.le_of_ble_eq_true rfl) (Nat.le_of_ble_eq_true rfl) (Nat.le_of_ble_eq_true rfl) (show k ≤ MC by omega) (show n ≤ MS by omega) (xt_w1 hB.1 m_68c5032f) (xt_cdOf hB.1 m_68c5032f) (hts _ m_b807310b) hB hR hS hA (fun vv h17 H locs hq hEh17 hR hS => ?_)
  obtain ⟨r18, rfl, hw⟩ := hq
  have hw := hw hEh17
  have hE := hE.tr hEh17
  refine W.eq (g2 := F0 m 141 ls [.int r18]) rfl ?_
  exact xb_zret 0 0 hx hb hr hlocks (show k + 0 ≤ MC by omega) (show n + 0 ≤ MS by omega) hw.1 hE hR hS (xb_d D_Exact_compared 64 rfl) hw.2

set_option maxHeartbeats 4000000 in
set_option maxRecDepth 100000 in
theorem am_Exact_compared_L54 (l : Launch) (hfl : l.flags = pinnedFlags ++ [noTraceFlag]) (D : va_G) (A : Nat → Prop) (σ MC MS : Nat) (h0 : xb_H) (Qr : Int32 → xb_H → Prop) (x0 : Nat) (x1 : Int32) (x2 : Int64) (x4 : Int64) (h : xb_H) (hw : w_Exact_compared_L54 Qr x0 x1 x2 x4 h) : xb_am l D A σ 5 MC MS h0 (fun v h _ _ => ∃ r, v = some (.int r) ∧ Qr r h) (fun _ _ _ _ => False) y_Exact_compared.cls y_Exact_compared.name b_Exact_compared 7 ([] : List ExceptionTableEntry) (some .boolean) 54 [(0, .ref x0), (1, .int x1), (2, .long x2), (4, .long x4)] [] h 0 0 := by
  unfold w_Exact_compared_L54 at hw
  intro p e s m args below meth c hC H locs ls k n hE hl hR hS hk hn
  obtain ⟨hx, hb, hown, hlocks, htab, hml, hr, hB, hA, hnm⟩ := id hC
  have hts := hB.1.1.at args
  refine lv_iconst (v := 0) hx hb (xb_d D_Exact_compared 29 rfl) (by decide) ?_
  exact am_Exact_compared_L55 l hfl D A σ MC MS h0 Qr x0 x1 x2 x4 0 h hw p e s m args below meth c hC H locs ls k n hE (lv_sub hl [0, 1, 2, 3] rfl) hR hS (by omega) (by omega)

set_option maxHeartbeats 4000000 in
set_option maxRecDepth 100000 in
theorem am_Exact_compared_L27 (l : Launch) (hfl : l.flags = pinnedFlags ++ [noTraceFlag]) (D : va_G) (A : Nat → Prop) (σ MC MS : Nat) (h0 : xb_H) (Qr : Int32 → xb_H → Prop) (y0 : Int32) (h : xb_H) (hw : w_Exact_compared_L27 Qr y0 h) : xb_am l D A σ 5 MC MS h0 (fun v h _ _ => ∃ r, v = some (.int r) ∧ Qr r h) (fun _ _ _ _ => False) y_Exact_compared.cls y_Exact_compared.name b_Exact_compared 7 ([] : List ExceptionTableEntry) (some .boolean) 27 [] [.int y0] h 0 0 := by
  unfold w_Exact_compared_L27 at hw
  intro p e s m args below meth c hC H locs ls k n hE hl hR hS hk hn
  obtain ⟨hx, hb, hown, hlocks, htab, hml, hr, hB, hA, hnm⟩ := id hC
  have hts := hB.1.1.at args
  exact xb_zret 0 0 hx hb hr hlocks (show k + 0 ≤ MC by omega) (show n + 0 ≤ MS by omega) hw.1 hE hR hS (xb_d D_Exact_compared 14 rfl) hw.2

set_option maxHeartbeats 4000000 in
set_option maxRecDepth 100000 in
theorem am_Exact_compared_L17 (l : Launch) (hfl : l.flags = pinnedFlags ++ [noTraceFlag]) (D : va_G) (A : Nat → Prop) (σ MC MS : Nat) (h0 : xb_H) (Qr : Int32 → xb_H → Prop) (x1 : Int32) (h : xb_H) (hw : w_Exact_compared_L17 Qr x1 h) : xb_am l D A σ 5 MC MS h0 (fun v h _ _ => ∃ r, v = some (.int r) ∧ Qr r h) (fun _ _ _ _ => False) y_Exact_compared.cls y_Exact_compared.name b_Exact_compared 7 ([] : List ExceptionTableEntry) (some .boolean) 17 [(1, .int x1)] [] h 0 0 := by
  unfold w_Exact_compared_L17 at hw
  intro p e s m args below meth c hC H locs ls k n hE hl hR hS hk hn
  obtain ⟨hx, hb, hown, hlocks, htab, hml, hr, hB, hA, hnm⟩ := id hC
  have hts := hB.1.1.at args
  refine lv_iload_n hx hb (xb_d D_Exact_compared 8 rfl) rfl (lv_at hl 0 rfl) ?_
  refine lv_iconst (v := 1) hx hb (xb_d D_Exact_compared 9 rfl) (by decide) ?_
  refine lv_icmp_ne (tgt := 26) hx hb (xb_d D_Exact_compared 10 rfl) rfl (fun hc1 => ?_) (fun hc1 => ?_)
  · have hw := hw.1 hc1
    refine lv_iconst (v := 0) hx hb (xb_d D_Exact_compared 13 rfl) (by decide) ?_
    exact am_Exact_compared_L27 l hfl D A σ MC MS h0 Qr 0 h hw p e s m args below meth c hC H locs ls k n hE (lv_sub hl [] rfl) hR hS (by omega) (by omega)
  · have hw := hw.2 hc1
    refine lv_iconst (v := 1) hx hb (xb_d D_Exact_compared 11 rfl) (by decide) ?_
    refine lv_goto (tgt := 27) hx hb (xb_d D_Exact_compared 12 rfl) rfl ?_
    exact am_Exact_compared_L27 l hfl D A σ MC MS h0 Qr 1 h hw p e s m args below meth c hC H locs ls k n hE (lv_sub hl [] rfl) hR hS (by omega) (by omega)

set_option maxHeartbeats 4000000 in
set_option maxRecDepth 100000 in
theorem ok_Exact_compared (l : Launch) (hfl : l.flags = pinnedFlags ++ [noTraceFlag]) (D : va_G) (A : Nat → Prop) (σ : Nat) (x0 : Nat) (x1 : Int32) (x2 : Int64) (x4 : Int64) (h : xb_H) (Qr : Int32 → xb_H → Prop) (hw : w_Exact_compared x0 x1 x2 x4 h Qr) : xb_Met l y_Exact_compared [.code y_Exact_compared b_Exact_compared 7 (some .boolean)] (xb_rm 5 0 0) (xb_Pc D A σ h [.ref x0, .int x1, .long x2, .long x4]) (xb_Qc D A h 0 0 (fun v h _ _ => ∃ r, v = some (.int r) ∧ Qr r h) (fun _ _ _ _ => False)) A := by
  refine xb_ofAm (cc := b_Exact_compared) (by decide) (Nat.le_of_ble_eq_true rfl) ?_
  unfold w_Exact_compared at hw
  show xb_am l D A σ 5 0 0 h (fun v h _ _ => ∃ r, v = some (.int r) ∧ Qr r h) (fun _ _ _ _ => False) y_Exact_compared.cls y_Exact_compared.name b_Exact_compared 7 ([] : List ExceptionTableEntry) (some .boolean) 0 [(0, .ref x0), (1, .int x1), (2, .long x2), (4, .long x4)] [] h 0 0
  obtain ⟨MC, hMC⟩ : ∃ x, x = 0 := ⟨_, rfl⟩
  obtain ⟨MS, hMS⟩ : ∃ x, x = 0 := ⟨_, rfl⟩
  rw [show xb_am l D A σ 5 0 0 = xb_am l D A σ 5 MC MS by rw [hMC, hMS]]
  obtain ⟨h0, hh0⟩ : ∃ x, x = h := ⟨_, rfl⟩
  rw [show xb_am l D A σ 5 MC MS h = xb_am l D A σ 5 MC MS h0 by rw [hh0]]
  intro p e s m args below meth c hC H locs ls k n hE hl hR hS hk hn
  obtain ⟨hx, hb, hown, hlocks, htab, hml, hr, hB, hA, hnm⟩ := id hC
  have hts := hB.1.1.at args
  refine lv_aload_n hx hb (xb_d D_Exact_compared 0 rfl) rfl (lv_at hl 0 rfl) ?_
  refine lv_lload_n hx hb (xb_d D_Exact_compared 1 rfl) rfl (lv_at hl 2 rfl) ?_
  obtain ⟨hk1, hw⟩ := hw
  refine xb_call0 (D := D) (A := A) (σ := σ) (h := h) (d := 4) (maxL := 3) (rest := []) (av := [.ref x0, .long x2]) (fun T hT X => by obtain ⟨cb9, ra9, rb9, rc9⟩ := xb_recv (ci := 9) hR rfl hk1 (by decide); exact xt_invV X hx hown (hts _ m_e6998383) (hts _ m_c3a6d16d) (hts _ m_67f195fc) (xt_sigOf (hts _ m_e0ca15fb)) nm_Exact_isNone (by rw [hT]; exact ra9) rb9 rc9 (g := F0 m 2 ls [.long x2, .ref x0]) rfl (argsL := [.long x2]) (rest := []) rfl rfl (by rw [hb]; exact (xb_d D_Exact_compared 2 rfl))) (ok_Exact_isNone l hfl D A σ x0 x2 h _ hw) (hml.trans hl.1.symm) (by rw [hb]; exact (xb_d D_Exact_compared 2 rfl)) (Nat.le_of_ble_eq_true rfl) (Nat.le_of_ble_eq_true rfl) (Nat.le_of_ble_eq_true rfl) (show k ≤ MC by omega) (show n ≤ MS by omega) (xt_w1 hB.1 m_e0ca15fb) (xt_cdOf hB.1 m_e0ca15fb) (hts _ m_b807310b) hB hR hS hA (fun vv h2 H locs hq hEh2 hR hS => ?_)
  obtain ⟨r3, rfl, hw⟩ := hq
  have hw := hw hEh2
  have hE := hE.tr hEh2
  refine W.eq (g2 := F0 m 5 ls [.int r3]) rfl ?_
  refine lv_if_ne (tgt := 17) hx hb (xb_d D_Exact_compared 3 rfl) rfl (fun hc4 => ?_) (fun hc4 => ?_)
  · have hw := hw.1 hc4
    exact am_Exact_compared_L17 l hfl D A σ MC MS h0 Qr x1 h2 hw p e s m args below meth c hC H locs ls k n hE (lv_sub hl [1] rfl) hR hS (by omega) (by omega)
  · have hw := hw.2 hc4
    refine lv_aload_n hx hb (xb_d D_Exact_compared 4 rfl) rfl (lv_at hl 0 rfl) ?_
    refine lv_lload hx hb (xb_d D_Exact_compared 5 rfl) (lv_at hl 3 rfl) ?_
    have hk1 : xb_k h2 x0 = 10 := hEh2.k hk1
    refine xb_call0 (D := D) (A := A) (σ := σ) (h := h2) (d := 4) (maxL := 3) (rest := []) (av := [.ref x0, .long x4]) (fun T hT X => by obtain ⟨cb9, ra9, rb9, rc9⟩ := xb_recv (ci := 9) hR rfl hk1 (by decide); exact xt_invV X hx hown (hts _ m_e6998383) (hts _ m_c3a6d16d) (hts _ m_67f195fc) (xt_sigOf (hts _ m_e0ca15fb)) nm_Exact_isNone (by rw [hT]; exact ra9) rb9 rc9 (g := F0 m 11 ls [.long x4, .ref x0]) rfl (argsL := [.long x4]) (rest := []) rfl rfl (by rw [hb]; exact (xb_d D_Exact_compared 6 rfl))) (ok_Exact_isNone l hfl D A σ x0 x4 h2 _ hw) (hml.trans hl.1.symm) (by rw [hb]; exact (xb_d D_Exact_compared 6 rfl)) (Nat.le_of_ble_eq_true rfl) (Nat.le_of_ble_eq_true rfl) (Nat.le_of_ble_eq_true rfl) (show k ≤ MC by omega) (show n ≤ MS by omega) (xt_w1 hB.1 m_e0ca15fb) (xt_cdOf hB.1 m_e0ca15fb) (hts _ m_b807310b) hB hR hS hA (fun vv h5 H locs hq hEh5 hR hS => ?_)
    obtain ⟨r6, rfl, hw⟩ := hq
    have hw := hw hEh5
    have hE := hE.tr hEh5
    refine W.eq (g2 := F0 m 14 ls [.int r6]) rfl ?_
    refine lv_if_eq (tgt := 28) hx hb (xb_d D_Exact_compared 7 rfl) rfl (fun hc7 => ?_) (fun hc7 => ?_)
    · have hw := hw.1 hc7
      refine lv_aload_n hx hb (xb_d D_Exact_compared 15 rfl) rfl (lv_at hl 0 rfl) ?_
      refine lv_lload_n hx hb (xb_d D_Exact_compared 16 rfl) rfl (lv_at hl 2 rfl) ?_
      refine lv_iconst (v := 1) hx hb (xb_d D_Exact_compared 17 rfl) (by decide) ?_
      refine lv_lload hx hb (xb_d D_Exact_compared 18 rfl) (lv_at hl 3 rfl) ?_
      have hk1 : xb_k h5 x0 = 10 := hEh5.k hk1
      refine xb_call0 (D := D) (A := A) (σ := σ) (h := h5) (d := 3) (maxL := 10) (rest := []) (av := [.ref x0, .long x2, .int 1, .long x4]) (fun T hT X => by obtain ⟨cb9, ra9, rb9, rc9⟩ := xb_recv (ci := 9) hR rfl hk1 (by decide); exact xt_invV X hx hown (hts _ m_eb5d6020) (hts _ m_a6ef2795) (hts _ m_a49f9496) (xt_sigOf (hts _ m_68c5032f)) nm_Exact_less (by rw [hT]; exact ra9) rb9 rc9 (g := F0 m 33 ls [.long x4, .int 1, .long x2, .ref x0]) rfl (argsL := [.long x2, .int 1, .long x4]) (rest := []) rfl rfl (by rw [hb]; exact (xb_d D_Exact_compared 19 rfl))) (ok_Exact_less l hfl D A σ x0 x2 1 x4 h5 _ hw) (hml.trans hl.1.symm) (by rw [hb]; exact (xb_d D_Exact_compared 19 rfl)) (Nat.le_of_ble_eq_true rfl) (Nat.le_of_ble_eq_true rfl) (Nat.le_of_ble_eq_true rfl) (show k ≤ MC by omega) (show n ≤ MS by omega) (xt_w1 hB.1 m_68c5032f) (xt_cdOf hB.1 m_68c5032f) (hts _ m_b807310b) hB hR hS hA (fun vv h8 H locs hq hEh8 hR hS => ?_)
      obtain ⟨r9, rfl, hw⟩ := hq
      have hw := hw hEh8
      have hE := hE.tr hEh8
      refine W.eq (g2 := F0 m 36 ls [.int r9]) rfl ?_
      refine lv_if_eq (tgt := 54) hx hb (xb_d D_Exact_compared 20 rfl) rfl (fun hc10 => ?_) (fun hc10 => ?_)
      · have hw := hw.1 hc10
        exact am_Exact_compared_L54 l hfl D A σ MC MS h0 Qr x0 x1 x2 x4 h8 hw p e s m args below meth c hC H locs ls k n hE (lv_sub hl [0, 1, 2, 3] rfl) hR hS (by omega) (by omega)
      · have hw := hw.2 hc10
        refine lv_aload_n hx hb (xb_d D_Exact_compared 21 rfl) rfl (lv_at hl 0 rfl) ?_
        refine lv_lload hx hb (xb_d D_Exact_compared 22 rfl) (lv_at hl 3 rfl) ?_
        refine lv_iconst (v := 1) hx hb (xb_d D_Exact_compared 23 rfl) (by decide) ?_
        refine lv_lload_n hx hb (xb_d D_Exact_compared 24 rfl) rfl (lv_at hl 2 rfl) ?_
        have hk1 : xb_k h8 x0 = 10 := hEh8.k hk1
        refine xb_call0 (D := D) (A := A) (σ := σ) (h := h8) (d := 3) (maxL := 10) (rest := []) (av := [.ref x0, .long x4, .int 1, .long x2]) (fun T hT X => by obtain ⟨cb9, ra9, rb9, rc9⟩ := xb_recv (ci := 9) hR rfl hk1 (by decide); exact xt_invV X hx hown (hts _ m_eb5d6020) (hts _ m_a6ef2795) (hts _ m_a49f9496) (xt_sigOf (hts _ m_68c5032f)) nm_Exact_less (by rw [hT]; exact ra9) rb9 rc9 (g := F0 m 44 ls [.long x2, .int 1, .long x4, .ref x0]) rfl (argsL := [.long x4, .int 1, .long x2]) (rest := []) rfl rfl (by rw [hb]; exact (xb_d D_Exact_compared 25 rfl))) (ok_Exact_less l hfl D A σ x0 x4 1 x2 h8 _ hw) (hml.trans hl.1.symm) (by rw [hb]; exact (xb_d D_Exact_compared 25 rfl)) (Nat.le_of_ble_eq_true rfl) (Nat.le_of_ble_eq_true rfl) (Nat.le_of_ble_eq_true rfl) (show k ≤ MC by omega) (show n ≤ MS by omega) (xt_w1 hB.1 m_68c5032f) (xt_cdOf hB.1 m_68c5032f) (hts _ m_b807310b) hB hR hS hA (fun vv h11 H locs hq hEh11 hR hS => ?_)
        obtain ⟨r12, rfl, hw⟩ := hq
        have hw := hw hEh11
        have hE := hE.tr hEh11
        refine W.eq (g2 := F0 m 47 ls [.int r12]) rfl ?_
        refine lv_if_eq (tgt := 54) hx hb (xb_d D_Exact_compared 26 rfl) rfl (fun hc13 => ?_) (fun hc13 => ?_)
        · have hw := hw.1 hc13
          exact am_Exact_compared_L54 l hfl D A σ MC MS h0 Qr x0 x1 x2 x4 h11 hw p e s m args below meth c hC H locs ls k n hE (lv_sub hl [0, 1, 2, 3] rfl) hR hS (by omega) (by omega)
        · have hw := hw.2 hc13
          refine lv_iconst (v := 1) hx hb (xb_d D_Exact_compared 27 rfl) (by decide) ?_
          refine lv_goto (tgt := 55) hx hb (xb_d D_Exact_compared 28 rfl) rfl ?_
          exact am_Exact_compared_L55 l hfl D A σ MC MS h0 Qr x0 x1 x2 x4 1 h11 hw p e s m args below meth c hC H locs ls k n hE (lv_sub hl [0, 1, 2, 3] rfl) hR hS (by omega) (by omega)
    · have hw := hw.2 hc7
      exact am_Exact_compared_L17 l hfl D A σ MC MS h0 Qr x1 h5 hw p e s m args below meth c hC H locs ls k n hE (lv_sub hl [1] rfl) hR hS (by omega) (by omega)

