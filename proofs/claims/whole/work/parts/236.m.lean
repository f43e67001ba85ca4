set_option maxRecDepth 100000 in
def T_M_exportKind : List (Nat × Instr × Nat) := [(0, .aload_n 0, 1), (1, .iload_n 1, 1), (2, .aload_n 0, 1), (3, .iload_n 1, 1), (4, .bipush 7, 2), (6, .iload_n 2, 1), (7, .invokevirtual 320, 3), (10, .invokevirtual 324, 3), (13, .aload_n 0, 1), (14, .invokevirtual 293, 3), (17, .aload_n 0, 1), (18, .invokevirtual 212, 3), (21, .ireturn, 1)]
theorem D_M_exportKind : ∀ q ∈ T_M_exportKind, decode b_M_exportKind q.1 = .ok (q.2.1, q.2.2) := by decide +kernel

set_option maxHeartbeats 4000000 in
set_option maxRecDepth 100000 in
theorem ok_M_exportKind (l : Launch) (hfl : l.flags = pinnedFlags ++ [noTraceFlag]) (D : va_G) (A : Nat → Prop) (σ : Nat) (x0 : Nat) (x1 : Int32) (x2 : Int32) (h : xb_H) (Qr : Int32 → xb_H → Prop) (hw : w_M_exportKind x0 x1 x2 h Qr) : xb_Met l y_M_exportKind [.code y_M_exportKind b_M_exportKind 3 (some .int)] (xb_rm 6 0 0) (xb_Pc D A σ h [.ref x0, .int x1, .int x2]) (xb_Qc D A h 0 0 (fun v h _ _ => ∃ r, v = some (.int r) ∧ Qr r h) (fun _ _ _ _ => False)) A := by
  refine xb_ofAm (cc := b_M_exportKind) (by decide) (Nat.le_of_ble_eq_true rfl) ?_
  unfold w_M_exportKind at hw
  show xb_am l D A σ 6 0 0 h (fun v h _ _ => ∃ r, v = some (.int r) ∧ Qr r h) (fun _ _ _ _ => False) y_M_exportKind.cls y_M_exportKind.name b_M_exportKind 3 ([] : List ExceptionTableEntry) (some .int) 0 [(0, .ref x0), (1, .int x1), (2, .int x2)] [] h 0 0
  obtain ⟨MC, hMC⟩ : ∃ x, x = 0 := ⟨_, rfl⟩
  obtain ⟨MS, hMS⟩ : ∃ x, x = 0 := ⟨_, rfl⟩
  rw [show xb_am l D A σ 6 0 0 = xb_am l D A σ 6 MC MS by rw [hMC, hMS]]
  obtain ⟨h0, hh0⟩ : ∃ x, x = h := ⟨_, rfl⟩
  rw [show xb_am l D A σ 6 MC MS h = xb_am l D A σ 6 MC MS h0 by rw [hh0]]
  intro p e s m args below meth c hC H locs ls k n hE hl hR hS hk hn
  obtain ⟨hx, hb, hown, hlocks, htab, hml, hr, hB, hA, hnm⟩ := id hC
  have hts := hB.1.1.at args
  refine lv_aload_n hx hb (xb_d D_M_exportKind 0 rfl) rfl (lv_at hl 0 rfl) ?_
  refine lv_iload_n hx hb (xb_d D_M_exportKind 1 rfl) rfl (lv_at hl 1 rfl) ?_
  refine lv_aload_n hx hb (xb_d D_M_exportKind 2 rfl) rfl (lv_at hl 0 rfl) ?_
  refine lv_iload_n hx hb (xb_d D_M_exportKind 3 rfl) rfl (lv_at hl 1 rfl) ?_
  refine lv_bipush (v := 7) hx hb (xb_d D_M_exportKind 4 rfl) (by decide) ?_
  refine lv_iload_n hx hb (xb_d D_M_exportKind 5 rfl) rfl (lv_at hl 2 rfl) ?_
  obtain ⟨hk1, hw⟩ := hw
  refine xb_call0 (D := D) (A := A) (σ := σ) (h := h) (d := 2) (maxL := 4) (rest := [.int x1, .ref x0]) (av := [.ref x0, .int x1, .int 7, .int x2]) (fun T hT X => by obtain ⟨cb9, ra9, rb9, rc9⟩ := xb_recv (ci := 8) hR rfl hk1 (by decide); exact xt_invV X hx hown (hts _ m_7f41753e) (hts _ m_8cdd7108) (hts _ m_e228318f) (xt_sigOf (hts _ m_89667ad5)) nm_M_placeOf (by rw [hT]; exact ra9) rb9 rc9 (g := F0 m 7 ls [.int x2, .int 7, .int x1, .ref x0, .int x1, .ref x0]) rfl (argsL := [.int x1, .int 7, .int x2]) (rest := [.int x1, .ref x0]) rfl rfl (by rw [hb]; exact (xb_d D_M_exportKind 6 rfl))) (ok_M_placeOf l hfl D A σ x0 x1 7 x2 h _ hw) (hml.trans hl.1.symm) (by rw [hb]; exact (xb_d D_M_exportKind 6 rfl)) (Nat.le_of_ble_eq_true rfl) (Nat.le_of_ble_eq_true rfl) (Nat.le_of_ble_eq_true rfl) (show k ≤ MC by omega) (show n ≤ MS by omega) (xt_w1 hB.1 m_89667ad5) (xt_cdOf hB.1 m_89667ad5) (hts _ m_d5ed7bed) hB hR hS hA (fun vv h2 H locs hq hEh2 hR hS => ?_)
  obtain ⟨r3, rfl, hw⟩ := hq
  have hw := hw hEh2
  have hE := hE.tr hEh2
  refine W.eq (g2 := F0 m 10 ls [.int r3, .int x1, .ref x0]) rfl ?_
  have hk1 : xb_k h2 x0 = 9 := hEh2.k hk1
  refine xb_call0 (D := D) (A := A) (σ := σ) (h := h2) (d := 2) (maxL := 3) (rest := []) (av := [.ref x0, .int x1, .int r3]) (fun T hT X => by obtain ⟨cb9, ra9, rb9, rc9⟩ := xb_recv (ci := 8) hR rfl hk1 (by decide); exact xt_invV X hx hown (hts _ m_bb531879) (hts _ m_4a6cd4a0) (hts _ m_d1c31e3c) (xt_sigOf (hts _ m_48217fba)) nm_M_go (by rw [hT]; exact ra9) rb9 rc9 (g := F0 m 10 ls [.int r3, .int x1, .ref x0]) rfl (argsL := [.int x1, .int r3]) (rest := []) rfl rfl (by rw [hb]; exact (xb_d D_M_exportKind 7 rfl))) (ok_M_go l hfl D A σ x0 x1 r3 h2 _ hw) (hml.trans hl.1.symm) (by rw [hb]; exact (xb_d D_M_exportKind 7 rfl)) (Nat.le_of_ble_eq_true rfl) (Nat.le_of_ble_eq_true rfl) (Nat.le_of_ble_eq_true rfl) (show k ≤ MC by omega) (show n ≤ MS by omega) (xt_w1 hB.1 m_48217fba) (xt_cdOf hB.1 m_48217fba) (hts _ m_d5ed7bed) hB hR hS hA (fun vv h4 H locs hq hEh4 hR hS => ?_)
  obtain ⟨rfl, hw⟩ := hq
  have hw := hw hEh4
  have hE := hE.tr hEh4
  refine W.eq (g2 := F0 m 13 ls []) rfl ?_
  refine lv_aload_n hx hb (xb_d D_M_exportKind 8 rfl) rfl (lv_at hl 0 rfl) ?_
  have hk1 : xb_k h4 x0 = 9 := hEh4.k hk1
  refine xb_call0 (D := D) (A := A) (σ := σ) (h := h4) (d := 5) (maxL := 5) (rest := []) (av := [.ref x0]) (fun T hT X => by obtain ⟨cb9, ra9, rb9, rc9⟩ := xb_recv (ci := 8) hR rfl hk1 (by decide); exact xt_invV X hx hown (hts _ m_32411888) (hts _ m_1909bcad) (hts _ m_471efb70) (xt_sigOf (hts _ m_06b9cb5d)) nm_M_name0 (by rw [hT]; exact ra9) rb9 rc9 (g := F0 m 14 ls [.ref x0]) rfl (argsL := []) (rest := []) rfl rfl (by rw [hb]; exact (xb_d D_M_exportKind 9 rfl))) (ok_M_name0 l hfl D A σ x0 h4 _ hw) (hml.trans hl.1.symm) (by rw [hb]; exact (xb_d D_M_exportKind 9 rfl)) (Nat.le_of_ble_eq_true rfl) (Nat.le_of_ble_eq_true rfl) (Nat.le_of_ble_eq_true rfl) (show k ≤ MC by omega) (show n ≤ MS by omega) (xt_w1 hB.1 m_06b9cb5d) (xt_cdOf hB.1 m_06b9cb5d) (hts _ m_d5ed7bed) hB hR hS hA (fun vv h6 H locs hq hEh6 hR hS => ?_)
  obtain ⟨rfl, hw⟩ := hq
  have hw := hw hEh6
  have hE := hE.tr hEh6
  refine W.eq (g2 := F0 m 17 ls []) rfl ?_
  refine lv_aload_n hx hb (xb_d D_M_exportKind 10 rfl) rfl (lv_at hl 0 rfl) ?_
  have hk1 : xb_k h6 x0 = 9 := hEh6.k hk1
  refine xb_call0 (D := D) (A := A) (σ := σ) (h := h6) (d := 3) (maxL := 2) (rest := []) (av := [.ref x0]) (fun T hT X => by obtain ⟨cb9, ra9, rb9, rc9⟩ := xb_recv (ci := 8) hR rfl hk1 (by decide); exact xt_invV X hx hown (hts _ m_0e978570) (hts _ m_40099f98) (hts _ m_a7dbfd07) (xt_sigOf (hts _ m_0af1ec6a)) nm_M_next (by rw [hT]; exact ra9) rb9 rc9 (g := F0 m 18 ls [.ref x0]) rfl (argsL := []) (rest := []) rfl rfl (by rw [hb]; exact (xb_d D_M_exportKind 11 rfl))) (ok_M_next l hfl D A σ x0 h6 _ hw) (hml.trans hl.1.symm) (by rw [hb]; exact (xb_d D_M_exportKind 11 rfl)) (Nat.le_of_ble_eq_true rfl) (Nat.le_of_ble_eq_true rfl) (Nat.le_of_ble_eq_true rfl) (show k ≤ MC by omega) (show n ≤ MS by omega) (xt_w1 hB.1 m_0af1ec6a) (xt_cdOf hB.1 m_0af1ec6a) (hts _ m_d5ed7bed) hB hR hS hA (fun vv h8 H locs hq hEh8 hR hS => ?_)
  obtain ⟨r9, rfl, hw⟩ := hq
  have hw := hw hEh8
  have hE := hE.tr hEh8
  refine W.eq (g2 := F0 m 21 ls [.int r9]) rfl ?_
  exact xb_iret 0 0 hx hb hr hlocks (show k + 0 ≤ MC by omega) (show n + 0 ≤ MS by omega) hE hR hS (xb_d D_M_exportKind 12 rfl) hw

theorem m_e4ead298 : (.methodLink "StackHostModel" 482 y_M_isNamed : Cond) ∈ xt_tbl := xt_in (xt_t12 (List.mem_of_getElem? (i := 50) (by decide +kernel))) (by decide +kernel)
theorem m_cc2816ed : (.instanceMethod y_M_isNamed : Cond) ∈ xt_tbl := xt_in (xt_t12 (List.mem_of_getElem? (i := 52) (by decide +kernel))) (by decide +kernel)
theorem m_2133ace4 : (.selects "StackHostModel" y_M_isNamed y_M_isNamed : Cond) ∈ xt_tbl := xt_in (xt_v13 (q := (⟨"StackHostModel", "isNamed", "(IIII)Z"⟩, 97)) (List.mem_of_getElem? (i := 5) (by decide +kernel))) (by decide +kernel)
theorem m_af24a865 : (.code y_M_isNamed b_M_isNamed 7 (some .boolean) : Cond) ∈ xt_tbl := xt_in (xt_t12 (List.mem_of_getElem? (i := 53) (by decide +kernel))) (by decide +kernel)
theorem nm_M_isNamed : xt_nm y_M_isNamed 4 := ⟨by decide +kernel, by decide +kernel⟩
set_option maxRecDepth 100000 in
def T_M_exportNamed : List (Nat × Instr × Nat) := [(0, .aload_n 0, 1), (1, .getfield 62, 3), (4, .iload_n 1, 1), (5, .iaload, 1), (6, .istore 4, 2), (8, .iconst 0, 1), (9, .istore 5, 2), (11, .iload 5, 2), (13, .aload_n 0, 1), (14, .iload 4, 2), (16, .bipush 7, 2), (18, .invokevirtual 316, 3), (21, .if_icmp .ge 33, 3), (24, .aload_n 0, 1), (25, .iload 4, 2), (27, .aload_n 0, 1), (28, .iload 4, 2), (30, .bipush 7, 2), (32, .iload 5, 2), (34, .invokevirtual 320, 3), (37, .iload_n 2, 1), (38, .iload_n 3, 1), (39, .invokevirtual 482, 3), (42, .ifCond .eq 6, 3), (45, .iload 5, 2), (47, .ireturn, 1), (48, .iinc 5 1, 3), (51, .goto (-40), 3), (54, .iconst (-1), 1), (55, .ireturn, 1)]
theorem D_M_exportNamed : ∀ q ∈ T_M_exportNamed, decode b_M_exportNamed q.1 = .ok (q.2.1, q.2.2) := by decide +kernel

set_option maxHeartbeats 4000000 in
set_option maxRecDepth 100000 in
theorem am_M_exportNamed_L11 (l : Launch) (hfl : l.flags = pinnedFlags ++ [noTraceFlag]) (D : va_G) (A : Nat → Prop) (σ MC MS : Nat) (h0 : xb_H) (Qr : Int32 → xb_H → Prop) (n9 : Nat) : ∀ (x0 : Nat) (x2 : Int32) (x3 : Int32) (x4 : Int32) (x5 : Int32) (h : xb_H), w_M_exportNamed_L11 Qr n9 x0 x2 x3 x4 x5 h → xb_am l D A σ 6 MC MS h0 (fun v h _ _ => ∃ r, v = some (.int r) ∧ Qr r h) (fun _ _ _ _ => False) y_M_exportNamed.cls y_M_exportNamed.name b_M_exportNamed 6 ([] : List ExceptionTableEntry) (some .int) 11 [(0, .ref x0), (2, .int x2), (3, .int x3), (4, .int x4), (5, .int x5)] [] h 0 0 := by
  induction n9 with
  | zero => intro x0 x2 x3 x4 x5 h hw; exact False.elim hw
  | succ n9 ih =>
    intro x0 x2 x3 x4 x5 h hw
    unfold w_M_exportNamed_L11 at hw
    intro p e s m args below meth c hC H locs ls k n hE hl hR hS hk hn
    obtain ⟨hx, hb, hown, hlocks, htab, hml, hr, hB, hA, hnm⟩ := id hC
    have hts := hB.1.1.at args
    refine lv_iload hx hb (xb_d D_M_exportNamed 7 rfl) (lv_at hl 4 rfl) ?_
    refine lv_aload_n hx hb (xb_d D_M_exportNamed 8 rfl) rfl (lv_at hl 0 rfl) ?_
    refine lv_iload hx hb (xb_d D_M_exportNamed 9 rfl) (lv_at hl 3 rfl) ?_
    refine lv_bipush (v := 7) hx hb (xb_d D_M_exportNamed 10 rfl) (by decide) ?_
    obtain ⟨hk1, hw⟩ := hw
    refine xb_call0 (D := D) (A := A) (σ := σ) (h := h) (d := 2) (maxL := 3) (rest := [.int x5]) (av := [.ref x0, .int x4, .int 7]) (fun T hT X => by obtain ⟨cb9, ra9, rb9, rc9⟩ := xb_recv (ci := 8) hR rfl hk1 (by decide); exact xt_invV X hx hown (hts _ m_b47f62c2) (hts _ m_9f071faf) (hts _ m_e1bb5c84) (xt_sigOf (hts _ m_3a6212d6)) nm_M_manyOf (by rw [hT]; exact ra9) rb9 rc9 (g := F0 m 18 ls [.int 7, .int x4, .ref x0, .int x5]) rfl (argsL := [.int x4, .int 7]) (rest := [.int x5]) rfl rfl (by rw [hb]; exact (xb_d D_M_exportNamed 11 rfl))) (ok_M_manyOf l hfl D A σ x0 x4 7 h _ hw) (hml.trans hl.1.symm) (by rw [hb]; exact (xb_d D_M_exportNamed 11 rfl)) (Nat.le_of_ble_eq_true rfl) (Nat.le_of_ble_eq_true rfl) (Nat.le_of_ble_eq_true rfl) (show k ≤ MC by omega) (show n ≤ MS by omega) (xt_w1 hB.1 m_3a6212d6) (xt_cdOf hB.1 m_3a6212d6) (hts _ m_d5ed7bed) hB hR hS hA (fun vv h2 H locs hq hEh2 hR hS => ?_)
    obtain ⟨r3, rfl, hw⟩ := hq
    have hw := hw hEh2
    have hE := hE.tr hEh2
    refine W.eq (g2 := F0 m 21 ls [.int r3, .int x5]) rfl ?_
    refine lv_icmp_ge (tgt := 54) hx hb (xb_d D_M_exportNamed 12 rfl) rfl (fun hc4 => ?_) (fun hc4 => ?_)
    · have hw := hw.1 hc4
      refine lv_iconst (v := (-1)) hx hb (xb_d D_M_exportNamed 28 rfl) (by decide) ?_
      exact xb_iret 0 0 hx hb hr hlocks (show k + 0 ≤ MC by omega) (show n + 0 ≤ MS by omega) hE hR hS (xb_d D_M_exportNamed 29 rfl) hw
    · have hw := hw.2 hc4
      refine lv_aload_n hx hb (xb_d D_M_exportNamed 13 rfl) rfl (lv_at hl 0 rfl) ?_
      refine lv_iload hx hb (xb_d D_M_exportNamed 14 rfl) (lv_at hl 3 rfl) ?_
      refine lv_aload_n hx hb (xb_d D_M_exportNamed 15 rfl) rfl (lv_at hl 0 rfl) ?_
      refine lv_iload hx hb (xb_d D_M_exportNamed 16 rfl) (lv_at hl 3 rfl) ?_
      refine lv_bipush (v := 7) hx hb (xb_d D_M_exportNamed 17 rfl) (by decide) ?_
      refine lv_iload hx hb (xb_d D_M_exportNamed 18 rfl) (lv_at hl 4 rfl) ?_
      have hk1 : xb_k h2 x0 = 9 := hEh2.k hk1
      refine xb_call0 (D := D) (A := A) (σ := σ) (h := h2) (d := 2) (maxL := 4) (rest := [.int x4, .ref x0]) (av := [.ref x0, .int x4, .int 7, .int x5]) (fun T hT X => by obtain ⟨cb9, ra9, rb9, rc9⟩ := xb_recv (ci := 8) hR rfl hk1 (by decide); exact xt_invV X hx hown (hts _ m_7f41753e) (hts _ m_8cdd7108) (hts _ m_e228318f) (xt_sigOf (hts _ m_89667ad5)) nm_M_placeOf (by rw [hT]; exact ra9) rb9 rc9 (g := F0 m 34 ls [.int x5, .int 7, .int x4, .ref x0, .int x4, .ref x0]) rfl (argsL := [.int x4, .int 7, .int x5]) (rest := [.int x4, .ref x0]) rfl rfl (by rw [hb]; exact (xb_d D_M_exportNamed 19 rfl))) (ok_M_placeOf l hfl D A σ x0 x4 7 x5 h2 _ hw) (hml.trans hl.1.symm) (by rw [hb]; exact (xb_d D_M_exportNamed 19 rfl)) (Nat.le_of_ble_eq_true rfl) (Nat.le_of_ble_eq_true rfl) (Nat.le_of_ble_eq_true rfl) (show k ≤ MC by omega) (show n ≤ MS by omega) (xt_w1 hB.1 m_89667ad5) (xt_cdOf hB.1 m_89667ad5) (hts _ m_d5ed7bed) hB hR hS hA (fun vv h5 H locs hq hEh5 hR hS => ?_)
      obtain ⟨r6, rfl, hw⟩ := hq
      have hw := hw hEh5
      have hE := hE.tr hEh5
      refine W.eq (g2 := F0 m 37 ls [.int r6, .int x4, .ref x0]) rfl ?_
      refine lv_iload_n hx hb (xb_d D_M_exportNamed 20 rfl) rfl (lv_at hl 1 rfl) ?_
      refine lv_iload_n hx hb (xb_d D_M_exportNamed 21 rfl) rfl (lv_at hl 2 rfl) ?_
      have hk1 : xb_k h5 x0 = 9 := hEh5.k hk1
      refine xb_call0 (D := D) (A := A) (σ := σ) (h := h5) (d := 5) (maxL := 7) (rest := []) (av := [.ref x0, .int x4, .int r6, .int x2, .int x3]) (fun T hT X => by obtain ⟨cb9, ra9, rb9, rc9⟩ := xb_recv (ci := 8) hR rfl hk1 (by decide); exact xt_invV X hx hown (hts _ m_e4ead298) (hts _ m_cc2816ed) (hts _ m_2133ace4) (xt_sigOf (hts _ m_af24a865)) nm_M_isNamed (by rw [hT]; exact ra9) rb9 rc9 (g := F0 m 39 ls [.int x3, .int x2, .int r6, .int x4, .ref x0]) rfl (argsL := [.int x4, .int r6, .int x2, .int x3]) (rest := []) rfl rfl (by rw [hb]; exact (xb_d D_M_exportNamed 22 rfl))) (ok_M_isNamed l hfl D A σ x0 x4 r6 x2 x3 h5 _ hw) (hml.trans hl.1.symm) (by rw [hb]; exact (xb_d D_M_exportNamed 22 rfl)) (Nat.le_of_ble_eq_true rfl) (Nat.le_of_ble_eq_true rfl) (Nat.le_of_ble_eq_true rfl) (show k ≤ MC by omega) (show n ≤ MS by omega) (xt_w1 hB.1 m_af24a865) (xt_cdOf hB.1 m_af24a865) (hts _ m_d5ed7bed) hB hR hS hA (fun vv h7 H locs hq hEh7 hR hS => ?_)
      obtain ⟨r8, rfl, hw⟩ := hq
      have hw := hw hEh7
      have hE := hE.tr hEh7
      refine W.eq (g2 := F0 m 42 ls [.int r8]) rfl ?_
      refine lv_if_eq (tgt := 48) hx hb (xb_d D_M_exportNamed 23 rfl) rfl (fun hc9 => ?_) (fun hc9 => ?_)
      · have hw := hw.1 hc9
        refine lv_iinc (v := (x5 + 1)) (k := 4) hx hb (xb_d D_M_exportNamed 26 rfl) hl rfl (by first | rfl | decide) (by decide) rfl (fun ls hl => ?_)
        have hl : lv_has ls 6 [(5, .int (x5 + 1)), (0, .ref x0), (2, .int x2), (3, .int x3), (4, .int x4)] := hl
        refine lv_goto (tgt := 11) hx hb (xb_d D_M_exportNamed 27 rfl) rfl ?_
        exact ih x0 x2 x3 x4 (x5 + 1) h7 hw p e s m args below meth c hC H locs ls k n hE (lv_sub hl [1, 2, 3, 4, 0] rfl) hR hS (by omega) (by omega)
      · have hw := hw.2 hc9
        refine lv_iload hx hb (xb_d D_M_exportNamed 24 rfl) (lv_at hl 4 rfl) ?_
        exact xb_iret 0 0 hx hb hr hlocks (show k + 0 ≤ MC by omega) (show n + 0 ≤ MS by omega) hE hR hS (xb_d D_M_exportNamed 25 rfl) hw

set_option maxHeartbeats 4000000 in
set_option maxRecDepth 100000 in
theorem ok_M_exportNamed (l : Launch) (hfl : l.flags = pinnedFlags ++ [noTraceFlag]) (D : va_G) (A : Nat → Prop) (σ : Nat) (x0 : Nat) (x1 : Int32) (x2 : Int32) (x3 : Int32) (h : xb_H) (Qr : Int32 → xb_H → Prop) (hw : w_M_exportNamed x0 x1 x2 x3 h Qr) : xb_Met l y_M_exportNamed [.code y_M_exportNamed b_M_exportNamed 6 (some .int)] (xb_rm 6 0 0) (xb_Pc D A σ h [.ref x0, .int x1, .int x2, .int x3]) (xb_Qc D A h 0 0 (fun v h _ _ => ∃ r, v = some (.int r) ∧ Qr r h) (fun _ _ _ _ => False)) A := by
  refine xb_ofAm (cc := b_M_exportNamed) (by decide) (Nat.le_of_ble_eq_true rfl) ?_
  unfold w_M_exportNamed at hw
  show xb_am l D A σ 6 0 0 h (fun v h _ _ => ∃ r, v = some (.int r) ∧ Qr r h) (fun _ _ _ _ => False) y_M_exportNamed.cls y_M_exportNamed.name b_M_exportNamed 6 ([] : List ExceptionTableEntry) (some .int) 0 [(0, .ref x0), (1, .int x1), (2, .int x2), (3, .int x3)] [] h 0 0
  obtain ⟨MC, hMC⟩ : ∃ x, x = 0 := ⟨_, rfl⟩
  obtain ⟨MS, hMS⟩ : ∃ x, x = 0 := ⟨_, rfl⟩
  rw [show xb_am l D A σ 6 0 0 = xb_am l D A σ 6 MC MS by rw [hMC, hMS]]
  obtain ⟨h0, hh0⟩ : ∃ x, x = h := ⟨_, rfl⟩
  rw [show xb_am l D A σ 6 MC MS h = xb_am l D A σ 6 MC MS h0 by rw [hh0]]
  intro p e s m args below meth c hC H locs ls k n hE hl hR hS hk hn
  obtain ⟨hx, hb, hown, hlocks, htab, hml, hr, hB, hA, hnm⟩ := id hC
  have hts := hB.1.1.at args
  refine lv_aload_n hx hb (xb_d D_M_exportNamed 0 rfl) rfl (lv_at hl 0 rfl) ?_
  obtain ⟨hk1, hw⟩ := hw
  refine xb_getP (C := R_M) (T := F_M) (N := 97) hx hb 8 31 hts fin_M hown hR hk1 (by decide) rfl (by decide) rfl (hts _ m_691d5f47) (fun _ h9 => h9) (xb_d D_M_exportNamed 1 rfl) ?_
  obtain ⟨b2, eb2, hw⟩ := hw
  refine xb_some eb2 ?_
  refine lv_iload_n hx hb (xb_d D_M_exportNamed 2 rfl) rfl (lv_at hl 1 rfl) ?_
  obtain ⟨hk4, hw⟩ := hw
  obtain ⟨hi3, hw⟩ := hw
  refine xb_iald hx hb hR hk4 hi3 (xb_d D_M_exportNamed 3 rfl) ?_
  obtain ⟨v5, ev5⟩ : ∃ x : Int32, x = (xb_i h b2 (Int32.toNatClampNeg x1)) := ⟨_, rfl⟩
  have hw := hw v5 ev5
  refine xt_numi (y := v5) ev5.symm ?_
  refine lv_istore hx hb (xb_d D_M_exportNamed 4 rfl) hl (by decide) rfl (fun ls hl => ?_)
  have hl : lv_has ls 6 [(4, .int v5), (0, .ref x0), (1, .int x1), (2, .int x2), (3, .int x3)] := hl
  refine lv_iconst (v := 0) hx hb (xb_d D_M_exportNamed 5 rfl) (by decide) ?_
  refine lv_istore hx hb (xb_d D_M_exportNamed 6 rfl) hl (by decide) rfl (fun ls hl => ?_)
  have hl : lv_has ls 6 [(5, .int 0), (4, .int v5), (0, .ref x0), (1, .int x1), (2, .int x2), (3, .int x3)] := hl
  obtain ⟨n8, hw⟩ := hw
  exact am_M_exportNamed_L11 l hfl D A σ MC MS h0 Qr n8 x0 x2 x3 v5 0 h hw p e s m args below meth c hC H locs ls k n hE (lv_sub hl [2, 4, 5, 1, 0] rfl) hR hS (by omega) (by omega)

set_option maxRecDepth 100000 in
def T_M_importAt : List (Nat × Instr × Nat) := [(0, .aload_n 0, 1), (1, .iload_n 1, 1), (2, .aload_n 0, 1), (3, .iload_n 1, 1), (4, .iconst 2, 1), (5, .iload_n 2, 1), (6, .invokevirtual 320, 3), (9, .invokevirtual 324, 3), (12, .aload_n 0, 1), (13, .invokevirtual 293, 3), (16, .aload_n 0, 1), (17, .invokevirtual 293, 3), (20, .aload_n 0, 1), (21, .invokevirtual 212, 3), (24, .ireturn, 1)]
theorem D_M_importAt : ∀ q ∈ T_M_importAt, decode b_M_importAt q.1 = .ok (q.2.1, q.2.2) := by decide +kernel

set_option maxHeartbeats 4000000 in
set_option maxRecDepth 100000 in
theorem ok_M_importAt (l : Launch) (hfl : l.flags = pinnedFlags ++ [noTraceFlag]) (D : va_G) (A : Nat → Prop) (σ : Nat) (x0 : Nat) (x1 : Int32) (x2 : Int32) (h : xb_H) (Qr : Int32 → xb_H → Prop) (hw : w_M_importAt x0 x1 x2 h Qr) : xb_Met l y_M_importAt [.code y_M_importAt b_M_importAt 3 (some .int)] (xb_rm 6 0 0) (xb_Pc D A σ h [.ref x0, .int x1, .int x2]) (xb_Qc D A h 0 0 (fun v h _ _ => ∃ r, v = some (.int r) ∧ Qr r h) (fun _ _ _ _ => False)) A := by
  refine xb_ofAm (cc := b_M_importAt) (by decide) (Nat.le_of_ble_eq_true rfl) ?_
  unfold w_M_importAt at hw
  show xb_am l D A σ 6 0 0 h (fun v h _ _ => ∃ r, v = some (.int r) ∧ Qr r h) (fun _ _ _ _ => False) y_M_importAt.cls y_M_importAt.name b_M_importAt 3 ([] : List ExceptionTableEntry) (some .int) 0 [(0, .ref x0), (1, .int x1), (2, .int x2)] [] h 0 0
  obtain ⟨MC, hMC⟩ : ∃ x, x = 0 := ⟨_, rfl⟩
  obtain ⟨MS, hMS⟩ : ∃ x, x = 0 := ⟨_, rfl⟩
  rw [show xb_am l D A σ 6 0 0 = xb_am l D A σ 6 MC MS by rw [hMC, hMS]]
  obtain ⟨h0, hh0⟩ : ∃ x, x = h := ⟨_, rfl⟩
  rw [show xb_am l D A σ 6 MC MS h = xb_am l D A σ 6 MC MS h0 by rw [hh0]]
  intro p e s m args below meth c hC H locs ls k n hE hl hR hS hk hn
  obtain ⟨hx, hb, hown, hlocks, htab, hml, hr, hB, hA, hnm⟩ := id hC
  have hts := hB.1.1.at args
  refine lv_aload_n hx hb (xb_d D_M_importAt 0 rfl) rfl (lv_at hl 0 rfl) ?_
  refine lv_iload_n hx hb (xb_d D_M_importAt 1 rfl) rfl (lv_at hl 1 rfl) ?_
  refine lv_aload_n hx hb (xb_d D_M_importAt 2 rfl) rfl (lv_at hl 0 rfl) ?_
  refine lv_iload_n hx hb (xb_d D_M_importAt 3 rfl) rfl (lv_at hl 1 rfl) ?_
  refine lv_iconst (v := 2) hx hb (xb_d D_M_importAt 4 rfl) (by decide) ?_
  refine lv_iload_n hx hb (xb_d D_M_importAt 5 rfl) rfl (lv_at hl 2 rfl) ?_
  obtain ⟨hk1, hw⟩ := hw
  refine xb_call0 (D := D) (A := A) (σ := σ) (h := h) (d := 2) (maxL := 4) (rest := [.int x1, .ref x0]) (av := [.ref x0, .int x1, .int 2, .int x2]) (fun T hT X => by obtain ⟨cb9, ra9, rb9, rc9⟩ := xb_recv (ci := 8) hR rfl hk1 (by decide); exact xt_invV X hx hown (hts _ m_7f41753e) (hts _ m_8cdd7108) (hts _ m_e228318f) (xt_sigOf (hts _ m_89667ad5)) nm_M_placeOf (by rw [hT]; exact ra9) rb9 rc9 (g := F0 m 6 ls [.int x2, .int 2, .int x1, .ref x0, .int x1, .ref x0]) rfl (argsL := [.int x1, .int 2, .int x2]) (rest := [.int x1, .ref x0]) rfl rfl (by rw [hb]; exact (xb_d D_M_importAt 6 rfl))) (ok_M_placeOf l hfl D A σ x0 x1 2 x2 h _ hw) (hml.trans hl.1.symm) (by rw [hb]; exact (xb_d D_M_importAt 6 rfl)) (Nat.le_of_ble_eq_true rfl) (Nat.le_of_ble_eq_true rfl) (Nat.le_of_ble_eq_true rfl) (show k ≤ MC by omega) (show n ≤ MS by omega) (xt_w1 hB.1 m_89667ad5) (xt_cdOf hB.1 m_89667ad5) (hts _ m_d5ed7bed) hB hR hS hA (fun vv h2 H locs hq hEh2 hR hS => ?_)
  obtain ⟨r3, rfl, hw⟩ := hq
  have hw := hw hEh2
  have hE := hE.tr hEh2
  refine W.eq (g2 := F0 m 9 ls [.int r3, .int x1, .ref x0]) rfl ?_
  have hk1 : xb_k h2 x0 = 9 := hEh2.k hk1
  refine xb_call0 (D := D) (A := A) (σ := σ) (h := h2) (d := 2) (maxL := 3) (rest := []) (av := [.ref x0, .int x1, .int r3]) (fun T hT X => by obtain ⟨cb9, ra9, rb9, rc9⟩ := xb_recv (ci := 8) hR rfl hk1 (by decide); exact xt_invV X hx hown (hts _ m_bb531879) (hts _ m_4a6cd4a0) (hts _ m_d1c31e3c) (xt_sigOf (hts _ m_48217fba)) nm_M_go (by rw [hT]; exact ra9) rb9 rc9 (g := F0 m 9 ls [.int r3, .int x1, .ref x0]) rfl (argsL := [.int x1, .int r3]) (rest := []) rfl rfl (by rw [hb]; exact (xb_d D_M_importAt 7 rfl))) (ok_M_go l hfl D A σ x0 x1 r3 h2 _ hw) (hml.trans hl.1.symm) (by rw [hb]; exact (xb_d D_M_importAt 7 rfl)) (Nat.le_of_ble_eq_true rfl) (Nat.le_of_ble_eq_true rfl) (Nat.le_of_ble_eq_true rfl) (show k ≤ MC by omega) (show n ≤ MS by omega) (xt_w1 hB.1 m_48217fba) (xt_cdOf hB.1 m_48217fba) (hts _ m_d5ed7bed) hB hR hS hA (fun vv h4 H locs hq hEh4 hR hS => ?_)
  obtain ⟨rfl, hw⟩ := hq
  have hw := hw hEh4
  have hE := hE.tr hEh4
  refine W.eq (g2 := F0 m 12 ls []) rfl ?_
  refine lv_aload_n hx hb (xb_d D_M_importAt 8 rfl) rfl (lv_at hl 0 rfl) ?_
  have hk1 : xb_k h4 x0 = 9 := hEh4.k hk1
  refine xb_call0 (D := D) (A := A) (σ := σ) (h := h4) (d := 5) (maxL := 5) (rest := []) (av := [.ref x0]) (fun T hT X => by obtain ⟨cb9, ra9, rb9, rc9⟩ := xb_recv (ci := 8) hR rfl hk1 (by decide); exact xt_invV X hx hown (hts _ m_32411888) (hts _ m_1909bcad) (hts _ m_471efb70) (xt_sigOf (hts _ m_06b9cb5d)) nm_M_name0 (by rw [hT]; exact ra9) rb9 rc9 (g := F0 m 13 ls [.ref x0]) rfl (argsL := []) (rest := []) rfl rfl (by rw [hb]; exact (xb_d D_M_importAt 9 rfl))) (ok_M_name0 l hfl D A σ x0 h4 _ hw) (hml.trans hl.1.symm) (by rw [hb]; exact (xb_d D_M_importAt 9 rfl)) (Nat.le_of_ble_eq_true rfl) (Nat.le_of_ble_eq_true rfl) (Nat.le_of_ble_eq_true rfl) (show k ≤ MC by omega) (show n ≤ MS by omega) (xt_w1 hB.1 m_06b9cb5d) (xt_cdOf hB.1 m_06b9cb5d) (hts _ m_d5ed7bed) hB hR hS hA (fun vv h6 H locs hq hEh6 hR hS => ?_)
  obtain ⟨rfl, hw⟩ := hq
  have hw := hw hEh6
  have hE := hE.tr hEh6
  refine W.eq (g2 := F0 m 16 ls []) rfl ?_
  refine lv_aload_n hx hb (xb_d D_M_importAt 10 rfl) rfl (lv_at hl 0 rfl) ?_
  have hk1 : xb_k h6 x0 = 9 := hEh6.k hk1
  refine xb_call0 (D := D) (A := A) (σ := σ) (h := h6) (d := 5) (maxL := 5) (rest := []) (av := [.ref x0]) (fun T hT X => by obtain ⟨cb9, ra9, rb9, rc9⟩ := xb_recv (ci := 8) hR rfl hk1 (by decide); exact xt_invV X hx hown (hts _ m_32411888) (hts _ m_1909bcad) (hts _ m_471efb70) (xt_sigOf (hts _ m_06b9cb5d)) nm_M_name0 (by rw [hT]; exact ra9) rb9 rc9 (g := F0 m 17 ls [.ref x0]) rfl (argsL := []) (rest := []) rfl rfl (by rw [hb]; exact (xb_d D_M_importAt 11 rfl))) (ok_M_name0 l hfl D A σ x0 h6 _ hw) (hml.trans hl.1.symm) (by rw [hb]; exact (xb_d D_M_importAt 11 rfl)) (Nat.le_of_ble_eq_true rfl) (Nat.le_of_ble_eq_true rfl) (Nat.le_of_ble_eq_true rfl) (show k ≤ MC by omega) (show n ≤ MS by omega) (xt_w1 hB.1 m_06b9cb5d) (xt_cdOf hB.1 m_06b9cb5d) (hts _ m_d5ed7bed) hB hR hS hA (fun vv h8 H locs hq hEh8 hR hS => ?_)
  obtain ⟨rfl, hw⟩ := hq
  have hw := hw hEh8
  have hE := hE.tr hEh8
  refine W.eq (g2 := F0 m 20 ls []) rfl ?_
  refine lv_aload_n hx hb (xb_d D_M_importAt 12 rfl) rfl (lv_at hl 0 rfl) ?_
  have hk1 : xb_k h8 x0 = 9 := hEh8.k hk1
  refine xb_call0 (D := D) (A := A) (σ := σ) (h := h8) (d := 3) (maxL := 2) (rest := []) (av := [.ref x0]) (fun T hT X => by obtain ⟨cb9, ra9, rb9, rc9⟩ := xb_recv (ci := 8) hR rfl hk1 (by decide); exact xt_invV X hx hown (hts _ m_0e978570) (hts _ m_40099f98) (hts _ m_a7dbfd07) (xt_sigOf (hts _ m_0af1ec6a)) nm_M_next (by rw [hT]; exact ra9) rb9 rc9 (g := F0 m 21 ls [.ref x0]) rfl (argsL := []) (rest := []) rfl rfl (by rw [hb]; exact (xb_d D_M_importAt 13 rfl))) (ok_M_next l hfl D A σ x0 h8 _ hw) (hml.trans hl.1.symm) (by rw [hb]; exact (xb_d D_M_importAt 13 rfl)) (Nat.le_of_ble_eq_true rfl) (Nat.le_of_ble_eq_true rfl) (Nat.le_of_ble_eq_true rfl) (show k ≤ MC by omega) (show n ≤ MS by omega) (xt_w1 hB.1 m_0af1ec6a) (xt_cdOf hB.1 m_0af1ec6a) (hts _ m_d5ed7bed) hB hR hS hA (fun vv h10 H locs hq hEh10 hR hS => ?_)
  obtain ⟨r11, rfl, hw⟩ := hq
  have hw := hw hEh10
  have hE := hE.tr hEh10
  refine W.eq (g2 := F0 m 24 ls [.int r11]) rfl ?_
  exact xb_iret 0 0 hx hb hr hlocks (show k + 0 ≤ MC by omega) (show n + 0 ≤ MS by omega) hE hR hS (xb_d D_M_importAt 14 rfl) hw

theorem m_b67ad769 : (.methodLink "StackHostModel" 349 y_M_leastRead : Cond) ∈ xt_tbl := xt_in (xt_t11 (List.mem_of_getElem? (i := 92) (by decide +kernel))) (by decide +kernel)
theorem m_de6782a6 : (.instanceMethod y_M_leastRead : Cond) ∈ xt_tbl := xt_in (xt_t11 (List.mem_of_getElem? (i := 94) (by decide +kernel))) (by decide +kernel)
theorem m_a7360540 : (.selects "StackHostModel" y_M_leastRead y_M_leastRead : Cond) ∈ xt_tbl := xt_in (xt_v10 (q := (⟨"StackHostModel", "leastRead", "()J"⟩, 97)) (List.mem_of_getElem? (i := 15) (by decide +kernel))) (by decide +kernel)
theorem m_348c2fd1 : (.code y_M_leastRead b_M_leastRead 4 (some .long) : Cond) ∈ xt_tbl := xt_in (xt_t11 (List.mem_of_getElem? (i := 95) (by decide +kernel))) (by decide +kernel)
theorem nm_M_leastRead : xt_nm y_M_leastRead 0 := ⟨by decide +kernel, by decide +kernel⟩
set_option maxRecDepth 100000 in
def T_M_limitsFault : List (Nat × Instr × Nat) := [(0, .aload_n 0, 1), (1, .invokevirtual 349, 3), (4, .lstore 4, 2), (6, .aload_n 0, 1), (7, .getfield 345, 3), (10, .lconst 0, 1), (11, .lcmp, 1), (12, .ifCond .lt 13, 3), (15, .aload_n 0, 1), (16, .getfield 345, 3), (19, .lload 4, 2), (21, .lcmp, 1), (22, .ifCond .lt 27, 3), (25, .iload_n 1, 1), (26, .ifCond .eq 27, 3), (29, .lload 4, 2), (31, .ldc2_w 352, 3), (34, .lcmp, 1), (35, .ifCond .gt 14, 3), (38, .aload_n 0, 1), (39, .getfield 345, 3), (42, .ldc2_w 352, 3), (45, .lcmp, 1), (46, .ifCond .le 7, 3), (49, .iconst 1, 1), (50, .goto 4, 3), (53, .iconst 0, 1), (54, .istore 6, 2), (56, .iload 6, 2), (58, .ifCond .eq 13, 3), (61, .aload_n 0, 1), (62, .bipush 25, 2), (64, .iload_n 2, 1), (65, .invokevirtual 208, 3), (68, .goto 14, 3), (71, .iload_n 3, 1), (72, .ifCond .eq 10, 3), (75, .aload_n 0, 1), (76, .bipush 27, 2), (78, .iload_n 2, 1), (79, .invokevirtual 208, 3), (82, .return_, 1)]
theorem D_M_limitsFault : ∀ q ∈ T_M_limitsFault, decode b_M_limitsFault q.1 = .ok (q.2.1, q.2.2) := by decide +kernel

set_option maxHeartbeats 4000000 in
set_option maxRecDepth 100000 in
theorem am_M_limitsFault_L82 (l : Launch) (hfl : l.flags = pinnedFlags ++ [noTraceFlag]) (D : va_G) (A : Nat → Prop) (σ MC MS : Nat) (h0 : xb_H) (Qr : xb_H → Prop) (h : xb_H) (hw : w_M_limitsFault_L82 Qr h) : xb_am l D A σ 6 MC MS h0 (fun v h _ _ => v = none ∧ Qr h) (fun _ _ _ _ => False) y_M_limitsFault.cls y_M_limitsFault.name b_M_limitsFault 7 ([] : List ExceptionTableEntry) none 82 [] [] h 0 0 := by
  unfold w_M_limitsFault_L82 at hw
  intro p e s m args below meth c hC H locs ls k n hE hl hR hS hk hn
  obtain ⟨hx, hb, hown, hlocks, htab, hml, hr, hB, hA, hnm⟩ := id hC
  have hts := hB.1.1.at args
  exact xb_vret 0 0 hx hb hr hlocks (show k + 0 ≤ MC by omega) (show n + 0 ≤ MS by omega) hE hR hS (xb_d D_M_limitsFault 41 rfl) hw

set_option maxHeartbeats 4000000 in
set_option maxRecDepth 100000 in
theorem am_M_limitsFault_L54 (l : Launch) (hfl : l.flags = pinnedFlags ++ [noTraceFlag]) (D : va_G) (A : Nat → Prop) (σ MC MS : Nat) (h0 : xb_H) (Qr : xb_H → Prop) (x0 : Nat) (x2 : Int32) (x3 : Int32) (y0 : Int32) (h : xb_H) (hw : w_M_limitsFault_L54 Qr x0 x2 x3 y0 h) : xb_am l D A σ 6 MC MS h0 (fun v h _ _ => v = none ∧ Qr h) (fun _ _ _ _ => False) y_M_limitsFault.cls y_M_limitsFault.name b_M_limitsFault 7 ([] : List ExceptionTableEntry) none 54 [(0, .ref x0), (2, .int x2), (3, .int x3)] [.int y0] h 0 0 := by
  unfold w_M_limitsFault_L54 at hw
  intro p e s m args below meth c hC H locs ls k n hE hl hR hS hk hn
  obtain ⟨hx, hb, hown, hlocks, htab, hml, hr, hB, hA, hnm⟩ := id hC
  have hts := hB.1.1.at args
  refine lv_istore hx hb (xb_d D_M_limitsFault 27 rfl) hl (by decide) rfl (fun ls hl => ?_)
  have hl : lv_has ls 7 [(6, .int y0), (0, .ref x0), (2, .int x2), (3, .int x3)] := hl
  refine lv_iload hx hb (xb_d D_M_limitsFault 28 rfl) (lv_at hl 0 rfl) ?_
  refine lv_if_eq (tgt := 71) hx hb (xb_d D_M_limitsFault 29 rfl) rfl (fun hc1 => ?_) (fun hc1 => ?_)
  · have hw := hw.1 hc1
    refine lv_iload_n hx hb (xb_d D_M_limitsFault 35 rfl) rfl (lv_at hl 3 rfl) ?_
    refine lv_if_eq (tgt := 82) hx hb (xb_d D_M_limitsFault 36 rfl) rfl (fun hc2 => ?_) (fun hc2 => ?_)
    · have hw := hw.1 hc2
      exact am_M_limitsFault_L82 l hfl D A σ MC MS h0 Qr h hw p e s m args below meth c hC H locs ls k n hE (lv_sub hl [] rfl) hR hS (by omega) (by omega)
    · have hw := hw.2 hc2
      refine lv_aload_n hx hb (xb_d D_M_limitsFault 37 rfl) rfl (lv_at hl 1 rfl) ?_
      refine lv_bipush (v := 27) hx hb (xb_d D_M_limitsFault 38 rfl) (by decide) ?_
      refine lv_iload_n hx hb (xb_d D_M_limitsFault 39 rfl) rfl (lv_at hl 2 rfl) ?_
      obtain ⟨hk3, hw⟩ := hw
      refine xb_call0 (D := D) (A := A) (σ := σ) (h := h) (d := 2) (maxL := 3) (rest := []) (av := [.ref x0, .int 27, .int x2]) (fun T hT X => by obtain ⟨cb9, ra9, rb9, rc9⟩ := xb_recv (ci := 8) hR rfl hk3 (by decide); exact xt_invV X hx hown (hts _ m_939052ad) (hts _ m_29cc8c73) (hts _ m_3b1ac7ab) (xt_sigOf (hts _ m_8f062ecd)) nm_M_fail (by rw [hT]; exact ra9) rb9 rc9 (g := F0 m 79 ls [.int x2, .int 27, .ref x0]) rfl (argsL := [.int 27, .int x2]) (rest := []) rfl rfl (by rw [hb]; exact (xb_d D_M_limitsFault 40 rfl))) (ok_M_fail l hfl D A σ x0 27 x2 h _ hw) (hml.trans hl.1.symm) (by rw [hb]; exact (xb_d D_M_limitsFault 40 rfl)) (Nat.le_of_ble_eq_true rfl) (Nat.le_of_ble_eq_true rfl) (Nat.le_of_ble_eq_true rfl) (show k ≤ MC by omega) (show n ≤ MS by omega) (xt_w1 hB.1 m_8f062ecd) (xt_cdOf hB.1 m_8f062ecd) (hts _ m_d5ed7bed) hB hR hS hA (fun vv h4 H locs hq hEh4 hR hS => ?_)
      obtain ⟨rfl, hw⟩ := hq
      have hw := hw hEh4
      have hE := hE.tr hEh4
      refine W.eq (g2 := F0 m 82 ls []) rfl ?_
      exact am_M_limitsFault_L82 l hfl D A σ MC MS h0 Qr h4 hw p e s m args below meth c hC H locs ls k n hE (lv_sub hl [] rfl) hR hS (by omega) (by omega)
  · have hw := hw.2 hc1
    refine lv_aload_n hx hb (xb_d D_M_limitsFault 30 rfl) rfl (lv_at hl 1 rfl) ?_
    refine lv_bipush (v := 25) hx hb (xb_d D_M_limitsFault 31 rfl) (by decide) ?_
    refine lv_iload_n hx hb (xb_d D_M_limitsFault 32 rfl) rfl (lv_at hl 2 rfl) ?_
    obtain ⟨hk6, hw⟩ := hw
    refine xb_call0 (D := D) (A := A) (σ := σ) (h := h) (d := 2) (maxL := 3) (rest := []) (av := [.ref x0, .int 25, .int x2]) (fun T hT X => by obtain ⟨cb9, ra9, rb9, rc9⟩ := xb_recv (ci := 8) hR rfl hk6 (by decide); exact xt_invV X hx hown (hts _ m_939052ad) (hts _ m_29cc8c73) (hts _ m_3b1ac7ab) (xt_sigOf (hts _ m_8f062ecd)) nm_M_fail (by rw [hT]; exact ra9) rb9 rc9 (g := F0 m 65 ls [.int x2, .int 25, .ref x0]) rfl (argsL := [.int 25, .int x2]) (rest := []) rfl rfl (by rw [hb]; exact (xb_d D_M_limitsFault 33 rfl))) (ok_M_fail l hfl D A σ x0 25 x2 h _ hw) (hml.trans hl.1.symm) (by rw [hb]; exact (xb_d D_M_limitsFault 33 rfl)) (Nat.le_of_ble_eq_true rfl) (Nat.le_of_ble_eq_true rfl) (Nat.le_of_ble_eq_true rfl) (show k ≤ MC by omega) (show n ≤ MS by omega) (xt_w1 hB.1 m_8f062ecd) (xt_cdOf hB.1 m_8f062ecd) (hts _ m_d5ed7bed) hB hR hS hA (fun vv h7 H locs hq hEh7 hR hS => ?_)
    obtain ⟨rfl, hw⟩ := hq
    have hw := hw hEh7
    have hE := hE.tr hEh7
    refine W.eq (g2 := F0 m 68 ls []) rfl ?_
    refine lv_goto (tgt := 82) hx hb (xb_d D_M_limitsFault 34 rfl) rfl ?_
    exact am_M_limitsFault_L82 l hfl D A σ MC MS h0 Qr h7 hw p e s m args below meth c hC H locs ls k n hE (lv_sub hl [] rfl) hR hS (by omega) (by omega)

set_option maxHeartbeats 4000000 in
set_option maxRecDepth 100000 in
theorem am_M_limitsFault_L53 (l : Launch) (hfl : l.flags = pinnedFlags ++ [noTraceFlag]) (D : va_G) (A : Nat → Prop) (σ MC MS : Nat) (h0 : xb_H) (Qr : xb_H → Prop) (x0 : Nat) (x2 : Int32) (x3 : Int32) (h : xb_H) (hw : w_M_limitsFault_L53 Qr x0 x2 x3 h) : xb_am l D A σ 6 MC MS h0 (fun v h _ _ => v = none ∧ Qr h) (fun _ _ _ _ => False) y_M_limitsFault.cls y_M_limitsFault.name b_M_limitsFault 7 ([] : List ExceptionTableEntry) none 53 [(0, .ref x0), (2, .int x2), (3, .int x3)] [] h 0 0 := by
  unfold w_M_limitsFault_L53 at hw
  intro p e s m args below meth c hC H locs ls k n hE hl hR hS hk hn
  obtain ⟨hx, hb, hown, hlocks, htab, hml, hr, hB, hA, hnm⟩ := id hC
  have hts := hB.1.1.at args
  refine lv_iconst (v := 0) hx hb (xb_d D_M_limitsFault 26 rfl) (by decide) ?_
  exact am_M_limitsFault_L54 l hfl D A σ MC MS h0 Qr x0 x2 x3 0 h hw p e s m args below meth c hC H locs ls k n hE (lv_sub hl [0, 1, 2] rfl) hR hS (by omega) (by omega)

set_option maxHeartbeats 4000000 in
set_option maxRecDepth 100000 in
theorem am_M_limitsFault_L49 (l : Launch) (hfl : l.flags = pinnedFlags ++ [noTraceFlag]) (D : va_G) (A : Nat → Prop) (σ MC MS : Nat) (h0 : xb_H) (Qr : xb_H → Prop) (x0 : Nat) (x2 : Int32) (x3 : Int32) (h : xb_H) (hw : w_M_limitsFault_L49 Qr x0 x2 x3 h) : xb_am l D A σ 6 MC MS h0 (fun v h _ _ => v = none ∧ Qr h) (fun _ _ _ _ => False) y_M_limitsFault.cls y_M_limitsFault.name b_M_limitsFault 7 ([] : List ExceptionTableEntry) none 49 [(0, .ref x0), (2, .int x2), (3, .int x3)] [] h 0 0 := by
  unfold w_M_limitsFault_L49 at hw
  intro p e s m args below meth c hC H locs ls k n hE hl hR hS hk hn
  obtain ⟨hx, hb, hown, hlocks, htab, hml, hr, hB, hA, hnm⟩ := id hC
  have hts := hB.1.1.at args
  refine lv_iconst (v := 1) hx hb (xb_d D_M_limitsFault 24 rfl) (by decide) ?_
  refine lv_goto (tgt := 54) hx hb (xb_d D_M_limitsFault 25 rfl) rfl ?_
  exact am_M_limitsFault_L54 l hfl D A σ MC MS h0 Qr x0 x2 x3 1 h hw p e s m args below meth c hC H locs ls k n hE (lv_sub hl [0, 1, 2] rfl) hR hS (by omega) (by omega)

set_option maxHeartbeats 4000000 in
set_option maxRecDepth 100000 in
theorem am_M_limitsFault_L25 (l : Launch) (hfl : l.flags = pinnedFlags ++ [noTraceFlag]) (D : va_G) (A : Nat → Prop) (σ MC MS : Nat) (h0 : xb_H) (Qr : xb_H → Prop) (x0 : Nat) (x1 : Int32) (x2 : Int32) (x3 : Int32) (x4 : Int64) (h : xb_H) (hw : w_M_limitsFault_L25 Qr x0 x1 x2 x3 x4 h) : xb_am l D A σ 6 MC MS h0 (fun v h _ _ => v = none ∧ Qr h) (fun _ _ _ _ => False) y_M_limitsFault.cls y_M_limitsFault.name b_M_limitsFault 7 ([] : List ExceptionTableEntry) none 25 [(0, .ref x0), (1, .int x1), (2, .int x2), (3, .int x3), (4, .long x4)] [] h 0 0 := by
  unfold w_M_limitsFault_L25 at hw
  intro p e s m args below meth c hC H locs ls k n hE hl hR hS hk hn
  obtain ⟨hx, hb, hown, hlocks, htab, hml, hr, hB, hA, hnm⟩ := id hC
  have hts := hB.1.1.at args
  refine lv_iload_n hx hb (xb_d D_M_limitsFault 13 rfl) rfl (lv_at hl 1 rfl) ?_
  refine lv_if_eq (tgt := 53) hx hb (xb_d D_M_limitsFault 14 rfl) rfl (fun hc1 => ?_) (fun hc1 => ?_)
  · have hw := hw.1 hc1
    exact am_M_limitsFault_L53 l hfl D A σ MC MS h0 Qr x0 x2 x3 h hw p e s m args below meth c hC H locs ls k n hE (lv_sub hl [0, 2, 3] rfl) hR hS (by omega) (by omega)
  · have hw := hw.2 hc1
    refine lv_lload hx hb (xb_d D_M_limitsFault 15 rfl) (lv_at hl 4 rfl) ?_
    refine lv_ldc2 (v := 65536) hx hb hown (hts _ m_4fda1f04) (xb_d D_M_limitsFault 16 rfl) ?_
    refine xb_lc_gt (tgt := 49) hx hb (xb_d D_M_limitsFault 17 rfl) (xb_d D_M_limitsFault 18 rfl) rfl (fun hc2 => ?_) (fun hc2 => ?_)
    · have hw := hw.1 hc2
      exact am_M_limitsFault_L49 l hfl D A σ MC MS h0 Qr x0 x2 x3 h hw p e s m args below meth c hC H locs ls k n hE (lv_sub hl [0, 2, 3] rfl) hR hS (by omega) (by omega)
    · have hw := hw.2 hc2
      refine lv_aload_n hx hb (xb_d D_M_limitsFault 19 rfl) rfl (lv_at hl 0 rfl) ?_
      obtain ⟨hk3, hw⟩ := hw
      refine xb_getL (C := R_M) (T := F_M) (N := 97) hx hb 8 91 hts fin_M hown hR hk3 (by decide) rfl (by decide) rfl (hts _ m_6aa0a8b9) (fun _ h9 => h9) (xb_d D_M_limitsFault 20 rfl) ?_
      refine lv_ldc2 (v := 65536) hx hb hown (hts _ m_4fda1f04) (xb_d D_M_limitsFault 21 rfl) ?_
      refine xb_lc_le (tgt := 53) hx hb (xb_d D_M_limitsFault 22 rfl) (xb_d D_M_limitsFault 23 rfl) rfl (fun hc4 => ?_) (fun hc4 => ?_)
      · have hw := hw.1 hc4
        exact am_M_limitsFault_L53 l hfl D A σ MC MS h0 Qr x0 x2 x3 h hw p e s m args below meth c hC H locs ls k n hE (lv_sub hl [0, 2, 3] rfl) hR hS (by omega) (by omega)
      · have hw := hw.2 hc4
        exact am_M_limitsFault_L49 l hfl D A σ MC MS h0 Qr x0 x2 x3 h hw p e s m args below meth c hC H locs ls k n hE (lv_sub hl [0, 2, 3] rfl) hR hS (by omega) (by omega)

set_option maxHeartbeats 4000000 in
set_option maxRecDepth 100000 in
theorem ok_M_limitsFault (l : Launch) (hfl : l.flags = pinnedFlags ++ [noTraceFlag]) (D : va_G) (A : Nat → Prop) (σ : Nat) (x0 : Nat) (x1 : Int32) (x2 : Int32) (x3 : Int32) (h : xb_H) (Qr : xb_H → Prop) (hw : w_M_limitsFault x0 x1 x2 x3 h Qr) : xb_Met l y_M_limitsFault [.code y_M_limitsFault b_M_limitsFault 7 none] (xb_rm 6 0 0) (xb_Pc D A σ h [.ref x0, .int x1, .int x2, .int x3]) (xb_Qc D A h 0 0 (fun v h _ _ => v = none ∧ Qr h) (fun _ _ _ _ => False)) A := by
  refine xb_ofAm (cc := b_M_limitsFault) (by decide) (Nat.le_of_ble_eq_true rfl) ?_
  unfold w_M_limitsFault at hw
  show xb_am l D A σ 6 0 0 h (fun v h _ _ => v = none ∧ Qr h) (fun _ _ _ _ => False) y_M_limitsFault.cls y_M_limitsFault.name b_M_limitsFault 7 ([] : List ExceptionTableEntry) none 0 [(0, .ref x0), (1, .int x1), (2, .int x2), (3, .int x3)] [] h 0 0
  obtain ⟨MC, hMC⟩ : ∃ x, x = 0 := ⟨_, rfl⟩
  obtain ⟨MS, hMS⟩ : ∃ x, x = 0 := ⟨_, rfl⟩
  rw [show xb_am l D A σ 6 0 0 = xb_am l D A σ 6 MC MS by rw [hMC, hMS]]
  obtain ⟨h0, hh0⟩ : ∃ x, x = h := ⟨_, rfl⟩
  rw [show xb_am l D A σ 6 MC MS h = xb_am l D A σ 6 MC MS h0 by rw [hh0]]
  intro p e s m args below meth c hC H locs ls k n hE hl hR hS hk hn
  obtain ⟨hx, hb, hown, hlocks, htab, hml, hr, hB, hA, hnm⟩ := id hC
  have hts := hB.1.1.at args
  refine lv_aload_n hx hb (xb_d D_M_limitsFault 0 rfl) rfl (lv_at hl 0 rfl) ?_
  obtain ⟨hk1, hw⟩ := hw
  refine xb_call0 (D := D) (A := A) (σ := σ) (h := h) (d := 5) (maxL := 4) (rest := []) (av := [.ref x0]) (fun T hT X => by obtain ⟨cb9, ra9, rb9, rc9⟩ := xb_recv (ci := 8) hR rfl hk1 (by decide); exact xt_invV X hx hown (hts _ m_b67ad769) (hts _ m_de6782a6) (hts _ m_a7360540) (xt_sigOf (hts _ m_348c2fd1)) nm_M_leastRead (by rw [hT]; exact ra9) rb9 rc9 (g := F0 m 1 ls [.ref x0]) rfl (argsL := []) (rest := []) rfl rfl (by rw [hb]; exact (xb_d D_M_limitsFault 1 rfl))) (ok_M_leastRead l hfl D A σ x0 h _ hw) (hml.trans hl.1.symm) (by rw [hb]; exact (xb_d D_M_limitsFault 1 rfl)) (Nat.le_of_ble_eq_true rfl) (Nat.le_of_ble_eq_true rfl) (Nat.le_of_ble_eq_true rfl) (show k ≤ MC by omega) (show n ≤ MS by omega) (xt_w1 hB.1 m_348c2fd1) (xt_cdOf hB.1 m_348c2fd1) (hts _ m_d5ed7bed) hB hR hS hA (fun vv h2 H locs hq hEh2 hR hS => ?_)
  obtain ⟨r3, rfl, hw⟩ := hq
  have hw := hw hEh2
  have hE := hE.tr hEh2
  refine W.eq (g2 := F0 m 4 ls [.long r3]) rfl ?_
  refine lv_lstore hx hb (xb_d D_M_limitsFault 2 rfl) hl (by decide) rfl (fun ls hl => ?_)
  have hl : lv_has ls 7 [(4, .long r3), (0, .ref x0), (1, .int x1), (2, .int x2), (3, .int x3)] := hl
  refine lv_aload_n hx hb (xb_d D_M_limitsFault 3 rfl) rfl (lv_at hl 1 rfl) ?_
  have hk1 : xb_k h2 x0 = 9 := hEh2.k hk1
  refine xb_getL (C := R_M) (T := F_M) (N := 97) hx hb 8 91 hts fin_M hown hR hk1 (by decide) rfl (by decide) rfl (hts _ m_6aa0a8b9) (fun _ h9 => h9) (xb_d D_M_limitsFault 4 rfl) ?_
  refine lv_lconst (v := 0) hx hb (xb_d D_M_limitsFault 5 rfl) (by decide) ?_
  refine xb_lc_lt (tgt := 25) hx hb (xb_d D_M_limitsFault 6 rfl) (xb_d D_M_limitsFault 7 rfl) rfl (fun hc4 => ?_) (fun hc4 => ?_)
  · have hw := hw.1 hc4
    exact am_M_limitsFault_L25 l hfl D A σ MC MS h0 Qr x0 x1 x2 x3 r3 h2 hw p e s m args below meth c hC H locs ls k n hE (lv_sub hl [1, 2, 3, 4, 0] rfl) hR hS (by omega) (by omega)
  · have hw := hw.2 hc4
    refine lv_aload_n hx hb (xb_d D_M_limitsFault 8 rfl) rfl (lv_at hl 1 rfl) ?_
    refine xb_getL (C := R_M) (T := F_M) (N := 97) hx hb 8 91 hts fin_M hown hR hk1 (by decide) rfl (by decide) rfl (hts _ m_6aa0a8b9) (fun _ h9 => h9) (xb_d D_M_limitsFault 9 rfl) ?_
    refine lv_lload hx hb (xb_d D_M_limitsFault 10 rfl) (lv_at hl 0 rfl) ?_
    refine xb_lc_lt (tgt := 49) hx hb (xb_d D_M_limitsFault 11 rfl) (xb_d D_M_limitsFault 12 rfl) rfl (fun hc5 => ?_) (fun hc5 => ?_)
    · have hw := hw.1 hc5
      exact am_M_limitsFault_L49 l hfl D A σ MC MS h0 Qr x0 x2 x3 h2 hw p e s m args below meth c hC H locs ls k n hE (lv_sub hl [1, 3, 4] rfl) hR hS (by omega) (by omega)
    · have hw := hw.2 hc5
      exact am_M_limitsFault_L25 l hfl D A σ MC MS h0 Qr x0 x1 x2 x3 r3 h2 hw p e s m args below meth c hC H locs ls k n hE (lv_sub hl [1, 2, 3, 4, 0] rfl) hR hS (by omega) (by omega)

set_option maxRecDepth 100000 in
def T_M_ownLeast : List (Nat × Instr × Nat) := [(0, .aload_n 0, 1), (1, .iload_n 1, 1), (2, .iload_n 2, 1), (3, .invokevirtual 316, 3), (6, .ifCond .ne 12, 3), (9, .aload_n 0, 1), (10, .ldc2_w 216, 3), (13, .putfield 345, 3), (16, .lconst 0, 1), (17, .lreturn, 1), (18, .aload_n 0, 1), (19, .iload_n 1, 1), (20, .aload_n 0, 1), (21, .iload_n 1, 1), (22, .iload_n 2, 1), (23, .iconst 0, 1), (24, .invokevirtual 320, 3), (27, .iload_n 2, 1), (28, .iconst 4, 1), (29, .if_icmp .ne 7, 3), (32, .iconst 1, 1), (33, .goto 4, 3), (36, .iconst 0, 1), (37, .iadd, 1), (38, .invokevirtual 324, 3), (41, .aload_n 0, 1), (42, .invokevirtual 349, 3), (45, .lreturn, 1)]
theorem D_M_ownLeast : ∀ q ∈ T_M_ownLeast, decode b_M_ownLeast q.1 = .ok (q.2.1, q.2.2) := by decide +kernel

set_option maxHeartbeats 4000000 in
set_option maxRecDepth 100000 in
theorem am_M_ownLeast_L37 (l : Launch) (hfl : l.flags = pinnedFlags ++ [noTraceFlag]) (D : va_G) (A : Nat → Prop) (σ MC MS : Nat) (h0 : xb_H) (Qr : Int64 → xb_H → Prop) (x0 : Nat) (y0 : Int32) (y1 : Int32) (y2 : Int32) (y3 : Nat) (h : xb_H) (hw : w_M_ownLeast_L37 Qr x0 y0 y1 y2 y3 h) : xb_am l D A σ 6 MC MS h0 (fun v h _ _ => ∃ r, v = some (.long r) ∧ Qr r h) (fun _ _ _ _ => False) y_M_ownLeast.cls y_M_ownLeast.name b_M_ownLeast 3 ([] : List ExceptionTableEntry) (some .long) 37 [(0, .ref x0)] [.int y0, .int y1, .int y2, .ref y3] h 0 0 := by
  unfold w_M_ownLeast_L37 at hw
  intro p e s m args below meth c hC H locs ls k n hE hl hR hS hk hn
  obtain ⟨hx, hb, hown, hlocks, htab, hml, hr, hB, hA, hnm⟩ := id hC
  have hts := hB.1.1.at args
  refine lv_iadd hx hb (xb_d D_M_ownLeast 23 rfl) ?_
  obtain ⟨hk1, hw⟩ := hw
  refine xb_call0 (D := D) (A := A) (σ := σ) (h := h) (d := 2) (maxL := 3) (rest := []) (av := [.ref y3, .int y2, .int (y1 + y0)]) (fun T hT X => by obtain ⟨cb9, ra9, rb9, rc9⟩ := xb_recv (ci := 8) hR rfl hk1 (by decide); exact xt_invV X hx hown (hts _ m_bb531879) (hts _ m_4a6cd4a0) (hts _ m_d1c31e3c) (xt_sigOf (hts _ m_48217fba)) nm_M_go (by rw [hT]; exact ra9) rb9 rc9 (g := F0 m 38 ls [.int (y1 + y0), .int y2, .ref y3]) rfl (argsL := [.int y2, .int (y1 + y0)]) (rest := []) rfl rfl (by rw [hb]; exact (xb_d D_M_ownLeast 24 rfl))) (ok_M_go l hfl D A σ y3 y2 (y1 + y0) h _ hw) (hml.trans hl.1.symm) (by rw [hb]; exact (xb_d D_M_ownLeast 24 rfl)) (Nat.le_of_ble_eq_true rfl) (Nat.le_of_ble_eq_true rfl) (Nat.le_of_ble_eq_true rfl) (show k ≤ MC by omega) (show n ≤ MS by omega) (xt_w1 hB.1 m_48217fba) (xt_cdOf hB.1 m_48217fba) (hts _ m_d5ed7bed) hB hR hS hA (fun vv h2 H locs hq hEh2 hR hS => ?_)
  obtain ⟨rfl, hw⟩ := hq
  have hw := hw hEh2
  have hE := hE.tr hEh2
  refine W.eq (g2 := F0 m 41 ls []) rfl ?_
  refine lv_aload_n hx hb (xb_d D_M_ownLeast 25 rfl) rfl (lv_at hl 0 rfl) ?_
  obtain ⟨hk4, hw⟩ := hw
  refine xb_call0 (D := D) (A := A) (σ := σ) (h := h2) (d := 5) (maxL := 4) (rest := []) (av := [.ref x0]) (fun T hT X => by obtain ⟨cb9, ra9, rb9, rc9⟩ := xb_recv (ci := 8) hR rfl hk4 (by decide); exact xt_invV X hx hown (hts _ m_b67ad769) (hts _ m_de6782a6) (hts _ m_a7360540) (xt_sigOf (hts _ m_348c2fd1)) nm_M_leastRead (by rw [hT]; exact ra9) rb9 rc9 (g := F0 m 42 ls [.ref x0]) rfl (argsL := []) (rest := []) rfl rfl (by rw [hb]; exact (xb_d D_M_ownLeast 26 rfl))) (ok_M_leastRead l hfl D A σ x0 h2 _ hw) (hml.trans hl.1.symm) (by rw [hb]; exact (xb_d D_M_ownLeast 26 rfl)) (Nat.le_of_ble_eq_true rfl) (Nat.le_of_ble_eq_true rfl) (Nat.le_of_ble_eq_true rfl) (show k ≤ MC by omega) (show n ≤ MS by omega) (xt_w1 hB.1 m_348c2fd1) (xt_cdOf hB.1 m_348c2fd1) (hts _ m_d5ed7bed) hB hR hS hA (fun vv h5 H locs hq hEh5 hR hS => ?_)
  obtain ⟨r6, rfl, hw⟩ := hq
  have hw := hw hEh5
  have hE := hE.tr hEh5
  refine W.eq (g2 := F0 m 45 ls [.long r6]) rfl ?_
  exact xb_lret 0 0 hx hb hr hlocks (show k + 0 ≤ MC by omega) (show n + 0 ≤ MS by omega) hE hR hS (xb_d D_M_ownLeast 27 rfl) hw

set_option maxHeartbeats 4000000 in
set_option maxRecDepth 100000 in
theorem ok_M_ownLeast (l : Launch) (hfl : l.flags = pinnedFlags ++ [noTraceFlag]) (D : va_G) (A : Nat → Prop) (σ : Nat) (x0 : Nat) (x1 : Int32) (x2 : Int32) (h : xb_H) (Qr : Int64 → xb_H → Prop) (hw : w_M_ownLeast x0 x1 x2 h Qr) : xb_Met l y_M_ownLeast [.code y_M_ownLeast b_M_ownLeast 3 (some .long)] (xb_rm 6 0 0) (xb_Pc D A σ h [.ref x0, .int x1, .int x2]) (xb_Qc D A h 0 0 (fun v h _ _ => ∃ r, v = some (.long r) ∧ Qr r h) (fun _ _ _ _ => False)) A := by
  refine xb_ofAm (cc := b_M_ownLeast) (by decide) (Nat.le_of_ble_eq_true rfl) ?_
  unfold w_M_ownLeast at hw
  show xb_am l D A σ 6 0 0 h (fun v h _ _ => ∃ r, v = some (.long r) ∧ Qr r h) (fun _ _ _ _ => False) y_M_ownLeast.cls y_M_ownLeast.name b_M_ownLeast 3 ([] : List ExceptionTableEntry) (some .long) 0 [(0, .ref x0), (1, .int x1), (2, .int x2)] [] h 0 0
  obtain ⟨MC, hMC⟩ : ∃ x, x = 0 := ⟨_, rfl⟩
  obtain ⟨MS, hMS⟩ : ∃ x, x = 0 := ⟨_, rfl⟩
  rw [show xb_am l D A σ 6 0 0 = xb_am l D A σ 6 MC MS by rw [hMC, hMS]]
  obtain ⟨h0, hh0⟩ : ∃ x, x = h := ⟨_, rfl⟩
  rw [show xb_am l D A σ 6 MC MS h = xb_am l D A σ 6 MC MS h0 by rw [hh0]]
  intro p e s m args below meth c hC H locs ls k n hE hl hR hS hk hn
  obtain ⟨hx, hb, hown, hlocks, htab, hml, hr, hB, hA, hnm⟩ := id hC
  have hts := hB.1.1.at args
  refine lv_aload_n hx hb (xb_d D_M_ownLeast 0 rfl) rfl (lv_at hl 0 rfl) ?_
  refine lv_iload_n hx hb (xb_d D_M_ownLeast 1 rfl) rfl (lv_at hl 1 rfl) ?_
  refine lv_iload_n hx hb (xb_d D_M_ownLeast 2 rfl) rfl (lv_at hl 2 rfl) ?_
  obtain ⟨hk1, hw⟩ := hw
  refine xb_call0 (D := D) (A := A) (σ := σ) (h := h) (d := 2) (maxL := 3) (rest := []) (av := [.ref x0, .int x1, .int x2]) (fun T hT X => by obtain ⟨cb9, ra9, rb9, rc9⟩ := xb_recv (ci := 8) hR rfl hk1 (by decide); exact xt_invV X hx hown (hts _ m_b47f62c2) (hts _ m_9f071faf) (hts _ m_e1bb5c84) (xt_sigOf (hts _ m_3a6212d6)) nm_M_manyOf (by rw [hT]; exact ra9) rb9 rc9 (g := F0 m 3 ls [.int x2, .int x1, .ref x0]) rfl (argsL := [.int x1, .int x2]) (rest := []) rfl rfl (by rw [hb]; exact (xb_d D_M_ownLeast 3 rfl))) (ok_M_manyOf l hfl D A σ x0 x1 x2 h _ hw) (hml.trans hl.1.symm) (by rw [hb]; exact (xb_d D_M_ownLeast 3 rfl)) (Nat.le_of_ble_eq_true rfl) (Nat.le_of_ble_eq_true rfl) (Nat.le_of_ble_eq_true rfl) (show k ≤ MC by omega) (show n ≤ MS by omega) (xt_w1 hB.1 m_3a6212d6) (xt_cdOf hB.1 m_3a6212d6) (hts _ m_d5ed7bed) hB hR hS hA (fun vv h2 H locs hq hEh2 hR hS => ?_)
  obtain ⟨r3, rfl, hw⟩ := hq
  have hw := hw hEh2
  have hE := hE.tr hEh2
  refine W.eq (g2 := F0 m 6 ls [.int r3]) rfl ?_
  refine lv_if_ne (tgt := 18) hx hb (xb_d D_M_ownLeast 4 rfl) rfl (fun hc4 => ?_) (fun hc4 => ?_)
  · have hw := hw.1 hc4
    refine lv_aload_n hx hb (xb_d D_M_ownLeast 10 rfl) rfl (lv_at hl 0 rfl) ?_
    refine lv_iload_n hx hb (xb_d D_M_ownLeast 11 rfl) rfl (lv_at hl 1 rfl) ?_
    refine lv_aload_n hx hb (xb_d D_M_ownLeast 12 rfl) rfl (lv_at hl 0 rfl) ?_
    refine lv_iload_n hx hb (xb_d D_M_ownLeast 13 rfl) rfl (lv_at hl 1 rfl) ?_
    refine lv_iload_n hx hb (xb_d D_M_ownLeast 14 rfl) rfl (lv_at hl 2 rfl) ?_
    refine lv_iconst (v := 0) hx hb (xb_d D_M_ownLeast 15 rfl) (by decide) ?_
    have hk1 : xb_k h2 x0 = 9 := hEh2.k hk1
    refine xb_call0 (D := D) (A := A) (σ := σ) (h := h2) (d := 2) (maxL := 4) (rest := [.int x1, .ref x0]) (av := [.ref x0, .int x1, .int x2, .int 0]) (fun T hT X => by obtain ⟨cb9, ra9, rb9, rc9⟩ := xb_recv (ci := 8) hR rfl hk1 (by decide); exact xt_invV X hx hown (hts _ m_7f41753e) (hts _ m_8cdd7108) (hts _ m_e228318f) (xt_sigOf (hts _ m_89667ad5)) nm_M_placeOf (by rw [hT]; exact ra9) rb9 rc9 (g := F0 m 24 ls [.int 0, .int x2, .int x1, .ref x0, .int x1, .ref x0]) rfl (argsL := [.int x1, .int x2, .int 0]) (rest := [.int x1, .ref x0]) rfl rfl (by rw [hb]; exact (xb_d D_M_ownLeast 16 rfl))) (ok_M_placeOf l hfl D A σ x0 x1 x2 0 h2 _ hw) (hml.trans hl.1.symm) (by rw [hb]; exact (xb_d D_M_ownLeast 16 rfl)) (Nat.le_of_ble_eq_true rfl) (Nat.le_of_ble_eq_true rfl) (Nat.le_of_ble_eq_true rfl) (show k ≤ MC by omega) (show n ≤ MS by omega) (xt_w1 hB.1 m_89667ad5) (xt_cdOf hB.1 m_89667ad5) (hts _ m_d5ed7bed) hB hR hS hA (fun vv h5 H locs hq hEh5 hR hS => ?_)
    obtain ⟨r6, rfl, hw⟩ := hq
    have hw := hw hEh5
    have hE := hE.tr hEh5
    refine W.eq (g2 := F0 m 27 ls [.int r6, .int x1, .ref x0]) rfl ?_
    refine lv_iload_n hx hb (xb_d D_M_ownLeast 17 rfl) rfl (lv_at hl 2 rfl) ?_
    refine lv_iconst (v := 4) hx hb (xb_d D_M_ownLeast 18 rfl) (by decide) ?_
    refine lv_icmp_ne (tgt := 36) hx hb (xb_d D_M_ownLeast 19 rfl) rfl (fun hc7 => ?_) (fun hc7 => ?_)
    · have hw := hw.1 hc7
      refine lv_iconst (v := 0) hx hb (xb_d D_M_ownLeast 22 rfl) (by decide) ?_
      exact am_M_ownLeast_L37 l hfl D A σ MC MS h0 Qr x0 0 r6 x1 x0 h5 hw p e s m args below meth c hC H locs ls k n hE (lv_sub hl [0] rfl) hR hS (by omega) (by omega)
    · have hw := hw.2 hc7
      refine lv_iconst (v := 1) hx hb (xb_d D_M_ownLeast 20 rfl) (by decide) ?_
      refine lv_goto (tgt := 37) hx hb (xb_d D_M_ownLeast 21 rfl) rfl ?_
      exact am_M_ownLeast_L37 l hfl D A σ MC MS h0 Qr x0 1 r6 x1 x0 h5 hw p e s m args below meth c hC H locs ls k n hE (lv_sub hl [0] rfl) hR hS (by omega) (by omega)
  · have hw := hw.2 hc4
    refine lv_aload_n hx hb (xb_d D_M_ownLeast 5 rfl) rfl (lv_at hl 0 rfl) ?_
    refine lv_ldc2 (v := (-1)) hx hb hown (hts _ m_a1d4f677) (xb_d D_M_ownLeast 6 rfl) ?_
    have hk1 : xb_k h2 x0 = 9 := hEh2.k hk1
    refine xb_putL (C := R_M) (T := F_M) (N := 97) (ty := .long) (x := (-1)) hx hb 8 91 hts fin_M t_M t_M_ok n_M hown hR hS hk1 (by decide) rfl (by decide) rfl (hts _ m_6aa0a8b9) (fun _ h9 => h9) rfl (by decide +kernel) rfl rfl (xb_d D_M_ownLeast 7 rfl) (fun H locs hR hS => ?_)
    obtain ⟨h8, eh8⟩ : ∃ x : xb_H, x = xb_L h2 x0 91 (-1) := ⟨_, rfl⟩
    rw [← eh8] at hR
    have hw := hw h8 eh8
    have hE : xb_ext h0 h8 := by rw [eh8]; exact hE
    refine lv_lconst (v := 0) hx hb (xb_d D_M_ownLeast 8 rfl) (by decide) ?_
    exact xb_lret 0 0 hx hb hr hlocks (show k + 0 ≤ MC by omega) (show n + 0 ≤ MS by omega) hE hR hS (xb_d D_M_ownLeast 9 rfl) hw

theorem m_4fd64ef0 : (.methodLink "StackHostModel" 333 y_M_parameters : Cond) ∈ xt_tbl := xt_in (xt_t11 (List.mem_of_getElem? (i := 68) (by decide +kernel))) (by decide +kernel)
theorem m_2eb48211 : (.instanceMethod y_M_parameters : Cond) ∈ xt_tbl := xt_in (xt_t11 (List.mem_of_getElem? (i := 70) (by decide +kernel))) (by decide +kernel)
theorem m_ff1f4a94 : (.selects "StackHostModel" y_M_parameters y_M_parameters : Cond) ∈ xt_tbl := xt_in (xt_v10 (q := (⟨"StackHostModel", "parameters", "(II)I"⟩, 97)) (List.mem_of_getElem? (i := 9) (by decide +kernel))) (by decide +kernel)
theorem m_2faa0c5c : (.code y_M_parameters b_M_parameters 3 (some .int) : Cond) ∈ xt_tbl := xt_in (xt_t11 (List.mem_of_getElem? (i := 71) (by decide +kernel))) (by decide +kernel)
theorem nm_M_parameters : xt_nm y_M_parameters 2 := ⟨by decide +kernel, by decide +kernel⟩
set_option maxRecDepth 100000 in
def T_M_parameter : List (Nat × Instr × Nat) := [(0, .aload_n 0, 1), (1, .iload_n 1, 1), (2, .iload_n 2, 1), (3, .invokevirtual 333, 3), (6, .istore 4, 2), (8, .iload_n 3, 1), (9, .iload 4, 2), (11, .if_icmp .ge 21, 3), (14, .aload_n 0, 1), (15, .getfield 14, 3), (18, .aload_n 0, 1), (19, .getfield 202, 3), (22, .iload_n 3, 1), (23, .iadd, 1), (24, .baload, 1), (25, .sipush 255, 3), (28, .iand, 1), (29, .goto 5, 3), (32, .bipush 64, 2), (34, .ireturn, 1)]
theorem D_M_parameter : ∀ q ∈ T_M_parameter, decode b_M_parameter q.1 = .ok (q.2.1, q.2.2) := by decide +kernel

set_option maxHeartbeats 4000000 in
set_option maxRecDepth 100000 in
theorem am_M_parameter_L34 (l : Launch) (hfl : l.flags = pinnedFlags ++ [noTraceFlag]) (D : va_G) (A : Nat → Prop) (σ MC MS : Nat) (h0 : xb_H) (Qr : Int32 → xb_H → Prop) (y0 : Int32) (h : xb_H) (hw : w_M_parameter_L34 Qr y0 h) : xb_am l D A σ 6 MC MS h0 (fun v h _ _ => ∃ r, v = some (.int r) ∧ Qr r h) (fun _ _ _ _ => False) y_M_parameter.cls y_M_parameter.name b_M_parameter 5 ([] : List ExceptionTableEntry) (some .int) 34 [] [.int y0] h 0 0 := by
  unfold w_M_parameter_L34 at hw
  intro p e s m args below meth c hC H locs ls k n hE hl hR hS hk hn
  obtain ⟨hx, hb, hown, hlocks, htab, hml, hr, hB, hA, hnm⟩ := id hC
  have hts := hB.1.1.at args
  exact xb_iret 0 0 hx hb hr hlocks (show k + 0 ≤ MC by omega) (show n + 0 ≤ MS by omega) hE hR hS (xb_d D_M_parameter 19 rfl) hw

set_option maxHeartbeats 4000000 in
set_option maxRecDepth 100000 in
theorem ok_M_parameter (l : Launch) (hfl : l.flags = pinnedFlags ++ [noTraceFlag]) (D : va_G) (A : Nat → Prop) (σ : Nat) (x0 : Nat) (x1 : Int32) (x2 : Int32) (x3 : Int32) (h : xb_H) (Qr : Int32 → xb_H → Prop) (hw : w_M_parameter x0 x1 x2 x3 h Qr) : xb_Met l y_M_parameter [.code y_M_parameter b_M_parameter 5 (some .int)] (xb_rm 6 0 0) (xb_Pc D A σ h [.ref x0, .int x1, .int x2, .int x3]) (xb_Qc D A h 0 0 (fun v h _ _ => ∃ r, v = some (.int r) ∧ Qr r h) (fun _ _ _ _ => False)) A := by
  refine xb_ofAm (cc := b_M_parameter) (by decide) (Nat.le_of_ble_eq_true rfl) ?_
  unfold w_M_parameter at hw
  show xb_am l D A σ 6 0 0 h (fun v h _ _ => ∃ r, v = some (.int r) ∧ Qr r h) (fun _ _ _ _ => False) y_M_parameter.cls y_M_parameter.name b_M_parameter 5 ([] : List ExceptionTableEntry) (some .int) 0 [(0, .ref x0), (1, .int x1), (2, .int x2), (3, .int x3)] [] h 0 0
  obtain ⟨MC, hMC⟩ : ∃ x, x = 0 := ⟨_, rfl⟩
  obtain ⟨MS, hMS⟩ : ∃ x, x = 0 := ⟨_, rfl⟩
  rw [show xb_am l D A σ 6 0 0 = xb_am l D A σ 6 MC MS by rw [hMC, hMS]]
  obtain ⟨h0, hh0⟩ : ∃ x, x = h := ⟨_, rfl⟩
  rw [show xb_am l D A σ 6 MC MS h = xb_am l D A σ 6 MC MS h0 by rw [hh0]]
  intro p e s m args below meth c hC H locs ls k n hE hl hR hS hk hn
  obtain ⟨hx, hb, hown, hlocks, htab, hml, hr, hB, hA, hnm⟩ := id hC
  have hts := hB.1.1.at args
  refine lv_aload_n hx hb (xb_d D_M_parameter 0 rfl) rfl (lv_at hl 0 rfl) ?_
  refine lv_iload_n hx hb (xb_d D_M_parameter 1 rfl) rfl (lv_at hl 1 rfl) ?_
  refine lv_iload_n hx hb (xb_d D_M_parameter 2 rfl) rfl (lv_at hl 2 rfl) ?_
  obtain ⟨hk1, hw⟩ := hw
  refine xb_call0 (D := D) (A := A) (σ := σ) (h := h) (d := 5) (maxL := 3) (rest := []) (av := [.ref x0, .int x1, .int x2]) (fun T hT X => by obtain ⟨cb9, ra9, rb9, rc9⟩ := xb_recv (ci := 8) hR rfl hk1 (by decide); exact xt_invV X hx hown (hts _ m_4fd64ef0) (hts _ m_2eb48211) (hts _ m_ff1f4a94) (xt_sigOf (hts _ m_2faa0c5c)) nm_M_parameters (by rw [hT]; exact ra9) rb9 rc9 (g := F0 m 3 ls [.int x2, .int x1, .ref x0]) rfl (argsL := [.int x1, .int x2]) (rest := []) rfl rfl (by rw [hb]; exact (xb_d D_M_parameter 3 rfl))) (ok_M_parameters l hfl D A σ x0 x1 x2 h _ hw) (hml.trans hl.1.symm) (by rw [hb]; exact (xb_d D_M_parameter 3 rfl)) (Nat.le_of_ble_eq_true rfl) (Nat.le_of_ble_eq_true rfl) (Nat.le_of_ble_eq_true rfl) (show k ≤ MC by omega) (show n ≤ MS by omega) (xt_w1 hB.1 m_2faa0c5c) (xt_cdOf hB.1 m_2faa0c5c) (hts _ m_d5ed7bed) hB hR hS hA (fun vv h2 H locs hq hEh2 hR hS => ?_)
  obtain ⟨r3, rfl, hw⟩ := hq
  have hw := hw hEh2
  have hE := hE.tr hEh2
  refine W.eq (g2 := F0 m 6 ls [.int r3]) rfl ?_
  refine lv_istore hx hb (xb_d D_M_parameter 4 rfl) hl (by decide) rfl (fun ls hl => ?_)
  have hl : lv_has ls 5 [(4, .int r3), (0, .ref x0), (1, .int x1), (2, .int x2), (3, .int x3)] := hl
  refine lv_iload_n hx hb (xb_d D_M_parameter 5 rfl) rfl (lv_at hl 4 rfl) ?_
  refine lv_iload hx hb (xb_d D_M_parameter 6 rfl) (lv_at hl 0 rfl) ?_
  refine lv_icmp_ge (tgt := 32) hx hb (xb_d D_M_parameter 7 rfl) rfl (fun hc4 => ?_) (fun hc4 => ?_)
  · have hw := hw.1 hc4
    refine lv_bipush (v := 64) hx hb (xb_d D_M_parameter 18 rfl) (by decide) ?_
    exact am_M_parameter_L34 l hfl D A σ MC MS h0 Qr 64 h2 hw p e s m args below meth c hC H locs ls k n hE (lv_sub hl [] rfl) hR hS (by omega) (by omega)
  · have hw := hw.2 hc4
    refine lv_aload_n hx hb (xb_d D_M_parameter 8 rfl) rfl (lv_at hl 1 rfl) ?_
    have hk1 : xb_k h2 x0 = 9 := hEh2.k hk1
    refine xb_getP (C := R_M) (T := F_M) (N := 97) hx hb 8 3 hts fin_M hown hR hk1 (by decide) rfl (by decide) rfl (hts _ m_4f0568af) (fun _ h9 => h9) (xb_d D_M_parameter 9 rfl) ?_
    obtain ⟨b5, eb5, hw⟩ := hw
    refine xb_some eb5 ?_
    refine lv_aload_n hx hb (xb_d D_M_parameter 10 rfl) rfl (lv_at hl 1 rfl) ?_
    refine xb_getI (C := R_M) (T := F_M) (N := 97) hx hb 8 15 hts fin_M hown hR hk1 (by decide) rfl (by decide) rfl (hts _ m_6c2d27ad) (fun _ h9 => h9) (xb_d D_M_parameter 11 rfl) ?_
    refine lv_iload_n hx hb (xb_d D_M_parameter 12 rfl) rfl (lv_at hl 4 rfl) ?_
    refine lv_iadd hx hb (xb_d D_M_parameter 13 rfl) ?_
    obtain ⟨hk7, hw⟩ := hw
    obtain ⟨hi6, hw⟩ := hw
    refine xb_bald hx hb hR hk7 hi6 (xb_d D_M_parameter 14 rfl) ?_
    refine lv_sipush (v := 255) hx hb (xb_d D_M_parameter 15 rfl) (by decide) ?_
    refine lv_iand hx hb (xb_d D_M_parameter 16 rfl) ?_
    refine lv_goto (tgt := 34) hx hb (xb_d D_M_parameter 17 rfl) rfl ?_
    exact am_M_parameter_L34 l hfl D A σ MC MS h0 Qr ((xb_i h2 b5 (Int32.toNatClampNeg ((xb_i h2 x0 15) + x3))) &&& 255) h2 hw p e s m args below meth c hC H locs ls k n hE (lv_sub hl [] rfl) hR hS (by omega) (by omega)

set_option maxRecDepth 100000 in
def T_M_resultOf : List (Nat × Instr × Nat) := [(0, .aload_n 0, 1), (1, .iload_n 1, 1), (2, .iload_n 2, 1), (3, .invokevirtual 333, 3), (6, .istore_n 3, 1), (7, .aload_n 0, 1), (8, .aload_n 0, 1), (9, .getfield 202, 3), (12, .iload_n 3, 1), (13, .iadd, 1), (14, .putfield 202, 3), (17, .aload_n 0, 1), (18, .invokevirtual 218, 3), (21, .lconst 0, 1), (22, .lcmp, 1), (23, .ifCond .ne 8, 3), (26, .bipush 64, 2), (28, .goto 16, 3), (31, .aload_n 0, 1), (32, .getfield 14, 3), (35, .aload_n 0, 1), (36, .getfield 202, 3), (39, .baload, 1), (40, .sipush 255, 3), (43, .iand, 1), (44, .ireturn, 1)]
theorem D_M_resultOf : ∀ q ∈ T_M_resultOf, decode b_M_resultOf q.1 = .ok (q.2.1, q.2.2) := by decide +kernel

set_option maxHeartbeats 4000000 in
set_option maxRecDepth 100000 in
theorem am_M_resultOf_L44 (l : Launch) (hfl : l.flags = pinnedFlags ++ [noTraceFlag]) (D : va_G) (A : Nat → Prop) (σ MC MS : Nat) (h0 : xb_H) (Qr : Int32 → xb_H → Prop) (y0 : Int32) (h : xb_H) (hw : w_M_resultOf_L44 Qr y0 h) : xb_am l D A σ 6 MC MS h0 (fun v h _ _ => ∃ r, v = some (.int r) ∧ Qr r h) (fun _ _ _ _ => False) y_M_resultOf.cls y_M_resultOf.name b_M_resultOf 4 ([] : List ExceptionTableEntry) (some .int) 44 [] [.int y0] h 0 0 := by
  unfold w_M_resultOf_L44 at hw
  intro p e s m args below meth c hC H locs ls k n hE hl hR hS hk hn
  obtain ⟨hx, hb, hown, hlocks, htab, hml, hr, hB, hA, hnm⟩ := id hC
  have hts := hB.1.1.at args
  exact xb_iret 0 0 hx hb hr hlocks (show k + 0 ≤ MC by omega) (show n + 0 ≤ MS by omega) hE hR hS (xb_d D_M_resultOf 25 rfl) hw

set_option maxHeartbeats 4000000 in
set_option maxRecDepth 100000 in
theorem ok_M_resultOf (l : Launch) (hfl : l.flags = pinnedFlags ++ [noTraceFlag]) (D : va_G) (A : Nat → Prop) (σ : Nat) (x0 : Nat) (x1 : Int32) (x2 : Int32) (h : xb_H) (Qr : Int32 → xb_H → Prop) (hw : w_M_resultOf x0 x1 x2 h Qr) : xb_Met l y_M_resultOf [.code y_M_resultOf b_M_resultOf 4 (some .int)] (xb_rm 6 0 0) (xb_Pc D A σ h [.ref x0, .int x1, .int x2]) (xb_Qc D A h 0 0 (fun v h _ _ => ∃ r, v = some (.int r) ∧ Qr r h) (fun _ _ _ _ => False)) A := by
  refine xb_ofAm (cc := b_M_resultOf) (by decide) (Nat.le_of_ble_eq_true rfl) ?_
  unfold w_M_resultOf at hw
  show xb_am l D A σ 6 0 0 h (fun v h _ _ => ∃ r, v = some (.int r) ∧ Qr r h) (fun _ _ _ _ => False) y_M_resultOf.cls y_M_resultOf.name b_M_resultOf 4 ([] : List ExceptionTableEntry) (some .int) 0 [(0, .ref x0), (1, .int x1), (2, .int x2)] [] h 0 0
  obtain ⟨MC, hMC⟩ : ∃ x, x = 0 := ⟨_, rfl⟩
  obtain ⟨MS, hMS⟩ : ∃ x, x = 0 := ⟨_, rfl⟩
  rw [show xb_am l D A σ 6 0 0 = xb_am l D A σ 6 MC MS by rw [hMC, hMS]]
  obtain ⟨h0, hh0⟩ : ∃ x, x = h := ⟨_, rfl⟩
  rw [show xb_am l D A σ 6 MC MS h = xb_am l D A σ 6 MC MS h0 by rw [hh0]]
  intro p e s m args below meth c hC H locs ls k n hE hl hR hS hk hn
  obtain ⟨hx, hb, hown, hlocks, htab, hml, hr, hB, hA, hnm⟩ := id hC
  have hts := hB.1.1.at args
  refine lv_aload_n hx hb (xb_d D_M_resultOf 0 rfl) rfl (lv_at hl 0 rfl) ?_
  refine lv_iload_n hx hb (xb_d D_M_resultOf 1 rfl) rfl (lv_at hl 1 rfl) ?_
  refine lv_iload_n hx hb (xb_d D_M_resultOf 2 rfl) rfl (lv_at hl 2 rfl) ?_
  obtain ⟨hk1, hw⟩ := hw
  refine xb_call0 (D := D) (A := A) (σ := σ) (h := h) (d := 5) (maxL := 3) (rest := []) (av := [.ref x0, .int x1, .int x2]) (fun T hT X => by obtain ⟨cb9, ra9, rb9, rc9⟩ := xb_recv (ci := 8) hR rfl hk1 (by decide); exact xt_invV X hx hown (hts _ m_4fd64ef0) (hts _ m_2eb48211) (hts _ m_ff1f4a94) (xt_sigOf (hts _ m_2faa0c5c)) nm_M_parameters (by rw [hT]; exact ra9) rb9 rc9 (g := F0 m 3 ls [.int x2, .int x1, .ref x0]) rfl (argsL := [.int x1, .int x2]) (rest := []) rfl rfl (by rw [hb]; exact (xb_d D_M_resultOf 3 rfl))) (ok_M_parameters l hfl D A σ x0 x1 x2 h _ hw) (hml.trans hl.1.symm) (by rw [hb]; exact (xb_d D_M_resultOf 3 rfl)) (Nat.le_of_ble_eq_true rfl) (Nat.le_of_ble_eq_true rfl) (Nat.le_of_ble_eq_true rfl) (show k ≤ MC by omega) (show n ≤ MS by omega) (xt_w1 hB.1 m_2faa0c5c) (xt_cdOf hB.1 m_2faa0c5c) (hts _ m_d5ed7bed) hB hR hS hA (fun vv h2 H locs hq hEh2 hR hS => ?_)
  obtain ⟨r3, rfl, hw⟩ := hq
  have hw := hw hEh2
  have hE := hE.tr hEh2
  refine W.eq (g2 := F0 m 6 ls [.int r3]) rfl ?_
  refine lv_istore_n hx hb (xb_d D_M_resultOf 4 rfl) rfl hl (by decide) rfl (fun ls hl => ?_)
  have hl : lv_has ls 4 [(3, .int r3), (0, .ref x0), (1, .int x1), (2, .int x2)] := hl
  refine lv_aload_n hx hb (xb_d D_M_resultOf 5 rfl) rfl (lv_at hl 1 rfl) ?_
  refine lv_aload_n hx hb (xb_d D_M_resultOf 6 rfl) rfl (lv_at hl 1 rfl) ?_
  have hk1 : xb_k h2 x0 = 9 := hEh2.k hk1
  refine xb_getI (C := R_M) (T := F_M) (N := 97) hx hb 8 15 hts fin_M hown hR hk1 (by decide) rfl (by decide) rfl (hts _ m_6c2d27ad) (fun _ h9 => h9) (xb_d D_M_resultOf 7 rfl) ?_
  refine lv_iload_n hx hb (xb_d D_M_resultOf 8 rfl) rfl (lv_at hl 0 rfl) ?_
  refine lv_iadd hx hb (xb_d D_M_resultOf 9 rfl) ?_
  refine xb_putI (C := R_M) (T := F_M) (N := 97) (ty := .int) (x := ((xb_i h2 x0 15) + r3)) hx hb 8 15 hts fin_M t_M t_M_ok n_M hown hR hS hk1 (by decide) rfl (by decide) rfl (hts _ m_6c2d27ad) (fun _ h9 => h9) rfl (by decide +kernel) rfl rfl (xb_d D_M_resultOf 10 rfl) (fun H locs hR hS => ?_)
  obtain ⟨h4, eh4⟩ : ∃ x : xb_H, x = xb_I h2 x0 15 ((xb_i h2 x0 15) + r3) := ⟨_, rfl⟩
  rw [← eh4] at hR
  have hw := hw h4 eh4
  have hE : xb_ext h0 h4 := by rw [eh4]; exact hE
  refine lv_aload_n hx hb (xb_d D_M_resultOf 11 rfl) rfl (lv_at hl 1 rfl) ?_
  have hk1 : xb_k h4 x0 = 9 := by rw [eh4]; exact hk1
  refine xb_call0 (D := D) (A := A) (σ := σ) (h := h4) (d := 4) (maxL := 5) (rest := []) (av := [.ref x0]) (fun T hT X => by obtain ⟨cb9, ra9, rb9, rc9⟩ := xb_recv (ci := 8) hR rfl hk1 (by decide); exact xt_invV X hx hown (hts _ m_e991293f) (hts _ m_385a74b3) (hts _ m_c9fbcd02) (xt_sigOf (hts _ m_1f53f210)) nm_M_count (by rw [hT]; exact ra9) rb9 rc9 (g := F0 m 18 ls [.ref x0]) rfl (argsL := []) (rest := []) rfl rfl (by rw [hb]; exact (xb_d D_M_resultOf 12 rfl))) (ok_M_count l hfl D A σ x0 h4 _ hw) (hml.trans hl.1.symm) (by rw [hb]; exact (xb_d D_M_resultOf 12 rfl)) (Nat.le_of_ble_eq_true rfl) (Nat.le_of_ble_eq_true rfl) (Nat.le_of_ble_eq_true rfl) (show k ≤ MC by omega) (show n ≤ MS by omega) (xt_w1 hB.1 m_1f53f210) (xt_cdOf hB.1 m_1f53f210) (hts _ m_d5ed7bed) hB hR hS hA (fun vv h5 H locs hq hEh5 hR hS => ?_)
  obtain ⟨r6, rfl, hw⟩ := hq
  have hw := hw hEh5
  have hE := hE.tr hEh5
  refine W.eq (g2 := F0 m 21 ls [.long r6]) rfl ?_
  refine lv_lconst (v := 0) hx hb (xb_d D_M_resultOf 13 rfl) (by decide) ?_
  refine xb_lc_ne (tgt := 31) hx hb (xb_d D_M_resultOf 14 rfl) (xb_d D_M_resultOf 15 rfl) rfl (fun hc7 => ?_) (fun hc7 => ?_)
  · have hw := hw.1 hc7
    refine lv_aload_n hx hb (xb_d D_M_resultOf 18 rfl) rfl (lv_at hl 1 rfl) ?_
    have hk1 : xb_k h5 x0 = 9 := hEh5.k hk1
    refine xb_getP (C := R_M) (T := F_M) (N := 97) hx hb 8 3 hts fin_M hown hR hk1 (by decide) rfl (by decide) rfl (hts _ m_4f0568af) (fun _ h9 => h9) (xb_d D_M_resultOf 19 rfl) ?_
    obtain ⟨b8, eb8, hw⟩ := hw
    refine xb_some eb8 ?_
    refine lv_aload_n hx hb (xb_d D_M_resultOf 20 rfl) rfl (lv_at hl 1 rfl) ?_
    refine xb_getI (C := R_M) (T := F_M) (N := 97) hx hb 8 15 hts fin_M hown hR hk1 (by decide) rfl (by decide) rfl (hts _ m_6c2d27ad) (fun _ h9 => h9) (xb_d D_M_resultOf 21 rfl) ?_
    obtain ⟨hk10, hw⟩ := hw
    obtain ⟨hi9, hw⟩ := hw
    refine xb_bald hx hb hR hk10 hi9 (xb_d D_M_resultOf 22 rfl) ?_
    refine lv_sipush (v := 255) hx hb (xb_d D_M_resultOf 23 rfl) (by decide) ?_
    refine lv_iand hx hb (xb_d D_M_resultOf 24 rfl) ?_
    exact am_M_resultOf_L44 l hfl D A σ MC MS h0 Qr ((xb_i h5 b8 (Int32.toNatClampNeg (xb_i h5 x0 15))) &&& 255) h5 hw p e s m args below meth c hC H locs ls k n hE (lv_sub hl [] rfl) hR hS (by omega) (by omega)
  · have hw := hw.2 hc7
    refine lv_bipush (v := 64) hx hb (xb_d D_M_resultOf 16 rfl) (by decide) ?_
    refine lv_goto (tgt := 44) hx hb (xb_d D_M_resultOf 17 rfl) rfl ?_
    exact am_M_resultOf_L44 l hfl D A σ MC MS h0 Qr 64 h5 hw p e s m args below meth c hC H locs ls k n hE (lv_sub hl [] rfl) hR hS (by omega) (by omega)

theorem m_27918af5 : (.methodLink "StackHostModel" 237 y_M_limits : Cond) ∈ xt_tbl := xt_in (xt_t11 (List.mem_of_getElem? (i := 28) (by decide +kernel))) (by decide +kernel)
theorem m_8f0ce704 : (.instanceMethod y_M_limits : Cond) ∈ xt_tbl := xt_in (xt_t11 (List.mem_of_getElem? (i := 30) (by decide +kernel))) (by decide +kernel)
theorem m_1c9ac27d : (.selects "StackHostModel" y_M_limits y_M_limits : Cond) ∈ xt_tbl := xt_in (xt_v10 (q := (⟨"StackHostModel", "limits", "()V"⟩, 97)) (List.mem_of_getElem? (i := 0) (by decide +kernel))) (by decide +kernel)
theorem m_c998ef6e : (.code y_M_limits b_M_limits 3 none : Cond) ∈ xt_tbl := xt_in (xt_t11 (List.mem_of_getElem? (i := 31) (by decide +kernel))) (by decide +kernel)
theorem nm_M_limits : xt_nm y_M_limits 0 := ⟨by decide +kernel, by decide +kernel⟩
set_option maxRecDepth 100000 in
def T_M_tableType : List (Nat × Instr × Nat) := [(0, .aload_n 0, 1), (1, .bipush 112, 2), (3, .bipush 112, 2), (5, .invokevirtual 234, 3), (8, .aload_n 0, 1), (9, .invokevirtual 237, 3), (12, .return_, 1)]
theorem D_M_tableType : ∀ q ∈ T_M_tableType, decode b_M_tableType q.1 = .ok (q.2.1, q.2.2) := by decide +kernel

set_option maxHeartbeats 4000000 in
set_option maxRecDepth 100000 in
theorem ok_M_tableType (l : Launch) (hfl : l.flags = pinnedFlags ++ [noTraceFlag]) (D : va_G) (A : Nat → Prop) (σ : Nat) (x0 : Nat) (h : xb_H) (Qr : xb_H → Prop) (hw : w_M_tableType x0 h Qr) : xb_Met l y_M_tableType [.code y_M_tableType b_M_tableType 1 none] (xb_rm 6 0 0) (xb_Pc D A σ h [.ref x0]) (xb_Qc D A h 0 0 (fun v h _ _ => v = none ∧ Qr h) (fun _ _ _ _ => False)) A := by
  refine xb_ofAm (cc := b_M_tableType) (by decide) (Nat.le_of_ble_eq_true rfl) ?_
  unfold w_M_tableType at hw
  show xb_am l D A σ 6 0 0 h (fun v h _ _ => v = none ∧ Qr h) (fun _ _ _ _ => False) y_M_tableType.cls y_M_tableType.name b_M_tableType 1 ([] : List ExceptionTableEntry) none 0 [(0, .ref x0)] [] h 0 0
  obtain ⟨MC, hMC⟩ : ∃ x, x = 0 := ⟨_, rfl⟩
  obtain ⟨MS, hMS⟩ : ∃ x, x = 0 := ⟨_, rfl⟩
  rw [show xb_am l D A σ 6 0 0 = xb_am l D A σ 6 MC MS by rw [hMC, hMS]]
  obtain ⟨h0, hh0⟩ : ∃ x, x = h := ⟨_, rfl⟩
  rw [show xb_am l D A σ 6 MC MS h = xb_am l D A σ 6 MC MS h0 by rw [hh0]]
  intro p e s m args below meth c hC H locs ls k n hE hl hR hS hk hn
  obtain ⟨hx, hb, hown, hlocks, htab, hml, hr, hB, hA, hnm⟩ := id hC
  have hts := hB.1.1.at args
  refine lv_aload_n hx hb (xb_d D_M_tableType 0 rfl) rfl (lv_at hl 0 rfl) ?_
  refine lv_bipush (v := 112) hx hb (xb_d D_M_tableType 1 rfl) (by decide) ?_
  refine lv_bipush (v := 112) hx hb (xb_d D_M_tableType 2 rfl) (by decide) ?_
  obtain ⟨hk1, hw⟩ := hw
  refine xb_call0 (D := D) (A := A) (σ := σ) (h := h) (d := 4) (maxL := 4) (rest := []) (av := [.ref x0, .int 112, .int 112]) (fun T hT X => by obtain ⟨cb9, ra9, rb9, rc9⟩ := xb_recv (ci := 8) hR rfl hk1 (by decide); exact xt_invV X hx hown (hts _ m_8f6f4626) (hts _ m_01caba2f) (hts _ m_4616b4d4) (xt_sigOf (hts _ m_6db7f9f9)) nm_M_wanted (by rw [hT]; exact ra9) rb9 rc9 (g := F0 m 5 ls [.int 112, .int 112, .ref x0]) rfl (argsL := [.int 112, .int 112]) (rest := []) rfl rfl (by rw [hb]; exact (xb_d D_M_tableType 3 rfl))) (ok_M_wanted l hfl D A σ x0 112 112 h _ hw) (hml.trans hl.1.symm) (by rw [hb]; exact (xb_d D_M_tableType 3 rfl)) (Nat.le_of_ble_eq_true rfl) (Nat.le_of_ble_eq_true rfl) (Nat.le_of_ble_eq_true rfl) (show k ≤ MC by omega) (show n ≤ MS by omega) (xt_w1 hB.1 m_6db7f9f9) (xt_cdOf hB.1 m_6db7f9f9) (hts _ m_d5ed7bed) hB hR hS hA (fun vv h2 H locs hq hEh2 hR hS => ?_)
  obtain ⟨rfl, hw⟩ := hq
  have hw := hw hEh2
  have hE := hE.tr hEh2
  refine W.eq (g2 := F0 m 8 ls []) rfl ?_
  refine lv_aload_n hx hb (xb_d D_M_tableType 4 rfl) rfl (lv_at hl 0 rfl) ?_
  have hk1 : xb_k h2 x0 = 9 := hEh2.k hk1
  refine xb_call0 (D := D) (A := A) (σ := σ) (h := h2) (d := 5) (maxL := 3) (rest := []) (av := [.ref x0]) (fun T hT X => by obtain ⟨cb9, ra9, rb9, rc9⟩ := xb_recv (ci := 8) hR rfl hk1 (by decide); exact xt_invV X hx hown (hts _ m_27918af5) (hts _ m_8f0ce704) (hts _ m_1c9ac27d) (xt_sigOf (hts _ m_c998ef6e)) nm_M_limits (by rw [hT]; exact ra9) rb9 rc9 (g := F0 m 9 ls [.ref x0]) rfl (argsL := []) (rest := []) rfl rfl (by rw [hb]; exact (xb_d D_M_tableType 5 rfl))) (ok_M_limits l hfl D A σ x0 h2 _ hw) (hml.trans hl.1.symm) (by rw [hb]; exact (xb_d D_M_tableType 5 rfl)) (Nat.le_of_ble_eq_true rfl) (Nat.le_of_ble_eq_true rfl) (Nat.le_of_ble_eq_true rfl) (show k ≤ MC by omega) (show n ≤ MS by omega) (xt_w1 hB.1 m_c998ef6e) (xt_cdOf hB.1 m_c998ef6e) (hts _ m_d5ed7bed) hB hR hS hA (fun vv h4 H locs hq hEh4 hR hS => ?_)
  obtain ⟨rfl, hw⟩ := hq
  have hw := hw hEh4
  have hE := hE.tr hEh4
  refine W.eq (g2 := F0 m 12 ls []) rfl ?_
  exact xb_vret 0 0 hx hb hr hlocks (show k + 0 ≤ MC by omega) (show n + 0 ≤ MS by omega) hE hR hS (xb_d D_M_tableType 6 rfl) hw

theorem m_dbba3a05 : (.methodLink "StackHostModel" 255 y_M_skip : Cond) ∈ xt_tbl := xt_in (xt_t11 (List.mem_of_getElem? (i := 51) (by decide +kernel))) (by decide +kernel)
theorem m_5f0e3dde : (.instanceMethod y_M_skip : Cond) ∈ xt_tbl := xt_in (xt_t11 (List.mem_of_getElem? (i := 53) (by decide +kernel))) (by decide +kernel)
theorem m_3b85804e : (.selects "StackHostModel" y_M_skip y_M_skip : Cond) ∈ xt_tbl := xt_in (xt_v10 (q := (⟨"StackHostModel", "skip", "(J)V"⟩, 97)) (List.mem_of_getElem? (i := 5) (by decide +kernel))) (by decide +kernel)
theorem m_d537edcb : (.code y_M_skip b_M_skip 3 none : Cond) ∈ xt_tbl := xt_in (xt_t11 (List.mem_of_getElem? (i := 54) (by decide +kernel))) (by decide +kernel)
theorem m_ce01fc01 : (.constantLong "StackHostModel" 253 8 : Cond) ∈ xt_tbl := xt_in (xt_t11 (List.mem_of_getElem? (i := 50) (by decide +kernel))) (by decide +kernel)
theorem m_065c51a0 : (.methodLink "StackHostModel" 243 y_M_row : Cond) ∈ xt_tbl := xt_in (xt_t11 (List.mem_of_getElem? (i := 9) (by decide +kernel))) (by decide +kernel)
theorem m_29bd5f42 : (.instanceMethod y_M_row : Cond) ∈ xt_tbl := xt_in (xt_t11 (List.mem_of_getElem? (i := 11) (by decide +kernel))) (by decide +kernel)
theorem m_39b260c0 : (.selects "StackHostModel" y_M_row y_M_row : Cond) ∈ xt_tbl := xt_in (xt_v9 (q := (⟨"StackHostModel", "row", "(Z)V"⟩, 97)) (List.mem_of_getElem? (i := 12) (by decide +kernel))) (by decide +kernel)
theorem m_f669d6ca : (.code y_M_row b_M_row 6 none : Cond) ∈ xt_tbl := xt_in (xt_t11 (List.mem_of_getElem? (i := 12) (by decide +kernel))) (by decide +kernel)
theorem nm_M_skip : xt_nm y_M_skip 1 := ⟨by decide +kernel, by decide +kernel⟩
theorem nm_M_row : xt_nm y_M_row 1 := ⟨by decide +kernel, by decide +kernel⟩
set_option maxRecDepth 100000 in
def T_M_written : List (Nat × Instr × Nat) := [(0, .iload_n 1, 1), (1, .iconst 2, 1), (2, .if_icmp .eq 13, 3), (5, .iload_n 1, 1), (6, .iconst 3, 1), (7, .if_icmp .eq 8, 3), (10, .iload_n 1, 1), (11, .iconst 4, 1), (12, .if_icmp .ne 42, 3), (15, .aload_n 0, 1), (16, .invokevirtual 212, 3), (19, .istore_n 3, 1), (20, .aload_n 0, 1), (21, .getfield 193, 3), (24, .ifCond .ne 27, 3), (27, .iload_n 3, 1), (28, .bipush 64, 2), (30, .if_icmp .eq 21, 3), (33, .iload_n 3, 1), (34, .invokestatic 230, 3), (37, .ifCond .ne 14, 3), (40, .aload_n 0, 1), (41, .iconst 5, 1), (42, .aload_n 0, 1), (43, .getfield 202, 3), (46, .iconst 1, 1), (47, .isub, 1), (48, .invokevirtual 208, 3), (51, .goto 250, 3), (54, .iload_n 1, 1), (55, .bipush 12, 2), (57, .if_icmp .eq 27, 3), (60, .iload_n 1, 1), (61, .bipush 13, 2), (63, .if_icmp .eq 21, 3), (66, .iload_n 1, 1), (67, .bipush 16, 2), (69, .if_icmp .eq 15, 3), (72, .iload_n 1, 1), (73, .bipush 32, 2), (75, .if_icmp .lt 17, 3), (78, .iload_n 1, 1), (79, .bipush 36, 2), (81, .if_icmp .gt 11, 3), (84, .aload_n 0, 1), (85, .invokevirtual 218, 3), (88, .pop2, 1), (89, .goto 212, 3), (92, .iload_n 1, 1), (93, .bipush 14, 2), (95, .if_icmp .ne 16, 3), (98, .aload_n 0, 1), (99, .iconst 0, 1), (100, .invokevirtual 243, 3), (103, .aload_n 0, 1), (104, .invokevirtual 218, 3), (107, .pop2, 1), (108, .goto 193, 3), (111, .iload_n 1, 1), (112, .bipush 17, 2), (114, .if_icmp .ne 17, 3), (117, .aload_n 0, 1), (118, .invokevirtual 218, 3), (121, .pop2, 1), (122, .aload_n 0, 1), (123, .iconst 0, 1), (124, .iconst 0, 1), (125, .invokevirtual 234, 3), (128, .goto 173, 3), (131, .iload_n 1, 1), (132, .bipush 40, 2), (134, .if_icmp .lt 22, 3), (137, .iload_n 1, 1), (138, .bipush 62, 2), (140, .if_icmp .gt 16, 3), (143, .aload_n 0, 1), (144, .invokevirtual 218, 3), (147, .pop2, 1), (148, .aload_n 0, 1), (149, .invokevirtual 218, 3), (152, .pop2, 1), (153, .goto 148, 3), (156, .iload_n 1, 1), (157, .bipush 63, 2), (159, .if_icmp .eq 9, 3), (162, .iload_n 1, 1), (163, .bipush 64, 2), (165, .if_icmp .ne 12, 3), (168, .aload_n 0, 1), (169, .iconst 0, 1), (170, .iconst 0, 1), (171, .invokevirtual 234, 3), (174, .goto 127, 3), (177, .iload_n 1, 1), (178, .bipush 65, 2), (180, .if_icmp .eq 9, 3), (183, .iload_n 1, 1), (184, .bipush 66, 2), (186, .if_icmp .ne 24, 3), (189, .aload_n 0, 1), (190, .iload_n 1, 1), (191, .bipush 65, 2), (193, .if_icmp .ne 8, 3), (196, .bipush 32, 2), (198, .goto 5, 3), (201, .bipush 64, 2), (203, .invokevirtual 247, 3), (206, .pop2, 1), (207, .goto 94, 3), (210, .iload_n 1, 1), (211, .bipush 67, 2), (213, .if_icmp .eq 9, 3), (216, .iload_n 1, 1), (217, .bipush 68, 2), (219, .if_icmp .ne 25, 3), (222, .aload_n 0, 1), (223, .iload_n 1, 1), (224, .bipush 67, 2), (226, .if_icmp .ne 9, 3), (229, .ldc2_w 251, 3), (232, .goto 6, 3), (235, .ldc2_w 253, 3), (238, .invokevirtual 255, 3), (241, .goto 60, 3), (244, .iload_n 1, 1), (245, .ifCond .eq 56, 3), (248, .iload_n 1, 1), (249, .iconst 1, 1), (250, .if_icmp .eq 51, 3), (253, .iload_n 1, 1), (254, .iconst 5, 1), (255, .if_icmp .eq 46, 3), (258, .iload_n 1, 1), (259, .bipush 11, 2), (261, .if_icmp .eq 40, 3), (264, .iload_n 1, 1), (265, .bipush 15, 2), (267, .if_icmp .eq 34, 3), (270, .iload_n 1, 1), (271, .bipush 26, 2), (273, .if_icmp .eq 28, 3), (276, .iload_n 1, 1), (277, .bipush 27, 2), (279, .if_icmp .eq 22, 3), (282, .iload_n 1, 1), (283, .bipush 69, 2), (285, .if_icmp .lt 10, 3), (288, .iload_n 1, 1), (289, .sipush 191, 3), (292, .if_icmp .le 9, 3), (295, .aload_n 0, 1), (296, .iconst 5, 1), (297, .iload_n 2, 1), (298, .invokevirtual 208, 3), (301, .return_, 1)]
theorem D_M_written : ∀ q ∈ T_M_written, decode b_M_written q.1 = .ok (q.2.1, q.2.2) := by decide +kernel

set_option maxHeartbeats 4000000 in
set_option maxRecDepth 100000 in
theorem am_M_written_L301 (l : Launch) (hfl : l.flags = pinnedFlags ++ [noTraceFlag]) (D : va_G) (A : Nat → Prop) (σ MC MS : Nat) (h0 : xb_H) (Qr : xb_H → Prop) (h : xb_H) (hw : w_M_written_L301 Qr h) : xb_am l D A σ 6 MC MS h0 (fun v h _ _ => v = none ∧ Qr h) (fun _ _ _ _ => False) y_M_written.cls y_M_written.name b_M_written 4 ([] : List ExceptionTableEntry) none 301 [] [] h 0 0 := by
  unfold w_M_written_L301 at hw
  intro p e s m args below meth c hC H locs ls k n hE hl hR hS hk hn
  obtain ⟨hx, hb, hown, hlocks, htab, hml, hr, hB, hA, hnm⟩ := id hC
  have hts := hB.1.1.at args
  exact xb_vret 0 0 hx hb hr hlocks (show k + 0 ≤ MC by omega) (show n + 0 ≤ MS by omega) hE hR hS (xb_d D_M_written 154 rfl) hw

set_option maxHeartbeats 4000000 in
set_option maxRecDepth 100000 in
theorem am_M_written_L295 (l : Launch) (hfl : l.flags = pinnedFlags ++ [noTraceFlag]) (D : va_G) (A : Nat → Prop) (σ MC MS : Nat) (h0 : xb_H) (Qr : xb_H → Prop) (x0 : Nat) (x2 : Int32) (h : xb_H) (hw : w_M_written_L295 Qr x0 x2 h) : xb_am l D A σ 6 MC MS h0 (fun v h _ _ => v = none ∧ Qr h) (fun _ _ _ _ => False) y_M_written.cls y_M_written.name b_M_written 4 ([] : List ExceptionTableEntry) none 295 [(0, .ref x0), (2, .int x2)] [] h 0 0 := by
  unfold w_M_written_L295 at hw
  intro p e s m args below meth c hC H locs ls k n hE hl hR hS hk hn
  obtain ⟨hx, hb, hown, hlocks, htab, hml, hr, hB, hA, hnm⟩ := id hC
  have hts := hB.1.1.at args
  refine lv_aload_n hx hb (xb_d D_M_written 150 rfl) rfl (lv_at hl 0 rfl) ?_
  refine lv_iconst (v := 5) hx hb (xb_d D_M_written 151 rfl) (by decide) ?_
  refine lv_iload_n hx hb (xb_d D_M_written 152 rfl) rfl (lv_at hl 1 rfl) ?_
  obtain ⟨hk1, hw⟩ := hw
  refine xb_call0 (D := D) (A := A) (σ := σ) (h := h) (d := 2) (maxL := 3) (rest := []) (av := [.ref x0, .int 5, .int x2]) (fun T hT X => by obtain ⟨cb9, ra9, rb9, rc9⟩ := xb_recv (ci := 8) hR rfl hk1 (by decide); exact xt_invV X hx hown (hts _ m_939052ad) (hts _ m_29cc8c73) (hts _ m_3b1ac7ab) (xt_sigOf (hts _ m_8f062ecd)) nm_M_fail (by rw [hT]; exact ra9) rb9 rc9 (g := F0 m 298 ls [.int x2, .int 5, .ref x0]) rfl (argsL := [.int 5, .int x2]) (rest := []) rfl rfl (by rw [hb]; exact (xb_d D_M_written 153 rfl))) (ok_M_fail l hfl D A σ x0 5 x2 h _ hw) (hml.trans hl.1.symm) (by rw [hb]; exact (xb_d D_M_written 153 rfl)) (Nat.le_of_ble_eq_true rfl) (Nat.le_of_ble_eq_true rfl) (Nat.le_of_ble_eq_true rfl) (show k ≤ MC by omega) (show n ≤ MS by omega) (xt_w1 hB.1 m_8f062ecd) (xt_cdOf hB.1 m_8f062ecd) (hts _ m_d5ed7bed) hB hR hS hA (fun vv h2 H locs hq hEh2 hR hS => ?_)
  obtain ⟨rfl, hw⟩ := hq
  have hw := hw hEh2
  have hE := hE.tr hEh2
  refine W.eq (g2 := F0 m 301 ls []) rfl ?_
  exact am_M_written_L301 l hfl D A σ MC MS h0 Qr h2 hw p e s m args below meth c hC H locs ls k n hE (lv_sub hl [] rfl) hR hS (by omega) (by omega)

set_option maxHeartbeats 4000000 in
set_option maxRecDepth 100000 in
theorem am_M_written_L238 (l : Launch) (hfl : l.flags = pinnedFlags ++ [noTraceFlag]) (D : va_G) (A : Nat → Prop) (σ MC MS : Nat) (h0 : xb_H) (Qr : xb_H → Prop) (y0 : Int64) (y1 : Nat) (h : xb_H) (hw : w_M_written_L238 Qr y0 y1 h) : xb_am l D A σ 6 MC MS h0 (fun v h _ _ => v = none ∧ Qr h) (fun _ _ _ _ => False) y_M_written.cls y_M_written.name b_M_written 4 ([] : List ExceptionTableEntry) none 238 [] [.long y0, .ref y1] h 0 0 := by
  unfold w_M_written_L238 at hw
  intro p e s m args below meth c hC H locs ls k n hE hl hR hS hk hn
  obtain ⟨hx, hb, hown, hlocks, htab, hml, hr, hB, hA, hnm⟩ := id hC
  have hts := hB.1.1.at args
  obtain ⟨hk1, hw⟩ := hw
  refine xb_call0 (D := D) (A := A) (σ := σ) (h := h) (d := 3) (maxL := 3) (rest := []) (av := [.ref y1, .long y0]) (fun T hT X => by obtain ⟨cb9, ra9, rb9, rc9⟩ := xb_recv (ci := 8) hR rfl hk1 (by decide); exact xt_invV X hx hown (hts _ m_dbba3a05) (hts _ m_5f0e3dde) (hts _ m_3b85804e) (xt_sigOf (hts _ m_d537edcb)) nm_M_skip (by rw [hT]; exact ra9) rb9 rc9 (g := F0 m 238 ls [.long y0, .ref y1]) rfl (argsL := [.long y0]) (rest := []) rfl rfl (by rw [hb]; exact (xb_d D_M_written 122 rfl))) (ok_M_skip l hfl D A σ y1 y0 h _ hw) (hml.trans hl.1.symm) (by rw [hb]; exact (xb_d D_M_written 122 rfl)) (Nat.le_of_ble_eq_true rfl) (Nat.le_of_ble_eq_true rfl) (Nat.le_of_ble_eq_true rfl) (show k ≤ MC by omega) (show n ≤ MS by omega) (xt_w1 hB.1 m_d537edcb) (xt_cdOf hB.1 m_d537edcb) (hts _ m_d5ed7bed) hB hR hS hA (fun vv h2 H locs hq hEh2 hR hS => ?_)
  obtain ⟨rfl, hw⟩ := hq
  have hw := hw hEh2
  have hE := hE.tr hEh2
  refine W.eq (g2 := F0 m 241 ls []) rfl ?_
  refine lv_goto (tgt := 301) hx hb (xb_d D_M_written 123 rfl) rfl ?_
  exact am_M_written_L301 l hfl D A σ MC MS h0 Qr h2 hw p e s m args below meth c hC H locs ls k n hE (lv_sub hl [] rfl) hR hS (by omega) (by omega)

set_option maxHeartbeats 4000000 in
set_option maxRecDepth 100000 in
theorem am_M_written_L222 (l : Launch) (hfl : l.flags = pinnedFlags ++ [noTraceFlag]) (D : va_G) (A : Nat → Prop) (σ MC MS : Nat) (h0 : xb_H) (Qr : xb_H → Prop) (x0 : Nat) (x1 : Int32) (h : xb_H) (hw : w_M_written_L222 Qr x0 x1 h) : xb_am l D A σ 6 MC MS h0 (fun v h _ _ => v = none ∧ Qr h) (fun _ _ _ _ => False) y_M_written.cls y_M_written.name b_M_written 4 ([] : List ExceptionTableEntry) none 222 [(0, .ref x0), (1, .int x1)] [] h 0 0 := by
  unfold w_M_written_L222 at hw
  intro p e s m args below meth c hC H locs ls k n hE hl hR hS hk hn
  obtain ⟨hx, hb, hown, hlocks, htab, hml, hr, hB, hA, hnm⟩ := id hC
  have hts := hB.1.1.at args
  refine lv_aload_n hx hb (xb_d D_M_written 115 rfl) rfl (lv_at hl 0 rfl) ?_
  refine lv_iload_n hx hb (xb_d D_M_written 116 rfl) rfl (lv_at hl 1 rfl) ?_
  refine lv_bipush (v := 67) hx hb (xb_d D_M_written 117 rfl) (by decide) ?_
  refine lv_icmp_ne (tgt := 235) hx hb (xb_d D_M_written 118 rfl) rfl (fun hc1 => ?_) (fun hc1 => ?_)
  · have hw := hw.1 hc1
    refine lv_ldc2 (v := 8) hx hb hown (hts _ m_ce01fc01) (xb_d D_M_written 121 rfl) ?_
    exact am_M_written_L238 l hfl D A σ MC MS h0 Qr 8 x0 h hw p e s m args below meth c hC H locs ls k n hE (lv_sub hl [] rfl) hR hS (by omega) (by omega)
  · have hw := hw.2 hc1
    refine lv_ldc2 (v := 4) hx hb hown (hts _ m_24298691) (xb_d D_M_written 119 rfl) ?_
    refine lv_goto (tgt := 238) hx hb (xb_d D_M_written 120 rfl) rfl ?_
    exact am_M_written_L238 l hfl D A σ MC MS h0 Qr 4 x0 h hw p e s m args below meth c hC H locs ls k n hE (lv_sub hl [] rfl) hR hS (by omega) (by omega)

set_option maxHeartbeats 4000000 in
set_option maxRecDepth 100000 in
theorem am_M_written_L203 (l : Launch) (hfl : l.flags = pinnedFlags ++ [noTraceFlag]) (D : va_G) (A : Nat → Prop) (σ MC MS : Nat) (h0 : xb_H) (Qr : xb_H → Prop) (y0 : Int32) (y1 : Nat) (h : xb_H) (hw : w_M_written_L203 Qr y0 y1 h) : xb_am l D A σ 6 MC MS h0 (fun v h _ _ => v = none ∧ Qr h) (fun _ _ _ _ => False) y_M_written.cls y_M_written.name b_M_written 4 ([] : List ExceptionTableEntry) none 203 [] [.int y0, .ref y1] h 0 0 := by
  unfold w_M_written_L203 at hw
  intro p e s m args below meth c hC H locs ls k n hE hl hR hS hk hn
  obtain ⟨hx, hb, hown, hlocks, htab, hml, hr, hB, hA, hnm⟩ := id hC
  have hts := hB.1.1.at args
  obtain ⟨hk1, hw⟩ := hw
  refine xb_call0 (D := D) (A := A) (σ := σ) (h := h) (d := 4) (maxL := 9) (rest := []) (av := [.ref y1, .int y0]) (fun T hT X => by obtain ⟨cb9, ra9, rb9, rc9⟩ := xb_recv (ci := 8) hR rfl hk1 (by decide); exact xt_invV X hx hown (hts _ m_535a6d0d) (hts _ m_4743d60a) (hts _ m_7572e2cf) (xt_sigOf (hts _ m_5f545e80)) nm_M_signed (by rw [hT]; exact ra9) rb9 rc9 (g := F0 m 203 ls [.int y0, .ref y1]) rfl (argsL := [.int y0]) (rest := []) rfl rfl (by rw [hb]; exact (xb_d D_M_written 106 rfl))) (ok_M_signed l hfl D A σ y1 y0 h _ hw) (hml.trans hl.1.symm) (by rw [hb]; exact (xb_d D_M_written 106 rfl)) (Nat.le_of_ble_eq_true rfl) (Nat.le_of_ble_eq_true rfl) (Nat.le_of_ble_eq_true rfl) (show k ≤ MC by omega) (show n ≤ MS by omega) (xt_w1 hB.1 m_5f545e80) (xt_cdOf hB.1 m_5f545e80) (hts _ m_d5ed7bed) hB hR hS hA (fun vv h2 H locs hq hEh2 hR hS => ?_)
  obtain ⟨r3, rfl, hw⟩ := hq
  have hw := hw hEh2
  have hE := hE.tr hEh2
  refine W.eq (g2 := F0 m 206 ls [.long r3]) rfl ?_
  refine lv_pop2_2 hx hb (xb_d D_M_written 107 rfl) rfl ?_
  refine lv_goto (tgt := 301) hx hb (xb_d D_M_written 108 rfl) rfl ?_
  exact am_M_written_L301 l hfl D A σ MC MS h0 Qr h2 hw p e s m args below meth c hC H locs ls k n hE (lv_sub hl [] rfl) hR hS (by omega) (by omega)

set_option maxHeartbeats 4000000 in
set_option maxRecDepth 100000 in
theorem am_M_written_L189 (l : Launch) (hfl : l.flags = pinnedFlags ++ [noTraceFlag]) (D : va_G) (A : Nat → Prop) (σ MC MS : Nat) (h0 : xb_H) (Qr : xb_H → Prop) (x0 : Nat) (x1 : Int32) (h : xb_H) (hw : w_M_written_L189 Qr x0 x1 h) : xb_am l D A σ 6 MC MS h0 (fun v h _ _ => v = none ∧ Qr h) (fun _ _ _ _ => False) y_M_written.cls y_M_written.name b_M_written 4 ([] : List ExceptionTableEntry) none 189 [(0, .ref x0), (1, .int x1)] [] h 0 0 := by
  unfold w_M_written_L189 at hw
  intro p e s m args below meth c hC H locs ls k n hE hl hR hS hk hn
  obtain ⟨hx, hb, hown, hlocks, htab, hml, hr, hB, hA, hnm⟩ := id hC
  have hts := hB.1.1.at args
  refine lv_aload_n hx hb (xb_d D_M_written 99 rfl) rfl (lv_at hl 0 rfl) ?_
  refine lv_iload_n hx hb (xb_d D_M_written 100 rfl) rfl (lv_at hl 1 rfl) ?_
  refine lv_bipush (v := 65) hx hb (xb_d D_M_written 101 rfl) (by decide) ?_
  refine lv_icmp_ne (tgt := 201) hx hb (xb_d D_M_written 102 rfl) rfl (fun hc1 => ?_) (fun hc1 => ?_)
  · have hw := hw.1 hc1
    refine lv_bipush (v := 64) hx hb (xb_d D_M_written 105 rfl) (by decide) ?_
    exact am_M_written_L203 l hfl D A σ MC MS h0 Qr 64 x0 h hw p e s m args below meth c hC H locs ls k n hE (lv_sub hl [] rfl) hR hS (by omega) (by omega)
  · have hw := hw.2 hc1
    refine lv_bipush (v := 32) hx hb (xb_d D_M_written 103 rfl) (by decide) ?_
    refine lv_goto (tgt := 203) hx hb (xb_d D_M_written 104 rfl) rfl ?_
    exact am_M_written_L203 l hfl D A σ MC MS h0 Qr 32 x0 h hw p e s m args below meth c hC H locs ls k n hE (lv_sub hl [] rfl) hR hS (by omega) (by omega)

set_option maxHeartbeats 4000000 in
set_option maxRecDepth 100000 in
theorem am_M_written_L168 (l : Launch) (hfl : l.flags = pinnedFlags ++ [noTraceFlag]) (D : va_G) (A : Nat → Prop) (σ MC MS : Nat) (h0 : xb_H) (Qr : xb_H → Prop) (x0 : Nat) (h : xb_H) (hw : w_M_written_L168 Qr x0 h) : xb_am l D A σ 6 MC MS h0 (fun v h _ _ => v = none ∧ Qr h) (fun _ _ _ _ => False) y_M_written.cls y_M_written.name b_M_written 4 ([] : List ExceptionTableEntry) none 168 [(0, .ref x0)] [] h 0 0 := by
  unfold w_M_written_L168 at hw
  intro p e s m args below meth c hC H locs ls k n hE hl hR hS hk hn
  obtain ⟨hx, hb, hown, hlocks, htab, hml, hr, hB, hA, hnm⟩ := id hC
  have hts := hB.1.1.at args
  refine lv_aload_n hx hb (xb_d D_M_written 88 rfl) rfl (lv_at hl 0 rfl) ?_
  refine lv_iconst (v := 0) hx hb (xb_d D_M_written 89 rfl) (by decide) ?_
  refine lv_iconst (v := 0) hx hb (xb_d D_M_written 90 rfl) (by decide) ?_
  obtain ⟨hk1, hw⟩ := hw
  refine xb_call0 (D := D) (A := A) (σ := σ) (h := h) (d := 4) (maxL := 4) (rest := []) (av := [.ref x0, .int 0, .int 0]) (fun T hT X => by obtain ⟨cb9, ra9, rb9, rc9⟩ := xb_recv (ci := 8) hR rfl hk1 (by decide); exact xt_invV X hx hown (hts _ m_8f6f4626) (hts _ m_01caba2f) (hts _ m_4616b4d4) (xt_sigOf (hts _ m_6db7f9f9)) nm_M_wanted (by rw [hT]; exact ra9) rb9 rc9 (g := F0 m 171 ls [.int 0, .int 0, .ref x0]) rfl (argsL := [.int 0, .int 0]) (rest := []) rfl rfl (by rw [hb]; exact (xb_d D_M_written 91 rfl))) (ok_M_wanted l hfl D A σ x0 0 0 h _ hw) (hml.trans hl.1.symm) (by rw [hb]; exact (xb_d D_M_written 91 rfl)) (Nat.le_of_ble_eq_true rfl) (Nat.le_of_ble_eq_true rfl) (Nat.le_of_ble_eq_true rfl) (show k ≤ MC by omega) (show n ≤ MS by omega) (xt_w1 hB.1 m_6db7f9f9) (xt_cdOf hB.1 m_6db7f9f9) (hts _ m_d5ed7bed) hB hR hS hA (fun vv h2 H locs hq hEh2 hR hS => ?_)
  obtain ⟨rfl, hw⟩ := hq
  have hw := hw hEh2
  have hE := hE.tr hEh2
  refine W.eq (g2 := F0 m 174 ls []) rfl ?_
  refine lv_goto (tgt := 301) hx hb (xb_d D_M_written 92 rfl) rfl ?_
  exact am_M_written_L301 l hfl D A σ MC MS h0 Qr h2 hw p e s m args below meth c hC H locs ls k n hE (lv_sub hl [] rfl) hR hS (by omega) (by omega)

set_option maxHeartbeats 4000000 in
set_option maxRecDepth 100000 in
theorem am_M_written_L156 (l : Launch) (hfl : l.flags = pinnedFlags ++ [noTraceFlag]) (D : va_G) (A : Nat → Prop) (σ MC MS : Nat) (h0 : xb_H) (Qr : xb_H → Prop) (x0 : Nat) (x1 : Int32) (x2 : Int32) (h : xb_H) (hw : w_M_written_L156 Qr x0 x1 x2 h) : xb_am l D A σ 6 MC MS h0 (fun v h _ _ => v = none ∧ Qr h) (fun _ _ _ _ => False) y_M_written.cls y_M_written.name b_M_written 4 ([] : List ExceptionTableEntry) none 156 [(0, .ref x0), (1, .int x1), (2, .int x2)] [] h 0 0 := by
  unfold w_M_written_L156 at hw
  intro p e s m args below meth c hC H locs ls k n hE hl hR hS hk hn
  obtain ⟨hx, hb, hown, hlocks, htab, hml, hr, hB, hA, hnm⟩ := id hC
  have hts := hB.1.1.at args
  refine lv_iload_n hx hb (xb_d D_M_written 82 rfl) rfl (lv_at hl 1 rfl) ?_
  refine lv_bipush (v := 63) hx hb (xb_d D_M_written 83 rfl) (by decide) ?_
  refine lv_icmp_eq (tgt := 168) hx hb (xb_d D_M_written 84 rfl) rfl (fun hc1 => ?_) (fun hc1 => ?_)
  · have hw := hw.1 hc1
    exact am_M_written_L168 l hfl D A σ MC MS h0 Qr x0 h hw p e s m args below meth c hC H locs ls k n hE (lv_sub hl [0] rfl) hR hS (by omega) (by omega)
  · have hw := hw.2 hc1
    refine lv_iload_n hx hb (xb_d D_M_written 85 rfl) rfl (lv_at hl 1 rfl) ?_
    refine lv_bipush (v := 64) hx hb (xb_d D_M_written 86 rfl) (by decide) ?_
    refine lv_icmp_ne (tgt := 177) hx hb (xb_d D_M_written 87 rfl) rfl (fun hc2 => ?_) (fun hc2 => ?_)
    · have hw := hw.1 hc2
      refine lv_iload_n hx hb (xb_d D_M_written 93 rfl) rfl (lv_at hl 1 rfl) ?_
      refine lv_bipush (v := 65) hx hb (xb_d D_M_written 94 rfl) (by decide) ?_
      refine lv_icmp_eq (tgt := 189) hx hb (xb_d D_M_written 95 rfl) rfl (fun hc3 => ?_) (fun hc3 => ?_)
      · have hw := hw.1 hc3
        exact am_M_written_L189 l hfl D A σ MC MS h0 Qr x0 x1 h hw p e s m args below meth c hC H locs ls k n hE (lv_sub hl [0, 1] rfl) hR hS (by omega) (by omega)
      · have hw := hw.2 hc3
        refine lv_iload_n hx hb (xb_d D_M_written 96 rfl) rfl (lv_at hl 1 rfl) ?_
        refine lv_bipush (v := 66) hx hb (xb_d D_M_written 97 rfl) (by decide) ?_
        refine lv_icmp_ne (tgt := 210) hx hb (xb_d D_M_written 98 rfl) rfl (fun hc4 => ?_) (fun hc4 => ?_)
        · have hw := hw.1 hc4
          refine lv_iload_n hx hb (xb_d D_M_written 109 rfl) rfl (lv_at hl 1 rfl) ?_
          refine lv_bipush (v := 67) hx hb (xb_d D_M_written 110 rfl) (by decide) ?_
          refine lv_icmp_eq (tgt := 222) hx hb (xb_d D_M_written 111 rfl) rfl (fun hc5 => ?_) (fun hc5 => ?_)
          · have hw := hw.1 hc5
            exact am_M_written_L222 l hfl D A σ MC MS h0 Qr x0 x1 h hw p e s m args below meth c hC H locs ls k n hE (lv_sub hl [0, 1] rfl) hR hS (by omega) (by omega)
          · have hw := hw.2 hc5
            refine lv_iload_n hx hb (xb_d D_M_written 112 rfl) rfl (lv_at hl 1 rfl) ?_
            refine lv_bipush (v := 68) hx hb (xb_d D_M_written 113 rfl) (by decide) ?_
            refine lv_icmp_ne (tgt := 244) hx hb (xb_d D_M_written 114 rfl) rfl (fun hc6 => ?_) (fun hc6 => ?_)
            · have hw := hw.1 hc6
              refine lv_iload_n hx hb (xb_d D_M_written 124 rfl) rfl (lv_at hl 1 rfl) ?_
              refine lv_if_eq (tgt := 301) hx hb (xb_d D_M_written 125 rfl) rfl (fun hc7 => ?_) (fun hc7 => ?_)
              · have hw := hw.1 hc7
                exact am_M_written_L301 l hfl D A σ MC MS h0 Qr h hw p e s m args below meth c hC H locs ls k n hE (lv_sub hl [] rfl) hR hS (by omega) (by omega)
              · have hw := hw.2 hc7
                refine lv_iload_n hx hb (xb_d D_M_written 126 rfl) rfl (lv_at hl 1 rfl) ?_
                refine lv_iconst (v := 1) hx hb (xb_d D_M_written 127 rfl) (by decide) ?_
                refine lv_icmp_eq (tgt := 301) hx hb (xb_d D_M_written 128 rfl) rfl (fun hc8 => ?_) (fun hc8 => ?_)
                · have hw := hw.1 hc8
                  exact am_M_written_L301 l hfl D A σ MC MS h0 Qr h hw p e s m args below meth c hC H locs ls k n hE (lv_sub hl [] rfl) hR hS (by omega) (by omega)
                · have hw := hw.2 hc8
                  refine lv_iload_n hx hb (xb_d D_M_written 129 rfl) rfl (lv_at hl 1 rfl) ?_
                  refine lv_iconst (v := 5) hx hb (xb_d D_M_written 130 rfl) (by decide) ?_
                  refine lv_icmp_eq (tgt := 301) hx hb (xb_d D_M_written 131 rfl) rfl (fun hc9 => ?_) (fun hc9 => ?_)
                  · have hw := hw.1 hc9
                    exact am_M_written_L301 l hfl D A σ MC MS h0 Qr h hw p e s m args below meth c hC H locs ls k n hE (lv_sub hl [] rfl) hR hS (by omega) (by omega)
                  · have hw := hw.2 hc9
                    refine lv_iload_n hx hb (xb_d D_M_written 132 rfl) rfl (lv_at hl 1 rfl) ?_
                    refine lv_bipush (v := 11) hx hb (xb_d D_M_written 133 rfl) (by decide) ?_
                    refine lv_icmp_eq (tgt := 301) hx hb (xb_d D_M_written 134 rfl) rfl (fun hc10 => ?_) (fun hc10 => ?_)
                    · have hw := hw.1 hc10
                      exact am_M_written_L301 l hfl D A σ MC MS h0 Qr h hw p e s m args below meth c hC H locs ls k n hE (lv_sub hl [] rfl) hR hS (by omega) (by omega)
                    · have hw := hw.2 hc10
                      refine lv_iload_n hx hb (xb_d D_M_written 135 rfl) rfl (lv_at hl 1 rfl) ?_
                      refine lv_bipush (v := 15) hx hb (xb_d D_M_written 136 rfl) (by decide) ?_
                      refine lv_icmp_eq (tgt := 301) hx hb (xb_d D_M_written 137 rfl) rfl (fun hc11 => ?_) (fun hc11 => ?_)
                      · have hw := hw.1 hc11
                        exact am_M_written_L301 l hfl D A σ MC MS h0 Qr h hw p e s m args below meth c hC H locs ls k n hE (lv_sub hl [] rfl) hR hS (by omega) (by omega)
                      · have hw := hw.2 hc11
                        refine lv_iload_n hx hb (xb_d D_M_written 138 rfl) rfl (lv_at hl 1 rfl) ?_
                        refine lv_bipush (v := 26) hx hb (xb_d D_M_written 139 rfl) (by decide) ?_
                        refine lv_icmp_eq (tgt := 301) hx hb (xb_d D_M_written 140 rfl) rfl (fun hc12 => ?_) (fun hc12 => ?_)
                        · have hw := hw.1 hc12
                          exact am_M_written_L301 l hfl D A σ MC MS h0 Qr h hw p e s m args below meth c hC H locs ls k n hE (lv_sub hl [] rfl) hR hS (by omega) (by omega)
                        · have hw := hw.2 hc12
                          refine lv_iload_n hx hb (xb_d D_M_written 141 rfl) rfl (lv_at hl 1 rfl) ?_
                          refine lv_bipush (v := 27) hx hb (xb_d D_M_written 142 rfl) (by decide) ?_
                          refine lv_icmp_eq (tgt := 301) hx hb (xb_d D_M_written 143 rfl) rfl (fun hc13 => ?_) (fun hc13 => ?_)
                          · have hw := hw.1 hc13
                            exact am_M_written_L301 l hfl D A σ MC MS h0 Qr h hw p e s m args below meth c hC H locs ls k n hE (lv_sub hl [] rfl) hR hS (by omega) (by omega)
                          · have hw := hw.2 hc13
                            refine lv_iload_n hx hb (xb_d D_M_written 144 rfl) rfl (lv_at hl 1 rfl) ?_
                            refine lv_bipush (v := 69) hx hb (xb_d D_M_written 145 rfl) (by decide) ?_
                            refine lv_icmp_lt (tgt := 295) hx hb (xb_d D_M_written 146 rfl) rfl (fun hc14 => ?_) (fun hc14 => ?_)
                            · have hw := hw.1 hc14
                              exact am_M_written_L295 l hfl D A σ MC MS h0 Qr x0 x2 h hw p e s m args below meth c hC H locs ls k n hE (lv_sub hl [0, 2] rfl) hR hS (by omega) (by omega)
                            · have hw := hw.2 hc14
                              refine lv_iload_n hx hb (xb_d D_M_written 147 rfl) rfl (lv_at hl 1 rfl) ?_
                              refine lv_sipush (v := 191) hx hb (xb_d D_M_written 148 rfl) (by decide) ?_
                              refine lv_icmp_le (tgt := 301) hx hb (xb_d D_M_written 149 rfl) rfl (fun hc15 => ?_) (fun hc15 => ?_)
                              · have hw := hw.1 hc15
                                exact am_M_written_L301 l hfl D A σ MC MS h0 Qr h hw p e s m args below meth c hC H locs ls k n hE (lv_sub hl [] rfl) hR hS (by omega) (by omega)
                              · have hw := hw.2 hc15
                                exact am_M_written_L295 l hfl D A σ MC MS h0 Qr x0 x2 h hw p e s m args below meth c hC H locs ls k n hE (lv_sub hl [0, 2] rfl) hR hS (by omega) (by omega)
            · have hw := hw.2 hc6
              exact am_M_written_L222 l hfl D A σ MC MS h0 Qr x0 x1 h hw p e s m args below meth c hC H locs ls k n hE (lv_sub hl [0, 1] rfl) hR hS (by omega) (by omega)
        · have hw := hw.2 hc4
          exact am_M_written_L189 l hfl D A σ MC MS h0 Qr x0 x1 h hw p e s m args below meth c hC H locs ls k n hE (lv_sub hl [0, 1] rfl) hR hS (by omega) (by omega)
    · have hw := hw.2 hc2
      exact am_M_written_L168 l hfl D A σ MC MS h0 Qr x0 h hw p e s m args below meth c hC H locs ls k n hE (lv_sub hl [0] rfl) hR hS (by omega) (by omega)

set_option maxHeartbeats 4000000 in
set_option maxRecDepth 100000 in
theorem am_M_written_L92 (l : Launch) (hfl : l.flags = pinnedFlags ++ [noTraceFlag]) (D : va_G) (A : Nat → Prop) (σ MC MS : Nat) (h0 : xb_H) (Qr : xb_H → Prop) (x0 : Nat) (x1 : Int32) (x2 : Int32) (h : xb_H) (hw : w_M_written_L92 Qr x0 x1 x2 h) : xb_am l D A σ 6 MC MS h0 (fun v h _ _ => v = none ∧ Qr h) (fun _ _ _ _ => False) y_M_written.cls y_M_written.name b_M_written 4 ([] : List ExceptionTableEntry) none 92 [(0, .ref x0), (1, .int x1), (2, .int x2)] [] h 0 0 := by
  unfold w_M_written_L92 at hw
  intro p e s m args below meth c hC H locs ls k n hE hl hR hS hk hn
  obtain ⟨hx, hb, hown, hlocks, htab, hml, hr, hB, hA, hnm⟩ := id hC
  have hts := hB.1.1.at args
  refine lv_iload_n hx hb (xb_d D_M_written 48 rfl) rfl (lv_at hl 1 rfl) ?_
  refine lv_bipush (v := 14) hx hb (xb_d D_M_written 49 rfl) (by decide) ?_
  refine lv_icmp_ne (tgt := 111) hx hb (xb_d D_M_written 50 rfl) rfl (fun hc1 => ?_) (fun hc1 => ?_)
  · have hw := hw.1 hc1
    refine lv_iload_n hx hb (xb_d D_M_written 58 rfl) rfl (lv_at hl 1 rfl) ?_
    refine lv_bipush (v := 17) hx hb (xb_d D_M_written 59 rfl) (by decide) ?_
    refine lv_icmp_ne (tgt := 131) hx hb (xb_d D_M_written 60 rfl) rfl (fun hc2 => ?_) (fun hc2 => ?_)
    · have hw := hw.1 hc2
      refine lv_iload_n hx hb (xb_d D_M_written 69 rfl) rfl (lv_at hl 1 rfl) ?_
      refine lv_bipush (v := 40) hx hb (xb_d D_M_written 70 rfl) (by decide) ?_
      refine lv_icmp_lt (tgt := 156) hx hb (xb_d D_M_written 71 rfl) rfl (fun hc3 => ?_) (fun hc3 => ?_)
      · have hw := hw.1 hc3
        exact am_M_written_L156 l hfl D A σ MC MS h0 Qr x0 x1 x2 h hw p e s m args below meth c hC H locs ls k n hE (lv_sub hl [0, 1, 2] rfl) hR hS (by omega) (by omega)
      · have hw := hw.2 hc3
        refine lv_iload_n hx hb (xb_d D_M_written 72 rfl) rfl (lv_at hl 1 rfl) ?_
        refine lv_bipush (v := 62) hx hb (xb_d D_M_written 73 rfl) (by decide) ?_
        refine lv_icmp_gt (tgt := 156) hx hb (xb_d D_M_written 74 rfl) rfl (fun hc4 => ?_) (fun hc4 => ?_)
        · have hw := hw.1 hc4
          exact am_M_written_L156 l hfl D A σ MC MS h0 Qr x0 x1 x2 h hw p e s m args below meth c hC H locs ls k n hE (lv_sub hl [0, 1, 2] rfl) hR hS (by omega) (by omega)
        · have hw := hw.2 hc4
          refine lv_aload_n hx hb (xb_d D_M_written 75 rfl) rfl (lv_at hl 0 rfl) ?_
          obtain ⟨hk5, hw⟩ := hw
          refine xb_call0 (D := D) (A := A) (σ := σ) (h := h) (d := 4) (maxL := 5) (rest := []) (av := [.ref x0]) (fun T hT X => by obtain ⟨cb9, ra9, rb9, rc9⟩ := xb_recv (ci := 8) hR rfl hk5 (by decide); exact xt_invV X hx hown (hts _ m_e991293f) (hts _ m_385a74b3) (hts _ m_c9fbcd02) (xt_sigOf (hts _ m_1f53f210)) nm_M_count (by rw [hT]; exact ra9) rb9 rc9 (g := F0 m 144 ls [.ref x0]) rfl (argsL := []) (rest := []) rfl rfl (by rw [hb]; exact (xb_d D_M_written 76 rfl))) (ok_M_count l hfl D A σ x0 h _ hw) (hml.trans hl.1.symm) (by rw [hb]; exact (xb_d D_M_written 76 rfl)) (Nat.le_of_ble_eq_true rfl) (Nat.le_of_ble_eq_true rfl) (Nat.le_of_ble_eq_true rfl) (show k ≤ MC by omega) (show n ≤ MS by omega) (xt_w1 hB.1 m_1f53f210) (xt_cdOf hB.1 m_1f53f210) (hts _ m_d5ed7bed) hB hR hS hA (fun vv h6 H locs hq hEh6 hR hS => ?_)
          obtain ⟨r7, rfl, hw⟩ := hq
          have hw := hw hEh6
          have hE := hE.tr hEh6
          refine W.eq (g2 := F0 m 147 ls [.long r7]) rfl ?_
          refine lv_pop2_2 hx hb (xb_d D_M_written 77 rfl) rfl ?_
          refine lv_aload_n hx hb (xb_d D_M_written 78 rfl) rfl (lv_at hl 0 rfl) ?_
          have hk5 : xb_k h6 x0 = 9 := hEh6.k hk5
          refine xb_call0 (D := D) (A := A) (σ := σ) (h := h6) (d := 4) (maxL := 5) (rest := []) (av := [.ref x0]) (fun T hT X => by obtain ⟨cb9, ra9, rb9, rc9⟩ := xb_recv (ci := 8) hR rfl hk5 (by decide); exact xt_invV X hx hown (hts _ m_e991293f) (hts _ m_385a74b3) (hts _ m_c9fbcd02) (xt_sigOf (hts _ m_1f53f210)) nm_M_count (by rw [hT]; exact ra9) rb9 rc9 (g := F0 m 149 ls [.ref x0]) rfl (argsL := []) (rest := []) rfl rfl (by rw [hb]; exact (xb_d D_M_written 79 rfl))) (ok_M_count l hfl D A σ x0 h6 _ hw) (hml.trans hl.1.symm) (by rw [hb]; exact (xb_d D_M_written 79 rfl)) (Nat.le_of_ble_eq_true rfl) (Nat.le_of_ble_eq_true rfl) (Nat.le_of_ble_eq_true rfl) (show k ≤ MC by omega) (show n ≤ MS by omega) (xt_w1 hB.1 m_1f53f210) (xt_cdOf hB.1 m_1f53f210) (hts _ m_d5ed7bed) hB hR hS hA (fun vv h8 H locs hq hEh8 hR hS => ?_)
          obtain ⟨r9, rfl, hw⟩ := hq
          have hw := hw hEh8
          have hE := hE.tr hEh8
          refine W.eq (g2 := F0 m 152 ls [.long r9]) rfl ?_
          refine lv_pop2_2 hx hb (xb_d D_M_written 80 rfl) rfl ?_
          refine lv_goto (tgt := 301) hx hb (xb_d D_M_written 81 rfl) rfl ?_
          exact am_M_written_L301 l hfl D A σ MC MS h0 Qr h8 hw p e s m args below meth c hC H locs ls k n hE (lv_sub hl [] rfl) hR hS (by omega) (by omega)
    · have hw := hw.2 hc2
      refine lv_aload_n hx hb (xb_d D_M_written 61 rfl) rfl (lv_at hl 0 rfl) ?_
      obtain ⟨hk10, hw⟩ := hw
      refine xb_call0 (D := D) (A := A) (σ := σ) (h := h) (d := 4) (maxL := 5) (rest := []) (av := [.ref x0]) (fun T hT X => by obtain ⟨cb9, ra9, rb9, rc9⟩ := xb_recv (ci := 8) hR rfl hk10 (by decide); exact xt_invV X hx hown (hts _ m_e991293f) (hts _ m_385a74b3) (hts _ m_c9fbcd02) (xt_sigOf (hts _ m_1f53f210)) nm_M_count (by rw [hT]; exact ra9) rb9 rc9 (g := F0 m 118 ls [.ref x0]) rfl (argsL := []) (rest := []) rfl rfl (by rw [hb]; exact (xb_d D_M_written 62 rfl))) (ok_M_count l hfl D A σ x0 h _ hw) (hml.trans hl.1.symm) (by rw [hb]; exact (xb_d D_M_written 62 rfl)) (Nat.le_of_ble_eq_true rfl) (Nat.le_of_ble_eq_true rfl) (Nat.le_of_ble_eq_true rfl) (show k ≤ MC by omega) (show n ≤ MS by omega) (xt_w1 hB.1 m_1f53f210) (xt_cdOf hB.1 m_1f53f210) (hts _ m_d5ed7bed) hB hR hS hA (fun vv h11 H locs hq hEh11 hR hS => ?_)
      obtain ⟨r12, rfl, hw⟩ := hq
      have hw := hw hEh11
      have hE := hE.tr hEh11
      refine W.eq (g2 := F0 m 121 ls [.long r12]) rfl ?_
      refine lv_pop2_2 hx hb (xb_d D_M_written 63 rfl) rfl ?_
      refine lv_aload_n hx hb (xb_d D_M_written 64 rfl) rfl (lv_at hl 0 rfl) ?_
      refine lv_iconst (v := 0) hx hb (xb_d D_M_written 65 rfl) (by decide) ?_
      refine lv_iconst (v := 0) hx hb (xb_d D_M_written 66 rfl) (by decide) ?_
      have hk10 : xb_k h11 x0 = 9 := hEh11.k hk10
      refine xb_call0 (D := D) (A := A) (σ := σ) (h := h11) (d := 4) (maxL := 4) (rest := []) (av := [.ref x0, .int 0, .int 0]) (fun T hT X => by obtain ⟨cb9, ra9, rb9, rc9⟩ := xb_recv (ci := 8) hR rfl hk10 (by decide); exact xt_invV X hx hown (hts _ m_8f6f4626) (hts _ m_01caba2f) (hts _ m_4616b4d4) (xt_sigOf (hts _ m_6db7f9f9)) nm_M_wanted (by rw [hT]; exact ra9) rb9 rc9 (g := F0 m 125 ls [.int 0, .int 0, .ref x0]) rfl (argsL := [.int 0, .int 0]) (rest := []) rfl rfl (by rw [hb]; exact (xb_d D_M_written 67 rfl))) (ok_M_wanted l hfl D A σ x0 0 0 h11 _ hw) (hml.trans hl.1.symm) (by rw [hb]; exact (xb_d D_M_written 67 rfl)) (Nat.le_of_ble_eq_true rfl) (Nat.le_of_ble_eq_true rfl) (Nat.le_of_ble_eq_true rfl) (show k ≤ MC by omega) (show n ≤ MS by omega) (xt_w1 hB.1 m_6db7f9f9) (xt_cdOf hB.1 m_6db7f9f9) (hts _ m_d5ed7bed) hB hR hS hA (fun vv h13 H locs hq hEh13 hR hS => ?_)
      obtain ⟨rfl, hw⟩ := hq
      have hw := hw hEh13
      have hE := hE.tr hEh13
      refine W.eq (g2 := F0 m 128 ls []) rfl ?_
      refine lv_goto (tgt := 301) hx hb (xb_d D_M_written 68 rfl) rfl ?_
      exact am_M_written_L301 l hfl D A σ MC MS h0 Qr h13 hw p e s m args below meth c hC H locs ls k n hE (lv_sub hl [] rfl) hR hS (by omega) (by omega)
  · have hw := hw.2 hc1
    refine lv_aload_n hx hb (xb_d D_M_written 51 rfl) rfl (lv_at hl 0 rfl) ?_
    refine lv_iconst (v := 0) hx hb (xb_d D_M_written 52 rfl) (by decide) ?_
    obtain ⟨hk15, hw⟩ := hw
    refine xb_call0 (D := D) (A := A) (σ := σ) (h := h) (d := 5) (maxL := 6) (rest := []) (av := [.ref x0, .int 0]) (fun T hT X => by obtain ⟨cb9, ra9, rb9, rc9⟩ := xb_recv (ci := 8) hR rfl hk15 (by decide); exact xt_invV X hx hown (hts _ m_065c51a0) (hts _ m_29bd5f42) (hts _ m_39b260c0) (xt_sigOf (hts _ m_f669d6ca)) nm_M_row (by rw [hT]; exact ra9) rb9 rc9 (g := F0 m 100 ls [.int 0, .ref x0]) rfl (argsL := [.int 0]) (rest := []) rfl rfl (by rw [hb]; exact (xb_d D_M_written 53 rfl))) (ok_M_row l hfl D A σ x0 0 h _ hw) (hml.trans hl.1.symm) (by rw [hb]; exact (xb_d D_M_written 53 rfl)) (Nat.le_of_ble_eq_true rfl) (Nat.le_of_ble_eq_true rfl) (Nat.le_of_ble_eq_true rfl) (show k ≤ MC by omega) (show n ≤ MS by omega) (xt_w1 hB.1 m_f669d6ca) (xt_cdOf hB.1 m_f669d6ca) (hts _ m_d5ed7bed) hB hR hS hA (fun vv h16 H locs hq hEh16 hR hS => ?_)
    obtain ⟨rfl, hw⟩ := hq
    have hw := hw hEh16
    have hE := hE.tr hEh16
    refine W.eq (g2 := F0 m 103 ls []) rfl ?_
    refine lv_aload_n hx hb (xb_d D_M_written 54 rfl) rfl (lv_at hl 0 rfl) ?_
    have hk15 : xb_k h16 x0 = 9 := hEh16.k hk15
    refine xb_call0 (D := D) (A := A) (σ := σ) (h := h16) (d := 4) (maxL := 5) (rest := []) (av := [.ref x0]) (fun T hT X => by obtain ⟨cb9, ra9, rb9, rc9⟩ := xb_recv (ci := 8) hR rfl hk15 (by decide); exact xt_invV X hx hown (hts _ m_e991293f) (hts _ m_385a74b3) (hts _ m_c9fbcd02) (xt_sigOf (hts _ m_1f53f210)) nm_M_count (by rw [hT]; exact ra9) rb9 rc9 (g := F0 m 104 ls [.ref x0]) rfl (argsL := []) (rest := []) rfl rfl (by rw [hb]; exact (xb_d D_M_written 55 rfl))) (ok_M_count l hfl D A σ x0 h16 _ hw) (hml.trans hl.1.symm) (by rw [hb]; exact (xb_d D_M_written 55 rfl)) (Nat.le_of_ble_eq_true rfl) (Nat.le_of_ble_eq_true rfl) (Nat.le_of_ble_eq_true rfl) (show k ≤ MC by omega) (show n ≤ MS by omega) (xt_w1 hB.1 m_1f53f210) (xt_cdOf hB.1 m_1f53f210) (hts _ m_d5ed7bed) hB hR hS hA (fun vv h18 H locs hq hEh18 hR hS => ?_)
    obtain ⟨r19, rfl, hw⟩ := hq
    have hw := hw hEh18
    have hE := hE.tr hEh18
    refine W.eq (g2 := F0 m 107 ls [.long r19]) rfl ?_
    refine lv_pop2_2 hx hb (xb_d D_M_written 56 rfl) rfl ?_
    refine lv_goto (tgt := 301) hx hb (xb_d D_M_written 57 rfl) rfl ?_
    exact am_M_written_L301 l hfl D A σ MC MS h0 Qr h18 hw p e s m args below meth c hC H locs ls k n hE (lv_sub hl [] rfl) hR hS (by omega) (by omega)

set_option maxHeartbeats 4000000 in
set_option maxRecDepth 100000 in
theorem am_M_written_L84 (l : Launch) (hfl : l.flags = pinnedFlags ++ [noTraceFlag]) (D : va_G) (A : Nat → Prop) (σ MC MS : Nat) (h0 : xb_H) (Qr : xb_H → Prop) (x0 : Nat) (h : xb_H) (hw : w_M_written_L84 Qr x0 h) : xb_am l D A σ 6 MC MS h0 (fun v h _ _ => v = none ∧ Qr h) (fun _ _ _ _ => False) y_M_written.cls y_M_written.name b_M_written 4 ([] : List ExceptionTableEntry) none 84 [(0, .ref x0)] [] h 0 0 := by
  unfold w_M_written_L84 at hw
  intro p e s m args below meth c hC H locs ls k n hE hl hR hS hk hn
  obtain ⟨hx, hb, hown, hlocks, htab, hml, hr, hB, hA, hnm⟩ := id hC
  have hts := hB.1.1.at args
  refine lv_aload_n hx hb (xb_d D_M_written 44 rfl) rfl (lv_at hl 0 rfl) ?_
  obtain ⟨hk1, hw⟩ := hw
  refine xb_call0 (D := D) (A := A) (σ := σ) (h := h) (d := 4) (maxL := 5) (rest := []) (av := [.ref x0]) (fun T hT X => by obtain ⟨cb9, ra9, rb9, rc9⟩ := xb_recv (ci := 8) hR rfl hk1 (by decide); exact xt_invV X hx hown (hts _ m_e991293f) (hts _ m_385a74b3) (hts _ m_c9fbcd02) (xt_sigOf (hts _ m_1f53f210)) nm_M_count (by rw [hT]; exact ra9) rb9 rc9 (g := F0 m 85 ls [.ref x0]) rfl (argsL := []) (rest := []) rfl rfl (by rw [hb]; exact (xb_d D_M_written 45 rfl))) (ok_M_count l hfl D A σ x0 h _ hw) (hml.trans hl.1.symm) (by rw [hb]; exact (xb_d D_M_written 45 rfl)) (Nat.le_of_ble_eq_true rfl) (Nat.le_of_ble_eq_true rfl) (Nat.le_of_ble_eq_true rfl) (show k ≤ MC by omega) (show n ≤ MS by omega) (xt_w1 hB.1 m_1f53f210) (xt_cdOf hB.1 m_1f53f210) (hts _ m_d5ed7bed) hB hR hS hA (fun vv h2 H locs hq hEh2 hR hS => ?_)
  obtain ⟨r3, rfl, hw⟩ := hq
  have hw := hw hEh2
  have hE := hE.tr hEh2
  refine W.eq (g2 := F0 m 88 ls [.long r3]) rfl ?_
  refine lv_pop2_2 hx hb (xb_d D_M_written 46 rfl) rfl ?_
  refine lv_goto (tgt := 301) hx hb (xb_d D_M_written 47 rfl) rfl ?_
  exact am_M_written_L301 l hfl D A σ MC MS h0 Qr h2 hw p e s m args below meth c hC H locs ls k n hE (lv_sub hl [] rfl) hR hS (by omega) (by omega)

set_option maxHeartbeats 4000000 in
set_option maxRecDepth 100000 in
theorem am_M_written_L51 (l : Launch) (hfl : l.flags = pinnedFlags ++ [noTraceFlag]) (D : va_G) (A : Nat → Prop) (σ MC MS : Nat) (h0 : xb_H) (Qr : xb_H → Prop) (h : xb_H) (hw : w_M_written_L51 Qr h) : xb_am l D A σ 6 MC MS h0 (fun v h _ _ => v = none ∧ Qr h) (fun _ _ _ _ => False) y_M_written.cls y_M_written.name b_M_written 4 ([] : List ExceptionTableEntry) none 51 [] [] h 0 0 := by
  unfold w_M_written_L51 at hw
  intro p e s m args below meth c hC H locs ls k n hE hl hR hS hk hn
  obtain ⟨hx, hb, hown, hlocks, htab, hml, hr, hB, hA, hnm⟩ := id hC
  have hts := hB.1.1.at args
  refine lv_goto (tgt := 301) hx hb (xb_d D_M_written 28 rfl) rfl ?_
  exact am_M_written_L301 l hfl D A σ MC MS h0 Qr h hw p e s m args below meth c hC H locs ls k n hE (lv_sub hl [] rfl) hR hS (by omega) (by omega)

set_option maxHeartbeats 4000000 in
set_option maxRecDepth 100000 in
theorem am_M_written_L15 (l : Launch) (hfl : l.flags = pinnedFlags ++ [noTraceFlag]) (D : va_G) (A : Nat → Prop) (σ MC MS : Nat) (h0 : xb_H) (Qr : xb_H → Prop) (x0 : Nat) (h : xb_H) (hw : w_M_written_L15 Qr x0 h) : xb_am l D A σ 6 MC MS h0 (fun v h _ _ => v = none ∧ Qr h) (fun _ _ _ _ => False) y_M_written.cls y_M_written.name b_M_written 4 ([] : List ExceptionTableEntry) none 15 [(0, .ref x0)] [] h 0 0 := by
  unfold w_M_written_L15 at hw
  intro p e s m args below meth c hC H locs ls k n hE hl hR hS hk hn
  obtain ⟨hx, hb, hown, hlocks, htab, hml, hr, hB, hA, hnm⟩ := id hC
  have hts := hB.1.1.at args
  refine lv_aload_n hx hb (xb_d D_M_written 9 rfl) rfl (lv_at hl 0 rfl) ?_
  obtain ⟨hk1, hw⟩ := hw
  refine xb_call0 (D := D) (A := A) (σ := σ) (h := h) (d := 3) (maxL := 2) (rest := []) (av := [.ref x0]) (fun T hT X => by obtain ⟨cb9, ra9, rb9, rc9⟩ := xb_recv (ci := 8) hR rfl hk1 (by decide); exact xt_invV X hx hown (hts _ m_0e978570) (hts _ m_40099f98) (hts _ m_a7dbfd07) (xt_sigOf (hts _ m_0af1ec6a)) nm_M_next (by rw [hT]; exact ra9) rb9 rc9 (g := F0 m 16 ls [.ref x0]) rfl (argsL := []) (rest := []) rfl rfl (by rw [hb]; exact (xb_d D_M_written 10 rfl))) (ok_M_next l hfl D A σ x0 h _ hw) (hml.trans hl.1.symm) (by rw [hb]; exact (xb_d D_M_written 10 rfl)) (Nat.le_of_ble_eq_true rfl) (Nat.le_of_ble_eq_true rfl) (Nat.le_of_ble_eq_true rfl) (show k ≤ MC by omega) (show n ≤ MS by omega) (xt_w1 hB.1 m_0af1ec6a) (xt_cdOf hB.1 m_0af1ec6a) (hts _ m_d5ed7bed) hB hR hS hA (fun vv h2 H locs hq hEh2 hR hS => ?_)
  obtain ⟨r3, rfl, hw⟩ := hq
  have hw := hw hEh2
  have hE := hE.tr hEh2
  refine W.eq (g2 := F0 m 19 ls [.int r3]) rfl ?_
  refine lv_istore_n hx hb (xb_d D_M_written 11 rfl) rfl hl (by decide) rfl (fun ls hl => ?_)
  have hl : lv_has ls 4 [(3, .int r3), (0, .ref x0)] := hl
  refine lv_aload_n hx hb (xb_d D_M_written 12 rfl) rfl (lv_at hl 1 rfl) ?_
  have hk1 : xb_k h2 x0 = 9 := hEh2.k hk1
  refine xb_getI (C := R_M) (T := F_M) (N := 97) hx hb 8 17 hts fin_M hown hR hk1 (by decide) rfl (by decide) rfl (hts _ m_ff69da61) (fun _ h9 => h9) (xb_d D_M_written 13 rfl) ?_
  refine lv_if_ne (tgt := 51) hx hb (xb_d D_M_written 14 rfl) rfl (fun hc4 => ?_) (fun hc4 => ?_)
  · have hw := hw.1 hc4
    exact am_M_written_L51 l hfl D A σ MC MS h0 Qr h2 hw p e s m args below meth c hC H locs ls k n hE (lv_sub hl [] rfl) hR hS (by omega) (by omega)
  · have hw := hw.2 hc4
    refine lv_iload_n hx hb (xb_d D_M_written 15 rfl) rfl (lv_at hl 0 rfl) ?_
    refine lv_bipush (v := 64) hx hb (xb_d D_M_written 16 rfl) (by decide) ?_
    refine lv_icmp_eq (tgt := 51) hx hb (xb_d D_M_written 17 rfl) rfl (fun hc5 => ?_) (fun hc5 => ?_)
    · have hw := hw.1 hc5
      exact am_M_written_L51 l hfl D A σ MC MS h0 Qr h2 hw p e s m args below meth c hC H locs ls k n hE (lv_sub hl [] rfl) hR hS (by omega) (by omega)
    · have hw := hw.2 hc5
      refine lv_iload_n hx hb (xb_d D_M_written 18 rfl) rfl (lv_at hl 0 rfl) ?_
      refine xb_call0 (D := D) (A := A) (σ := σ) (h := h2) (d := 2) (maxL := 1) (rest := []) (av := [.int r3]) (fun T hT X => xt_invS X hx hown (hts _ m_7755cbcf) (hts _ m_f0ea648f) (hts _ m_d5ed7bed) (xt_sgS (hts _ m_3354b7ba)).1 (xt_sgS (hts _ m_3354b7ba)).2 nm_M_isType (g := F0 m 34 ls [.int r3]) rfl (argsL := [.int r3]) (rest := []) rfl rfl (by rw [hb]; exact (xb_d D_M_written 19 rfl))) (ok_M_isType l hfl D A σ r3 h2 _ hw) (hml.trans hl.1.symm) (by rw [hb]; exact (xb_d D_M_written 19 rfl)) (Nat.le_of_ble_eq_true rfl) (Nat.le_of_ble_eq_true rfl) (Nat.le_of_ble_eq_true rfl) (show k ≤ MC by omega) (show n ≤ MS by omega) (xt_w1 hB.1 m_3354b7ba) (xt_cdOf hB.1 m_3354b7ba) (hts _ m_d5ed7bed) hB hR hS hA (fun vv h6 H locs hq hEh6 hR hS => ?_)
      obtain ⟨r7, rfl, hw⟩ := hq
      have hw := hw hEh6
      have hE := hE.tr hEh6
      refine W.eq (g2 := F0 m 37 ls [.int r7]) rfl ?_
      refine lv_if_ne (tgt := 51) hx hb (xb_d D_M_written 20 rfl) rfl (fun hc8 => ?_) (fun hc8 => ?_)
      · have hw := hw.1 hc8
        exact am_M_written_L51 l hfl D A σ MC MS h0 Qr h6 hw p e s m args below meth c hC H locs ls k n hE (lv_sub hl [] rfl) hR hS (by omega) (by omega)
      · have hw := hw.2 hc8
        refine lv_aload_n hx hb (xb_d D_M_written 21 rfl) rfl (lv_at hl 1 rfl) ?_
        refine lv_iconst (v := 5) hx hb (xb_d D_M_written 22 rfl) (by decide) ?_
        refine lv_aload_n hx hb (xb_d D_M_written 23 rfl) rfl (lv_at hl 1 rfl) ?_
        have hk1 : xb_k h6 x0 = 9 := hEh6.k hk1
        refine xb_getI (C := R_M) (T := F_M) (N := 97) hx hb 8 15 hts fin_M hown hR hk1 (by decide) rfl (by decide) rfl (hts _ m_6c2d27ad) (fun _ h9 => h9) (xb_d D_M_written 24 rfl) ?_
        refine lv_iconst (v := 1) hx hb (xb_d D_M_written 25 rfl) (by decide) ?_
        refine lv_isub hx hb (xb_d D_M_written 26 rfl) ?_
        refine xb_call0 (D := D) (A := A) (σ := σ) (h := h6) (d := 2) (maxL := 3) (rest := []) (av := [.ref x0, .int 5, .int ((xb_i h6 x0 15) - 1)]) (fun T hT X => by obtain ⟨cb9, ra9, rb9, rc9⟩ := xb_recv (ci := 8) hR rfl hk1 (by decide); exact xt_invV X hx hown (hts _ m_939052ad) (hts _ m_29cc8c73) (hts _ m_3b1ac7ab) (xt_sigOf (hts _ m_8f062ecd)) nm_M_fail (by rw [hT]; exact ra9) rb9 rc9 (g := F0 m 48 ls [.int ((xb_i h6 x0 15) - 1), .int 5, .ref x0]) rfl (argsL := [.int 5, .int ((xb_i h6 x0 15) - 1)]) (rest := []) rfl rfl (by rw [hb]; exact (xb_d D_M_written 27 rfl))) (ok_M_fail l hfl D A σ x0 5 ((xb_i h6 x0 15) - 1) h6 _ hw) (hml.trans hl.1.symm) (by rw [hb]; exact (xb_d D_M_written 27 rfl)) (Nat.le_of_ble_eq_true rfl) (Nat.le_of_ble_eq_true rfl) (Nat.le_of_ble_eq_true rfl) (show k ≤ MC by omega) (show n ≤ MS by omega) (xt_w1 hB.1 m_8f062ecd) (xt_cdOf hB.1 m_8f062ecd) (hts _ m_d5ed7bed) hB hR hS hA (fun vv h9 H locs hq hEh9 hR hS => ?_)
        obtain ⟨rfl, hw⟩ := hq
        have hw := hw hEh9
        have hE := hE.tr hEh9
        refine W.eq (g2 := F0 m 51 ls []) rfl ?_
        exact am_M_written_L51 l hfl D A σ MC MS h0 Qr h9 hw p e s m args below meth c hC H locs ls k n hE (lv_sub hl [] rfl) hR hS (by omega) (by omega)

set_option maxHeartbeats 4000000 in
set_option maxRecDepth 100000 in
theorem ok_M_written (l : Launch) (hfl : l.flags = pinnedFlags ++ [noTraceFlag]) (D : va_G) (A : Nat → Prop) (σ : Nat) (x0 : Nat) (x1 : Int32) (x2 : Int32) (h : xb_H) (Qr : xb_H → Prop) (hw : w_M_written x0 x1 x2 h Qr) : xb_Met l y_M_written [.code y_M_written b_M_written 4 none] (xb_rm 6 0 0) (xb_Pc D A σ h [.ref x0, .int x1, .int x2]) (xb_Qc D A h 0 0 (fun v h _ _ => v = none ∧ Qr h) (fun _ _ _ _ => False)) A := by
  refine xb_ofAm (cc := b_M_written) (by decide) (Nat.le_of_ble_eq_true rfl) ?_
  unfold w_M_written at hw
  show xb_am l D A σ 6 0 0 h (fun v h _ _ => v = none ∧ Qr h) (fun _ _ _ _ => False) y_M_written.cls y_M_written.name b_M_written 4 ([] : List ExceptionTableEntry) none 0 [(0, .ref x0), (1, .int x1), (2, .int x2)] [] h 0 0
  obtain ⟨MC, hMC⟩ : ∃ x, x = 0 := ⟨_, rfl⟩
  obtain ⟨MS, hMS⟩ : ∃ x, x = 0 := ⟨_, rfl⟩
  rw [show xb_am l D A σ 6 0 0 = xb_am l D A σ 6 MC MS by rw [hMC, hMS]]
  obtain ⟨h0, hh0⟩ : ∃ x, x = h := ⟨_, rfl⟩
  rw [show xb_am l D A σ 6 MC MS h = xb_am l D A σ 6 MC MS h0 by rw [hh0]]
  intro p e s m args below meth c hC H locs ls k n hE hl hR hS hk hn
  obtain ⟨hx, hb, hown, hlocks, htab, hml, hr, hB, hA, hnm⟩ := id hC
  have hts := hB.1.1.at args
  refine lv_iload_n hx hb (xb_d D_M_written 0 rfl) rfl (lv_at hl 1 rfl) ?_
  refine lv_iconst (v := 2) hx hb (xb_d D_M_written 1 rfl) (by decide) ?_
  refine lv_icmp_eq (tgt := 15) hx hb (xb_d D_M_written 2 rfl) rfl (fun hc1 => ?_) (fun hc1 => ?_)
  · have hw := hw.1 hc1
    exact am_M_written_L15 l hfl D A σ MC MS h0 Qr x0 h hw p e s m args below meth c hC H locs ls k n hE (lv_sub hl [0] rfl) hR hS (by omega) (by omega)
  · have hw := hw.2 hc1
    refine lv_iload_n hx hb (xb_d D_M_written 3 rfl) rfl (lv_at hl 1 rfl) ?_
    refine lv_iconst (v := 3) hx hb (xb_d D_M_written 4 rfl) (by decide) ?_
    refine lv_icmp_eq (tgt := 15) hx hb (xb_d D_M_written 5 rfl) rfl (fun hc2 => ?_) (fun hc2 => ?_)
    · have hw := hw.1 hc2
      exact am_M_written_L15 l hfl D A σ MC MS h0 Qr x0 h hw p e s m args below meth c hC H locs ls k n hE (lv_sub hl [0] rfl) hR hS (by omega) (by omega)
    · have hw := hw.2 hc2
      refine lv_iload_n hx hb (xb_d D_M_written 6 rfl) rfl (lv_at hl 1 rfl) ?_
      refine lv_iconst (v := 4) hx hb (xb_d D_M_written 7 rfl) (by decide) ?_
      refine lv_icmp_ne (tgt := 54) hx hb (xb_d D_M_written 8 rfl) rfl (fun hc3 => ?_) (fun hc3 => ?_)
      · have hw := hw.1 hc3
        refine lv_iload_n hx hb (xb_d D_M_written 29 rfl) rfl (lv_at hl 1 rfl) ?_
        refine lv_bipush (v := 12) hx hb (xb_d D_M_written 30 rfl) (by decide) ?_
        refine lv_icmp_eq (tgt := 84) hx hb (xb_d D_M_written 31 rfl) rfl (fun hc4 => ?_) (fun hc4 => ?_)
        · have hw := hw.1 hc4
          exact am_M_written_L84 l hfl D A σ MC MS h0 Qr x0 h hw p e s m args below meth c hC H locs ls k n hE (lv_sub hl [0] rfl) hR hS (by omega) (by omega)
        · have hw := hw.2 hc4
          refine lv_iload_n hx hb (xb_d D_M_written 32 rfl) rfl (lv_at hl 1 rfl) ?_
          refine lv_bipush (v := 13) hx hb (xb_d D_M_written 33 rfl) (by decide) ?_
          refine lv_icmp_eq (tgt := 84) hx hb (xb_d D_M_written 34 rfl) rfl (fun hc5 => ?_) (fun hc5 => ?_)
          · have hw := hw.1 hc5
            exact am_M_written_L84 l hfl D A σ MC MS h0 Qr x0 h hw p e s m args below meth c hC H locs ls k n hE (lv_sub hl [0] rfl) hR hS (by omega) (by omega)
          · have hw := hw.2 hc5
            refine lv_iload_n hx hb (xb_d D_M_written 35 rfl) rfl (lv_at hl 1 rfl) ?_
            refine lv_bipush (v := 16) hx hb (xb_d D_M_written 36 rfl) (by decide) ?_
            refine lv_icmp_eq (tgt := 84) hx hb (xb_d D_M_written 37 rfl) rfl (fun hc6 => ?_) (fun hc6 => ?_)
            · have hw := hw.1 hc6
              exact am_M_written_L84 l hfl D A σ MC MS h0 Qr x0 h hw p e s m args below meth c hC H locs ls k n hE (lv_sub hl [0] rfl) hR hS (by omega) (by omega)
            · have hw := hw.2 hc6
              refine lv_iload_n hx hb (xb_d D_M_written 38 rfl) rfl (lv_at hl 1 rfl) ?_
              refine lv_bipush (v := 32) hx hb (xb_d D_M_written 39 rfl) (by decide) ?_
              refine lv_icmp_lt (tgt := 92) hx hb (xb_d D_M_written 40 rfl) rfl (fun hc7 => ?_) (fun hc7 => ?_)
              · have hw := hw.1 hc7
                exact am_M_written_L92 l hfl D A σ MC MS h0 Qr x0 x1 x2 h hw p e s m args below meth c hC H locs ls k n hE (lv_sub hl [0, 1, 2] rfl) hR hS (by omega) (by omega)
              · have hw := hw.2 hc7
                refine lv_iload_n hx hb (xb_d D_M_written 41 rfl) rfl (lv_at hl 1 rfl) ?_
                refine lv_bipush (v := 36) hx hb (xb_d D_M_written 42 rfl) (by decide) ?_
                refine lv_icmp_gt (tgt := 92) hx hb (xb_d D_M_written 43 rfl) rfl (fun hc8 => ?_) (fun hc8 => ?_)
                · have hw := hw.1 hc8
                  exact am_M_written_L92 l hfl D A σ MC MS h0 Qr x0 x1 x2 h hw p e s m args below meth c hC H locs ls k n hE (lv_sub hl [0, 1, 2] rfl) hR hS (by omega) (by omega)
                · have hw := hw.2 hc8
                  exact am_M_written_L84 l hfl D A σ MC MS h0 Qr x0 h hw p e s m args below meth c hC H locs ls k n hE (lv_sub hl [0] rfl) hR hS (by omega) (by omega)
      · have hw := hw.2 hc3
        exact am_M_written_L15 l hfl D A σ MC MS h0 Qr x0 h hw p e s m args below meth c hC H locs ls k n hE (lv_sub hl [0] rfl) hR hS (by omega) (by omega)

