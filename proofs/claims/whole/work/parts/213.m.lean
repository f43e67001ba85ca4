theorem m_1dd22d11 : (.methodLink "StackHostModel" 628 y_M_add : Cond) ∈ xt_tbl := xt_in (xt_t12 (List.mem_of_getElem? (i := 162) (by decide +kernel))) (by decide +kernel)
theorem m_e8ae1713 : (.instanceMethod y_M_add : Cond) ∈ xt_tbl := xt_in (xt_t12 (List.mem_of_getElem? (i := 164) (by decide +kernel))) (by decide +kernel)
theorem m_973b740a : (.selects "StackHostModel" y_M_add y_M_add : Cond) ∈ xt_tbl := xt_in (xt_v14 (q := (⟨"StackHostModel", "add", "(JI)V"⟩, 97)) (List.mem_of_getElem? (i := 10) (by decide +kernel))) (by decide +kernel)
theorem m_a0d5a63e : (.code y_M_add b_M_add 4 none : Cond) ∈ xt_tbl := xt_in (xt_t12 (List.mem_of_getElem? (i := 165) (by decide +kernel))) (by decide +kernel)
theorem m_ce40dc40 : (.methodLink "StackHostModel" 634 y_M_pop : Cond) ∈ xt_tbl := xt_in (xt_t12 (List.mem_of_getElem? (i := 189) (by decide +kernel))) (by decide +kernel)
theorem m_c3a002b8 : (.instanceMethod y_M_pop : Cond) ∈ xt_tbl := xt_in (xt_t12 (List.mem_of_getElem? (i := 191) (by decide +kernel))) (by decide +kernel)
theorem m_395c99b5 : (.selects "StackHostModel" y_M_pop y_M_pop : Cond) ∈ xt_tbl := xt_in (xt_v15 (q := (⟨"StackHostModel", "pop", "(I)J"⟩, 97)) (List.mem_of_getElem? (i := 0) (by decide +kernel))) (by decide +kernel)
theorem m_1ea89357 : (.code y_M_pop b_M_pop 2 (some .long) : Cond) ∈ xt_tbl := xt_in (xt_t12 (List.mem_of_getElem? (i := 192) (by decide +kernel))) (by decide +kernel)
theorem nm_M_add : xt_nm y_M_add 2 := ⟨by decide +kernel, by decide +kernel⟩
theorem nm_M_pop : xt_nm y_M_pop 1 := ⟨by decide +kernel, by decide +kernel⟩
set_option maxRecDepth 100000 in
def T_M_leave : List (Nat × Instr × Nat) := [(0, .aload_n 0, 1), (1, .getfield 616, 3), (4, .iconst 1, 1), (5, .isub, 1), (6, .istore_n 1, 1), (7, .aload_n 0, 1), (8, .getfield 167, 3), (11, .aload_n 0, 1), (12, .getfield 151, 3), (15, .iload_n 1, 1), (16, .iaload, 1), (17, .iaload, 1), (18, .istore_n 2, 1), (19, .iload_n 2, 1), (20, .bipush 64, 2), (22, .if_icmp .ne 7, 3), (25, .lconst 0, 1), (26, .goto 8, 3), (29, .aload_n 0, 1), (30, .iload_n 2, 1), (31, .invokevirtual 634, 3), (34, .lstore_n 3, 1), (35, .aload_n 0, 1), (36, .aload_n 0, 1), (37, .getfield 145, 3), (40, .iload_n 1, 1), (41, .iaload, 1), (42, .putfield 607, 3), (45, .aload_n 0, 1), (46, .aload_n 0, 1), (47, .getfield 151, 3), (50, .iload_n 1, 1), (51, .iaload, 1), (52, .putfield 610, 3), (55, .aload_n 0, 1), (56, .dup, 1), (57, .getfield 616, 3), (60, .iconst 1, 1), (61, .isub, 1), (62, .putfield 616, 3), (65, .iload_n 2, 1), (66, .bipush 64, 2), (68, .if_icmp .eq 9, 3), (71, .aload_n 0, 1), (72, .lload_n 3, 1), (73, .iload_n 2, 1), (74, .invokevirtual 628, 3), (77, .return_, 1)]
theorem D_M_leave : ∀ q ∈ T_M_leave, decode b_M_leave q.1 = .ok (q.2.1, q.2.2) := by decide +kernel

set_option maxHeartbeats 4000000 in
set_option maxRecDepth 100000 in
theorem am_M_leave_L77 (l : Launch) (hfl : l.flags = pinnedFlags ++ [noTraceFlag]) (D : va_G) (A : Nat → Prop) (σ MC MS : Nat) (h0 : xb_H) (Qr : xb_H → Prop) (h : xb_H) (hw : w_M_leave_L77 Qr h) : xb_am l D A σ 3 MC MS h0 (fun v h _ _ => v = none ∧ Qr h) (fun _ _ _ _ => False) y_M_leave.cls y_M_leave.name b_M_leave 5 ([] : List ExceptionTableEntry) none 77 [] [] h 0 0 := by
  unfold w_M_leave_L77 at hw
  intro p e s m args below meth c hC H locs ls k n hE hl hR hS hk hn
  obtain ⟨hx, hb, hown, hlocks, htab, hml, hr, hB, hA, hnm⟩ := id hC
  have hts := hB.1.1.at args
  exact xb_vret 0 0 hx hb hr hlocks (show k + 0 ≤ MC by omega) (show n + 0 ≤ MS by omega) hE hR hS (xb_d D_M_leave 47 rfl) hw

set_option maxHeartbeats 4000000 in
set_option maxRecDepth 100000 in
theorem am_M_leave_L34 (l : Launch) (hfl : l.flags = pinnedFlags ++ [noTraceFlag]) (D : va_G) (A : Nat → Prop) (σ MC MS : Nat) (h0 : xb_H) (Qr : xb_H → Prop) (x0 : Nat) (x1 : Int32) (x2 : Int32) (y0 : Int64) (h : xb_H) (hw : w_M_leave_L34 Qr x0 x1 x2 y0 h) : xb_am l D A σ 3 MC MS h0 (fun v h _ _ => v = none ∧ Qr h) (fun _ _ _ _ => False) y_M_leave.cls y_M_leave.name b_M_leave 5 ([] : List ExceptionTableEntry) none 34 [(0, .ref x0), (1, .int x1), (2, .int x2)] [.long y0] h 0 0 := by
  unfold w_M_leave_L34 at hw
  intro p e s m args below meth c hC H locs ls k n hE hl hR hS hk hn
  obtain ⟨hx, hb, hown, hlocks, htab, hml, hr, hB, hA, hnm⟩ := id hC
  have hts := hB.1.1.at args
  refine lv_lstore_n hx hb (xb_d D_M_leave 21 rfl) rfl hl (by decide) rfl (fun ls hl => ?_)
  have hl : lv_has ls 5 [(3, .long y0), (0, .ref x0), (1, .int x1), (2, .int x2)] := hl
  refine lv_aload_n hx hb (xb_d D_M_leave 22 rfl) rfl (lv_at hl 1 rfl) ?_
  refine lv_aload_n hx hb (xb_d D_M_leave 23 rfl) rfl (lv_at hl 1 rfl) ?_
  obtain ⟨hk1, hw⟩ := hw
  refine xb_getP (C := R_M) (T := F_M) (N := 97) hx hb 8 71 hts fin_M hown hR hk1 (by decide) rfl (by decide) rfl (hts _ m_fa00c728) (fun _ h9 => h9) (xb_d D_M_leave 24 rfl) ?_
  obtain ⟨b2, eb2, hw⟩ := hw
  refine xb_some eb2 ?_
  refine lv_iload_n hx hb (xb_d D_M_leave 25 rfl) rfl (lv_at hl 2 rfl) ?_
  obtain ⟨hk4, hw⟩ := hw
  obtain ⟨hi3, hw⟩ := hw
  refine xb_iald hx hb hR hk4 hi3 (xb_d D_M_leave 26 rfl) ?_
  refine xb_putI (C := R_M) (T := F_M) (N := 97) (ty := .int) (x := (xb_i h b2 (Int32.toNatClampNeg x1))) hx hb 8 76 hts fin_M t_M t_M_ok n_M hown hR hS hk1 (by decide) rfl (by decide) rfl (hts _ m_d6ddfcd8) (fun _ h9 => h9) rfl (by decide +kernel) rfl rfl (xb_d D_M_leave 27 rfl) (fun H locs hR hS => ?_)
  obtain ⟨h5, eh5⟩ : ∃ x : xb_H, x = xb_I h x0 76 (xb_i h b2 (Int32.toNatClampNeg x1)) := ⟨_, rfl⟩
  rw [← eh5] at hR
  have hw := hw h5 eh5
  have hE : xb_ext h0 h5 := by rw [eh5]; exact hE
  refine lv_aload_n hx hb (xb_d D_M_leave 28 rfl) rfl (lv_at hl 1 rfl) ?_
  refine lv_aload_n hx hb (xb_d D_M_leave 29 rfl) rfl (lv_at hl 1 rfl) ?_
  have hk1 : xb_k h5 x0 = 9 := by rw [eh5]; exact hk1
  refine xb_getP (C := R_M) (T := F_M) (N := 97) hx hb 8 73 hts fin_M hown hR hk1 (by decide) rfl (by decide) rfl (hts _ m_6c9efdee) (fun _ h9 => h9) (xb_d D_M_leave 30 rfl) ?_
  obtain ⟨b6, eb6, hw⟩ := hw
  refine xb_some eb6 ?_
  refine lv_iload_n hx hb (xb_d D_M_leave 31 rfl) rfl (lv_at hl 2 rfl) ?_
  obtain ⟨hk8, hw⟩ := hw
  obtain ⟨hi7, hw⟩ := hw
  refine xb_iald hx hb hR hk8 hi7 (xb_d D_M_leave 32 rfl) ?_
  refine xb_putI (C := R_M) (T := F_M) (N := 97) (ty := .int) (x := (xb_i h5 b6 (Int32.toNatClampNeg x1))) hx hb 8 81 hts fin_M t_M t_M_ok n_M hown hR hS hk1 (by decide) rfl (by decide) rfl (hts _ m_65743087) (fun _ h9 => h9) rfl (by decide +kernel) rfl rfl (xb_d D_M_leave 33 rfl) (fun H locs hR hS => ?_)
  obtain ⟨h9, eh9⟩ : ∃ x : xb_H, x = xb_I h5 x0 81 (xb_i h5 b6 (Int32.toNatClampNeg x1)) := ⟨_, rfl⟩
  rw [← eh9] at hR
  have hw := hw h9 eh9
  have hE : xb_ext h0 h9 := by rw [eh9]; exact hE
  refine lv_aload_n hx hb (xb_d D_M_leave 34 rfl) rfl (lv_at hl 1 rfl) ?_
  refine lv_dup hx hb (xb_d D_M_leave 35 rfl) rfl ?_
  have hk1 : xb_k h9 x0 = 9 := by rw [eh9]; exact hk1
  refine xb_getI (C := R_M) (T := F_M) (N := 97) hx hb 8 68 hts fin_M hown hR hk1 (by decide) rfl (by decide) rfl (hts _ m_11712ae1) (fun _ h9 => h9) (xb_d D_M_leave 36 rfl) ?_
  refine lv_iconst (v := 1) hx hb (xb_d D_M_leave 37 rfl) (by decide) ?_
  refine lv_isub hx hb (xb_d D_M_leave 38 rfl) ?_
  refine xb_putI (C := R_M) (T := F_M) (N := 97) (ty := .int) (x := ((xb_i h9 x0 68) - 1)) hx hb 8 68 hts fin_M t_M t_M_ok n_M hown hR hS hk1 (by decide) rfl (by decide) rfl (hts _ m_11712ae1) (fun _ h9 => h9) rfl (by decide +kernel) rfl rfl (xb_d D_M_leave 39 rfl) (fun H locs hR hS => ?_)
  obtain ⟨h10, eh10⟩ : ∃ x : xb_H, x = xb_I h9 x0 68 ((xb_i h9 x0 68) - 1) := ⟨_, rfl⟩
  rw [← eh10] at hR
  have hw := hw h10 eh10
  have hE : xb_ext h0 h10 := by rw [eh10]; exact hE
  refine lv_iload_n hx hb (xb_d D_M_leave 40 rfl) rfl (lv_at hl 3 rfl) ?_
  refine lv_bipush (v := 64) hx hb (xb_d D_M_leave 41 rfl) (by decide) ?_
  refine lv_icmp_eq (tgt := 77) hx hb (xb_d D_M_leave 42 rfl) rfl (fun hc11 => ?_) (fun hc11 => ?_)
  · have hw := hw.1 hc11
    exact am_M_leave_L77 l hfl D A σ MC MS h0 Qr h10 hw p e s m args below meth c hC H locs ls k n hE (lv_sub hl [] rfl) hR hS (by omega) (by omega)
  · have hw := hw.2 hc11
    refine lv_aload_n hx hb (xb_d D_M_leave 43 rfl) rfl (lv_at hl 1 rfl) ?_
    refine lv_lload_n hx hb (xb_d D_M_leave 44 rfl) rfl (lv_at hl 0 rfl) ?_
    refine lv_iload_n hx hb (xb_d D_M_leave 45 rfl) rfl (lv_at hl 3 rfl) ?_
    have hk1 : xb_k h10 x0 = 9 := by rw [eh10]; exact hk1
    refine xb_call0 (D := D) (A := A) (σ := σ) (h := h10) (d := 2) (maxL := 4) (rest := []) (av := [.ref x0, .long y0, .int x2]) (fun T hT X => by obtain ⟨cb9, ra9, rb9, rc9⟩ := xb_recv (ci := 8) hR rfl hk1 (by decide); exact xt_invV X hx hown (hts _ m_1dd22d11) (hts _ m_e8ae1713) (hts _ m_973b740a) (xt_sigOf (hts _ m_a0d5a63e)) nm_M_add (by rw [hT]; exact ra9) rb9 rc9 (g := F0 m 74 ls [.int x2, .long y0, .ref x0]) rfl (argsL := [.long y0, .int x2]) (rest := []) rfl rfl (by rw [hb]; exact (xb_d D_M_leave 46 rfl))) (ok_M_add l hfl D A σ x0 y0 x2 h10 _ hw) (hml.trans hl.1.symm) (by rw [hb]; exact (xb_d D_M_leave 46 rfl)) (Nat.le_of_ble_eq_true rfl) (Nat.le_of_ble_eq_true rfl) (Nat.le_of_ble_eq_true rfl) (show k ≤ MC by omega) (show n ≤ MS by omega) (xt_w1 hB.1 m_a0d5a63e) (xt_cdOf hB.1 m_a0d5a63e) (hts _ m_d5ed7bed) hB hR hS hA (fun vv h12 H locs hq hEh12 hR hS => ?_)
    obtain ⟨rfl, hw⟩ := hq
    have hw := hw hEh12
    have hE := hE.tr hEh12
    refine W.eq (g2 := F0 m 77 ls []) rfl ?_
    exact am_M_leave_L77 l hfl D A σ MC MS h0 Qr h12 hw p e s m args below meth c hC H locs ls k n hE (lv_sub hl [] rfl) hR hS (by omega) (by omega)

set_option maxHeartbeats 4000000 in
set_option maxRecDepth 100000 in
theorem ok_M_leave (l : Launch) (hfl : l.flags = pinnedFlags ++ [noTraceFlag]) (D : va_G) (A : Nat → Prop) (σ : Nat) (x0 : Nat) (h : xb_H) (Qr : xb_H → Prop) (hw : w_M_leave x0 h Qr) : xb_Met l y_M_leave [.code y_M_leave b_M_leave 5 none] (xb_rm 3 0 0) (xb_Pc D A σ h [.ref x0]) (xb_Qc D A h 0 0 (fun v h _ _ => v = none ∧ Qr h) (fun _ _ _ _ => False)) A := by
  refine xb_ofAm (cc := b_M_leave) (by decide) (Nat.le_of_ble_eq_true rfl) ?_
  unfold w_M_leave at hw
  show xb_am l D A σ 3 0 0 h (fun v h _ _ => v = none ∧ Qr h) (fun _ _ _ _ => False) y_M_leave.cls y_M_leave.name b_M_leave 5 ([] : List ExceptionTableEntry) none 0 [(0, .ref x0)] [] h 0 0
  obtain ⟨MC, hMC⟩ : ∃ x, x = 0 := ⟨_, rfl⟩
  obtain ⟨MS, hMS⟩ : ∃ x, x = 0 := ⟨_, rfl⟩
  rw [show xb_am l D A σ 3 0 0 = xb_am l D A σ 3 MC MS by rw [hMC, hMS]]
  obtain ⟨h0, hh0⟩ : ∃ x, x = h := ⟨_, rfl⟩
  rw [show xb_am l D A σ 3 MC MS h = xb_am l D A σ 3 MC MS h0 by rw [hh0]]
  intro p e s m args below meth c hC H locs ls k n hE hl hR hS hk hn
  obtain ⟨hx, hb, hown, hlocks, htab, hml, hr, hB, hA, hnm⟩ := id hC
  have hts := hB.1.1.at args
  refine lv_aload_n hx hb (xb_d D_M_leave 0 rfl) rfl (lv_at hl 0 rfl) ?_
  obtain ⟨hk1, hw⟩ := hw
  refine xb_getI (C := R_M) (T := F_M) (N := 97) hx hb 8 68 hts fin_M hown hR hk1 (by decide) rfl (by decide) rfl (hts _ m_11712ae1) (fun _ h9 => h9) (xb_d D_M_leave 1 rfl) ?_
  refine lv_iconst (v := 1) hx hb (xb_d D_M_leave 2 rfl) (by decide) ?_
  refine lv_isub hx hb (xb_d D_M_leave 3 rfl) ?_
  obtain ⟨v2, ev2⟩ : ∃ x : Int32, x = ((xb_i h x0 68) - 1) := ⟨_, rfl⟩
  have hw := hw v2 ev2
  refine xt_numi (y := v2) ev2.symm ?_
  refine lv_istore_n hx hb (xb_d D_M_leave 4 rfl) rfl hl (by decide) rfl (fun ls hl => ?_)
  have hl : lv_has ls 5 [(1, .int v2), (0, .ref x0)] := hl
  refine lv_aload_n hx hb (xb_d D_M_leave 5 rfl) rfl (lv_at hl 1 rfl) ?_
  refine xb_getP (C := R_M) (T := F_M) (N := 97) hx hb 8 79 hts fin_M hown hR hk1 (by decide) rfl (by decide) rfl (hts _ m_0f6cf014) (fun _ h9 => h9) (xb_d D_M_leave 6 rfl) ?_
  obtain ⟨b3, eb3, hw⟩ := hw
  refine xb_some eb3 ?_
  refine lv_aload_n hx hb (xb_d D_M_leave 7 rfl) rfl (lv_at hl 1 rfl) ?_
  refine xb_getP (C := R_M) (T := F_M) (N := 97) hx hb 8 73 hts fin_M hown hR hk1 (by decide) rfl (by decide) rfl (hts _ m_6c9efdee) (fun _ h9 => h9) (xb_d D_M_leave 8 rfl) ?_
  obtain ⟨b4, eb4, hw⟩ := hw
  refine xb_some eb4 ?_
  refine lv_iload_n hx hb (xb_d D_M_leave 9 rfl) rfl (lv_at hl 0 rfl) ?_
  obtain ⟨hk6, hw⟩ := hw
  obtain ⟨hi5, hw⟩ := hw
  refine xb_iald hx hb hR hk6 hi5 (xb_d D_M_leave 10 rfl) ?_
  obtain ⟨hk8, hw⟩ := hw
  obtain ⟨hi7, hw⟩ := hw
  refine xb_iald hx hb hR hk8 hi7 (xb_d D_M_leave 11 rfl) ?_
  obtain ⟨v9, ev9⟩ : ∃ x : Int32, x = (xb_i h b3 (Int32.toNatClampNeg (xb_i h b4 (Int32.toNatClampNeg v2)))) := ⟨_, rfl⟩
  have hw := hw v9 ev9
  refine xt_numi (y := v9) ev9.symm ?_
  refine lv_istore_n hx hb (xb_d D_M_leave 12 rfl) rfl hl (by decide) rfl (fun ls hl => ?_)
  have hl : lv_has ls 5 [(2, .int v9), (1, .int v2), (0, .ref x0)] := hl
  refine lv_iload_n hx hb (xb_d D_M_leave 13 rfl) rfl (lv_at hl 0 rfl) ?_
  refine lv_bipush (v := 64) hx hb (xb_d D_M_leave 14 rfl) (by decide) ?_
  refine lv_icmp_ne (tgt := 29) hx hb (xb_d D_M_leave 15 rfl) rfl (fun hc10 => ?_) (fun hc10 => ?_)
  · have hw := hw.1 hc10
    refine lv_aload_n hx hb (xb_d D_M_leave 18 rfl) rfl (lv_at hl 2 rfl) ?_
    refine lv_iload_n hx hb (xb_d D_M_leave 19 rfl) rfl (lv_at hl 0 rfl) ?_
    refine xb_call0 (D := D) (A := A) (σ := σ) (h := h) (d := 2) (maxL := 2) (rest := []) (av := [.ref x0, .int v9]) (fun T hT X => by obtain ⟨cb9, ra9, rb9, rc9⟩ := xb_recv (ci := 8) hR rfl hk1 (by decide); exact xt_invV X hx hown (hts _ m_ce40dc40) (hts _ m_c3a002b8) (hts _ m_395c99b5) (xt_sigOf (hts _ m_1ea89357)) nm_M_pop (by rw [hT]; exact ra9) rb9 rc9 (g := F0 m 31 ls [.int v9, .ref x0]) rfl (argsL := [.int v9]) (rest := []) rfl rfl (by rw [hb]; exact (xb_d D_M_leave 20 rfl))) (ok_M_pop l hfl D A σ x0 v9 h _ hw) (hml.trans hl.1.symm) (by rw [hb]; exact (xb_d D_M_leave 20 rfl)) (Nat.le_of_ble_eq_true rfl) (Nat.le_of_ble_eq_true rfl) (Nat.le_of_ble_eq_true rfl) (show k ≤ MC by omega) (show n ≤ MS by omega) (xt_w1 hB.1 m_1ea89357) (xt_cdOf hB.1 m_1ea89357) (hts _ m_d5ed7bed) hB hR hS hA (fun vv h11 H locs hq hEh11 hR hS => ?_)
    obtain ⟨r12, rfl, hw⟩ := hq
    have hw := hw hEh11
    have hE := hE.tr hEh11
    refine W.eq (g2 := F0 m 34 ls [.long r12]) rfl ?_
    exact am_M_leave_L34 l hfl D A σ MC MS h0 Qr x0 v2 v9 r12 h11 hw p e s m args below meth c hC H locs ls k n hE (lv_sub hl [2, 1, 0] rfl) hR hS (by omega) (by omega)
  · have hw := hw.2 hc10
    refine lv_lconst (v := 0) hx hb (xb_d D_M_leave 16 rfl) (by decide) ?_
    refine lv_goto (tgt := 34) hx hb (xb_d D_M_leave 17 rfl) rfl ?_
    exact am_M_leave_L34 l hfl D A σ MC MS h0 Qr x0 v2 v9 0 h hw p e s m args below meth c hC H locs ls k n hE (lv_sub hl [2, 1, 0] rfl) hR hS (by omega) (by omega)

theorem m_14c0c52c : (.fieldLink "StackHostModel" 399 "StackHostModel" "instruction" "I" : Cond) ∈ xt_tbl := xt_in (xt_t9 (List.mem_of_getElem? (i := 230) (by decide +kernel))) (by decide +kernel)
theorem m_939052ad : (.methodLink "StackHostModel" 208 y_M_fail : Cond) ∈ xt_tbl := xt_in (xt_t10 (List.mem_of_getElem? (i := 210) (by decide +kernel))) (by decide +kernel)
theorem m_29cc8c73 : (.instanceMethod y_M_fail : Cond) ∈ xt_tbl := xt_in (xt_t10 (List.mem_of_getElem? (i := 212) (by decide +kernel))) (by decide +kernel)
theorem m_3b1ac7ab : (.selects "StackHostModel" y_M_fail y_M_fail : Cond) ∈ xt_tbl := xt_in (xt_v9 (q := (⟨"StackHostModel", "fail", "(II)V"⟩, 97)) (List.mem_of_getElem? (i := 3) (by decide +kernel))) (by decide +kernel)
theorem m_8f062ecd : (.code y_M_fail b_M_fail 3 none : Cond) ∈ xt_tbl := xt_in (xt_t10 (List.mem_of_getElem? (i := 213) (by decide +kernel))) (by decide +kernel)
theorem nm_M_fail : xt_nm y_M_fail 2 := ⟨by decide +kernel, by decide +kernel⟩
set_option maxRecDepth 100000 in
def T_M_need : List (Nat × Instr × Nat) := [(0, .iload_n 1, 1), (1, .ifCond .ne 12, 3), (4, .aload_n 0, 1), (5, .iload_n 2, 1), (6, .aload_n 0, 1), (7, .getfield 399, 3), (10, .invokevirtual 208, 3), (13, .return_, 1)]
theorem D_M_need : ∀ q ∈ T_M_need, decode b_M_need q.1 = .ok (q.2.1, q.2.2) := by decide +kernel

set_option maxHeartbeats 4000000 in
set_option maxRecDepth 100000 in
theorem am_M_need_L13 (l : Launch) (hfl : l.flags = pinnedFlags ++ [noTraceFlag]) (D : va_G) (A : Nat → Prop) (σ MC MS : Nat) (h0 : xb_H) (Qr : xb_H → Prop) (h : xb_H) (hw : w_M_need_L13 Qr h) : xb_am l D A σ 3 MC MS h0 (fun v h _ _ => v = none ∧ Qr h) (fun _ _ _ _ => False) y_M_need.cls y_M_need.name b_M_need 3 ([] : List ExceptionTableEntry) none 13 [] [] h 0 0 := by
  unfold w_M_need_L13 at hw
  intro p e s m args below meth c hC H locs ls k n hE hl hR hS hk hn
  obtain ⟨hx, hb, hown, hlocks, htab, hml, hr, hB, hA, hnm⟩ := id hC
  have hts := hB.1.1.at args
  exact xb_vret 0 0 hx hb hr hlocks (show k + 0 ≤ MC by omega) (show n + 0 ≤ MS by omega) hE hR hS (xb_d D_M_need 7 rfl) hw

set_option maxHeartbeats 4000000 in
set_option maxRecDepth 100000 in
theorem ok_M_need (l : Launch) (hfl : l.flags = pinnedFlags ++ [noTraceFlag]) (D : va_G) (A : Nat → Prop) (σ : Nat) (x0 : Nat) (x1 : Int32) (x2 : Int32) (h : xb_H) (Qr : xb_H → Prop) (hw : w_M_need x0 x1 x2 h Qr) : xb_Met l y_M_need [.code y_M_need b_M_need 3 none] (xb_rm 3 0 0) (xb_Pc D A σ h [.ref x0, .int x1, .int x2]) (xb_Qc D A h 0 0 (fun v h _ _ => v = none ∧ Qr h) (fun _ _ _ _ => False)) A := by
  refine xb_ofAm (cc := b_M_need) (by decide) (Nat.le_of_ble_eq_true rfl) ?_
  unfold w_M_need at hw
  show xb_am l D A σ 3 0 0 h (fun v h _ _ => v = none ∧ Qr h) (fun _ _ _ _ => False) y_M_need.cls y_M_need.name b_M_need 3 ([] : List ExceptionTableEntry) none 0 [(0, .ref x0), (1, .int x1), (2, .int x2)] [] h 0 0
  obtain ⟨MC, hMC⟩ : ∃ x, x = 0 := ⟨_, rfl⟩
  obtain ⟨MS, hMS⟩ : ∃ x, x = 0 := ⟨_, rfl⟩
  rw [show xb_am l D A σ 3 0 0 = xb_am l D A σ 3 MC MS by rw [hMC, hMS]]
  obtain ⟨h0, hh0⟩ : ∃ x, x = h := ⟨_, rfl⟩
  rw [show xb_am l D A σ 3 MC MS h = xb_am l D A σ 3 MC MS h0 by rw [hh0]]
  intro p e s m args below meth c hC H locs ls k n hE hl hR hS hk hn
  obtain ⟨hx, hb, hown, hlocks, htab, hml, hr, hB, hA, hnm⟩ := id hC
  have hts := hB.1.1.at args
  refine lv_iload_n hx hb (xb_d D_M_need 0 rfl) rfl (lv_at hl 1 rfl) ?_
  refine lv_if_ne (tgt := 13) hx hb (xb_d D_M_need 1 rfl) rfl (fun hc1 => ?_) (fun hc1 => ?_)
  · have hw := hw.1 hc1
    exact am_M_need_L13 l hfl D A σ MC MS h0 Qr h hw p e s m args below meth c hC H locs ls k n hE (lv_sub hl [] rfl) hR hS (by omega) (by omega)
  · have hw := hw.2 hc1
    refine lv_aload_n hx hb (xb_d D_M_need 2 rfl) rfl (lv_at hl 0 rfl) ?_
    refine lv_iload_n hx hb (xb_d D_M_need 3 rfl) rfl (lv_at hl 2 rfl) ?_
    refine lv_aload_n hx hb (xb_d D_M_need 4 rfl) rfl (lv_at hl 0 rfl) ?_
    obtain ⟨hk2, hw⟩ := hw
    refine xb_getI (C := R_M) (T := F_M) (N := 97) hx hb 8 92 hts fin_M hown hR hk2 (by decide) rfl (by decide) rfl (hts _ m_14c0c52c) (fun _ h9 => h9) (xb_d D_M_need 5 rfl) ?_
    refine xb_call0 (D := D) (A := A) (σ := σ) (h := h) (d := 2) (maxL := 3) (rest := []) (av := [.ref x0, .int x2, .int (xb_i h x0 92)]) (fun T hT X => by obtain ⟨cb9, ra9, rb9, rc9⟩ := xb_recv (ci := 8) hR rfl hk2 (by decide); exact xt_invV X hx hown (hts _ m_939052ad) (hts _ m_29cc8c73) (hts _ m_3b1ac7ab) (xt_sigOf (hts _ m_8f062ecd)) nm_M_fail (by rw [hT]; exact ra9) rb9 rc9 (g := F0 m 10 ls [.int (xb_i h x0 92), .int x2, .ref x0]) rfl (argsL := [.int x2, .int (xb_i h x0 92)]) (rest := []) rfl rfl (by rw [hb]; exact (xb_d D_M_need 6 rfl))) (ok_M_fail l hfl D A σ x0 x2 (xb_i h x0 92) h _ hw) (hml.trans hl.1.symm) (by rw [hb]; exact (xb_d D_M_need 6 rfl)) (Nat.le_of_ble_eq_true rfl) (Nat.le_of_ble_eq_true rfl) (Nat.le_of_ble_eq_true rfl) (show k ≤ MC by omega) (show n ≤ MS by omega) (xt_w1 hB.1 m_8f062ecd) (xt_cdOf hB.1 m_8f062ecd) (hts _ m_d5ed7bed) hB hR hS hA (fun vv h3 H locs hq hEh3 hR hS => ?_)
    obtain ⟨rfl, hw⟩ := hq
    have hw := hw hEh3
    have hE := hE.tr hEh3
    refine W.eq (g2 := F0 m 13 ls []) rfl ?_
    exact am_M_need_L13 l hfl D A σ MC MS h0 Qr h3 hw p e s m args below meth c hC H locs ls k n hE (lv_sub hl [] rfl) hR hS (by omega) (by omega)

set_option maxRecDepth 100000 in
def T_M_next : List (Nat × Instr × Nat) := [(0, .aload_n 0, 1), (1, .getfield 202, 3), (4, .aload_n 0, 1), (5, .getfield 205, 3), (8, .if_icmp .lt 14, 3), (11, .aload_n 0, 1), (12, .iconst 2, 1), (13, .aload_n 0, 1), (14, .getfield 205, 3), (17, .invokevirtual 208, 3), (20, .iconst 0, 1), (21, .ireturn, 1), (22, .aload_n 0, 1), (23, .getfield 14, 3), (26, .aload_n 0, 1), (27, .getfield 202, 3), (30, .baload, 1), (31, .sipush 255, 3), (34, .iand, 1), (35, .istore_n 1, 1), (36, .aload_n 0, 1), (37, .dup, 1), (38, .getfield 202, 3), (41, .iconst 1, 1), (42, .iadd, 1), (43, .putfield 202, 3), (46, .iload_n 1, 1), (47, .ireturn, 1)]
theorem D_M_next : ∀ q ∈ T_M_next, decode b_M_next q.1 = .ok (q.2.1, q.2.2) := by decide +kernel

set_option maxHeartbeats 4000000 in
set_option maxRecDepth 100000 in
theorem ok_M_next (l : Launch) (hfl : l.flags = pinnedFlags ++ [noTraceFlag]) (D : va_G) (A : Nat → Prop) (σ : Nat) (x0 : Nat) (h : xb_H) (Qr : Int32 → xb_H → Prop) (hw : w_M_next x0 h Qr) : xb_Met l y_M_next [.code y_M_next b_M_next 2 (some .int)] (xb_rm 3 0 0) (xb_Pc D A σ h [.ref x0]) (xb_Qc D A h 0 0 (fun v h _ _ => ∃ r, v = some (.int r) ∧ Qr r h) (fun _ _ _ _ => False)) A := by
  refine xb_ofAm (cc := b_M_next) (by decide) (Nat.le_of_ble_eq_true rfl) ?_
  unfold w_M_next at hw
  show xb_am l D A σ 3 0 0 h (fun v h _ _ => ∃ r, v = some (.int r) ∧ Qr r h) (fun _ _ _ _ => False) y_M_next.cls y_M_next.name b_M_next 2 ([] : List ExceptionTableEntry) (some .int) 0 [(0, .ref x0)] [] h 0 0
  obtain ⟨MC, hMC⟩ : ∃ x, x = 0 := ⟨_, rfl⟩
  obtain ⟨MS, hMS⟩ : ∃ x, x = 0 := ⟨_, rfl⟩
  rw [show xb_am l D A σ 3 0 0 = xb_am l D A σ 3 MC MS by rw [hMC, hMS]]
  obtain ⟨h0, hh0⟩ : ∃ x, x = h := ⟨_, rfl⟩
  rw [show xb_am l D A σ 3 MC MS h = xb_am l D A σ 3 MC MS h0 by rw [hh0]]
  intro p e s m args below meth c hC H locs ls k n hE hl hR hS hk hn
  obtain ⟨hx, hb, hown, hlocks, htab, hml, hr, hB, hA, hnm⟩ := id hC
  have hts := hB.1.1.at args
  refine lv_aload_n hx hb (xb_d D_M_next 0 rfl) rfl (lv_at hl 0 rfl) ?_
  obtain ⟨hk1, hw⟩ := hw
  refine xb_getI (C := R_M) (T := F_M) (N := 97) hx hb 8 15 hts fin_M hown hR hk1 (by decide) rfl (by decide) rfl (hts _ m_6c2d27ad) (fun _ h9 => h9) (xb_d D_M_next 1 rfl) ?_
  refine lv_aload_n hx hb (xb_d D_M_next 2 rfl) rfl (lv_at hl 0 rfl) ?_
  refine xb_getI (C := R_M) (T := F_M) (N := 97) hx hb 8 16 hts fin_M hown hR hk1 (by decide) rfl (by decide) rfl (hts _ m_48124c81) (fun _ h9 => h9) (xb_d D_M_next 3 rfl) ?_
  refine lv_icmp_lt (tgt := 22) hx hb (xb_d D_M_next 4 rfl) rfl (fun hc2 => ?_) (fun hc2 => ?_)
  · have hw := hw.1 hc2
    refine lv_aload_n hx hb (xb_d D_M_next 12 rfl) rfl (lv_at hl 0 rfl) ?_
    refine xb_getP (C := R_M) (T := F_M) (N := 97) hx hb 8 3 hts fin_M hown hR hk1 (by decide) rfl (by decide) rfl (hts _ m_4f0568af) (fun _ h9 => h9) (xb_d D_M_next 13 rfl) ?_
    obtain ⟨b3, eb3, hw⟩ := hw
    refine xb_some eb3 ?_
    refine lv_aload_n hx hb (xb_d D_M_next 14 rfl) rfl (lv_at hl 0 rfl) ?_
    refine xb_getI (C := R_M) (T := F_M) (N := 97) hx hb 8 15 hts fin_M hown hR hk1 (by decide) rfl (by decide) rfl (hts _ m_6c2d27ad) (fun _ h9 => h9) (xb_d D_M_next 15 rfl) ?_
    obtain ⟨hk5, hw⟩ := hw
    obtain ⟨hi4, hw⟩ := hw
    refine xb_bald hx hb hR hk5 hi4 (xb_d D_M_next 16 rfl) ?_
    refine lv_sipush (v := 255) hx hb (xb_d D_M_next 17 rfl) (by decide) ?_
    refine lv_iand hx hb (xb_d D_M_next 18 rfl) ?_
    obtain ⟨v6, ev6⟩ : ∃ x : Int32, x = ((xb_i h b3 (Int32.toNatClampNeg (xb_i h x0 15))) &&& 255) := ⟨_, rfl⟩
    have hw := hw v6 ev6
    refine xt_numi (y := v6) ev6.symm ?_
    refine lv_istore_n hx hb (xb_d D_M_next 19 rfl) rfl hl (by decide) rfl (fun ls hl => ?_)
    have hl : lv_has ls 2 [(1, .int v6), (0, .ref x0)] := hl
    refine lv_aload_n hx hb (xb_d D_M_next 20 rfl) rfl (lv_at hl 1 rfl) ?_
    refine lv_dup hx hb (xb_d D_M_next 21 rfl) rfl ?_
    refine xb_getI (C := R_M) (T := F_M) (N := 97) hx hb 8 15 hts fin_M hown hR hk1 (by decide) rfl (by decide) rfl (hts _ m_6c2d27ad) (fun _ h9 => h9) (xb_d D_M_next 22 rfl) ?_
    refine lv_iconst (v := 1) hx hb (xb_d D_M_next 23 rfl) (by decide) ?_
    refine lv_iadd hx hb (xb_d D_M_next 24 rfl) ?_
    refine xb_putI (C := R_M) (T := F_M) (N := 97) (ty := .int) (x := ((xb_i h x0 15) + 1)) hx hb 8 15 hts fin_M t_M t_M_ok n_M hown hR hS hk1 (by decide) rfl (by decide) rfl (hts _ m_6c2d27ad) (fun _ h9 => h9) rfl (by decide +kernel) rfl rfl (xb_d D_M_next 25 rfl) (fun H locs hR hS => ?_)
    obtain ⟨h7, eh7⟩ : ∃ x : xb_H, x = xb_I h x0 15 ((xb_i h x0 15) + 1) := ⟨_, rfl⟩
    rw [← eh7] at hR
    have hw := hw h7 eh7
    have hE : xb_ext h0 h7 := by rw [eh7]; exact hE
    refine lv_iload_n hx hb (xb_d D_M_next 26 rfl) rfl (lv_at hl 0 rfl) ?_
    exact xb_iret 0 0 hx hb hr hlocks (show k + 0 ≤ MC by omega) (show n + 0 ≤ MS by omega) hE hR hS (xb_d D_M_next 27 rfl) hw
  · have hw := hw.2 hc2
    refine lv_aload_n hx hb (xb_d D_M_next 5 rfl) rfl (lv_at hl 0 rfl) ?_
    refine lv_iconst (v := 2) hx hb (xb_d D_M_next 6 rfl) (by decide) ?_
    refine lv_aload_n hx hb (xb_d D_M_next 7 rfl) rfl (lv_at hl 0 rfl) ?_
    refine xb_getI (C := R_M) (T := F_M) (N := 97) hx hb 8 16 hts fin_M hown hR hk1 (by decide) rfl (by decide) rfl (hts _ m_48124c81) (fun _ h9 => h9) (xb_d D_M_next 8 rfl) ?_
    refine xb_call0 (D := D) (A := A) (σ := σ) (h := h) (d := 2) (maxL := 3) (rest := []) (av := [.ref x0, .int 2, .int (xb_i h x0 16)]) (fun T hT X => by obtain ⟨cb9, ra9, rb9, rc9⟩ := xb_recv (ci := 8) hR rfl hk1 (by decide); exact xt_invV X hx hown (hts _ m_939052ad) (hts _ m_29cc8c73) (hts _ m_3b1ac7ab) (xt_sigOf (hts _ m_8f062ecd)) nm_M_fail (by rw [hT]; exact ra9) rb9 rc9 (g := F0 m 17 ls [.int (xb_i h x0 16), .int 2, .ref x0]) rfl (argsL := [.int 2, .int (xb_i h x0 16)]) (rest := []) rfl rfl (by rw [hb]; exact (xb_d D_M_next 9 rfl))) (ok_M_fail l hfl D A σ x0 2 (xb_i h x0 16) h _ hw) (hml.trans hl.1.symm) (by rw [hb]; exact (xb_d D_M_next 9 rfl)) (Nat.le_of_ble_eq_true rfl) (Nat.le_of_ble_eq_true rfl) (Nat.le_of_ble_eq_true rfl) (show k ≤ MC by omega) (show n ≤ MS by omega) (xt_w1 hB.1 m_8f062ecd) (xt_cdOf hB.1 m_8f062ecd) (hts _ m_d5ed7bed) hB hR hS hA (fun vv h8 H locs hq hEh8 hR hS => ?_)
    obtain ⟨rfl, hw⟩ := hq
    have hw := hw hEh8
    have hE := hE.tr hEh8
    refine W.eq (g2 := F0 m 20 ls []) rfl ?_
    refine lv_iconst (v := 0) hx hb (xb_d D_M_next 10 rfl) (by decide) ?_
    exact xb_iret 0 0 hx hb hr hlocks (show k + 0 ≤ MC by omega) (show n + 0 ≤ MS by omega) hE hR hS (xb_d D_M_next 11 rfl) hw

theorem m_45d74ed6 : (.fieldLink "StackHostModel" 563 "StackHostModel" "pages" "I" : Cond) ∈ xt_tbl := xt_in (xt_t9 (List.mem_of_getElem? (i := 192) (by decide +kernel))) (by decide +kernel)
theorem m_a1d4f677 : (.constantLong "StackHostModel" 216 (-1) : Cond) ∈ xt_tbl := xt_in (xt_t11 (List.mem_of_getElem? (i := 48) (by decide +kernel))) (by decide +kernel)
theorem m_5b9ce66a : (.constantLong "StackHostModel" 566 16 : Cond) ∈ xt_tbl := xt_in (xt_t12 (List.mem_of_getElem? (i := 87) (by decide +kernel))) (by decide +kernel)
set_option maxRecDepth 100000 in
def T_M_pagesOf : List (Nat × Instr × Nat) := [(0, .aload_n 0, 1), (1, .getfield 111, 3), (4, .iload_n 1, 1), (5, .iaload, 1), (6, .istore_n 3, 1), (7, .iload_n 2, 1), (8, .bipush 63, 2), (10, .if_icmp .ne 12, 3), (13, .aload_n 0, 1), (14, .iload_n 3, 1), (15, .i2l, 1), (16, .bipush 127, 2), (18, .invokevirtual 628, 3), (21, .return_, 1), (22, .aload_n 0, 1), (23, .bipush 127, 2), (25, .invokevirtual 634, 3), (28, .ldc2_w 517, 3), (31, .land, 1), (32, .lstore 4, 2), (34, .aload_n 0, 1), (35, .getfield 114, 3), (38, .iload_n 1, 1), (39, .laload, 1), (40, .lconst 0, 1), (41, .lcmp, 1), (42, .ifCond .ge 9, 3), (45, .ldc2_w 352, 3), (48, .goto 9, 3), (51, .aload_n 0, 1), (52, .getfield 114, 3), (55, .iload_n 1, 1), (56, .laload, 1), (57, .lstore 6, 2), (59, .iload_n 3, 1), (60, .i2l, 1), (61, .lload 4, 2), (63, .ladd, 1), (64, .lload 6, 2), (66, .lcmp, 1), (67, .ifCond .gt 18, 3), (70, .aload_n 0, 1), (71, .getfield 563, 3), (74, .i2l, 1), (75, .lload 4, 2), (77, .ladd, 1), (78, .ldc2_w 566, 3), (81, .lcmp, 1), (82, .ifCond .le 13, 3), (85, .aload_n 0, 1), (86, .ldc2_w 216, 3), (89, .bipush 127, 2), (91, .invokevirtual 628, 3), (94, .return_, 1), (95, .lconst 0, 1), (96, .lstore 8, 2), (98, .lload 8, 2), (100, .lload 4, 2), (102, .lcmp, 1), (103, .ifCond .ge 52, 3), (106, .aload_n 0, 1), (107, .getfield 117, 3), (110, .bipush 16, 2), (112, .iload_n 1, 1), (113, .imul, 1), (114, .aload_n 0, 1), (115, .getfield 111, 3), (118, .iload_n 1, 1), (119, .iaload, 1), (120, .iadd, 1), (121, .aload_n 0, 1), (122, .getfield 563, 3), (125, .iastore, 1), (126, .aload_n 0, 1), (127, .getfield 111, 3), (130, .iload_n 1, 1), (131, .dup2, 1), (132, .iaload, 1), (133, .iconst 1, 1), (134, .iadd, 1), (135, .iastore, 1), (136, .aload_n 0, 1), (137, .dup, 1), (138, .getfield 563, 3), (141, .iconst 1, 1), (142, .iadd, 1), (143, .putfield 563, 3), (146, .lload 8, 2), (148, .lconst 1, 1), (149, .ladd, 1), (150, .lstore 8, 2), (152, .goto (-54), 3), (155, .aload_n 0, 1), (156, .iload_n 3, 1), (157, .i2l, 1), (158, .bipush 127, 2), (160, .invokevirtual 628, 3), (163, .return_, 1)]
theorem D_M_pagesOf : ∀ q ∈ T_M_pagesOf, decode b_M_pagesOf q.1 = .ok (q.2.1, q.2.2) := by decide +kernel

set_option maxHeartbeats 4000000 in
set_option maxRecDepth 100000 in
theorem am_M_pagesOf_L98 (l : Launch) (hfl : l.flags = pinnedFlags ++ [noTraceFlag]) (D : va_G) (A : Nat → Prop) (σ MC MS : Nat) (h0 : xb_H) (Qr : xb_H → Prop) (n9 : Nat) : ∀ (x0 : Nat) (x1 : Int32) (x3 : Int32) (x4 : Int64) (x8 : Int64) (h : xb_H), w_M_pagesOf_L98 Qr n9 x0 x1 x3 x4 x8 h → xb_am l D A σ 3 MC MS h0 (fun v h _ _ => v = none ∧ Qr h) (fun _ _ _ _ => False) y_M_pagesOf.cls y_M_pagesOf.name b_M_pagesOf 10 ([] : List ExceptionTableEntry) none 98 [(0, .ref x0), (1, .int x1), (3, .int x3), (4, .long x4), (8, .long x8)] [] h 0 0 := by
  induction n9 with
  | zero => intro x0 x1 x3 x4 x8 h hw; exact False.elim hw
  | succ n9 ih =>
    intro x0 x1 x3 x4 x8 h hw
    unfold w_M_pagesOf_L98 at hw
    intro p e s m args below meth c hC H locs ls k n hE hl hR hS hk hn
    obtain ⟨hx, hb, hown, hlocks, htab, hml, hr, hB, hA, hnm⟩ := id hC
    have hts := hB.1.1.at args
    refine lv_lload hx hb (xb_d D_M_pagesOf 56 rfl) (lv_at hl 4 rfl) ?_
    refine lv_lload hx hb (xb_d D_M_pagesOf 57 rfl) (lv_at hl 3 rfl) ?_
    refine xb_lc_ge (tgt := 155) hx hb (xb_d D_M_pagesOf 58 rfl) (xb_d D_M_pagesOf 59 rfl) rfl (fun hc1 => ?_) (fun hc1 => ?_)
    · have hw := hw.1 hc1
      refine lv_aload_n hx hb (xb_d D_M_pagesOf 92 rfl) rfl (lv_at hl 0 rfl) ?_
      refine lv_iload_n hx hb (xb_d D_M_pagesOf 93 rfl) rfl (lv_at hl 2 rfl) ?_
      refine lv_i2l hx hb (xb_d D_M_pagesOf 94 rfl) rfl ?_
      refine lv_bipush (v := 127) hx hb (xb_d D_M_pagesOf 95 rfl) (by decide) ?_
      obtain ⟨hk2, hw⟩ := hw
      refine xb_call0 (D := D) (A := A) (σ := σ) (h := h) (d := 2) (maxL := 4) (rest := []) (av := [.ref x0, .long (Int32.toInt64 x3), .int 127]) (fun T hT X => by obtain ⟨cb9, ra9, rb9, rc9⟩ := xb_recv (ci := 8) hR rfl hk2 (by decide); exact xt_invV X hx hown (hts _ m_1dd22d11) (hts _ m_e8ae1713) (hts _ m_973b740a) (xt_sigOf (hts _ m_a0d5a63e)) nm_M_add (by rw [hT]; exact ra9) rb9 rc9 (g := F0 m 160 ls [.int 127, .long (Int32.toInt64 x3), .ref x0]) rfl (argsL := [.long (Int32.toInt64 x3), .int 127]) (rest := []) rfl rfl (by rw [hb]; exact (xb_d D_M_pagesOf 96 rfl))) (ok_M_add l hfl D A σ x0 (Int32.toInt64 x3) 127 h _ hw) (hml.trans hl.1.symm) (by rw [hb]; exact (xb_d D_M_pagesOf 96 rfl)) (Nat.le_of_ble_eq_true rfl) (Nat.le_of_ble_eq_true rfl) (Nat.le_of_ble_eq_true rfl) (show k ≤ MC by omega) (show n ≤ MS by omega) (xt_w1 hB.1 m_a0d5a63e) (xt_cdOf hB.1 m_a0d5a63e) (hts _ m_d5ed7bed) hB hR hS hA (fun vv h3 H locs hq hEh3 hR hS => ?_)
      obtain ⟨rfl, hw⟩ := hq
      have hw := hw hEh3
      have hE := hE.tr hEh3
      refine W.eq (g2 := F0 m 163 ls []) rfl ?_
      exact xb_vret 0 0 hx hb hr hlocks (show k + 0 ≤ MC by omega) (show n + 0 ≤ MS by omega) hE hR hS (xb_d D_M_pagesOf 97 rfl) hw
    · have hw := hw.2 hc1
      refine lv_aload_n hx hb (xb_d D_M_pagesOf 60 rfl) rfl (lv_at hl 0 rfl) ?_
      obtain ⟨hk5, hw⟩ := hw
      refine xb_getP (C := R_M) (T := F_M) (N := 97) hx hb 8 56 hts fin_M hown hR hk5 (by decide) rfl (by decide) rfl (hts _ m_e7f615b2) (fun _ h9 => h9) (xb_d D_M_pagesOf 61 rfl) ?_
      obtain ⟨b6, eb6, hw⟩ := hw
      refine xb_some eb6 ?_
      refine lv_bipush (v := 16) hx hb (xb_d D_M_pagesOf 62 rfl) (by decide) ?_
      refine lv_iload_n hx hb (xb_d D_M_pagesOf 63 rfl) rfl (lv_at hl 1 rfl) ?_
      refine lv_imul hx hb (xb_d D_M_pagesOf 64 rfl) ?_
      refine lv_aload_n hx hb (xb_d D_M_pagesOf 65 rfl) rfl (lv_at hl 0 rfl) ?_
      refine xb_getP (C := R_M) (T := F_M) (N := 97) hx hb 8 54 hts fin_M hown hR hk5 (by decide) rfl (by decide) rfl (hts _ m_605483d9) (fun _ h9 => h9) (xb_d D_M_pagesOf 66 rfl) ?_
      obtain ⟨b7, eb7, hw⟩ := hw
      refine xb_some eb7 ?_
      refine lv_iload_n hx hb (xb_d D_M_pagesOf 67 rfl) rfl (lv_at hl 1 rfl) ?_
      obtain ⟨hk9, hw⟩ := hw
      obtain ⟨hi8, hw⟩ := hw
      refine xb_iald hx hb hR hk9 hi8 (xb_d D_M_pagesOf 68 rfl) ?_
      refine lv_iadd hx hb (xb_d D_M_pagesOf 69 rfl) ?_
      refine lv_aload_n hx hb (xb_d D_M_pagesOf 70 rfl) rfl (lv_at hl 0 rfl) ?_
      refine xb_getI (C := R_M) (T := F_M) (N := 97) hx hb 8 53 hts fin_M hown hR hk5 (by decide) rfl (by decide) rfl (hts _ m_45d74ed6) (fun _ h9 => h9) (xb_d D_M_pagesOf 71 rfl) ?_
      obtain ⟨hk10, hw⟩ := hw
      obtain ⟨hi11, hw⟩ := hw
      refine xb_iast hx hb hR hS hk10 hi11 (xb_d D_M_pagesOf 72 rfl) (fun H locs hR hS => ?_)
      obtain ⟨h12, eh12⟩ : ∃ x : xb_H, x = xb_I h b6 (Int32.toNatClampNeg ((16 * x1) + (xb_i h b7 (Int32.toNatClampNeg x1)))) (xb_i h x0 53) := ⟨_, rfl⟩
      rw [← eh12] at hR
      have hw := hw h12 eh12
      have hE : xb_ext h0 h12 := by rw [eh12]; exact hE
      refine lv_aload_n hx hb (xb_d D_M_pagesOf 73 rfl) rfl (lv_at hl 0 rfl) ?_
      have hk5 : xb_k h12 x0 = 9 := by rw [eh12]; exact hk5
      refine xb_getP (C := R_M) (T := F_M) (N := 97) hx hb 8 54 hts fin_M hown hR hk5 (by decide) rfl (by decide) rfl (hts _ m_605483d9) (fun _ h9 => h9) (xb_d D_M_pagesOf 74 rfl) ?_
      obtain ⟨b13, eb13, hw⟩ := hw
      refine xb_some eb13 ?_
      refine lv_iload_n hx hb (xb_d D_M_pagesOf 75 rfl) rfl (lv_at hl 1 rfl) ?_
      refine lv_dup2_11 hx hb (xb_d D_M_pagesOf 76 rfl) rfl rfl ?_
      obtain ⟨hk15, hw⟩ := hw
      obtain ⟨hi14, hw⟩ := hw
      refine xb_iald hx hb hR hk15 hi14 (xb_d D_M_pagesOf 77 rfl) ?_
      refine lv_iconst (v := 1) hx hb (xb_d D_M_pagesOf 78 rfl) (by decide) ?_
      refine lv_iadd hx hb (xb_d D_M_pagesOf 79 rfl) ?_
      obtain ⟨hi16, hw⟩ := hw
      refine xb_iast hx hb hR hS hk15 hi16 (xb_d D_M_pagesOf 80 rfl) (fun H locs hR hS => ?_)
      obtain ⟨h17, eh17⟩ : ∃ x : xb_H, x = xb_I h12 b13 (Int32.toNatClampNeg x1) ((xb_i h12 b13 (Int32.toNatClampNeg x1)) + 1) := ⟨_, rfl⟩
      rw [← eh17] at hR
      have hw := hw h17 eh17
      have hE : xb_ext h0 h17 := by rw [eh17]; exact hE
      refine lv_aload_n hx hb (xb_d D_M_pagesOf 81 rfl) rfl (lv_at hl 0 rfl) ?_
      refine lv_dup hx hb (xb_d D_M_pagesOf 82 rfl) rfl ?_
      have hk5 : xb_k h17 x0 = 9 := by rw [eh17]; exact hk5
      refine xb_getI (C := R_M) (T := F_M) (N := 97) hx hb 8 53 hts fin_M hown hR hk5 (by decide) rfl (by decide) rfl (hts _ m_45d74ed6) (fun _ h9 => h9) (xb_d D_M_pagesOf 83 rfl) ?_
      refine lv_iconst (v := 1) hx hb (xb_d D_M_pagesOf 84 rfl) (by decide) ?_
      refine lv_iadd hx hb (xb_d D_M_pagesOf 85 rfl) ?_
      refine xb_putI (C := R_M) (T := F_M) (N := 97) (ty := .int) (x := ((xb_i h17 x0 53) + 1)) hx hb 8 53 hts fin_M t_M t_M_ok n_M hown hR hS hk5 (by decide) rfl (by decide) rfl (hts _ m_45d74ed6) (fun _ h9 => h9) rfl (by decide +kernel) rfl rfl (xb_d D_M_pagesOf 86 rfl) (fun H locs hR hS => ?_)
      obtain ⟨h18, eh18⟩ : ∃ x : xb_H, x = xb_I h17 x0 53 ((xb_i h17 x0 53) + 1) := ⟨_, rfl⟩
      rw [← eh18] at hR
      have hw := hw h18 eh18
      have hE : xb_ext h0 h18 := by rw [eh18]; exact hE
      refine lv_lload hx hb (xb_d D_M_pagesOf 87 rfl) (lv_at hl 4 rfl) ?_
      refine lv_lconst (v := 1) hx hb (xb_d D_M_pagesOf 88 rfl) (by decide) ?_
      refine lv_ladd hx hb (xb_d D_M_pagesOf 89 rfl) ?_
      obtain ⟨v19, ev19⟩ : ∃ x : Int64, x = (x8 + 1) := ⟨_, rfl⟩
      have hw := hw v19 ev19
      refine xt_numl (y := v19) ev19.symm ?_
      refine lv_lstore hx hb (xb_d D_M_pagesOf 90 rfl) hl (by decide) rfl (fun ls hl => ?_)
      have hl : lv_has ls 10 [(8, .long v19), (0, .ref x0), (1, .int x1), (3, .int x3), (4, .long x4)] := hl
      refine lv_goto (tgt := 98) hx hb (xb_d D_M_pagesOf 91 rfl) rfl ?_
      exact ih x0 x1 x3 x4 v19 h18 hw p e s m args below meth c hC H locs ls k n hE (lv_sub hl [1, 2, 3, 4, 0] rfl) hR hS (by omega) (by omega)

set_option maxHeartbeats 4000000 in
set_option maxRecDepth 100000 in
theorem am_M_pagesOf_L85 (l : Launch) (hfl : l.flags = pinnedFlags ++ [noTraceFlag]) (D : va_G) (A : Nat → Prop) (σ MC MS : Nat) (h0 : xb_H) (Qr : xb_H → Prop) (x0 : Nat) (h : xb_H) (hw : w_M_pagesOf_L85 Qr x0 h) : xb_am l D A σ 3 MC MS h0 (fun v h _ _ => v = none ∧ Qr h) (fun _ _ _ _ => False) y_M_pagesOf.cls y_M_pagesOf.name b_M_pagesOf 10 ([] : List ExceptionTableEntry) none 85 [(0, .ref x0)] [] h 0 0 := by
  unfold w_M_pagesOf_L85 at hw
  intro p e s m args below meth c hC H locs ls k n hE hl hR hS hk hn
  obtain ⟨hx, hb, hown, hlocks, htab, hml, hr, hB, hA, hnm⟩ := id hC
  have hts := hB.1.1.at args
  refine lv_aload_n hx hb (xb_d D_M_pagesOf 49 rfl) rfl (lv_at hl 0 rfl) ?_
  refine lv_ldc2 (v := (-1)) hx hb hown (hts _ m_a1d4f677) (xb_d D_M_pagesOf 50 rfl) ?_
  refine lv_bipush (v := 127) hx hb (xb_d D_M_pagesOf 51 rfl) (by decide) ?_
  obtain ⟨hk1, hw⟩ := hw
  refine xb_call0 (D := D) (A := A) (σ := σ) (h := h) (d := 2) (maxL := 4) (rest := []) (av := [.ref x0, .long (-1), .int 127]) (fun T hT X => by obtain ⟨cb9, ra9, rb9, rc9⟩ := xb_recv (ci := 8) hR rfl hk1 (by decide); exact xt_invV X hx hown (hts _ m_1dd22d11) (hts _ m_e8ae1713) (hts _ m_973b740a) (xt_sigOf (hts _ m_a0d5a63e)) nm_M_add (by rw [hT]; exact ra9) rb9 rc9 (g := F0 m 91 ls [.int 127, .long (-1), .ref x0]) rfl (argsL := [.long (-1), .int 127]) (rest := []) rfl rfl (by rw [hb]; exact (xb_d D_M_pagesOf 52 rfl))) (ok_M_add l hfl D A σ x0 (-1) 127 h _ hw) (hml.trans hl.1.symm) (by rw [hb]; exact (xb_d D_M_pagesOf 52 rfl)) (Nat.le_of_ble_eq_true rfl) (Nat.le_of_ble_eq_true rfl) (Nat.le_of_ble_eq_true rfl) (show k ≤ MC by omega) (show n ≤ MS by omega) (xt_w1 hB.1 m_a0d5a63e) (xt_cdOf hB.1 m_a0d5a63e) (hts _ m_d5ed7bed) hB hR hS hA (fun vv h2 H locs hq hEh2 hR hS => ?_)
  obtain ⟨rfl, hw⟩ := hq
  have hw := hw hEh2
  have hE := hE.tr hEh2
  refine W.eq (g2 := F0 m 94 ls []) rfl ?_
  exact xb_vret 0 0 hx hb hr hlocks (show k + 0 ≤ MC by omega) (show n + 0 ≤ MS by omega) hE hR hS (xb_d D_M_pagesOf 53 rfl) hw

set_option maxHeartbeats 4000000 in
set_option maxRecDepth 100000 in
theorem am_M_pagesOf_L57 (l : Launch) (hfl : l.flags = pinnedFlags ++ [noTraceFlag]) (D : va_G) (A : Nat → Prop) (σ MC MS : Nat) (h0 : xb_H) (Qr : xb_H → Prop) (x0 : Nat) (x1 : Int32) (x3 : Int32) (x4 : Int64) (y0 : Int64) (h : xb_H) (hw : w_M_pagesOf_L57 Qr x0 x1 x3 x4 y0 h) : xb_am l D A σ 3 MC MS h0 (fun v h _ _ => v = none ∧ Qr h) (fun _ _ _ _ => False) y_M_pagesOf.cls y_M_pagesOf.name b_M_pagesOf 10 ([] : List ExceptionTableEntry) none 57 [(0, .ref x0), (1, .int x1), (3, .int x3), (4, .long x4)] [.long y0] h 0 0 := by
  unfold w_M_pagesOf_L57 at hw
  intro p e s m args below meth c hC H locs ls k n hE hl hR hS hk hn
  obtain ⟨hx, hb, hown, hlocks, htab, hml, hr, hB, hA, hnm⟩ := id hC
  have hts := hB.1.1.at args
  refine lv_lstore hx hb (xb_d D_M_pagesOf 33 rfl) hl (by decide) rfl (fun ls hl => ?_)
  have hl : lv_has ls 10 [(6, .long y0), (0, .ref x0), (1, .int x1), (3, .int x3), (4, .long x4)] := hl
  refine lv_iload_n hx hb (xb_d D_M_pagesOf 34 rfl) rfl (lv_at hl 3 rfl) ?_
  refine lv_i2l hx hb (xb_d D_M_pagesOf 35 rfl) rfl ?_
  refine lv_lload hx hb (xb_d D_M_pagesOf 36 rfl) (lv_at hl 4 rfl) ?_
  refine lv_ladd hx hb (xb_d D_M_pagesOf 37 rfl) ?_
  refine lv_lload hx hb (xb_d D_M_pagesOf 38 rfl) (lv_at hl 0 rfl) ?_
  refine xb_lc_gt (tgt := 85) hx hb (xb_d D_M_pagesOf 39 rfl) (xb_d D_M_pagesOf 40 rfl) rfl (fun hc1 => ?_) (fun hc1 => ?_)
  · have hw := hw.1 hc1
    exact am_M_pagesOf_L85 l hfl D A σ MC MS h0 Qr x0 h hw p e s m args below meth c hC H locs ls k n hE (lv_sub hl [1] rfl) hR hS (by omega) (by omega)
  · have hw := hw.2 hc1
    refine lv_aload_n hx hb (xb_d D_M_pagesOf 41 rfl) rfl (lv_at hl 1 rfl) ?_
    obtain ⟨hk2, hw⟩ := hw
    refine xb_getI (C := R_M) (T := F_M) (N := 97) hx hb 8 53 hts fin_M hown hR hk2 (by decide) rfl (by decide) rfl (hts _ m_45d74ed6) (fun _ h9 => h9) (xb_d D_M_pagesOf 42 rfl) ?_
    refine lv_i2l hx hb (xb_d D_M_pagesOf 43 rfl) rfl ?_
    refine lv_lload hx hb (xb_d D_M_pagesOf 44 rfl) (lv_at hl 4 rfl) ?_
    refine lv_ladd hx hb (xb_d D_M_pagesOf 45 rfl) ?_
    refine lv_ldc2 (v := 16) hx hb hown (hts _ m_5b9ce66a) (xb_d D_M_pagesOf 46 rfl) ?_
    refine xb_lc_le (tgt := 95) hx hb (xb_d D_M_pagesOf 47 rfl) (xb_d D_M_pagesOf 48 rfl) rfl (fun hc3 => ?_) (fun hc3 => ?_)
    · have hw := hw.1 hc3
      refine lv_lconst (v := 0) hx hb (xb_d D_M_pagesOf 54 rfl) (by decide) ?_
      refine lv_lstore hx hb (xb_d D_M_pagesOf 55 rfl) hl (by decide) rfl (fun ls hl => ?_)
      have hl : lv_has ls 10 [(8, .long 0), (6, .long y0), (0, .ref x0), (1, .int x1), (3, .int x3), (4, .long x4)] := hl
      obtain ⟨n8, hw⟩ := hw
      exact am_M_pagesOf_L98 l hfl D A σ MC MS h0 Qr n8 x0 x1 x3 x4 0 h hw p e s m args below meth c hC H locs ls k n hE (lv_sub hl [2, 3, 4, 5, 0] rfl) hR hS (by omega) (by omega)
    · have hw := hw.2 hc3
      exact am_M_pagesOf_L85 l hfl D A σ MC MS h0 Qr x0 h hw p e s m args below meth c hC H locs ls k n hE (lv_sub hl [1] rfl) hR hS (by omega) (by omega)

set_option maxHeartbeats 4000000 in
set_option maxRecDepth 100000 in
theorem ok_M_pagesOf (l : Launch) (hfl : l.flags = pinnedFlags ++ [noTraceFlag]) (D : va_G) (A : Nat → Prop) (σ : Nat) (x0 : Nat) (x1 : Int32) (x2 : Int32) (h : xb_H) (Qr : xb_H → Prop) (hw : w_M_pagesOf x0 x1 x2 h Qr) : xb_Met l y_M_pagesOf [.code y_M_pagesOf b_M_pagesOf 10 none] (xb_rm 3 0 0) (xb_Pc D A σ h [.ref x0, .int x1, .int x2]) (xb_Qc D A h 0 0 (fun v h _ _ => v = none ∧ Qr h) (fun _ _ _ _ => False)) A := by
  refine xb_ofAm (cc := b_M_pagesOf) (by decide) (Nat.le_of_ble_eq_true rfl) ?_
  unfold w_M_pagesOf at hw
  show xb_am l D A σ 3 0 0 h (fun v h _ _ => v = none ∧ Qr h) (fun _ _ _ _ => False) y_M_pagesOf.cls y_M_pagesOf.name b_M_pagesOf 10 ([] : List ExceptionTableEntry) none 0 [(0, .ref x0), (1, .int x1), (2, .int x2)] [] h 0 0
  obtain ⟨MC, hMC⟩ : ∃ x, x = 0 := ⟨_, rfl⟩
  obtain ⟨MS, hMS⟩ : ∃ x, x = 0 := ⟨_, rfl⟩
  rw [show xb_am l D A σ 3 0 0 = xb_am l D A σ 3 MC MS by rw [hMC, hMS]]
  obtain ⟨h0, hh0⟩ : ∃ x, x = h := ⟨_, rfl⟩
  rw [show xb_am l D A σ 3 MC MS h = xb_am l D A σ 3 MC MS h0 by rw [hh0]]
  intro p e s m args below meth c hC H locs ls k n hE hl hR hS hk hn
  obtain ⟨hx, hb, hown, hlocks, htab, hml, hr, hB, hA, hnm⟩ := id hC
  have hts := hB.1.1.at args
  refine lv_aload_n hx hb (xb_d D_M_pagesOf 0 rfl) rfl (lv_at hl 0 rfl) ?_
  obtain ⟨hk1, hw⟩ := hw
  refine xb_getP (C := R_M) (T := F_M) (N := 97) hx hb 8 54 hts fin_M hown hR hk1 (by decide) rfl (by decide) rfl (hts _ m_605483d9) (fun _ h9 => h9) (xb_d D_M_pagesOf 1 rfl) ?_
  obtain ⟨b2, eb2, hw⟩ := hw
  refine xb_some eb2 ?_
  refine lv_iload_n hx hb (xb_d D_M_pagesOf 2 rfl) rfl (lv_at hl 1 rfl) ?_
  obtain ⟨hk4, hw⟩ := hw
  obtain ⟨hi3, hw⟩ := hw
  refine xb_iald hx hb hR hk4 hi3 (xb_d D_M_pagesOf 3 rfl) ?_
  obtain ⟨v5, ev5⟩ : ∃ x : Int32, x = (xb_i h b2 (Int32.toNatClampNeg x1)) := ⟨_, rfl⟩
  have hw := hw v5 ev5
  refine xt_numi (y := v5) ev5.symm ?_
  refine lv_istore_n hx hb (xb_d D_M_pagesOf 4 rfl) rfl hl (by decide) rfl (fun ls hl => ?_)
  have hl : lv_has ls 10 [(3, .int v5), (0, .ref x0), (1, .int x1), (2, .int x2)] := hl
  refine lv_iload_n hx hb (xb_d D_M_pagesOf 5 rfl) rfl (lv_at hl 3 rfl) ?_
  refine lv_bipush (v := 63) hx hb (xb_d D_M_pagesOf 6 rfl) (by decide) ?_
  refine lv_icmp_ne (tgt := 22) hx hb (xb_d D_M_pagesOf 7 rfl) rfl (fun hc6 => ?_) (fun hc6 => ?_)
  · have hw := hw.1 hc6
    refine lv_aload_n hx hb (xb_d D_M_pagesOf 14 rfl) rfl (lv_at hl 1 rfl) ?_
    refine lv_bipush (v := 127) hx hb (xb_d D_M_pagesOf 15 rfl) (by decide) ?_
    refine xb_call0 (D := D) (A := A) (σ := σ) (h := h) (d := 2) (maxL := 2) (rest := []) (av := [.ref x0, .int 127]) (fun T hT X => by obtain ⟨cb9, ra9, rb9, rc9⟩ := xb_recv (ci := 8) hR rfl hk1 (by decide); exact xt_invV X hx hown (hts _ m_ce40dc40) (hts _ m_c3a002b8) (hts _ m_395c99b5) (xt_sigOf (hts _ m_1ea89357)) nm_M_pop (by rw [hT]; exact ra9) rb9 rc9 (g := F0 m 25 ls [.int 127, .ref x0]) rfl (argsL := [.int 127]) (rest := []) rfl rfl (by rw [hb]; exact (xb_d D_M_pagesOf 16 rfl))) (ok_M_pop l hfl D A σ x0 127 h _ hw) (hml.trans hl.1.symm) (by rw [hb]; exact (xb_d D_M_pagesOf 16 rfl)) (Nat.le_of_ble_eq_true rfl) (Nat.le_of_ble_eq_true rfl) (Nat.le_of_ble_eq_true rfl) (show k ≤ MC by omega) (show n ≤ MS by omega) (xt_w1 hB.1 m_1ea89357) (xt_cdOf hB.1 m_1ea89357) (hts _ m_d5ed7bed) hB hR hS hA (fun vv h7 H locs hq hEh7 hR hS => ?_)
    obtain ⟨r8, rfl, hw⟩ := hq
    have hw := hw hEh7
    have hE := hE.tr hEh7
    refine W.eq (g2 := F0 m 28 ls [.long r8]) rfl ?_
    refine lv_ldc2 (v := 4294967295) hx hb hown (hts _ m_92d51c6a) (xb_d D_M_pagesOf 17 rfl) ?_
    refine lv_land hx hb (xb_d D_M_pagesOf 18 rfl) ?_
    obtain ⟨v9, ev9⟩ : ∃ x : Int64, x = (r8 &&& 4294967295) := ⟨_, rfl⟩
    have hw := hw v9 ev9
    refine xt_numl (y := v9) ev9.symm ?_
    refine lv_lstore hx hb (xb_d D_M_pagesOf 19 rfl) hl (by decide) rfl (fun ls hl => ?_)
    have hl : lv_has ls 10 [(4, .long v9), (3, .int v5), (0, .ref x0), (1, .int x1), (2, .int x2)] := hl
    refine lv_aload_n hx hb (xb_d D_M_pagesOf 20 rfl) rfl (lv_at hl 2 rfl) ?_
    have hk1 : xb_k h7 x0 = 9 := hEh7.k hk1
    refine xb_getP (C := R_M) (T := F_M) (N := 97) hx hb 8 55 hts fin_M hown hR hk1 (by decide) rfl (by decide) rfl (hts _ m_e77abcfd) (fun _ h9 => h9) (xb_d D_M_pagesOf 21 rfl) ?_
    obtain ⟨b10, eb10, hw⟩ := hw
    refine xb_some eb10 ?_
    refine lv_iload_n hx hb (xb_d D_M_pagesOf 22 rfl) rfl (lv_at hl 3 rfl) ?_
    obtain ⟨hk12, hw⟩ := hw
    obtain ⟨hi11, hw⟩ := hw
    refine xb_lald hx hb hR hk12 hi11 (xb_d D_M_pagesOf 23 rfl) ?_
    refine lv_lconst (v := 0) hx hb (xb_d D_M_pagesOf 24 rfl) (by decide) ?_
    refine xb_lc_ge (tgt := 51) hx hb (xb_d D_M_pagesOf 25 rfl) (xb_d D_M_pagesOf 26 rfl) rfl (fun hc13 => ?_) (fun hc13 => ?_)
    · have hw := hw.1 hc13
      refine lv_aload_n hx hb (xb_d D_M_pagesOf 29 rfl) rfl (lv_at hl 2 rfl) ?_
      refine xb_getP (C := R_M) (T := F_M) (N := 97) hx hb 8 55 hts fin_M hown hR hk1 (by decide) rfl (by decide) rfl (hts _ m_e77abcfd) (fun _ h9 => h9) (xb_d D_M_pagesOf 30 rfl) ?_
      obtain ⟨b14, eb14, hw⟩ := hw
      refine xb_some eb14 ?_
      refine lv_iload_n hx hb (xb_d D_M_pagesOf 31 rfl) rfl (lv_at hl 3 rfl) ?_
      obtain ⟨hk16, hw⟩ := hw
      obtain ⟨hi15, hw⟩ := hw
      refine xb_lald hx hb hR hk16 hi15 (xb_d D_M_pagesOf 32 rfl) ?_
      exact am_M_pagesOf_L57 l hfl D A σ MC MS h0 Qr x0 x1 v5 v9 (xb_l h7 b14 (Int32.toNatClampNeg x1)) h7 hw p e s m args below meth c hC H locs ls k n hE (lv_sub hl [2, 3, 1, 0] rfl) hR hS (by omega) (by omega)
    · have hw := hw.2 hc13
      refine lv_ldc2 (v := 65536) hx hb hown (hts _ m_4fda1f04) (xb_d D_M_pagesOf 27 rfl) ?_
      refine lv_goto (tgt := 57) hx hb (xb_d D_M_pagesOf 28 rfl) rfl ?_
      exact am_M_pagesOf_L57 l hfl D A σ MC MS h0 Qr x0 x1 v5 v9 65536 h7 hw p e s m args below meth c hC H locs ls k n hE (lv_sub hl [2, 3, 1, 0] rfl) hR hS (by omega) (by omega)
  · have hw := hw.2 hc6
    refine lv_aload_n hx hb (xb_d D_M_pagesOf 8 rfl) rfl (lv_at hl 1 rfl) ?_
    refine lv_iload_n hx hb (xb_d D_M_pagesOf 9 rfl) rfl (lv_at hl 0 rfl) ?_
    refine lv_i2l hx hb (xb_d D_M_pagesOf 10 rfl) rfl ?_
    refine lv_bipush (v := 127) hx hb (xb_d D_M_pagesOf 11 rfl) (by decide) ?_
    refine xb_call0 (D := D) (A := A) (σ := σ) (h := h) (d := 2) (maxL := 4) (rest := []) (av := [.ref x0, .long (Int32.toInt64 v5), .int 127]) (fun T hT X => by obtain ⟨cb9, ra9, rb9, rc9⟩ := xb_recv (ci := 8) hR rfl hk1 (by decide); exact xt_invV X hx hown (hts _ m_1dd22d11) (hts _ m_e8ae1713) (hts _ m_973b740a) (xt_sigOf (hts _ m_a0d5a63e)) nm_M_add (by rw [hT]; exact ra9) rb9 rc9 (g := F0 m 18 ls [.int 127, .long (Int32.toInt64 v5), .ref x0]) rfl (argsL := [.long (Int32.toInt64 v5), .int 127]) (rest := []) rfl rfl (by rw [hb]; exact (xb_d D_M_pagesOf 12 rfl))) (ok_M_add l hfl D A σ x0 (Int32.toInt64 v5) 127 h _ hw) (hml.trans hl.1.symm) (by rw [hb]; exact (xb_d D_M_pagesOf 12 rfl)) (Nat.le_of_ble_eq_true rfl) (Nat.le_of_ble_eq_true rfl) (Nat.le_of_ble_eq_true rfl) (show k ≤ MC by omega) (show n ≤ MS by omega) (xt_w1 hB.1 m_a0d5a63e) (xt_cdOf hB.1 m_a0d5a63e) (hts _ m_d5ed7bed) hB hR hS hA (fun vv h17 H locs hq hEh17 hR hS => ?_)
    obtain ⟨rfl, hw⟩ := hq
    have hw := hw hEh17
    have hE := hE.tr hEh17
    refine W.eq (g2 := F0 m 21 ls []) rfl ?_
    exact xb_vret 0 0 hx hb hr hlocks (show k + 0 ≤ MC by omega) (show n + 0 ≤ MS by omega) hE hR hS (xb_d D_M_pagesOf 13 rfl) hw

theorem m_3308f884 : (.methodLink "StackHostModel" 405 y_M_put : Cond) ∈ xt_tbl := xt_in (xt_t11 (List.mem_of_getElem? (i := 179) (by decide +kernel))) (by decide +kernel)
theorem m_052429f9 : (.instanceMethod y_M_put : Cond) ∈ xt_tbl := xt_in (xt_t11 (List.mem_of_getElem? (i := 181) (by decide +kernel))) (by decide +kernel)
theorem m_8c0b8095 : (.selects "StackHostModel" y_M_put y_M_put : Cond) ∈ xt_tbl := xt_in (xt_v12 (q := (⟨"StackHostModel", "put", "(I)V"⟩, 97)) (List.mem_of_getElem? (i := 1) (by decide +kernel))) (by decide +kernel)
theorem m_98c8d9b3 : (.code y_M_put b_M_put 2 none : Cond) ∈ xt_tbl := xt_in (xt_t11 (List.mem_of_getElem? (i := 182) (by decide +kernel))) (by decide +kernel)
theorem nm_M_put : xt_nm y_M_put 1 := ⟨by decide +kernel, by decide +kernel⟩
set_option maxRecDepth 100000 in
def T_M_putResult : List (Nat × Instr × Nat) := [(0, .iload_n 1, 1), (1, .bipush 64, 2), (3, .if_icmp .eq 8, 3), (6, .aload_n 0, 1), (7, .iload_n 1, 1), (8, .invokevirtual 405, 3), (11, .return_, 1)]
theorem D_M_putResult : ∀ q ∈ T_M_putResult, decode b_M_putResult q.1 = .ok (q.2.1, q.2.2) := by decide +kernel

set_option maxHeartbeats 4000000 in
set_option maxRecDepth 100000 in
theorem am_M_putResult_L11 (l : Launch) (hfl : l.flags = pinnedFlags ++ [noTraceFlag]) (D : va_G) (A : Nat → Prop) (σ MC MS : Nat) (h0 : xb_H) (Qr : xb_H → Prop) (h : xb_H) (hw : w_M_putResult_L11 Qr h) : xb_am l D A σ 3 MC MS h0 (fun v h _ _ => v = none ∧ Qr h) (fun _ _ _ _ => False) y_M_putResult.cls y_M_putResult.name b_M_putResult 2 ([] : List ExceptionTableEntry) none 11 [] [] h 0 0 := by
  unfold w_M_putResult_L11 at hw
  intro p e s m args below meth c hC H locs ls k n hE hl hR hS hk hn
  obtain ⟨hx, hb, hown, hlocks, htab, hml, hr, hB, hA, hnm⟩ := id hC
  have hts := hB.1.1.at args
  exact xb_vret 0 0 hx hb hr hlocks (show k + 0 ≤ MC by omega) (show n + 0 ≤ MS by omega) hE hR hS (xb_d D_M_putResult 6 rfl) hw

set_option maxHeartbeats 4000000 in
set_option maxRecDepth 100000 in
theorem ok_M_putResult (l : Launch) (hfl : l.flags = pinnedFlags ++ [noTraceFlag]) (D : va_G) (A : Nat → Prop) (σ : Nat) (x0 : Nat) (x1 : Int32) (h : xb_H) (Qr : xb_H → Prop) (hw : w_M_putResult x0 x1 h Qr) : xb_Met l y_M_putResult [.code y_M_putResult b_M_putResult 2 none] (xb_rm 3 0 0) (xb_Pc D A σ h [.ref x0, .int x1]) (xb_Qc D A h 0 0 (fun v h _ _ => v = none ∧ Qr h) (fun _ _ _ _ => False)) A := by
  refine xb_ofAm (cc := b_M_putResult) (by decide) (Nat.le_of_ble_eq_true rfl) ?_
  unfold w_M_putResult at hw
  show xb_am l D A σ 3 0 0 h (fun v h _ _ => v = none ∧ Qr h) (fun _ _ _ _ => False) y_M_putResult.cls y_M_putResult.name b_M_putResult 2 ([] : List ExceptionTableEntry) none 0 [(0, .ref x0), (1, .int x1)] [] h 0 0
  obtain ⟨MC, hMC⟩ : ∃ x, x = 0 := ⟨_, rfl⟩
  obtain ⟨MS, hMS⟩ : ∃ x, x = 0 := ⟨_, rfl⟩
  rw [show xb_am l D A σ 3 0 0 = xb_am l D A σ 3 MC MS by rw [hMC, hMS]]
  obtain ⟨h0, hh0⟩ : ∃ x, x = h := ⟨_, rfl⟩
  rw [show xb_am l D A σ 3 MC MS h = xb_am l D A σ 3 MC MS h0 by rw [hh0]]
  intro p e s m args below meth c hC H locs ls k n hE hl hR hS hk hn
  obtain ⟨hx, hb, hown, hlocks, htab, hml, hr, hB, hA, hnm⟩ := id hC
  have hts := hB.1.1.at args
  refine lv_iload_n hx hb (xb_d D_M_putResult 0 rfl) rfl (lv_at hl 1 rfl) ?_
  refine lv_bipush (v := 64) hx hb (xb_d D_M_putResult 1 rfl) (by decide) ?_
  refine lv_icmp_eq (tgt := 11) hx hb (xb_d D_M_putResult 2 rfl) rfl (fun hc1 => ?_) (fun hc1 => ?_)
  · have hw := hw.1 hc1
    exact am_M_putResult_L11 l hfl D A σ MC MS h0 Qr h hw p e s m args below meth c hC H locs ls k n hE (lv_sub hl [] rfl) hR hS (by omega) (by omega)
  · have hw := hw.2 hc1
    refine lv_aload_n hx hb (xb_d D_M_putResult 3 rfl) rfl (lv_at hl 0 rfl) ?_
    refine lv_iload_n hx hb (xb_d D_M_putResult 4 rfl) rfl (lv_at hl 1 rfl) ?_
    obtain ⟨hk2, hw⟩ := hw
    refine xb_call0 (D := D) (A := A) (σ := σ) (h := h) (d := 2) (maxL := 2) (rest := []) (av := [.ref x0, .int x1]) (fun T hT X => by obtain ⟨cb9, ra9, rb9, rc9⟩ := xb_recv (ci := 8) hR rfl hk2 (by decide); exact xt_invV X hx hown (hts _ m_3308f884) (hts _ m_052429f9) (hts _ m_8c0b8095) (xt_sigOf (hts _ m_98c8d9b3)) nm_M_put (by rw [hT]; exact ra9) rb9 rc9 (g := F0 m 8 ls [.int x1, .ref x0]) rfl (argsL := [.int x1]) (rest := []) rfl rfl (by rw [hb]; exact (xb_d D_M_putResult 5 rfl))) (ok_M_put l hfl D A σ x0 x1 h _ hw) (hml.trans hl.1.symm) (by rw [hb]; exact (xb_d D_M_putResult 5 rfl)) (Nat.le_of_ble_eq_true rfl) (Nat.le_of_ble_eq_true rfl) (Nat.le_of_ble_eq_true rfl) (show k ≤ MC by omega) (show n ≤ MS by omega) (xt_w1 hB.1 m_98c8d9b3) (xt_cdOf hB.1 m_98c8d9b3) (hts _ m_d5ed7bed) hB hR hS hA (fun vv h3 H locs hq hEh3 hR hS => ?_)
    obtain ⟨rfl, hw⟩ := hq
    have hw := hw hEh3
    have hE := hE.tr hEh3
    refine W.eq (g2 := F0 m 11 ls []) rfl ?_
    exact am_M_putResult_L11 l hfl D A σ MC MS h0 Qr h3 hw p e s m args below meth c hC H locs ls k n hE (lv_sub hl [] rfl) hR hS (by omega) (by omega)

theorem m_c611635e : (.methodLink "StackHostModel" 473 y_M_isModule : Cond) ∈ xt_tbl := xt_in (xt_t12 (List.mem_of_getElem? (i := 1) (by decide +kernel))) (by decide +kernel)
theorem m_5d755988 : (.instanceMethod y_M_isModule : Cond) ∈ xt_tbl := xt_in (xt_t12 (List.mem_of_getElem? (i := 3) (by decide +kernel))) (by decide +kernel)
theorem m_f51c38a1 : (.selects "StackHostModel" y_M_isModule y_M_isModule : Cond) ∈ xt_tbl := xt_in (xt_v12 (q := (⟨"StackHostModel", "isModule", "(I)Z"⟩, 97)) (List.mem_of_getElem? (i := 14) (by decide +kernel))) (by decide +kernel)
theorem m_012cb97d : (.code y_M_isModule b_M_isModule 2 (some .boolean) : Cond) ∈ xt_tbl := xt_in (xt_t12 (List.mem_of_getElem? (i := 4) (by decide +kernel))) (by decide +kernel)
theorem nm_M_isModule : xt_nm y_M_isModule 1 := ⟨by decide +kernel, by decide +kernel⟩
set_option maxRecDepth 100000 in
def T_M_room : List (Nat × Instr × Nat) := [(0, .aload_n 0, 1), (1, .aload_n 0, 1), (2, .iload_n 1, 1), (3, .invokevirtual 473, 3), (6, .ifCond .eq 22, 3), (9, .iload_n 2, 1), (10, .ifCond .lt 18, 3), (13, .iload_n 2, 1), (14, .aload_n 0, 1), (15, .iload_n 1, 1), (16, .bipush 10, 2), (18, .invokevirtual 316, 3), (21, .if_icmp .ge 7, 3), (24, .iconst 0, 1), (25, .goto 4, 3), (28, .iconst 1, 1), (29, .putfield 189, 3), (32, .aload_n 0, 1), (33, .getfield 189, 3), (36, .ifCond .le 7, 3), (39, .iconst 0, 1), (40, .goto 22, 3), (43, .aload_n 0, 1), (44, .getfield 36, 3), (47, .aload_n 0, 1), (48, .getfield 24, 3), (51, .bipush 12, 2), (53, .iload_n 1, 1), (54, .imul, 1), (55, .bipush 10, 2), (57, .iadd, 1), (58, .iaload, 1), (59, .iload_n 2, 1), (60, .iadd, 1), (61, .iaload, 1), (62, .ireturn, 1)]
theorem D_M_room : ∀ q ∈ T_M_room, decode b_M_room q.1 = .ok (q.2.1, q.2.2) := by decide +kernel

set_option maxHeartbeats 4000000 in
set_option maxRecDepth 100000 in
theorem am_M_room_L62 (l : Launch) (hfl : l.flags = pinnedFlags ++ [noTraceFlag]) (D : va_G) (A : Nat → Prop) (σ MC MS : Nat) (h0 : xb_H) (Qr : Int32 → xb_H → Prop) (y0 : Int32) (h : xb_H) (hw : w_M_room_L62 Qr y0 h) : xb_am l D A σ 3 MC MS h0 (fun v h _ _ => ∃ r, v = some (.int r) ∧ Qr r h) (fun _ _ _ _ => False) y_M_room.cls y_M_room.name b_M_room 3 ([] : List ExceptionTableEntry) (some .int) 62 [] [.int y0] h 0 0 := by
  unfold w_M_room_L62 at hw
  intro p e s m args below meth c hC H locs ls k n hE hl hR hS hk hn
  obtain ⟨hx, hb, hown, hlocks, htab, hml, hr, hB, hA, hnm⟩ := id hC
  have hts := hB.1.1.at args
  exact xb_iret 0 0 hx hb hr hlocks (show k + 0 ≤ MC by omega) (show n + 0 ≤ MS by omega) hE hR hS (xb_d D_M_room 35 rfl) hw

set_option maxHeartbeats 4000000 in
set_option maxRecDepth 100000 in
theorem am_M_room_L29 (l : Launch) (hfl : l.flags = pinnedFlags ++ [noTraceFlag]) (D : va_G) (A : Nat → Prop) (σ MC MS : Nat) (h0 : xb_H) (Qr : Int32 → xb_H → Prop) (x0 : Nat) (x1 : Int32) (x2 : Int32) (y0 : Int32) (y1 : Nat) (h : xb_H) (hw : w_M_room_L29 Qr x0 x1 x2 y0 y1 h) : xb_am l D A σ 3 MC MS h0 (fun v h _ _ => ∃ r, v = some (.int r) ∧ Qr r h) (fun _ _ _ _ => False) y_M_room.cls y_M_room.name b_M_room 3 ([] : List ExceptionTableEntry) (some .int) 29 [(0, .ref x0), (1, .int x1), (2, .int x2)] [.int y0, .ref y1] h 0 0 := by
  unfold w_M_room_L29 at hw
  intro p e s m args below meth c hC H locs ls k n hE hl hR hS hk hn
  obtain ⟨hx, hb, hown, hlocks, htab, hml, hr, hB, hA, hnm⟩ := id hC
  have hts := hB.1.1.at args
  obtain ⟨hk1, hw⟩ := hw
  refine xb_putI (C := R_M) (T := F_M) (N := 97) (ty := .int) (x := y0) hx hb 8 0 hts fin_M t_M t_M_ok n_M hown hR hS hk1 (by decide) rfl (by decide) rfl (hts _ m_afabd6a0) (fun _ h9 => h9) rfl (by decide +kernel) rfl rfl (xb_d D_M_room 16 rfl) (fun H locs hR hS => ?_)
  obtain ⟨h2, eh2⟩ : ∃ x : xb_H, x = xb_I h y1 0 y0 := ⟨_, rfl⟩
  rw [← eh2] at hR
  have hw := hw h2 eh2
  have hE : xb_ext h0 h2 := by rw [eh2]; exact hE
  refine lv_aload_n hx hb (xb_d D_M_room 17 rfl) rfl (lv_at hl 0 rfl) ?_
  obtain ⟨hk3, hw⟩ := hw
  refine xb_getI (C := R_M) (T := F_M) (N := 97) hx hb 8 0 hts fin_M hown hR hk3 (by decide) rfl (by decide) rfl (hts _ m_afabd6a0) (fun _ h9 => h9) (xb_d D_M_room 18 rfl) ?_
  refine lv_if_le (tgt := 43) hx hb (xb_d D_M_room 19 rfl) rfl (fun hc4 => ?_) (fun hc4 => ?_)
  · have hw := hw.1 hc4
    refine lv_aload_n hx hb (xb_d D_M_room 22 rfl) rfl (lv_at hl 0 rfl) ?_
    refine xb_getP (C := R_M) (T := F_M) (N := 97) hx hb 8 12 hts fin_M hown hR hk3 (by decide) rfl (by decide) rfl (hts _ m_82208c1c) (fun _ h9 => h9) (xb_d D_M_room 23 rfl) ?_
    obtain ⟨b5, eb5, hw⟩ := hw
    refine xb_some eb5 ?_
    refine lv_aload_n hx hb (xb_d D_M_room 24 rfl) rfl (lv_at hl 0 rfl) ?_
    refine xb_getP (C := R_M) (T := F_M) (N := 97) hx hb 8 8 hts fin_M hown hR hk3 (by decide) rfl (by decide) rfl (hts _ m_7cc4ea11) (fun _ h9 => h9) (xb_d D_M_room 25 rfl) ?_
    obtain ⟨b6, eb6, hw⟩ := hw
    refine xb_some eb6 ?_
    refine lv_bipush (v := 12) hx hb (xb_d D_M_room 26 rfl) (by decide) ?_
    refine lv_iload_n hx hb (xb_d D_M_room 27 rfl) rfl (lv_at hl 1 rfl) ?_
    refine lv_imul hx hb (xb_d D_M_room 28 rfl) ?_
    refine lv_bipush (v := 10) hx hb (xb_d D_M_room 29 rfl) (by decide) ?_
    refine lv_iadd hx hb (xb_d D_M_room 30 rfl) ?_
    obtain ⟨hk8, hw⟩ := hw
    obtain ⟨hi7, hw⟩ := hw
    refine xb_iald hx hb hR hk8 hi7 (xb_d D_M_room 31 rfl) ?_
    refine lv_iload_n hx hb (xb_d D_M_room 32 rfl) rfl (lv_at hl 2 rfl) ?_
    refine lv_iadd hx hb (xb_d D_M_room 33 rfl) ?_
    obtain ⟨hk10, hw⟩ := hw
    obtain ⟨hi9, hw⟩ := hw
    refine xb_iald hx hb hR hk10 hi9 (xb_d D_M_room 34 rfl) ?_
    exact am_M_room_L62 l hfl D A σ MC MS h0 Qr (xb_i h2 b5 (Int32.toNatClampNeg ((xb_i h2 b6 (Int32.toNatClampNeg ((12 * x1) + 10))) + x2))) h2 hw p e s m args below meth c hC H locs ls k n hE (lv_sub hl [] rfl) hR hS (by omega) (by omega)
  · have hw := hw.2 hc4
    refine lv_iconst (v := 0) hx hb (xb_d D_M_room 20 rfl) (by decide) ?_
    refine lv_goto (tgt := 62) hx hb (xb_d D_M_room 21 rfl) rfl ?_
    exact am_M_room_L62 l hfl D A σ MC MS h0 Qr 0 h2 hw p e s m args below meth c hC H locs ls k n hE (lv_sub hl [] rfl) hR hS (by omega) (by omega)

set_option maxHeartbeats 4000000 in
set_option maxRecDepth 100000 in
theorem am_M_room_L28 (l : Launch) (hfl : l.flags = pinnedFlags ++ [noTraceFlag]) (D : va_G) (A : Nat → Prop) (σ MC MS : Nat) (h0 : xb_H) (Qr : Int32 → xb_H → Prop) (x0 : Nat) (x1 : Int32) (x2 : Int32) (y0 : Nat) (h : xb_H) (hw : w_M_room_L28 Qr x0 x1 x2 y0 h) : xb_am l D A σ 3 MC MS h0 (fun v h _ _ => ∃ r, v = some (.int r) ∧ Qr r h) (fun _ _ _ _ => False) y_M_room.cls y_M_room.name b_M_room 3 ([] : List ExceptionTableEntry) (some .int) 28 [(0, .ref x0), (1, .int x1), (2, .int x2)] [.ref y0] h 0 0 := by
  unfold w_M_room_L28 at hw
  intro p e s m args below meth c hC H locs ls k n hE hl hR hS hk hn
  obtain ⟨hx, hb, hown, hlocks, htab, hml, hr, hB, hA, hnm⟩ := id hC
  have hts := hB.1.1.at args
  refine lv_iconst (v := 1) hx hb (xb_d D_M_room 15 rfl) (by decide) ?_
  exact am_M_room_L29 l hfl D A σ MC MS h0 Qr x0 x1 x2 1 y0 h hw p e s m args below meth c hC H locs ls k n hE (lv_sub hl [0, 1, 2] rfl) hR hS (by omega) (by omega)

set_option maxHeartbeats 4000000 in
set_option maxRecDepth 100000 in
theorem ok_M_room (l : Launch) (hfl : l.flags = pinnedFlags ++ [noTraceFlag]) (D : va_G) (A : Nat → Prop) (σ : Nat) (x0 : Nat) (x1 : Int32) (x2 : Int32) (h : xb_H) (Qr : Int32 → xb_H → Prop) (hw : w_M_room x0 x1 x2 h Qr) : xb_Met l y_M_room [.code y_M_room b_M_room 3 (some .int)] (xb_rm 3 0 0) (xb_Pc D A σ h [.ref x0, .int x1, .int x2]) (xb_Qc D A h 0 0 (fun v h _ _ => ∃ r, v = some (.int r) ∧ Qr r h) (fun _ _ _ _ => False)) A := by
  refine xb_ofAm (cc := b_M_room) (by decide) (Nat.le_of_ble_eq_true rfl) ?_
  unfold w_M_room at hw
  show xb_am l D A σ 3 0 0 h (fun v h _ _ => ∃ r, v = some (.int r) ∧ Qr r h) (fun _ _ _ _ => False) y_M_room.cls y_M_room.name b_M_room 3 ([] : List ExceptionTableEntry) (some .int) 0 [(0, .ref x0), (1, .int x1), (2, .int x2)] [] h 0 0
  obtain ⟨MC, hMC⟩ : ∃ x, x = 0 := ⟨_, rfl⟩
  obtain ⟨MS, hMS⟩ : ∃ x, x = 0 := ⟨_, rfl⟩
  rw [show xb_am l D A σ 3 0 0 = xb_am l D A σ 3 MC MS by rw [hMC, hMS]]
  obtain ⟨h0, hh0⟩ : ∃ x, x = h := ⟨_, rfl⟩
  rw [show xb_am l D A σ 3 MC MS h = xb_am l D A σ 3 MC MS h0 by rw [hh0]]
  intro p e s m args below meth c hC H locs ls k n hE hl hR hS hk hn
  obtain ⟨hx, hb, hown, hlocks, htab, hml, hr, hB, hA, hnm⟩ := id hC
  have hts := hB.1.1.at args
  refine lv_aload_n hx hb (xb_d D_M_room 0 rfl) rfl (lv_at hl 0 rfl) ?_
  refine lv_aload_n hx hb (xb_d D_M_room 1 rfl) rfl (lv_at hl 0 rfl) ?_
  refine lv_iload_n hx hb (xb_d D_M_room 2 rfl) rfl (lv_at hl 1 rfl) ?_
  obtain ⟨hk1, hw⟩ := hw
  refine xb_call0 (D := D) (A := A) (σ := σ) (h := h) (d := 2) (maxL := 2) (rest := [.ref x0]) (av := [.ref x0, .int x1]) (fun T hT X => by obtain ⟨cb9, ra9, rb9, rc9⟩ := xb_recv (ci := 8) hR rfl hk1 (by decide); exact xt_invV X hx hown (hts _ m_c611635e) (hts _ m_5d755988) (hts _ m_f51c38a1) (xt_sigOf (hts _ m_012cb97d)) nm_M_isModule (by rw [hT]; exact ra9) rb9 rc9 (g := F0 m 3 ls [.int x1, .ref x0, .ref x0]) rfl (argsL := [.int x1]) (rest := [.ref x0]) rfl rfl (by rw [hb]; exact (xb_d D_M_room 3 rfl))) (ok_M_isModule l hfl D A σ x0 x1 h _ hw) (hml.trans hl.1.symm) (by rw [hb]; exact (xb_d D_M_room 3 rfl)) (Nat.le_of_ble_eq_true rfl) (Nat.le_of_ble_eq_true rfl) (Nat.le_of_ble_eq_true rfl) (show k ≤ MC by omega) (show n ≤ MS by omega) (xt_w1 hB.1 m_012cb97d) (xt_cdOf hB.1 m_012cb97d) (hts _ m_d5ed7bed) hB hR hS hA (fun vv h2 H locs hq hEh2 hR hS => ?_)
  obtain ⟨r3, rfl, hw⟩ := hq
  have hw := hw hEh2
  have hE := hE.tr hEh2
  refine W.eq (g2 := F0 m 6 ls [.int r3, .ref x0]) rfl ?_
  refine lv_if_eq (tgt := 28) hx hb (xb_d D_M_room 4 rfl) rfl (fun hc4 => ?_) (fun hc4 => ?_)
  · have hw := hw.1 hc4
    exact am_M_room_L28 l hfl D A σ MC MS h0 Qr x0 x1 x2 x0 h2 hw p e s m args below meth c hC H locs ls k n hE (lv_sub hl [0, 1, 2] rfl) hR hS (by omega) (by omega)
  · have hw := hw.2 hc4
    refine lv_iload_n hx hb (xb_d D_M_room 5 rfl) rfl (lv_at hl 2 rfl) ?_
    refine lv_if_lt (tgt := 28) hx hb (xb_d D_M_room 6 rfl) rfl (fun hc5 => ?_) (fun hc5 => ?_)
    · have hw := hw.1 hc5
      exact am_M_room_L28 l hfl D A σ MC MS h0 Qr x0 x1 x2 x0 h2 hw p e s m args below meth c hC H locs ls k n hE (lv_sub hl [0, 1, 2] rfl) hR hS (by omega) (by omega)
    · have hw := hw.2 hc5
      refine lv_iload_n hx hb (xb_d D_M_room 7 rfl) rfl (lv_at hl 2 rfl) ?_
      refine lv_aload_n hx hb (xb_d D_M_room 8 rfl) rfl (lv_at hl 0 rfl) ?_
      refine lv_iload_n hx hb (xb_d D_M_room 9 rfl) rfl (lv_at hl 1 rfl) ?_
      refine lv_bipush (v := 10) hx hb (xb_d D_M_room 10 rfl) (by decide) ?_
      have hk1 : xb_k h2 x0 = 9 := hEh2.k hk1
      refine xb_call0 (D := D) (A := A) (σ := σ) (h := h2) (d := 2) (maxL := 3) (rest := [.int x2, .ref x0]) (av := [.ref x0, .int x1, .int 10]) (fun T hT X => by obtain ⟨cb9, ra9, rb9, rc9⟩ := xb_recv (ci := 8) hR rfl hk1 (by decide); exact xt_invV X hx hown (hts _ m_b47f62c2) (hts _ m_9f071faf) (hts _ m_e1bb5c84) (xt_sigOf (hts _ m_3a6212d6)) nm_M_manyOf (by rw [hT]; exact ra9) rb9 rc9 (g := F0 m 18 ls [.int 10, .int x1, .ref x0, .int x2, .ref x0]) rfl (argsL := [.int x1, .int 10]) (rest := [.int x2, .ref x0]) rfl rfl (by rw [hb]; exact (xb_d D_M_room 11 rfl))) (ok_M_manyOf l hfl D A σ x0 x1 10 h2 _ hw) (hml.trans hl.1.symm) (by rw [hb]; exact (xb_d D_M_room 11 rfl)) (Nat.le_of_ble_eq_true rfl) (Nat.le_of_ble_eq_true rfl) (Nat.le_of_ble_eq_true rfl) (show k ≤ MC by omega) (show n ≤ MS by omega) (xt_w1 hB.1 m_3a6212d6) (xt_cdOf hB.1 m_3a6212d6) (hts _ m_d5ed7bed) hB hR hS hA (fun vv h6 H locs hq hEh6 hR hS => ?_)
      obtain ⟨r7, rfl, hw⟩ := hq
      have hw := hw hEh6
      have hE := hE.tr hEh6
      refine W.eq (g2 := F0 m 21 ls [.int r7, .int x2, .ref x0]) rfl ?_
      refine lv_icmp_ge (tgt := 28) hx hb (xb_d D_M_room 12 rfl) rfl (fun hc8 => ?_) (fun hc8 => ?_)
      · have hw := hw.1 hc8
        exact am_M_room_L28 l hfl D A σ MC MS h0 Qr x0 x1 x2 x0 h6 hw p e s m args below meth c hC H locs ls k n hE (lv_sub hl [0, 1, 2] rfl) hR hS (by omega) (by omega)
      · have hw := hw.2 hc8
        refine lv_iconst (v := 0) hx hb (xb_d D_M_room 13 rfl) (by decide) ?_
        refine lv_goto (tgt := 29) hx hb (xb_d D_M_room 14 rfl) rfl ?_
        exact am_M_room_L29 l hfl D A σ MC MS h0 Qr x0 x1 x2 0 x0 h6 hw p e s m args below meth c hC H locs ls k n hE (lv_sub hl [0, 1, 2] rfl) hR hS (by omega) (by omega)

theorem m_8edd20d4 : (.fieldLink "StackHostModel" 571 "StackHostModel" "memories" "I" : Cond) ∈ xt_tbl := xt_in (xt_t9 (List.mem_of_getElem? (i := 191) (by decide +kernel))) (by decide +kernel)
theorem m_e0b71bd2 : (.fieldLink "StackHostModel" 568 "StackHostModel" "tables" "I" : Cond) ∈ xt_tbl := xt_in (xt_t9 (List.mem_of_getElem? (i := 185) (by decide +kernel))) (by decide +kernel)
theorem m_1bb1db74 : (.fieldLink "StackHostModel" 558 "StackHostModel" "elements" "I" : Cond) ∈ xt_tbl := xt_in (xt_t9 (List.mem_of_getElem? (i := 186) (by decide +kernel))) (by decide +kernel)
theorem m_4f409276 : (.fieldLink "StackHostModel" 552 "StackHostModel" "functions" "I" : Cond) ∈ xt_tbl := xt_in (xt_t9 (List.mem_of_getElem? (i := 182) (by decide +kernel))) (by decide +kernel)
theorem m_94ecb3cf : (.fieldLink "StackHostModel" 555 "StackHostModel" "variables" "I" : Cond) ∈ xt_tbl := xt_in (xt_t9 (List.mem_of_getElem? (i := 197) (by decide +kernel))) (by decide +kernel)
set_option maxRecDepth 100000 in
def T_M_settle : List (Nat × Instr × Nat) := [(0, .iconst 0, 1), (1, .istore_n 3, 1), (2, .iload_n 3, 1), (3, .aload_n 0, 1), (4, .iload_n 2, 1), (5, .iconst 3, 1), (6, .invokevirtual 316, 3), (9, .if_icmp .ge 33, 3), (12, .aload_n 0, 1), (13, .getfield 92, 3), (16, .aload_n 0, 1), (17, .getfield 552, 3), (20, .iload_n 3, 1), (21, .iadd, 1), (22, .iload_n 1, 1), (23, .iastore, 1), (24, .aload_n 0, 1), (25, .getfield 95, 3), (28, .aload_n 0, 1), (29, .getfield 552, 3), (32, .iload_n 3, 1), (33, .iadd, 1), (34, .iload_n 3, 1), (35, .iastore, 1), (36, .iinc 3 1, 3), (39, .goto (-37), 3), (42, .aload_n 0, 1), (43, .aload_n 0, 1), (44, .getfield 552, 3), (47, .aload_n 0, 1), (48, .iload_n 2, 1), (49, .iconst 3, 1), (50, .invokevirtual 316, 3), (53, .iadd, 1), (54, .putfield 552, 3), (57, .aload_n 0, 1), (58, .aload_n 0, 1), (59, .getfield 555, 3), (62, .aload_n 0, 1), (63, .iload_n 2, 1), (64, .bipush 6, 2), (66, .invokevirtual 316, 3), (69, .iadd, 1), (70, .putfield 555, 3), (73, .aload_n 0, 1), (74, .aload_n 0, 1), (75, .getfield 519, 3), (78, .aload_n 0, 1), (79, .iload_n 2, 1), (80, .iconst 2, 1), (81, .invokevirtual 316, 3), (84, .iadd, 1), (85, .putfield 519, 3), (88, .aload_n 0, 1), (89, .iload_n 2, 1), (90, .iconst 4, 1), (91, .invokevirtual 316, 3), (94, .ifCond .le 64, 3), (97, .iconst 0, 1), (98, .istore_n 3, 1), (99, .iload_n 3, 1), (100, .aload_n 0, 1), (101, .getfield 101, 3), (104, .aload_n 0, 1), (105, .getfield 568, 3), (108, .iaload, 1), (109, .if_icmp .ge 21, 3), (112, .aload_n 0, 1), (113, .getfield 108, 3), (116, .aload_n 0, 1), (117, .getfield 558, 3), (120, .iload_n 3, 1), (121, .iadd, 1), (122, .iconst 0, 1), (123, .iastore, 1), (124, .iinc 3 1, 3), (127, .goto (-28), 3), (130, .aload_n 0, 1), (131, .aload_n 0, 1), (132, .getfield 558, 3), (135, .aload_n 0, 1), (136, .getfield 101, 3), (139, .aload_n 0, 1), (140, .getfield 568, 3), (143, .iaload, 1), (144, .iadd, 1), (145, .putfield 558, 3), (148, .aload_n 0, 1), (149, .dup, 1), (150, .getfield 568, 3), (153, .iconst 1, 1), (154, .iadd, 1), (155, .putfield 568, 3), (158, .aload_n 0, 1), (159, .iload_n 2, 1), (160, .iconst 5, 1), (161, .invokevirtual 316, 3), (164, .ifCond .le 62, 3), (167, .iconst 0, 1), (168, .istore_n 3, 1), (169, .iload_n 3, 1), (170, .aload_n 0, 1), (171, .getfield 111, 3), (174, .aload_n 0, 1), (175, .getfield 571, 3), (178, .iaload, 1), (179, .if_icmp .ge 37, 3), (182, .aload_n 0, 1), (183, .getfield 117, 3), (186, .bipush 16, 2), (188, .aload_n 0, 1), (189, .getfield 571, 3), (192, .imul, 1), (193, .iload_n 3, 1), (194, .iadd, 1), (195, .aload_n 0, 1), (196, .getfield 563, 3), (199, .iastore, 1), (200, .aload_n 0, 1), (201, .dup, 1), (202, .getfield 563, 3), (205, .iconst 1, 1), (206, .iadd, 1), (207, .putfield 563, 3), (210, .iinc 3 1, 3), (213, .goto (-44), 3), (216, .aload_n 0, 1), (217, .dup, 1), (218, .getfield 571, 3), (221, .iconst 1, 1), (222, .iadd, 1), (223, .putfield 571, 3), (226, .aload_n 0, 1), (227, .dup, 1), (228, .getfield 476, 3), (231, .iconst 1, 1), (232, .iadd, 1), (233, .putfield 476, 3), (236, .return_, 1)]
theorem D_M_settle : ∀ q ∈ T_M_settle, decode b_M_settle q.1 = .ok (q.2.1, q.2.2) := by decide +kernel

set_option maxHeartbeats 4000000 in
set_option maxRecDepth 100000 in
theorem am_M_settle_L226 (l : Launch) (hfl : l.flags = pinnedFlags ++ [noTraceFlag]) (D : va_G) (A : Nat → Prop) (σ MC MS : Nat) (h0 : xb_H) (Qr : xb_H → Prop) (x0 : Nat) (h : xb_H) (hw : w_M_settle_L226 Qr x0 h) : xb_am l D A σ 3 MC MS h0 (fun v h _ _ => v = none ∧ Qr h) (fun _ _ _ _ => False) y_M_settle.cls y_M_settle.name b_M_settle 4 ([] : List ExceptionTableEntry) none 226 [(0, .ref x0)] [] h 0 0 := by
  unfold w_M_settle_L226 at hw
  intro p e s m args below meth c hC H locs ls k n hE hl hR hS hk hn
  obtain ⟨hx, hb, hown, hlocks, htab, hml, hr, hB, hA, hnm⟩ := id hC
  have hts := hB.1.1.at args
  refine lv_aload_n hx hb (xb_d D_M_settle 132 rfl) rfl (lv_at hl 0 rfl) ?_
  refine lv_dup hx hb (xb_d D_M_settle 133 rfl) rfl ?_
  obtain ⟨hk1, hw⟩ := hw
  refine xb_getI (C := R_M) (T := F_M) (N := 97) hx hb 8 30 hts fin_M hown hR hk1 (by decide) rfl (by decide) rfl (hts _ m_1c72c4e0) (fun _ h9 => h9) (xb_d D_M_settle 134 rfl) ?_
  refine lv_iconst (v := 1) hx hb (xb_d D_M_settle 135 rfl) (by decide) ?_
  refine lv_iadd hx hb (xb_d D_M_settle 136 rfl) ?_
  refine xb_putI (C := R_M) (T := F_M) (N := 97) (ty := .int) (x := ((xb_i h x0 30) + 1)) hx hb 8 30 hts fin_M t_M t_M_ok n_M hown hR hS hk1 (by decide) rfl (by decide) rfl (hts _ m_1c72c4e0) (fun _ h9 => h9) rfl (by decide +kernel) rfl rfl (xb_d D_M_settle 137 rfl) (fun H locs hR hS => ?_)
  obtain ⟨h2, eh2⟩ : ∃ x : xb_H, x = xb_I h x0 30 ((xb_i h x0 30) + 1) := ⟨_, rfl⟩
  rw [← eh2] at hR
  have hw := hw h2 eh2
  have hE : xb_ext h0 h2 := by rw [eh2]; exact hE
  exact xb_vret 0 0 hx hb hr hlocks (show k + 0 ≤ MC by omega) (show n + 0 ≤ MS by omega) hE hR hS (xb_d D_M_settle 138 rfl) hw

set_option maxHeartbeats 4000000 in
set_option maxRecDepth 100000 in
theorem am_M_settle_L169 (l : Launch) (hfl : l.flags = pinnedFlags ++ [noTraceFlag]) (D : va_G) (A : Nat → Prop) (σ MC MS : Nat) (h0 : xb_H) (Qr : xb_H → Prop) (n9 : Nat) : ∀ (x0 : Nat) (x3 : Int32) (h : xb_H), w_M_settle_L169 Qr n9 x0 x3 h → xb_am l D A σ 3 MC MS h0 (fun v h _ _ => v = none ∧ Qr h) (fun _ _ _ _ => False) y_M_settle.cls y_M_settle.name b_M_settle 4 ([] : List ExceptionTableEntry) none 169 [(0, .ref x0), (3, .int x3)] [] h 0 0 := by
  induction n9 with
  | zero => intro x0 x3 h hw; exact False.elim hw
  | succ n9 ih =>
    intro x0 x3 h hw
    unfold w_M_settle_L169 at hw
    intro p e s m args below meth c hC H locs ls k n hE hl hR hS hk hn
    obtain ⟨hx, hb, hown, hlocks, htab, hml, hr, hB, hA, hnm⟩ := id hC
    have hts := hB.1.1.at args
    refine lv_iload_n hx hb (xb_d D_M_settle 100 rfl) rfl (lv_at hl 1 rfl) ?_
    refine lv_aload_n hx hb (xb_d D_M_settle 101 rfl) rfl (lv_at hl 0 rfl) ?_
    obtain ⟨hk1, hw⟩ := hw
    refine xb_getP (C := R_M) (T := F_M) (N := 97) hx hb 8 54 hts fin_M hown hR hk1 (by decide) rfl (by decide) rfl (hts _ m_605483d9) (fun _ h9 => h9) (xb_d D_M_settle 102 rfl) ?_
    obtain ⟨b2, eb2, hw⟩ := hw
    refine xb_some eb2 ?_
    refine lv_aload_n hx hb (xb_d D_M_settle 103 rfl) rfl (lv_at hl 0 rfl) ?_
    refine xb_getI (C := R_M) (T := F_M) (N := 97) hx hb 8 52 hts fin_M hown hR hk1 (by decide) rfl (by decide) rfl (hts _ m_8edd20d4) (fun _ h9 => h9) (xb_d D_M_settle 104 rfl) ?_
    obtain ⟨hk4, hw⟩ := hw
    obtain ⟨hi3, hw⟩ := hw
    refine xb_iald hx hb hR hk4 hi3 (xb_d D_M_settle 105 rfl) ?_
    refine lv_icmp_ge (tgt := 216) hx hb (xb_d D_M_settle 106 rfl) rfl (fun hc5 => ?_) (fun hc5 => ?_)
    · have hw := hw.1 hc5
      refine lv_aload_n hx hb (xb_d D_M_settle 126 rfl) rfl (lv_at hl 0 rfl) ?_
      refine lv_dup hx hb (xb_d D_M_settle 127 rfl) rfl ?_
      refine xb_getI (C := R_M) (T := F_M) (N := 97) hx hb 8 52 hts fin_M hown hR hk1 (by decide) rfl (by decide) rfl (hts _ m_8edd20d4) (fun _ h9 => h9) (xb_d D_M_settle 128 rfl) ?_
      refine lv_iconst (v := 1) hx hb (xb_d D_M_settle 129 rfl) (by decide) ?_
      refine lv_iadd hx hb (xb_d D_M_settle 130 rfl) ?_
      refine xb_putI (C := R_M) (T := F_M) (N := 97) (ty := .int) (x := ((xb_i h x0 52) + 1)) hx hb 8 52 hts fin_M t_M t_M_ok n_M hown hR hS hk1 (by decide) rfl (by decide) rfl (hts _ m_8edd20d4) (fun _ h9 => h9) rfl (by decide +kernel) rfl rfl (xb_d D_M_settle 131 rfl) (fun H locs hR hS => ?_)
      obtain ⟨h6, eh6⟩ : ∃ x : xb_H, x = xb_I h x0 52 ((xb_i h x0 52) + 1) := ⟨_, rfl⟩
      rw [← eh6] at hR
      have hw := hw h6 eh6
      have hE : xb_ext h0 h6 := by rw [eh6]; exact hE
      exact am_M_settle_L226 l hfl D A σ MC MS h0 Qr x0 h6 hw p e s m args below meth c hC H locs ls k n hE (lv_sub hl [0] rfl) hR hS (by omega) (by omega)
    · have hw := hw.2 hc5
      refine lv_aload_n hx hb (xb_d D_M_settle 107 rfl) rfl (lv_at hl 0 rfl) ?_
      refine xb_getP (C := R_M) (T := F_M) (N := 97) hx hb 8 56 hts fin_M hown hR hk1 (by decide) rfl (by decide) rfl (hts _ m_e7f615b2) (fun _ h9 => h9) (xb_d D_M_settle 108 rfl) ?_
      obtain ⟨b7, eb7, hw⟩ := hw
      refine xb_some eb7 ?_
      refine lv_bipush (v := 16) hx hb (xb_d D_M_settle 109 rfl) (by decide) ?_
      refine lv_aload_n hx hb (xb_d D_M_settle 110 rfl) rfl (lv_at hl 0 rfl) ?_
      refine xb_getI (C := R_M) (T := F_M) (N := 97) hx hb 8 52 hts fin_M hown hR hk1 (by decide) rfl (by decide) rfl (hts _ m_8edd20d4) (fun _ h9 => h9) (xb_d D_M_settle 111 rfl) ?_
      refine lv_imul hx hb (xb_d D_M_settle 112 rfl) ?_
      refine lv_iload_n hx hb (xb_d D_M_settle 113 rfl) rfl (lv_at hl 1 rfl) ?_
      refine lv_iadd hx hb (xb_d D_M_settle 114 rfl) ?_
      refine lv_aload_n hx hb (xb_d D_M_settle 115 rfl) rfl (lv_at hl 0 rfl) ?_
      refine xb_getI (C := R_M) (T := F_M) (N := 97) hx hb 8 53 hts fin_M hown hR hk1 (by decide) rfl (by decide) rfl (hts _ m_45d74ed6) (fun _ h9 => h9) (xb_d D_M_settle 116 rfl) ?_
      obtain ⟨hk8, hw⟩ := hw
      obtain ⟨hi9, hw⟩ := hw
      refine xb_iast hx hb hR hS hk8 hi9 (xb_d D_M_settle 117 rfl) (fun H locs hR hS => ?_)
      obtain ⟨h10, eh10⟩ : ∃ x : xb_H, x = xb_I h b7 (Int32.toNatClampNeg ((16 * (xb_i h x0 52)) + x3)) (xb_i h x0 53) := ⟨_, rfl⟩
      rw [← eh10] at hR
      have hw := hw h10 eh10
      have hE : xb_ext h0 h10 := by rw [eh10]; exact hE
      refine lv_aload_n hx hb (xb_d D_M_settle 118 rfl) rfl (lv_at hl 0 rfl) ?_
      refine lv_dup hx hb (xb_d D_M_settle 119 rfl) rfl ?_
      have hk1 : xb_k h10 x0 = 9 := by rw [eh10]; exact hk1
      refine xb_getI (C := R_M) (T := F_M) (N := 97) hx hb 8 53 hts fin_M hown hR hk1 (by decide) rfl (by decide) rfl (hts _ m_45d74ed6) (fun _ h9 => h9) (xb_d D_M_settle 120 rfl) ?_
      refine lv_iconst (v := 1) hx hb (xb_d D_M_settle 121 rfl) (by decide) ?_
      refine lv_iadd hx hb (xb_d D_M_settle 122 rfl) ?_
      refine xb_putI (C := R_M) (T := F_M) (N := 97) (ty := .int) (x := ((xb_i h10 x0 53) + 1)) hx hb 8 53 hts fin_M t_M t_M_ok n_M hown hR hS hk1 (by decide) rfl (by decide) rfl (hts _ m_45d74ed6) (fun _ h9 => h9) rfl (by decide +kernel) rfl rfl (xb_d D_M_settle 123 rfl) (fun H locs hR hS => ?_)
      obtain ⟨h11, eh11⟩ : ∃ x : xb_H, x = xb_I h10 x0 53 ((xb_i h10 x0 53) + 1) := ⟨_, rfl⟩
      rw [← eh11] at hR
      have hw := hw h11 eh11
      have hE : xb_ext h0 h11 := by rw [eh11]; exact hE
      refine lv_iinc (v := (x3 + 1)) (k := 1) hx hb (xb_d D_M_settle 124 rfl) hl rfl (by first | rfl | decide) (by decide) rfl (fun ls hl => ?_)
      have hl : lv_has ls 4 [(3, .int (x3 + 1)), (0, .ref x0)] := hl
      refine lv_goto (tgt := 169) hx hb (xb_d D_M_settle 125 rfl) rfl ?_
      exact ih x0 (x3 + 1) h11 hw p e s m args below meth c hC H locs ls k n hE (lv_sub hl [1, 0] rfl) hR hS (by omega) (by omega)

set_option maxHeartbeats 4000000 in
set_option maxRecDepth 100000 in
theorem am_M_settle_L158 (l : Launch) (hfl : l.flags = pinnedFlags ++ [noTraceFlag]) (D : va_G) (A : Nat → Prop) (σ MC MS : Nat) (h0 : xb_H) (Qr : xb_H → Prop) (x0 : Nat) (x2 : Int32) (h : xb_H) (hw : w_M_settle_L158 Qr x0 x2 h) : xb_am l D A σ 3 MC MS h0 (fun v h _ _ => v = none ∧ Qr h) (fun _ _ _ _ => False) y_M_settle.cls y_M_settle.name b_M_settle 4 ([] : List ExceptionTableEntry) none 158 [(0, .ref x0), (2, .int x2)] [] h 0 0 := by
  unfold w_M_settle_L158 at hw
  intro p e s m args below meth c hC H locs ls k n hE hl hR hS hk hn
  obtain ⟨hx, hb, hown, hlocks, htab, hml, hr, hB, hA, hnm⟩ := id hC
  have hts := hB.1.1.at args
  refine lv_aload_n hx hb (xb_d D_M_settle 93 rfl) rfl (lv_at hl 0 rfl) ?_
  refine lv_iload_n hx hb (xb_d D_M_settle 94 rfl) rfl (lv_at hl 1 rfl) ?_
  refine lv_iconst (v := 5) hx hb (xb_d D_M_settle 95 rfl) (by decide) ?_
  obtain ⟨hk1, hw⟩ := hw
  refine xb_call0 (D := D) (A := A) (σ := σ) (h := h) (d := 2) (maxL := 3) (rest := []) (av := [.ref x0, .int x2, .int 5]) (fun T hT X => by obtain ⟨cb9, ra9, rb9, rc9⟩ := xb_recv (ci := 8) hR rfl hk1 (by decide); exact xt_invV X hx hown (hts _ m_b47f62c2) (hts _ m_9f071faf) (hts _ m_e1bb5c84) (xt_sigOf (hts _ m_3a6212d6)) nm_M_manyOf (by rw [hT]; exact ra9) rb9 rc9 (g := F0 m 161 ls [.int 5, .int x2, .ref x0]) rfl (argsL := [.int x2, .int 5]) (rest := []) rfl rfl (by rw [hb]; exact (xb_d D_M_settle 96 rfl))) (ok_M_manyOf l hfl D A σ x0 x2 5 h _ hw) (hml.trans hl.1.symm) (by rw [hb]; exact (xb_d D_M_settle 96 rfl)) (Nat.le_of_ble_eq_true rfl) (Nat.le_of_ble_eq_true rfl) (Nat.le_of_ble_eq_true rfl) (show k ≤ MC by omega) (show n ≤ MS by omega) (xt_w1 hB.1 m_3a6212d6) (xt_cdOf hB.1 m_3a6212d6) (hts _ m_d5ed7bed) hB hR hS hA (fun vv h2 H locs hq hEh2 hR hS => ?_)
  obtain ⟨r3, rfl, hw⟩ := hq
  have hw := hw hEh2
  have hE := hE.tr hEh2
  refine W.eq (g2 := F0 m 164 ls [.int r3]) rfl ?_
  refine lv_if_le (tgt := 226) hx hb (xb_d D_M_settle 97 rfl) rfl (fun hc4 => ?_) (fun hc4 => ?_)
  · have hw := hw.1 hc4
    exact am_M_settle_L226 l hfl D A σ MC MS h0 Qr x0 h2 hw p e s m args below meth c hC H locs ls k n hE (lv_sub hl [0] rfl) hR hS (by omega) (by omega)
  · have hw := hw.2 hc4
    refine lv_iconst (v := 0) hx hb (xb_d D_M_settle 98 rfl) (by decide) ?_
    refine lv_istore_n hx hb (xb_d D_M_settle 99 rfl) rfl hl (by decide) rfl (fun ls hl => ?_)
    have hl : lv_has ls 4 [(3, .int 0), (0, .ref x0), (2, .int x2)] := hl
    obtain ⟨n8, hw⟩ := hw
    exact am_M_settle_L169 l hfl D A σ MC MS h0 Qr n8 x0 0 h2 hw p e s m args below meth c hC H locs ls k n hE (lv_sub hl [1, 0] rfl) hR hS (by omega) (by omega)

set_option maxHeartbeats 4000000 in
set_option maxRecDepth 100000 in
theorem am_M_settle_L99 (l : Launch) (hfl : l.flags = pinnedFlags ++ [noTraceFlag]) (D : va_G) (A : Nat → Prop) (σ MC MS : Nat) (h0 : xb_H) (Qr : xb_H → Prop) (n9 : Nat) : ∀ (x0 : Nat) (x2 : Int32) (x3 : Int32) (h : xb_H), w_M_settle_L99 Qr n9 x0 x2 x3 h → xb_am l D A σ 3 MC MS h0 (fun v h _ _ => v = none ∧ Qr h) (fun _ _ _ _ => False) y_M_settle.cls y_M_settle.name b_M_settle 4 ([] : List ExceptionTableEntry) none 99 [(0, .ref x0), (2, .int x2), (3, .int x3)] [] h 0 0 := by
  induction n9 with
  | zero => intro x0 x2 x3 h hw; exact False.elim hw
  | succ n9 ih =>
    intro x0 x2 x3 h hw
    unfold w_M_settle_L99 at hw
    intro p e s m args below meth c hC H locs ls k n hE hl hR hS hk hn
    obtain ⟨hx, hb, hown, hlocks, htab, hml, hr, hB, hA, hnm⟩ := id hC
    have hts := hB.1.1.at args
    refine lv_iload_n hx hb (xb_d D_M_settle 60 rfl) rfl (lv_at hl 2 rfl) ?_
    refine lv_aload_n hx hb (xb_d D_M_settle 61 rfl) rfl (lv_at hl 0 rfl) ?_
    obtain ⟨hk1, hw⟩ := hw
    refine xb_getP (C := R_M) (T := F_M) (N := 97) hx hb 8 49 hts fin_M hown hR hk1 (by decide) rfl (by decide) rfl (hts _ m_0c329d74) (fun _ h9 => h9) (xb_d D_M_settle 62 rfl) ?_
    obtain ⟨b2, eb2, hw⟩ := hw
    refine xb_some eb2 ?_
    refine lv_aload_n hx hb (xb_d D_M_settle 63 rfl) rfl (lv_at hl 0 rfl) ?_
    refine xb_getI (C := R_M) (T := F_M) (N := 97) hx hb 8 46 hts fin_M hown hR hk1 (by decide) rfl (by decide) rfl (hts _ m_e0b71bd2) (fun _ h9 => h9) (xb_d D_M_settle 64 rfl) ?_
    obtain ⟨hk4, hw⟩ := hw
    obtain ⟨hi3, hw⟩ := hw
    refine xb_iald hx hb hR hk4 hi3 (xb_d D_M_settle 65 rfl) ?_
    refine lv_icmp_ge (tgt := 130) hx hb (xb_d D_M_settle 66 rfl) rfl (fun hc5 => ?_) (fun hc5 => ?_)
    · have hw := hw.1 hc5
      refine lv_aload_n hx hb (xb_d D_M_settle 77 rfl) rfl (lv_at hl 0 rfl) ?_
      refine lv_aload_n hx hb (xb_d D_M_settle 78 rfl) rfl (lv_at hl 0 rfl) ?_
      refine xb_getI (C := R_M) (T := F_M) (N := 97) hx hb 8 47 hts fin_M hown hR hk1 (by decide) rfl (by decide) rfl (hts _ m_1bb1db74) (fun _ h9 => h9) (xb_d D_M_settle 79 rfl) ?_
      refine lv_aload_n hx hb (xb_d D_M_settle 80 rfl) rfl (lv_at hl 0 rfl) ?_
      refine xb_getP (C := R_M) (T := F_M) (N := 97) hx hb 8 49 hts fin_M hown hR hk1 (by decide) rfl (by decide) rfl (hts _ m_0c329d74) (fun _ h9 => h9) (xb_d D_M_settle 81 rfl) ?_
      obtain ⟨b6, eb6, hw⟩ := hw
      refine xb_some eb6 ?_
      refine lv_aload_n hx hb (xb_d D_M_settle 82 rfl) rfl (lv_at hl 0 rfl) ?_
      refine xb_getI (C := R_M) (T := F_M) (N := 97) hx hb 8 46 hts fin_M hown hR hk1 (by decide) rfl (by decide) rfl (hts _ m_e0b71bd2) (fun _ h9 => h9) (xb_d D_M_settle 83 rfl) ?_
      obtain ⟨hk8, hw⟩ := hw
      obtain ⟨hi7, hw⟩ := hw
      refine xb_iald hx hb hR hk8 hi7 (xb_d D_M_settle 84 rfl) ?_
      refine lv_iadd hx hb (xb_d D_M_settle 85 rfl) ?_
      refine xb_putI (C := R_M) (T := F_M) (N := 97) (ty := .int) (x := ((xb_i h x0 47) + (xb_i h b6 (Int32.toNatClampNeg (xb_i h x0 46))))) hx hb 8 47 hts fin_M t_M t_M_ok n_M hown hR hS hk1 (by decide) rfl (by decide) rfl (hts _ m_1bb1db74) (fun _ h9 => h9) rfl (by decide +kernel) rfl rfl (xb_d D_M_settle 86 rfl) (fun H locs hR hS => ?_)
      obtain ⟨h9, eh9⟩ : ∃ x : xb_H, x = xb_I h x0 47 ((xb_i h x0 47) + (xb_i h b6 (Int32.toNatClampNeg (xb_i h x0 46)))) := ⟨_, rfl⟩
      rw [← eh9] at hR
      have hw := hw h9 eh9
      have hE : xb_ext h0 h9 := by rw [eh9]; exact hE
      refine lv_aload_n hx hb (xb_d D_M_settle 87 rfl) rfl (lv_at hl 0 rfl) ?_
      refine lv_dup hx hb (xb_d D_M_settle 88 rfl) rfl ?_
      have hk1 : xb_k h9 x0 = 9 := by rw [eh9]; exact hk1
      refine xb_getI (C := R_M) (T := F_M) (N := 97) hx hb 8 46 hts fin_M hown hR hk1 (by decide) rfl (by decide) rfl (hts _ m_e0b71bd2) (fun _ h9 => h9) (xb_d D_M_settle 89 rfl) ?_
      refine lv_iconst (v := 1) hx hb (xb_d D_M_settle 90 rfl) (by decide) ?_
      refine lv_iadd hx hb (xb_d D_M_settle 91 rfl) ?_
      refine xb_putI (C := R_M) (T := F_M) (N := 97) (ty := .int) (x := ((xb_i h9 x0 46) + 1)) hx hb 8 46 hts fin_M t_M t_M_ok n_M hown hR hS hk1 (by decide) rfl (by decide) rfl (hts _ m_e0b71bd2) (fun _ h9 => h9) rfl (by decide +kernel) rfl rfl (xb_d D_M_settle 92 rfl) (fun H locs hR hS => ?_)
      obtain ⟨h10, eh10⟩ : ∃ x : xb_H, x = xb_I h9 x0 46 ((xb_i h9 x0 46) + 1) := ⟨_, rfl⟩
      rw [← eh10] at hR
      have hw := hw h10 eh10
      have hE : xb_ext h0 h10 := by rw [eh10]; exact hE
      exact am_M_settle_L158 l hfl D A σ MC MS h0 Qr x0 x2 h10 hw p e s m args below meth c hC H locs ls k n hE (lv_sub hl [0, 1] rfl) hR hS (by omega) (by omega)
    · have hw := hw.2 hc5
      refine lv_aload_n hx hb (xb_d D_M_settle 67 rfl) rfl (lv_at hl 0 rfl) ?_
      refine xb_getP (C := R_M) (T := F_M) (N := 97) hx hb 8 51 hts fin_M hown hR hk1 (by decide) rfl (by decide) rfl (hts _ m_c18d3c89) (fun _ h9 => h9) (xb_d D_M_settle 68 rfl) ?_
      obtain ⟨b11, eb11, hw⟩ := hw
      refine xb_some eb11 ?_
      refine lv_aload_n hx hb (xb_d D_M_settle 69 rfl) rfl (lv_at hl 0 rfl) ?_
      refine xb_getI (C := R_M) (T := F_M) (N := 97) hx hb 8 47 hts fin_M hown hR hk1 (by decide) rfl (by decide) rfl (hts _ m_1bb1db74) (fun _ h9 => h9) (xb_d D_M_settle 70 rfl) ?_
      refine lv_iload_n hx hb (xb_d D_M_settle 71 rfl) rfl (lv_at hl 2 rfl) ?_
      refine lv_iadd hx hb (xb_d D_M_settle 72 rfl) ?_
      refine lv_iconst (v := 0) hx hb (xb_d D_M_settle 73 rfl) (by decide) ?_
      obtain ⟨hk12, hw⟩ := hw
      obtain ⟨hi13, hw⟩ := hw
      refine xb_iast hx hb hR hS hk12 hi13 (xb_d D_M_settle 74 rfl) (fun H locs hR hS => ?_)
      obtain ⟨h14, eh14⟩ : ∃ x : xb_H, x = xb_I h b11 (Int32.toNatClampNeg ((xb_i h x0 47) + x3)) 0 := ⟨_, rfl⟩
      rw [← eh14] at hR
      have hw := hw h14 eh14
      have hE : xb_ext h0 h14 := by rw [eh14]; exact hE
      refine lv_iinc (v := (x3 + 1)) (k := 2) hx hb (xb_d D_M_settle 75 rfl) hl rfl (by first | rfl | decide) (by decide) rfl (fun ls hl => ?_)
      have hl : lv_has ls 4 [(3, .int (x3 + 1)), (0, .ref x0), (2, .int x2)] := hl
      refine lv_goto (tgt := 99) hx hb (xb_d D_M_settle 76 rfl) rfl ?_
      exact ih x0 x2 (x3 + 1) h14 hw p e s m args below meth c hC H locs ls k n hE (lv_sub hl [1, 2, 0] rfl) hR hS (by omega) (by omega)

set_option maxHeartbeats 4000000 in
set_option maxRecDepth 100000 in
theorem am_M_settle_L2 (l : Launch) (hfl : l.flags = pinnedFlags ++ [noTraceFlag]) (D : va_G) (A : Nat → Prop) (σ MC MS : Nat) (h0 : xb_H) (Qr : xb_H → Prop) (n9 : Nat) : ∀ (x0 : Nat) (x1 : Int32) (x2 : Int32) (x3 : Int32) (h : xb_H), w_M_settle_L2 Qr n9 x0 x1 x2 x3 h → xb_am l D A σ 3 MC MS h0 (fun v h _ _ => v = none ∧ Qr h) (fun _ _ _ _ => False) y_M_settle.cls y_M_settle.name b_M_settle 4 ([] : List ExceptionTableEntry) none 2 [(0, .ref x0), (1, .int x1), (2, .int x2), (3, .int x3)] [] h 0 0 := by
  induction n9 with
  | zero => intro x0 x1 x2 x3 h hw; exact False.elim hw
  | succ n9 ih =>
    intro x0 x1 x2 x3 h hw
    unfold w_M_settle_L2 at hw
    intro p e s m args below meth c hC H locs ls k n hE hl hR hS hk hn
    obtain ⟨hx, hb, hown, hlocks, htab, hml, hr, hB, hA, hnm⟩ := id hC
    have hts := hB.1.1.at args
    refine lv_iload_n hx hb (xb_d D_M_settle 2 rfl) rfl (lv_at hl 3 rfl) ?_
    refine lv_aload_n hx hb (xb_d D_M_settle 3 rfl) rfl (lv_at hl 0 rfl) ?_
    refine lv_iload_n hx hb (xb_d D_M_settle 4 rfl) rfl (lv_at hl 2 rfl) ?_
    refine lv_iconst (v := 3) hx hb (xb_d D_M_settle 5 rfl) (by decide) ?_
    obtain ⟨hk1, hw⟩ := hw
    refine xb_call0 (D := D) (A := A) (σ := σ) (h := h) (d := 2) (maxL := 3) (rest := [.int x3]) (av := [.ref x0, .int x2, .int 3]) (fun T hT X => by obtain ⟨cb9, ra9, rb9, rc9⟩ := xb_recv (ci := 8) hR rfl hk1 (by decide); exact xt_invV X hx hown (hts _ m_b47f62c2) (hts _ m_9f071faf) (hts _ m_e1bb5c84) (xt_sigOf (hts _ m_3a6212d6)) nm_M_manyOf (by rw [hT]; exact ra9) rb9 rc9 (g := F0 m 6 ls [.int 3, .int x2, .ref x0, .int x3]) rfl (argsL := [.int x2, .int 3]) (rest := [.int x3]) rfl rfl (by rw [hb]; exact (xb_d D_M_settle 6 rfl))) (ok_M_manyOf l hfl D A σ x0 x2 3 h _ hw) (hml.trans hl.1.symm) (by rw [hb]; exact (xb_d D_M_settle 6 rfl)) (Nat.le_of_ble_eq_true rfl) (Nat.le_of_ble_eq_true rfl) (Nat.le_of_ble_eq_true rfl) (show k ≤ MC by omega) (show n ≤ MS by omega) (xt_w1 hB.1 m_3a6212d6) (xt_cdOf hB.1 m_3a6212d6) (hts _ m_d5ed7bed) hB hR hS hA (fun vv h2 H locs hq hEh2 hR hS => ?_)
    obtain ⟨r3, rfl, hw⟩ := hq
    have hw := hw hEh2
    have hE := hE.tr hEh2
    refine W.eq (g2 := F0 m 9 ls [.int r3, .int x3]) rfl ?_
    refine lv_icmp_ge (tgt := 42) hx hb (xb_d D_M_settle 7 rfl) rfl (fun hc4 => ?_) (fun hc4 => ?_)
    · have hw := hw.1 hc4
      refine lv_aload_n hx hb (xb_d D_M_settle 26 rfl) rfl (lv_at hl 0 rfl) ?_
      refine lv_aload_n hx hb (xb_d D_M_settle 27 rfl) rfl (lv_at hl 0 rfl) ?_
      have hk1 : xb_k h2 x0 = 9 := hEh2.k hk1
      refine xb_getI (C := R_M) (T := F_M) (N := 97) hx hb 8 43 hts fin_M hown hR hk1 (by decide) rfl (by decide) rfl (hts _ m_4f409276) (fun _ h9 => h9) (xb_d D_M_settle 28 rfl) ?_
      refine lv_aload_n hx hb (xb_d D_M_settle 29 rfl) rfl (lv_at hl 0 rfl) ?_
      refine lv_iload_n hx hb (xb_d D_M_settle 30 rfl) rfl (lv_at hl 2 rfl) ?_
      refine lv_iconst (v := 3) hx hb (xb_d D_M_settle 31 rfl) (by decide) ?_
      refine xb_call0 (D := D) (A := A) (σ := σ) (h := h2) (d := 2) (maxL := 3) (rest := [.int (xb_i h2 x0 43), .ref x0]) (av := [.ref x0, .int x2, .int 3]) (fun T hT X => by obtain ⟨cb9, ra9, rb9, rc9⟩ := xb_recv (ci := 8) hR rfl hk1 (by decide); exact xt_invV X hx hown (hts _ m_b47f62c2) (hts _ m_9f071faf) (hts _ m_e1bb5c84) (xt_sigOf (hts _ m_3a6212d6)) nm_M_manyOf (by rw [hT]; exact ra9) rb9 rc9 (g := F0 m 50 ls [.int 3, .int x2, .ref x0, .int (xb_i h2 x0 43), .ref x0]) rfl (argsL := [.int x2, .int 3]) (rest := [.int (xb_i h2 x0 43), .ref x0]) rfl rfl (by rw [hb]; exact (xb_d D_M_settle 32 rfl))) (ok_M_manyOf l hfl D A σ x0 x2 3 h2 _ hw) (hml.trans hl.1.symm) (by rw [hb]; exact (xb_d D_M_settle 32 rfl)) (Nat.le_of_ble_eq_true rfl) (Nat.le_of_ble_eq_true rfl) (Nat.le_of_ble_eq_true rfl) (show k ≤ MC by omega) (show n ≤ MS by omega) (xt_w1 hB.1 m_3a6212d6) (xt_cdOf hB.1 m_3a6212d6) (hts _ m_d5ed7bed) hB hR hS hA (fun vv h5 H locs hq hEh5 hR hS => ?_)
      obtain ⟨r6, rfl, hw⟩ := hq
      have hw := hw hEh5
      have hE := hE.tr hEh5
      refine W.eq (g2 := F0 m 53 ls [.int r6, .int (xb_i h2 x0 43), .ref x0]) rfl ?_
      refine lv_iadd hx hb (xb_d D_M_settle 33 rfl) ?_
      have hk1 : xb_k h5 x0 = 9 := hEh5.k hk1
      refine xb_putI (C := R_M) (T := F_M) (N := 97) (ty := .int) (x := ((xb_i h2 x0 43) + r6)) hx hb 8 43 hts fin_M t_M t_M_ok n_M hown hR hS hk1 (by decide) rfl (by decide) rfl (hts _ m_4f409276) (fun _ h9 => h9) rfl (by decide +kernel) rfl rfl (xb_d D_M_settle 34 rfl) (fun H locs hR hS => ?_)
      obtain ⟨h7, eh7⟩ : ∃ x : xb_H, x = xb_I h5 x0 43 ((xb_i h2 x0 43) + r6) := ⟨_, rfl⟩
      rw [← eh7] at hR
      have hw := hw h7 eh7
      have hE : xb_ext h0 h7 := by rw [eh7]; exact hE
      refine lv_aload_n hx hb (xb_d D_M_settle 35 rfl) rfl (lv_at hl 0 rfl) ?_
      refine lv_aload_n hx hb (xb_d D_M_settle 36 rfl) rfl (lv_at hl 0 rfl) ?_
      have hk1 : xb_k h7 x0 = 9 := by rw [eh7]; exact hk1
      refine xb_getI (C := R_M) (T := F_M) (N := 97) hx hb 8 58 hts fin_M hown hR hk1 (by decide) rfl (by decide) rfl (hts _ m_94ecb3cf) (fun _ h9 => h9) (xb_d D_M_settle 37 rfl) ?_
      refine lv_aload_n hx hb (xb_d D_M_settle 38 rfl) rfl (lv_at hl 0 rfl) ?_
      refine lv_iload_n hx hb (xb_d D_M_settle 39 rfl) rfl (lv_at hl 2 rfl) ?_
      refine lv_bipush (v := 6) hx hb (xb_d D_M_settle 40 rfl) (by decide) ?_
      refine xb_call0 (D := D) (A := A) (σ := σ) (h := h7) (d := 2) (maxL := 3) (rest := [.int (xb_i h7 x0 58), .ref x0]) (av := [.ref x0, .int x2, .int 6]) (fun T hT X => by obtain ⟨cb9, ra9, rb9, rc9⟩ := xb_recv (ci := 8) hR rfl hk1 (by decide); exact xt_invV X hx hown (hts _ m_b47f62c2) (hts _ m_9f071faf) (hts _ m_e1bb5c84) (xt_sigOf (hts _ m_3a6212d6)) nm_M_manyOf (by rw [hT]; exact ra9) rb9 rc9 (g := F0 m 66 ls [.int 6, .int x2, .ref x0, .int (xb_i h7 x0 58), .ref x0]) rfl (argsL := [.int x2, .int 6]) (rest := [.int (xb_i h7 x0 58), .ref x0]) rfl rfl (by rw [hb]; exact (xb_d D_M_settle 41 rfl))) (ok_M_manyOf l hfl D A σ x0 x2 6 h7 _ hw) (hml.trans hl.1.symm) (by rw [hb]; exact (xb_d D_M_settle 41 rfl)) (Nat.le_of_ble_eq_true rfl) (Nat.le_of_ble_eq_true rfl) (Nat.le_of_ble_eq_true rfl) (show k ≤ MC by omega) (show n ≤ MS by omega) (xt_w1 hB.1 m_3a6212d6) (xt_cdOf hB.1 m_3a6212d6) (hts _ m_d5ed7bed) hB hR hS hA (fun vv h8 H locs hq hEh8 hR hS => ?_)
      obtain ⟨r9, rfl, hw⟩ := hq
      have hw := hw hEh8
      have hE := hE.tr hEh8
      refine W.eq (g2 := F0 m 69 ls [.int r9, .int (xb_i h7 x0 58), .ref x0]) rfl ?_
      refine lv_iadd hx hb (xb_d D_M_settle 42 rfl) ?_
      have hk1 : xb_k h8 x0 = 9 := hEh8.k hk1
      refine xb_putI (C := R_M) (T := F_M) (N := 97) (ty := .int) (x := ((xb_i h7 x0 58) + r9)) hx hb 8 58 hts fin_M t_M t_M_ok n_M hown hR hS hk1 (by decide) rfl (by decide) rfl (hts _ m_94ecb3cf) (fun _ h9 => h9) rfl (by decide +kernel) rfl rfl (xb_d D_M_settle 43 rfl) (fun H locs hR hS => ?_)
      obtain ⟨h10, eh10⟩ : ∃ x : xb_H, x = xb_I h8 x0 58 ((xb_i h7 x0 58) + r9) := ⟨_, rfl⟩
      rw [← eh10] at hR
      have hw := hw h10 eh10
      have hE : xb_ext h0 h10 := by rw [eh10]; exact hE
      refine lv_aload_n hx hb (xb_d D_M_settle 44 rfl) rfl (lv_at hl 0 rfl) ?_
      refine lv_aload_n hx hb (xb_d D_M_settle 45 rfl) rfl (lv_at hl 0 rfl) ?_
      have hk1 : xb_k h10 x0 = 9 := by rw [eh10]; exact hk1
      refine xb_getI (C := R_M) (T := F_M) (N := 97) hx hb 8 34 hts fin_M hown hR hk1 (by decide) rfl (by decide) rfl (hts _ m_82d2871e) (fun _ h9 => h9) (xb_d D_M_settle 46 rfl) ?_
      refine lv_aload_n hx hb (xb_d D_M_settle 47 rfl) rfl (lv_at hl 0 rfl) ?_
      refine lv_iload_n hx hb (xb_d D_M_settle 48 rfl) rfl (lv_at hl 2 rfl) ?_
      refine lv_iconst (v := 2) hx hb (xb_d D_M_settle 49 rfl) (by decide) ?_
      refine xb_call0 (D := D) (A := A) (σ := σ) (h := h10) (d := 2) (maxL := 3) (rest := [.int (xb_i h10 x0 34), .ref x0]) (av := [.ref x0, .int x2, .int 2]) (fun T hT X => by obtain ⟨cb9, ra9, rb9, rc9⟩ := xb_recv (ci := 8) hR rfl hk1 (by decide); exact xt_invV X hx hown (hts _ m_b47f62c2) (hts _ m_9f071faf) (hts _ m_e1bb5c84) (xt_sigOf (hts _ m_3a6212d6)) nm_M_manyOf (by rw [hT]; exact ra9) rb9 rc9 (g := F0 m 81 ls [.int 2, .int x2, .ref x0, .int (xb_i h10 x0 34), .ref x0]) rfl (argsL := [.int x2, .int 2]) (rest := [.int (xb_i h10 x0 34), .ref x0]) rfl rfl (by rw [hb]; exact (xb_d D_M_settle 50 rfl))) (ok_M_manyOf l hfl D A σ x0 x2 2 h10 _ hw) (hml.trans hl.1.symm) (by rw [hb]; exact (xb_d D_M_settle 50 rfl)) (Nat.le_of_ble_eq_true rfl) (Nat.le_of_ble_eq_true rfl) (Nat.le_of_ble_eq_true rfl) (show k ≤ MC by omega) (show n ≤ MS by omega) (xt_w1 hB.1 m_3a6212d6) (xt_cdOf hB.1 m_3a6212d6) (hts _ m_d5ed7bed) hB hR hS hA (fun vv h11 H locs hq hEh11 hR hS => ?_)
      obtain ⟨r12, rfl, hw⟩ := hq
      have hw := hw hEh11
      have hE := hE.tr hEh11
      refine W.eq (g2 := F0 m 84 ls [.int r12, .int (xb_i h10 x0 34), .ref x0]) rfl ?_
      refine lv_iadd hx hb (xb_d D_M_settle 51 rfl) ?_
      have hk1 : xb_k h11 x0 = 9 := hEh11.k hk1
      refine xb_putI (C := R_M) (T := F_M) (N := 97) (ty := .int) (x := ((xb_i h10 x0 34) + r12)) hx hb 8 34 hts fin_M t_M t_M_ok n_M hown hR hS hk1 (by decide) rfl (by decide) rfl (hts _ m_82d2871e) (fun _ h9 => h9) rfl (by decide +kernel) rfl rfl (xb_d D_M_settle 52 rfl) (fun H locs hR hS => ?_)
      obtain ⟨h13, eh13⟩ : ∃ x : xb_H, x = xb_I h11 x0 34 ((xb_i h10 x0 34) + r12) := ⟨_, rfl⟩
      rw [← eh13] at hR
      have hw := hw h13 eh13
      have hE : xb_ext h0 h13 := by rw [eh13]; exact hE
      refine lv_aload_n hx hb (xb_d D_M_settle 53 rfl) rfl (lv_at hl 0 rfl) ?_
      refine lv_iload_n hx hb (xb_d D_M_settle 54 rfl) rfl (lv_at hl 2 rfl) ?_
      refine lv_iconst (v := 4) hx hb (xb_d D_M_settle 55 rfl) (by decide) ?_
      have hk1 : xb_k h13 x0 = 9 := by rw [eh13]; exact hk1
      refine xb_call0 (D := D) (A := A) (σ := σ) (h := h13) (d := 2) (maxL := 3) (rest := []) (av := [.ref x0, .int x2, .int 4]) (fun T hT X => by obtain ⟨cb9, ra9, rb9, rc9⟩ := xb_recv (ci := 8) hR rfl hk1 (by decide); exact xt_invV X hx hown (hts _ m_b47f62c2) (hts _ m_9f071faf) (hts _ m_e1bb5c84) (xt_sigOf (hts _ m_3a6212d6)) nm_M_manyOf (by rw [hT]; exact ra9) rb9 rc9 (g := F0 m 91 ls [.int 4, .int x2, .ref x0]) rfl (argsL := [.int x2, .int 4]) (rest := []) rfl rfl (by rw [hb]; exact (xb_d D_M_settle 56 rfl))) (ok_M_manyOf l hfl D A σ x0 x2 4 h13 _ hw) (hml.trans hl.1.symm) (by rw [hb]; exact (xb_d D_M_settle 56 rfl)) (Nat.le_of_ble_eq_true rfl) (Nat.le_of_ble_eq_true rfl) (Nat.le_of_ble_eq_true rfl) (show k ≤ MC by omega) (show n ≤ MS by omega) (xt_w1 hB.1 m_3a6212d6) (xt_cdOf hB.1 m_3a6212d6) (hts _ m_d5ed7bed) hB hR hS hA (fun vv h14 H locs hq hEh14 hR hS => ?_)
      obtain ⟨r15, rfl, hw⟩ := hq
      have hw := hw hEh14
      have hE := hE.tr hEh14
      refine W.eq (g2 := F0 m 94 ls [.int r15]) rfl ?_
      refine lv_if_le (tgt := 158) hx hb (xb_d D_M_settle 57 rfl) rfl (fun hc16 => ?_) (fun hc16 => ?_)
      · have hw := hw.1 hc16
        exact am_M_settle_L158 l hfl D A σ MC MS h0 Qr x0 x2 h14 hw p e s m args below meth c hC H locs ls k n hE (lv_sub hl [0, 2] rfl) hR hS (by omega) (by omega)
      · have hw := hw.2 hc16
        refine lv_iconst (v := 0) hx hb (xb_d D_M_settle 58 rfl) (by decide) ?_
        refine lv_istore_n hx hb (xb_d D_M_settle 59 rfl) rfl hl (by decide) rfl (fun ls hl => ?_)
        have hl : lv_has ls 4 [(3, .int 0), (0, .ref x0), (1, .int x1), (2, .int x2)] := hl
        obtain ⟨n8, hw⟩ := hw
        exact am_M_settle_L99 l hfl D A σ MC MS h0 Qr n8 x0 x2 0 h14 hw p e s m args below meth c hC H locs ls k n hE (lv_sub hl [1, 3, 0] rfl) hR hS (by omega) (by omega)
    · have hw := hw.2 hc4
      refine lv_aload_n hx hb (xb_d D_M_settle 8 rfl) rfl (lv_at hl 0 rfl) ?_
      have hk1 : xb_k h2 x0 = 9 := hEh2.k hk1
      refine xb_getP (C := R_M) (T := F_M) (N := 97) hx hb 8 44 hts fin_M hown hR hk1 (by decide) rfl (by decide) rfl (hts _ m_ad0cc5a3) (fun _ h9 => h9) (xb_d D_M_settle 9 rfl) ?_
      obtain ⟨b17, eb17, hw⟩ := hw
      refine xb_some eb17 ?_
      refine lv_aload_n hx hb (xb_d D_M_settle 10 rfl) rfl (lv_at hl 0 rfl) ?_
      refine xb_getI (C := R_M) (T := F_M) (N := 97) hx hb 8 43 hts fin_M hown hR hk1 (by decide) rfl (by decide) rfl (hts _ m_4f409276) (fun _ h9 => h9) (xb_d D_M_settle 11 rfl) ?_
      refine lv_iload_n hx hb (xb_d D_M_settle 12 rfl) rfl (lv_at hl 3 rfl) ?_
      refine lv_iadd hx hb (xb_d D_M_settle 13 rfl) ?_
      refine lv_iload_n hx hb (xb_d D_M_settle 14 rfl) rfl (lv_at hl 1 rfl) ?_
      obtain ⟨hk18, hw⟩ := hw
      obtain ⟨hi19, hw⟩ := hw
      refine xb_iast hx hb hR hS hk18 hi19 (xb_d D_M_settle 15 rfl) (fun H locs hR hS => ?_)
      obtain ⟨h20, eh20⟩ : ∃ x : xb_H, x = xb_I h2 b17 (Int32.toNatClampNeg ((xb_i h2 x0 43) + x3)) x1 := ⟨_, rfl⟩
      rw [← eh20] at hR
      have hw := hw h20 eh20
      have hE : xb_ext h0 h20 := by rw [eh20]; exact hE
      refine lv_aload_n hx hb (xb_d D_M_settle 16 rfl) rfl (lv_at hl 0 rfl) ?_
      have hk1 : xb_k h20 x0 = 9 := by rw [eh20]; exact hk1
      refine xb_getP (C := R_M) (T := F_M) (N := 97) hx hb 8 45 hts fin_M hown hR hk1 (by decide) rfl (by decide) rfl (hts _ m_4c98e665) (fun _ h9 => h9) (xb_d D_M_settle 17 rfl) ?_
      obtain ⟨b21, eb21, hw⟩ := hw
      refine xb_some eb21 ?_
      refine lv_aload_n hx hb (xb_d D_M_settle 18 rfl) rfl (lv_at hl 0 rfl) ?_
      refine xb_getI (C := R_M) (T := F_M) (N := 97) hx hb 8 43 hts fin_M hown hR hk1 (by decide) rfl (by decide) rfl (hts _ m_4f409276) (fun _ h9 => h9) (xb_d D_M_settle 19 rfl) ?_
      refine lv_iload_n hx hb (xb_d D_M_settle 20 rfl) rfl (lv_at hl 3 rfl) ?_
      refine lv_iadd hx hb (xb_d D_M_settle 21 rfl) ?_
      refine lv_iload_n hx hb (xb_d D_M_settle 22 rfl) rfl (lv_at hl 3 rfl) ?_
      obtain ⟨hk22, hw⟩ := hw
      obtain ⟨hi23, hw⟩ := hw
      refine xb_iast hx hb hR hS hk22 hi23 (xb_d D_M_settle 23 rfl) (fun H locs hR hS => ?_)
      obtain ⟨h24, eh24⟩ : ∃ x : xb_H, x = xb_I h20 b21 (Int32.toNatClampNeg ((xb_i h20 x0 43) + x3)) x3 := ⟨_, rfl⟩
      rw [← eh24] at hR
      have hw := hw h24 eh24
      have hE : xb_ext h0 h24 := by rw [eh24]; exact hE
      refine lv_iinc (v := (x3 + 1)) (k := 3) hx hb (xb_d D_M_settle 24 rfl) hl rfl (by first | rfl | decide) (by decide) rfl (fun ls hl => ?_)
      have hl : lv_has ls 4 [(3, .int (x3 + 1)), (0, .ref x0), (1, .int x1), (2, .int x2)] := hl
      refine lv_goto (tgt := 2) hx hb (xb_d D_M_settle 25 rfl) rfl ?_
      exact ih x0 x1 x2 (x3 + 1) h24 hw p e s m args below meth c hC H locs ls k n hE (lv_sub hl [1, 2, 3, 0] rfl) hR hS (by omega) (by omega)

set_option maxHeartbeats 4000000 in
set_option maxRecDepth 100000 in
theorem ok_M_settle (l : Launch) (hfl : l.flags = pinnedFlags ++ [noTraceFlag]) (D : va_G) (A : Nat → Prop) (σ : Nat) (x0 : Nat) (x1 : Int32) (x2 : Int32) (h : xb_H) (Qr : xb_H → Prop) (hw : w_M_settle x0 x1 x2 h Qr) : xb_Met l y_M_settle [.code y_M_settle b_M_settle 4 none] (xb_rm 3 0 0) (xb_Pc D A σ h [.ref x0, .int x1, .int x2]) (xb_Qc D A h 0 0 (fun v h _ _ => v = none ∧ Qr h) (fun _ _ _ _ => False)) A := by
  refine xb_ofAm (cc := b_M_settle) (by decide) (Nat.le_of_ble_eq_true rfl) ?_
  unfold w_M_settle at hw
  show xb_am l D A σ 3 0 0 h (fun v h _ _ => v = none ∧ Qr h) (fun _ _ _ _ => False) y_M_settle.cls y_M_settle.name b_M_settle 4 ([] : List ExceptionTableEntry) none 0 [(0, .ref x0), (1, .int x1), (2, .int x2)] [] h 0 0
  obtain ⟨MC, hMC⟩ : ∃ x, x = 0 := ⟨_, rfl⟩
  obtain ⟨MS, hMS⟩ : ∃ x, x = 0 := ⟨_, rfl⟩
  rw [show xb_am l D A σ 3 0 0 = xb_am l D A σ 3 MC MS by rw [hMC, hMS]]
  obtain ⟨h0, hh0⟩ : ∃ x, x = h := ⟨_, rfl⟩
  rw [show xb_am l D A σ 3 MC MS h = xb_am l D A σ 3 MC MS h0 by rw [hh0]]
  intro p e s m args below meth c hC H locs ls k n hE hl hR hS hk hn
  obtain ⟨hx, hb, hown, hlocks, htab, hml, hr, hB, hA, hnm⟩ := id hC
  have hts := hB.1.1.at args
  refine lv_iconst (v := 0) hx hb (xb_d D_M_settle 0 rfl) (by decide) ?_
  refine lv_istore_n hx hb (xb_d D_M_settle 1 rfl) rfl hl (by decide) rfl (fun ls hl => ?_)
  have hl : lv_has ls 4 [(3, .int 0), (0, .ref x0), (1, .int x1), (2, .int x2)] := hl
  obtain ⟨n8, hw⟩ := hw
  exact am_M_settle_L2 l hfl D A σ MC MS h0 Qr n8 x0 x1 x2 0 h hw p e s m args below meth c hC H locs ls k n hE (lv_sub hl [1, 2, 3, 0] rfl) hR hS (by omega) (by omega)

set_option maxRecDepth 100000 in
def T_M_skip : List (Nat × Instr × Nat) := [(0, .aload_n 0, 1), (1, .getfield 193, 3), (4, .ifCond .ne 27, 3), (7, .lload_n 1, 1), (8, .aload_n 0, 1), (9, .getfield 205, 3), (12, .aload_n 0, 1), (13, .getfield 202, 3), (16, .isub, 1), (17, .i2l, 1), (18, .lcmp, 1), (19, .ifCond .le 12, 3), (22, .aload_n 0, 1), (23, .iconst 2, 1), (24, .aload_n 0, 1), (25, .getfield 205, 3), (28, .invokevirtual 208, 3), (31, .aload_n 0, 1), (32, .aload_n 0, 1), (33, .getfield 193, 3), (36, .ifCond .ne 13, 3), (39, .aload_n 0, 1), (40, .getfield 202, 3), (43, .lload_n 1, 1), (44, .l2i, 1), (45, .iadd, 1), (46, .goto 7, 3), (49, .aload_n 0, 1), (50, .getfield 202, 3), (53, .putfield 202, 3), (56, .return_, 1)]
theorem D_M_skip : ∀ q ∈ T_M_skip, decode b_M_skip q.1 = .ok (q.2.1, q.2.2) := by decide +kernel

set_option maxHeartbeats 4000000 in
set_option maxRecDepth 100000 in
theorem am_M_skip_L53 (l : Launch) (hfl : l.flags = pinnedFlags ++ [noTraceFlag]) (D : va_G) (A : Nat → Prop) (σ MC MS : Nat) (h0 : xb_H) (Qr : xb_H → Prop) (y0 : Int32) (y1 : Nat) (h : xb_H) (hw : w_M_skip_L53 Qr y0 y1 h) : xb_am l D A σ 3 MC MS h0 (fun v h _ _ => v = none ∧ Qr h) (fun _ _ _ _ => False) y_M_skip.cls y_M_skip.name b_M_skip 3 ([] : List ExceptionTableEntry) none 53 [] [.int y0, .ref y1] h 0 0 := by
  unfold w_M_skip_L53 at hw
  intro p e s m args below meth c hC H locs ls k n hE hl hR hS hk hn
  obtain ⟨hx, hb, hown, hlocks, htab, hml, hr, hB, hA, hnm⟩ := id hC
  have hts := hB.1.1.at args
  obtain ⟨hk1, hw⟩ := hw
  refine xb_putI (C := R_M) (T := F_M) (N := 97) (ty := .int) (x := y0) hx hb 8 15 hts fin_M t_M t_M_ok n_M hown hR hS hk1 (by decide) rfl (by decide) rfl (hts _ m_6c2d27ad) (fun _ h9 => h9) rfl (by decide +kernel) rfl rfl (xb_d D_M_skip 29 rfl) (fun H locs hR hS => ?_)
  obtain ⟨h2, eh2⟩ : ∃ x : xb_H, x = xb_I h y1 15 y0 := ⟨_, rfl⟩
  rw [← eh2] at hR
  have hw := hw h2 eh2
  have hE : xb_ext h0 h2 := by rw [eh2]; exact hE
  exact xb_vret 0 0 hx hb hr hlocks (show k + 0 ≤ MC by omega) (show n + 0 ≤ MS by omega) hE hR hS (xb_d D_M_skip 30 rfl) hw

set_option maxHeartbeats 4000000 in
set_option maxRecDepth 100000 in
theorem am_M_skip_L31 (l : Launch) (hfl : l.flags = pinnedFlags ++ [noTraceFlag]) (D : va_G) (A : Nat → Prop) (σ MC MS : Nat) (h0 : xb_H) (Qr : xb_H → Prop) (x0 : Nat) (x1 : Int64) (h : xb_H) (hw : w_M_skip_L31 Qr x0 x1 h) : xb_am l D A σ 3 MC MS h0 (fun v h _ _ => v = none ∧ Qr h) (fun _ _ _ _ => False) y_M_skip.cls y_M_skip.name b_M_skip 3 ([] : List ExceptionTableEntry) none 31 [(0, .ref x0), (1, .long x1)] [] h 0 0 := by
  unfold w_M_skip_L31 at hw
  intro p e s m args below meth c hC H locs ls k n hE hl hR hS hk hn
  obtain ⟨hx, hb, hown, hlocks, htab, hml, hr, hB, hA, hnm⟩ := id hC
  have hts := hB.1.1.at args
  refine lv_aload_n hx hb (xb_d D_M_skip 17 rfl) rfl (lv_at hl 0 rfl) ?_
  refine lv_aload_n hx hb (xb_d D_M_skip 18 rfl) rfl (lv_at hl 0 rfl) ?_
  obtain ⟨hk1, hw⟩ := hw
  refine xb_getI (C := R_M) (T := F_M) (N := 97) hx hb 8 17 hts fin_M hown hR hk1 (by decide) rfl (by decide) rfl (hts _ m_ff69da61) (fun _ h9 => h9) (xb_d D_M_skip 19 rfl) ?_
  refine lv_if_ne (tgt := 49) hx hb (xb_d D_M_skip 20 rfl) rfl (fun hc2 => ?_) (fun hc2 => ?_)
  · have hw := hw.1 hc2
    refine lv_aload_n hx hb (xb_d D_M_skip 27 rfl) rfl (lv_at hl 0 rfl) ?_
    refine xb_getI (C := R_M) (T := F_M) (N := 97) hx hb 8 15 hts fin_M hown hR hk1 (by decide) rfl (by decide) rfl (hts _ m_6c2d27ad) (fun _ h9 => h9) (xb_d D_M_skip 28 rfl) ?_
    exact am_M_skip_L53 l hfl D A σ MC MS h0 Qr (xb_i h x0 15) x0 h hw p e s m args below meth c hC H locs ls k n hE (lv_sub hl [] rfl) hR hS (by omega) (by omega)
  · have hw := hw.2 hc2
    refine lv_aload_n hx hb (xb_d D_M_skip 21 rfl) rfl (lv_at hl 0 rfl) ?_
    refine xb_getI (C := R_M) (T := F_M) (N := 97) hx hb 8 15 hts fin_M hown hR hk1 (by decide) rfl (by decide) rfl (hts _ m_6c2d27ad) (fun _ h9 => h9) (xb_d D_M_skip 22 rfl) ?_
    refine lv_lload_n hx hb (xb_d D_M_skip 23 rfl) rfl (lv_at hl 1 rfl) ?_
    refine lv_l2i hx hb (xb_d D_M_skip 24 rfl) rfl ?_
    refine lv_iadd hx hb (xb_d D_M_skip 25 rfl) ?_
    refine lv_goto (tgt := 53) hx hb (xb_d D_M_skip 26 rfl) rfl ?_
    exact am_M_skip_L53 l hfl D A σ MC MS h0 Qr ((xb_i h x0 15) + (Int64.toInt32 x1)) x0 h hw p e s m args below meth c hC H locs ls k n hE (lv_sub hl [] rfl) hR hS (by omega) (by omega)

set_option maxHeartbeats 4000000 in
set_option maxRecDepth 100000 in
theorem ok_M_skip (l : Launch) (hfl : l.flags = pinnedFlags ++ [noTraceFlag]) (D : va_G) (A : Nat → Prop) (σ : Nat) (x0 : Nat) (x1 : Int64) (h : xb_H) (Qr : xb_H → Prop) (hw : w_M_skip x0 x1 h Qr) : xb_Met l y_M_skip [.code y_M_skip b_M_skip 3 none] (xb_rm 3 0 0) (xb_Pc D A σ h [.ref x0, .long x1]) (xb_Qc D A h 0 0 (fun v h _ _ => v = none ∧ Qr h) (fun _ _ _ _ => False)) A := by
  refine xb_ofAm (cc := b_M_skip) (by decide) (Nat.le_of_ble_eq_true rfl) ?_
  unfold w_M_skip at hw
  show xb_am l D A σ 3 0 0 h (fun v h _ _ => v = none ∧ Qr h) (fun _ _ _ _ => False) y_M_skip.cls y_M_skip.name b_M_skip 3 ([] : List ExceptionTableEntry) none 0 [(0, .ref x0), (1, .long x1)] [] h 0 0
  obtain ⟨MC, hMC⟩ : ∃ x, x = 0 := ⟨_, rfl⟩
  obtain ⟨MS, hMS⟩ : ∃ x, x = 0 := ⟨_, rfl⟩
  rw [show xb_am l D A σ 3 0 0 = xb_am l D A σ 3 MC MS by rw [hMC, hMS]]
  obtain ⟨h0, hh0⟩ : ∃ x, x = h := ⟨_, rfl⟩
  rw [show xb_am l D A σ 3 MC MS h = xb_am l D A σ 3 MC MS h0 by rw [hh0]]
  intro p e s m args below meth c hC H locs ls k n hE hl hR hS hk hn
  obtain ⟨hx, hb, hown, hlocks, htab, hml, hr, hB, hA, hnm⟩ := id hC
  have hts := hB.1.1.at args
  refine lv_aload_n hx hb (xb_d D_M_skip 0 rfl) rfl (lv_at hl 0 rfl) ?_
  obtain ⟨hk1, hw⟩ := hw
  refine xb_getI (C := R_M) (T := F_M) (N := 97) hx hb 8 17 hts fin_M hown hR hk1 (by decide) rfl (by decide) rfl (hts _ m_ff69da61) (fun _ h9 => h9) (xb_d D_M_skip 1 rfl) ?_
  refine lv_if_ne (tgt := 31) hx hb (xb_d D_M_skip 2 rfl) rfl (fun hc2 => ?_) (fun hc2 => ?_)
  · have hw := hw.1 hc2
    exact am_M_skip_L31 l hfl D A σ MC MS h0 Qr x0 x1 h hw p e s m args below meth c hC H locs ls k n hE (lv_sub hl [0, 1] rfl) hR hS (by omega) (by omega)
  · have hw := hw.2 hc2
    refine lv_lload_n hx hb (xb_d D_M_skip 3 rfl) rfl (lv_at hl 1 rfl) ?_
    refine lv_aload_n hx hb (xb_d D_M_skip 4 rfl) rfl (lv_at hl 0 rfl) ?_
    refine xb_getI (C := R_M) (T := F_M) (N := 97) hx hb 8 16 hts fin_M hown hR hk1 (by decide) rfl (by decide) rfl (hts _ m_48124c81) (fun _ h9 => h9) (xb_d D_M_skip 5 rfl) ?_
    refine lv_aload_n hx hb (xb_d D_M_skip 6 rfl) rfl (lv_at hl 0 rfl) ?_
    refine xb_getI (C := R_M) (T := F_M) (N := 97) hx hb 8 15 hts fin_M hown hR hk1 (by decide) rfl (by decide) rfl (hts _ m_6c2d27ad) (fun _ h9 => h9) (xb_d D_M_skip 7 rfl) ?_
    refine lv_isub hx hb (xb_d D_M_skip 8 rfl) ?_
    refine lv_i2l hx hb (xb_d D_M_skip 9 rfl) rfl ?_
    refine xb_lc_le (tgt := 31) hx hb (xb_d D_M_skip 10 rfl) (xb_d D_M_skip 11 rfl) rfl (fun hc3 => ?_) (fun hc3 => ?_)
    · have hw := hw.1 hc3
      exact am_M_skip_L31 l hfl D A σ MC MS h0 Qr x0 x1 h hw p e s m args below meth c hC H locs ls k n hE (lv_sub hl [0, 1] rfl) hR hS (by omega) (by omega)
    · have hw := hw.2 hc3
      refine lv_aload_n hx hb (xb_d D_M_skip 12 rfl) rfl (lv_at hl 0 rfl) ?_
      refine lv_iconst (v := 2) hx hb (xb_d D_M_skip 13 rfl) (by decide) ?_
      refine lv_aload_n hx hb (xb_d D_M_skip 14 rfl) rfl (lv_at hl 0 rfl) ?_
      refine xb_getI (C := R_M) (T := F_M) (N := 97) hx hb 8 16 hts fin_M hown hR hk1 (by decide) rfl (by decide) rfl (hts _ m_48124c81) (fun _ h9 => h9) (xb_d D_M_skip 15 rfl) ?_
      refine xb_call0 (D := D) (A := A) (σ := σ) (h := h) (d := 2) (maxL := 3) (rest := []) (av := [.ref x0, .int 2, .int (xb_i h x0 16)]) (fun T hT X => by obtain ⟨cb9, ra9, rb9, rc9⟩ := xb_recv (ci := 8) hR rfl hk1 (by decide); exact xt_invV X hx hown (hts _ m_939052ad) (hts _ m_29cc8c73) (hts _ m_3b1ac7ab) (xt_sigOf (hts _ m_8f062ecd)) nm_M_fail (by rw [hT]; exact ra9) rb9 rc9 (g := F0 m 28 ls [.int (xb_i h x0 16), .int 2, .ref x0]) rfl (argsL := [.int 2, .int (xb_i h x0 16)]) (rest := []) rfl rfl (by rw [hb]; exact (xb_d D_M_skip 16 rfl))) (ok_M_fail l hfl D A σ x0 2 (xb_i h x0 16) h _ hw) (hml.trans hl.1.symm) (by rw [hb]; exact (xb_d D_M_skip 16 rfl)) (Nat.le_of_ble_eq_true rfl) (Nat.le_of_ble_eq_true rfl) (Nat.le_of_ble_eq_true rfl) (show k ≤ MC by omega) (show n ≤ MS by omega) (xt_w1 hB.1 m_8f062ecd) (xt_cdOf hB.1 m_8f062ecd) (hts _ m_d5ed7bed) hB hR hS hA (fun vv h4 H locs hq hEh4 hR hS => ?_)
      obtain ⟨rfl, hw⟩ := hq
      have hw := hw hEh4
      have hE := hE.tr hEh4
      refine W.eq (g2 := F0 m 31 ls []) rfl ?_
      exact am_M_skip_L31 l hfl D A σ MC MS h0 Qr x0 x1 h4 hw p e s m args below meth c hC H locs ls k n hE (lv_sub hl [0, 1] rfl) hR hS (by omega) (by omega)

set_option maxRecDepth 100000 in
def T_M_storeByte : List (Nat × Instr × Nat) := [(0, .aload_n 0, 1), (1, .getfield 121, 3), (4, .aload_n 0, 1), (5, .iload_n 1, 1), (6, .lload_n 2, 1), (7, .invokevirtual 535, 3), (10, .iload 4, 2), (12, .i2b, 1), (13, .bastore, 1), (14, .return_, 1)]
theorem D_M_storeByte : ∀ q ∈ T_M_storeByte, decode b_M_storeByte q.1 = .ok (q.2.1, q.2.2) := by decide +kernel

set_option maxHeartbeats 4000000 in
set_option maxRecDepth 100000 in
theorem ok_M_storeByte (l : Launch) (hfl : l.flags = pinnedFlags ++ [noTraceFlag]) (D : va_G) (A : Nat → Prop) (σ : Nat) (x0 : Nat) (x1 : Int32) (x2 : Int64) (x4 : Int32) (h : xb_H) (Qr : xb_H → Prop) (hw : w_M_storeByte x0 x1 x2 x4 h Qr) : xb_Met l y_M_storeByte [.code y_M_storeByte b_M_storeByte 5 none] (xb_rm 3 0 0) (xb_Pc D A σ h [.ref x0, .int x1, .long x2, .int x4]) (xb_Qc D A h 0 0 (fun v h _ _ => v = none ∧ Qr h) (fun _ _ _ _ => False)) A := by
  refine xb_ofAm (cc := b_M_storeByte) (by decide) (Nat.le_of_ble_eq_true rfl) ?_
  unfold w_M_storeByte at hw
  show xb_am l D A σ 3 0 0 h (fun v h _ _ => v = none ∧ Qr h) (fun _ _ _ _ => False) y_M_storeByte.cls y_M_storeByte.name b_M_storeByte 5 ([] : List ExceptionTableEntry) none 0 [(0, .ref x0), (1, .int x1), (2, .long x2), (4, .int x4)] [] h 0 0
  obtain ⟨MC, hMC⟩ : ∃ x, x = 0 := ⟨_, rfl⟩
  obtain ⟨MS, hMS⟩ : ∃ x, x = 0 := ⟨_, rfl⟩
  rw [show xb_am l D A σ 3 0 0 = xb_am l D A σ 3 MC MS by rw [hMC, hMS]]
  obtain ⟨h0, hh0⟩ : ∃ x, x = h := ⟨_, rfl⟩
  rw [show xb_am l D A σ 3 MC MS h = xb_am l D A σ 3 MC MS h0 by rw [hh0]]
  intro p e s m args below meth c hC H locs ls k n hE hl hR hS hk hn
  obtain ⟨hx, hb, hown, hlocks, htab, hml, hr, hB, hA, hnm⟩ := id hC
  have hts := hB.1.1.at args
  refine lv_aload_n hx hb (xb_d D_M_storeByte 0 rfl) rfl (lv_at hl 0 rfl) ?_
  obtain ⟨hk1, hw⟩ := hw
  refine xb_getP (C := R_M) (T := F_M) (N := 97) hx hb 8 57 hts fin_M hown hR hk1 (by decide) rfl (by decide) rfl (hts _ m_2087260c) (fun _ h9 => h9) (xb_d D_M_storeByte 1 rfl) ?_
  obtain ⟨b2, eb2, hw⟩ := hw
  refine xb_some eb2 ?_
  refine lv_aload_n hx hb (xb_d D_M_storeByte 2 rfl) rfl (lv_at hl 0 rfl) ?_
  refine lv_iload_n hx hb (xb_d D_M_storeByte 3 rfl) rfl (lv_at hl 1 rfl) ?_
  refine lv_lload_n hx hb (xb_d D_M_storeByte 4 rfl) rfl (lv_at hl 2 rfl) ?_
  refine xb_call0 (D := D) (A := A) (σ := σ) (h := h) (d := 2) (maxL := 5) (rest := [.ref b2]) (av := [.ref x0, .int x1, .long x2]) (fun T hT X => by obtain ⟨cb9, ra9, rb9, rc9⟩ := xb_recv (ci := 8) hR rfl hk1 (by decide); exact xt_invV X hx hown (hts _ m_3664d9ce) (hts _ m_a99d37f4) (hts _ m_971acc01) (xt_sigOf (hts _ m_9aac1411)) nm_M_ofMemory (by rw [hT]; exact ra9) rb9 rc9 (g := F0 m 7 ls [.long x2, .int x1, .ref x0, .ref b2]) rfl (argsL := [.int x1, .long x2]) (rest := [.ref b2]) rfl rfl (by rw [hb]; exact (xb_d D_M_storeByte 5 rfl))) (ok_M_ofMemory l hfl D A σ x0 x1 x2 h _ hw) (hml.trans hl.1.symm) (by rw [hb]; exact (xb_d D_M_storeByte 5 rfl)) (Nat.le_of_ble_eq_true rfl) (Nat.le_of_ble_eq_true rfl) (Nat.le_of_ble_eq_true rfl) (show k ≤ MC by omega) (show n ≤ MS by omega) (xt_w1 hB.1 m_9aac1411) (xt_cdOf hB.1 m_9aac1411) (hts _ m_d5ed7bed) hB hR hS hA (fun vv h3 H locs hq hEh3 hR hS => ?_)
  obtain ⟨r4, rfl, hw⟩ := hq
  have hw := hw hEh3
  have hE := hE.tr hEh3
  refine W.eq (g2 := F0 m 10 ls [.int r4, .ref b2]) rfl ?_
  refine lv_iload hx hb (xb_d D_M_storeByte 6 rfl) (lv_at hl 3 rfl) ?_
  refine lv_i2b hx hb (xb_d D_M_storeByte 7 rfl) rfl ?_
  obtain ⟨hk5, hw⟩ := hw
  obtain ⟨hi6, hw⟩ := hw
  refine xb_bast hx hb hR hS hk5 hi6 (xb_d D_M_storeByte 8 rfl) (fun H locs hR hS => ?_)
  obtain ⟨h7, eh7⟩ : ∃ x : xb_H, x = xb_I h3 b2 (Int32.toNatClampNeg r4) (vp_nar .byte ((Int32.toInt8 x4).toInt32)) := ⟨_, rfl⟩
  rw [← eh7] at hR
  have hw := hw h7 eh7
  have hE : xb_ext h0 h7 := by rw [eh7]; exact hE
  exact xb_vret 0 0 hx hb hr hlocks (show k + 0 ≤ MC by omega) (show n + 0 ≤ MS by omega) hE hR hS (xb_d D_M_storeByte 9 rfl) hw

set_option maxRecDepth 100000 in
def T_M_take : List (Nat × Instr × Nat) := [(0, .aload_n 0, 1), (1, .getfield 390, 3), (4, .aload_n 0, 1), (5, .getfield 55, 3), (8, .aload_n 0, 1), (9, .getfield 396, 3), (12, .iconst 1, 1), (13, .isub, 1), (14, .iaload, 1), (15, .if_icmp .ne 29, 3), (18, .aload_n 0, 1), (19, .getfield 58, 3), (22, .aload_n 0, 1), (23, .getfield 396, 3), (26, .iconst 1, 1), (27, .isub, 1), (28, .baload, 1), (29, .ifCond .ne 13, 3), (32, .aload_n 0, 1), (33, .bipush 21, 2), (35, .aload_n 0, 1), (36, .getfield 399, 3), (39, .invokevirtual 208, 3), (42, .iconst 0, 1), (43, .ireturn, 1), (44, .aload_n 0, 1), (45, .dup, 1), (46, .getfield 390, 3), (49, .iconst 1, 1), (50, .isub, 1), (51, .putfield 390, 3), (54, .aload_n 0, 1), (55, .getfield 43, 3), (58, .aload_n 0, 1), (59, .getfield 390, 3), (62, .baload, 1), (63, .istore_n 2, 1), (64, .iload_n 1, 1), (65, .ifCond .eq 22, 3), (68, .iload_n 2, 1), (69, .ifCond .eq 18, 3), (72, .iload_n 2, 1), (73, .iload_n 1, 1), (74, .if_icmp .eq 13, 3), (77, .aload_n 0, 1), (78, .bipush 21, 2), (80, .aload_n 0, 1), (81, .getfield 399, 3), (84, .invokevirtual 208, 3), (87, .iload_n 2, 1), (88, .ireturn, 1)]
theorem D_M_take : ∀ q ∈ T_M_take, decode b_M_take q.1 = .ok (q.2.1, q.2.2) := by decide +kernel

set_option maxHeartbeats 4000000 in
set_option maxRecDepth 100000 in
theorem am_M_take_L87 (l : Launch) (hfl : l.flags = pinnedFlags ++ [noTraceFlag]) (D : va_G) (A : Nat → Prop) (σ MC MS : Nat) (h0 : xb_H) (Qr : Int32 → xb_H → Prop) (x2 : Int32) (h : xb_H) (hw : w_M_take_L87 Qr x2 h) : xb_am l D A σ 3 MC MS h0 (fun v h _ _ => ∃ r, v = some (.int r) ∧ Qr r h) (fun _ _ _ _ => False) y_M_take.cls y_M_take.name b_M_take 3 ([] : List ExceptionTableEntry) (some .int) 87 [(2, .int x2)] [] h 0 0 := by
  unfold w_M_take_L87 at hw
  intro p e s m args below meth c hC H locs ls k n hE hl hR hS hk hn
  obtain ⟨hx, hb, hown, hlocks, htab, hml, hr, hB, hA, hnm⟩ := id hC
  have hts := hB.1.1.at args
  refine lv_iload_n hx hb (xb_d D_M_take 49 rfl) rfl (lv_at hl 0 rfl) ?_
  exact xb_iret 0 0 hx hb hr hlocks (show k + 0 ≤ MC by omega) (show n + 0 ≤ MS by omega) hE hR hS (xb_d D_M_take 50 rfl) hw

set_option maxHeartbeats 4000000 in
set_option maxRecDepth 100000 in
theorem am_M_take_L42 (l : Launch) (hfl : l.flags = pinnedFlags ++ [noTraceFlag]) (D : va_G) (A : Nat → Prop) (σ MC MS : Nat) (h0 : xb_H) (Qr : Int32 → xb_H → Prop) (h : xb_H) (hw : w_M_take_L42 Qr h) : xb_am l D A σ 3 MC MS h0 (fun v h _ _ => ∃ r, v = some (.int r) ∧ Qr r h) (fun _ _ _ _ => False) y_M_take.cls y_M_take.name b_M_take 3 ([] : List ExceptionTableEntry) (some .int) 42 [] [] h 0 0 := by
  unfold w_M_take_L42 at hw
  intro p e s m args below meth c hC H locs ls k n hE hl hR hS hk hn
  obtain ⟨hx, hb, hown, hlocks, htab, hml, hr, hB, hA, hnm⟩ := id hC
  have hts := hB.1.1.at args
  refine lv_iconst (v := 0) hx hb (xb_d D_M_take 23 rfl) (by decide) ?_
  exact xb_iret 0 0 hx hb hr hlocks (show k + 0 ≤ MC by omega) (show n + 0 ≤ MS by omega) hE hR hS (xb_d D_M_take 24 rfl) hw

set_option maxHeartbeats 4000000 in
set_option maxRecDepth 100000 in
theorem ok_M_take (l : Launch) (hfl : l.flags = pinnedFlags ++ [noTraceFlag]) (D : va_G) (A : Nat → Prop) (σ : Nat) (x0 : Nat) (x1 : Int32) (h : xb_H) (Qr : Int32 → xb_H → Prop) (hw : w_M_take x0 x1 h Qr) : xb_Met l y_M_take [.code y_M_take b_M_take 3 (some .int)] (xb_rm 3 0 0) (xb_Pc D A σ h [.ref x0, .int x1]) (xb_Qc D A h 0 0 (fun v h _ _ => ∃ r, v = some (.int r) ∧ Qr r h) (fun _ _ _ _ => False)) A := by
  refine xb_ofAm (cc := b_M_take) (by decide) (Nat.le_of_ble_eq_true rfl) ?_
  unfold w_M_take at hw
  show xb_am l D A σ 3 0 0 h (fun v h _ _ => ∃ r, v = some (.int r) ∧ Qr r h) (fun _ _ _ _ => False) y_M_take.cls y_M_take.name b_M_take 3 ([] : List ExceptionTableEntry) (some .int) 0 [(0, .ref x0), (1, .int x1)] [] h 0 0
  obtain ⟨MC, hMC⟩ : ∃ x, x = 0 := ⟨_, rfl⟩
  obtain ⟨MS, hMS⟩ : ∃ x, x = 0 := ⟨_, rfl⟩
  rw [show xb_am l D A σ 3 0 0 = xb_am l D A σ 3 MC MS by rw [hMC, hMS]]
  obtain ⟨h0, hh0⟩ : ∃ x, x = h := ⟨_, rfl⟩
  rw [show xb_am l D A σ 3 MC MS h = xb_am l D A σ 3 MC MS h0 by rw [hh0]]
  intro p e s m args below meth c hC H locs ls k n hE hl hR hS hk hn
  obtain ⟨hx, hb, hown, hlocks, htab, hml, hr, hB, hA, hnm⟩ := id hC
  have hts := hB.1.1.at args
  refine lv_aload_n hx hb (xb_d D_M_take 0 rfl) rfl (lv_at hl 0 rfl) ?_
  obtain ⟨hk1, hw⟩ := hw
  refine xb_getI (C := R_M) (T := F_M) (N := 97) hx hb 8 22 hts fin_M hown hR hk1 (by decide) rfl (by decide) rfl (hts _ m_01d0a072) (fun _ h9 => h9) (xb_d D_M_take 1 rfl) ?_
  refine lv_aload_n hx hb (xb_d D_M_take 2 rfl) rfl (lv_at hl 0 rfl) ?_
  refine xb_getP (C := R_M) (T := F_M) (N := 97) hx hb 8 27 hts fin_M hown hR hk1 (by decide) rfl (by decide) rfl (hts _ m_fe4642b7) (fun _ h9 => h9) (xb_d D_M_take 3 rfl) ?_
  obtain ⟨b2, eb2, hw⟩ := hw
  refine xb_some eb2 ?_
  refine lv_aload_n hx hb (xb_d D_M_take 4 rfl) rfl (lv_at hl 0 rfl) ?_
  refine xb_getI (C := R_M) (T := F_M) (N := 97) hx hb 8 29 hts fin_M hown hR hk1 (by decide) rfl (by decide) rfl (hts _ m_1024c20b) (fun _ h9 => h9) (xb_d D_M_take 5 rfl) ?_
  refine lv_iconst (v := 1) hx hb (xb_d D_M_take 6 rfl) (by decide) ?_
  refine lv_isub hx hb (xb_d D_M_take 7 rfl) ?_
  obtain ⟨hk4, hw⟩ := hw
  obtain ⟨hi3, hw⟩ := hw
  refine xb_iald hx hb hR hk4 hi3 (xb_d D_M_take 8 rfl) ?_
  refine lv_icmp_ne (tgt := 44) hx hb (xb_d D_M_take 9 rfl) rfl (fun hc5 => ?_) (fun hc5 => ?_)
  · have hw := hw.1 hc5
    refine lv_aload_n hx hb (xb_d D_M_take 25 rfl) rfl (lv_at hl 0 rfl) ?_
    refine lv_dup hx hb (xb_d D_M_take 26 rfl) rfl ?_
    refine xb_getI (C := R_M) (T := F_M) (N := 97) hx hb 8 22 hts fin_M hown hR hk1 (by decide) rfl (by decide) rfl (hts _ m_01d0a072) (fun _ h9 => h9) (xb_d D_M_take 27 rfl) ?_
    refine lv_iconst (v := 1) hx hb (xb_d D_M_take 28 rfl) (by decide) ?_
    refine lv_isub hx hb (xb_d D_M_take 29 rfl) ?_
    refine xb_putI (C := R_M) (T := F_M) (N := 97) (ty := .int) (x := ((xb_i h x0 22) - 1)) hx hb 8 22 hts fin_M t_M t_M_ok n_M hown hR hS hk1 (by decide) rfl (by decide) rfl (hts _ m_01d0a072) (fun _ h9 => h9) rfl (by decide +kernel) rfl rfl (xb_d D_M_take 30 rfl) (fun H locs hR hS => ?_)
    obtain ⟨h6, eh6⟩ : ∃ x : xb_H, x = xb_I h x0 22 ((xb_i h x0 22) - 1) := ⟨_, rfl⟩
    rw [← eh6] at hR
    have hw := hw h6 eh6
    have hE : xb_ext h0 h6 := by rw [eh6]; exact hE
    refine lv_aload_n hx hb (xb_d D_M_take 31 rfl) rfl (lv_at hl 0 rfl) ?_
    have hk1 : xb_k h6 x0 = 9 := by rw [eh6]; exact hk1
    refine xb_getP (C := R_M) (T := F_M) (N := 97) hx hb 8 21 hts fin_M hown hR hk1 (by decide) rfl (by decide) rfl (hts _ m_a8b072e8) (fun _ h9 => h9) (xb_d D_M_take 32 rfl) ?_
    obtain ⟨b7, eb7, hw⟩ := hw
    refine xb_some eb7 ?_
    refine lv_aload_n hx hb (xb_d D_M_take 33 rfl) rfl (lv_at hl 0 rfl) ?_
    refine xb_getI (C := R_M) (T := F_M) (N := 97) hx hb 8 22 hts fin_M hown hR hk1 (by decide) rfl (by decide) rfl (hts _ m_01d0a072) (fun _ h9 => h9) (xb_d D_M_take 34 rfl) ?_
    obtain ⟨hk9, hw⟩ := hw
    obtain ⟨hi8, hw⟩ := hw
    refine xb_bald hx hb hR hk9 hi8 (xb_d D_M_take 35 rfl) ?_
    obtain ⟨v10, ev10⟩ : ∃ x : Int32, x = (xb_i h6 b7 (Int32.toNatClampNeg (xb_i h6 x0 22))) := ⟨_, rfl⟩
    have hw := hw v10 ev10
    refine xt_numi (y := v10) ev10.symm ?_
    refine lv_istore_n hx hb (xb_d D_M_take 36 rfl) rfl hl (by decide) rfl (fun ls hl => ?_)
    have hl : lv_has ls 3 [(2, .int v10), (0, .ref x0), (1, .int x1)] := hl
    refine lv_iload_n hx hb (xb_d D_M_take 37 rfl) rfl (lv_at hl 2 rfl) ?_
    refine lv_if_eq (tgt := 87) hx hb (xb_d D_M_take 38 rfl) rfl (fun hc11 => ?_) (fun hc11 => ?_)
    · have hw := hw.1 hc11
      exact am_M_take_L87 l hfl D A σ MC MS h0 Qr v10 h6 hw p e s m args below meth c hC H locs ls k n hE (lv_sub hl [0] rfl) hR hS (by omega) (by omega)
    · have hw := hw.2 hc11
      refine lv_iload_n hx hb (xb_d D_M_take 39 rfl) rfl (lv_at hl 0 rfl) ?_
      refine lv_if_eq (tgt := 87) hx hb (xb_d D_M_take 40 rfl) rfl (fun hc12 => ?_) (fun hc12 => ?_)
      · have hw := hw.1 hc12
        exact am_M_take_L87 l hfl D A σ MC MS h0 Qr v10 h6 hw p e s m args below meth c hC H locs ls k n hE (lv_sub hl [0] rfl) hR hS (by omega) (by omega)
      · have hw := hw.2 hc12
        refine lv_iload_n hx hb (xb_d D_M_take 41 rfl) rfl (lv_at hl 0 rfl) ?_
        refine lv_iload_n hx hb (xb_d D_M_take 42 rfl) rfl (lv_at hl 2 rfl) ?_
        refine lv_icmp_eq (tgt := 87) hx hb (xb_d D_M_take 43 rfl) rfl (fun hc13 => ?_) (fun hc13 => ?_)
        · have hw := hw.1 hc13
          exact am_M_take_L87 l hfl D A σ MC MS h0 Qr v10 h6 hw p e s m args below meth c hC H locs ls k n hE (lv_sub hl [0] rfl) hR hS (by omega) (by omega)
        · have hw := hw.2 hc13
          refine lv_aload_n hx hb (xb_d D_M_take 44 rfl) rfl (lv_at hl 1 rfl) ?_
          refine lv_bipush (v := 21) hx hb (xb_d D_M_take 45 rfl) (by decide) ?_
          refine lv_aload_n hx hb (xb_d D_M_take 46 rfl) rfl (lv_at hl 1 rfl) ?_
          refine xb_getI (C := R_M) (T := F_M) (N := 97) hx hb 8 92 hts fin_M hown hR hk1 (by decide) rfl (by decide) rfl (hts _ m_14c0c52c) (fun _ h9 => h9) (xb_d D_M_take 47 rfl) ?_
          refine xb_call0 (D := D) (A := A) (σ := σ) (h := h6) (d := 2) (maxL := 3) (rest := []) (av := [.ref x0, .int 21, .int (xb_i h6 x0 92)]) (fun T hT X => by obtain ⟨cb9, ra9, rb9, rc9⟩ := xb_recv (ci := 8) hR rfl hk1 (by decide); exact xt_invV X hx hown (hts _ m_939052ad) (hts _ m_29cc8c73) (hts _ m_3b1ac7ab) (xt_sigOf (hts _ m_8f062ecd)) nm_M_fail (by rw [hT]; exact ra9) rb9 rc9 (g := F0 m 84 ls [.int (xb_i h6 x0 92), .int 21, .ref x0]) rfl (argsL := [.int 21, .int (xb_i h6 x0 92)]) (rest := []) rfl rfl (by rw [hb]; exact (xb_d D_M_take 48 rfl))) (ok_M_fail l hfl D A σ x0 21 (xb_i h6 x0 92) h6 _ hw) (hml.trans hl.1.symm) (by rw [hb]; exact (xb_d D_M_take 48 rfl)) (Nat.le_of_ble_eq_true rfl) (Nat.le_of_ble_eq_true rfl) (Nat.le_of_ble_eq_true rfl) (show k ≤ MC by omega) (show n ≤ MS by omega) (xt_w1 hB.1 m_8f062ecd) (xt_cdOf hB.1 m_8f062ecd) (hts _ m_d5ed7bed) hB hR hS hA (fun vv h14 H locs hq hEh14 hR hS => ?_)
          obtain ⟨rfl, hw⟩ := hq
          have hw := hw hEh14
          have hE := hE.tr hEh14
          refine W.eq (g2 := F0 m 87 ls []) rfl ?_
          exact am_M_take_L87 l hfl D A σ MC MS h0 Qr v10 h14 hw p e s m args below meth c hC H locs ls k n hE (lv_sub hl [0] rfl) hR hS (by omega) (by omega)
  · have hw := hw.2 hc5
    refine lv_aload_n hx hb (xb_d D_M_take 10 rfl) rfl (lv_at hl 0 rfl) ?_
    refine xb_getP (C := R_M) (T := F_M) (N := 97) hx hb 8 28 hts fin_M hown hR hk1 (by decide) rfl (by decide) rfl (hts _ m_a58a86b4) (fun _ h9 => h9) (xb_d D_M_take 11 rfl) ?_
    obtain ⟨b16, eb16, hw⟩ := hw
    refine xb_some eb16 ?_
    refine lv_aload_n hx hb (xb_d D_M_take 12 rfl) rfl (lv_at hl 0 rfl) ?_
    refine xb_getI (C := R_M) (T := F_M) (N := 97) hx hb 8 29 hts fin_M hown hR hk1 (by decide) rfl (by decide) rfl (hts _ m_1024c20b) (fun _ h9 => h9) (xb_d D_M_take 13 rfl) ?_
    refine lv_iconst (v := 1) hx hb (xb_d D_M_take 14 rfl) (by decide) ?_
    refine lv_isub hx hb (xb_d D_M_take 15 rfl) ?_
    obtain ⟨hk18, hw⟩ := hw
    obtain ⟨hi17, hw⟩ := hw
    refine xb_zald hx hb hR hk18 hi17 (xb_d D_M_take 16 rfl) ?_
    refine lv_if_ne (tgt := 42) hx hb (xb_d D_M_take 17 rfl) rfl (fun hc19 => ?_) (fun hc19 => ?_)
    · have hw := hw.1 hc19
      exact am_M_take_L42 l hfl D A σ MC MS h0 Qr h hw p e s m args below meth c hC H locs ls k n hE (lv_sub hl [] rfl) hR hS (by omega) (by omega)
    · have hw := hw.2 hc19
      refine lv_aload_n hx hb (xb_d D_M_take 18 rfl) rfl (lv_at hl 0 rfl) ?_
      refine lv_bipush (v := 21) hx hb (xb_d D_M_take 19 rfl) (by decide) ?_
      refine lv_aload_n hx hb (xb_d D_M_take 20 rfl) rfl (lv_at hl 0 rfl) ?_
      refine xb_getI (C := R_M) (T := F_M) (N := 97) hx hb 8 92 hts fin_M hown hR hk1 (by decide) rfl (by decide) rfl (hts _ m_14c0c52c) (fun _ h9 => h9) (xb_d D_M_take 21 rfl) ?_
      refine xb_call0 (D := D) (A := A) (σ := σ) (h := h) (d := 2) (maxL := 3) (rest := []) (av := [.ref x0, .int 21, .int (xb_i h x0 92)]) (fun T hT X => by obtain ⟨cb9, ra9, rb9, rc9⟩ := xb_recv (ci := 8) hR rfl hk1 (by decide); exact xt_invV X hx hown (hts _ m_939052ad) (hts _ m_29cc8c73) (hts _ m_3b1ac7ab) (xt_sigOf (hts _ m_8f062ecd)) nm_M_fail (by rw [hT]; exact ra9) rb9 rc9 (g := F0 m 39 ls [.int (xb_i h x0 92), .int 21, .ref x0]) rfl (argsL := [.int 21, .int (xb_i h x0 92)]) (rest := []) rfl rfl (by rw [hb]; exact (xb_d D_M_take 22 rfl))) (ok_M_fail l hfl D A σ x0 21 (xb_i h x0 92) h _ hw) (hml.trans hl.1.symm) (by rw [hb]; exact (xb_d D_M_take 22 rfl)) (Nat.le_of_ble_eq_true rfl) (Nat.le_of_ble_eq_true rfl) (Nat.le_of_ble_eq_true rfl) (show k ≤ MC by omega) (show n ≤ MS by omega) (xt_w1 hB.1 m_8f062ecd) (xt_cdOf hB.1 m_8f062ecd) (hts _ m_d5ed7bed) hB hR hS hA (fun vv h20 H locs hq hEh20 hR hS => ?_)
      obtain ⟨rfl, hw⟩ := hq
      have hw := hw hEh20
      have hE := hE.tr hEh20
      refine W.eq (g2 := F0 m 42 ls []) rfl ?_
      exact am_M_take_L42 l hfl D A σ MC MS h0 Qr h20 hw p e s m args below meth c hC H locs ls k n hE (lv_sub hl [] rfl) hR hS (by omega) (by omega)

set_option maxRecDepth 100000 in
def T_M_total : List (Nat × Instr × Nat) := [(0, .aload_n 0, 1), (1, .getfield 30, 3), (4, .iconst 4, 1), (5, .iload_n 1, 1), (6, .imul, 1), (7, .iload_n 2, 1), (8, .iadd, 1), (9, .iaload, 1), (10, .aload_n 0, 1), (11, .iload_n 1, 1), (12, .iload_n 2, 1), (13, .ifCond .ne 7, 3), (16, .iconst 3, 1), (17, .goto 23, 3), (20, .iload_n 2, 1), (21, .iconst 1, 1), (22, .if_icmp .ne 7, 3), (25, .iconst 4, 1), (26, .goto 14, 3), (29, .iload_n 2, 1), (30, .iconst 2, 1), (31, .if_icmp .ne 7, 3), (34, .iconst 5, 1), (35, .goto 5, 3), (38, .bipush 6, 2), (40, .invokevirtual 316, 3), (43, .iadd, 1), (44, .i2l, 1), (45, .lreturn, 1)]
theorem D_M_total : ∀ q ∈ T_M_total, decode b_M_total q.1 = .ok (q.2.1, q.2.2) := by decide +kernel

set_option maxHeartbeats 4000000 in
set_option maxRecDepth 100000 in
theorem am_M_total_L40 (l : Launch) (hfl : l.flags = pinnedFlags ++ [noTraceFlag]) (D : va_G) (A : Nat → Prop) (σ MC MS : Nat) (h0 : xb_H) (Qr : Int64 → xb_H → Prop) (y0 : Int32) (y1 : Int32) (y2 : Nat) (y3 : Int32) (h : xb_H) (hw : w_M_total_L40 Qr y0 y1 y2 y3 h) : xb_am l D A σ 3 MC MS h0 (fun v h _ _ => ∃ r, v = some (.long r) ∧ Qr r h) (fun _ _ _ _ => False) y_M_total.cls y_M_total.name b_M_total 3 ([] : List ExceptionTableEntry) (some .long) 40 [] [.int y0, .int y1, .ref y2, .int y3] h 0 0 := by
  unfold w_M_total_L40 at hw
  intro p e s m args below meth c hC H locs ls k n hE hl hR hS hk hn
  obtain ⟨hx, hb, hown, hlocks, htab, hml, hr, hB, hA, hnm⟩ := id hC
  have hts := hB.1.1.at args
  obtain ⟨hk1, hw⟩ := hw
  refine xb_call0 (D := D) (A := A) (σ := σ) (h := h) (d := 2) (maxL := 3) (rest := [.int y3]) (av := [.ref y2, .int y1, .int y0]) (fun T hT X => by obtain ⟨cb9, ra9, rb9, rc9⟩ := xb_recv (ci := 8) hR rfl hk1 (by decide); exact xt_invV X hx hown (hts _ m_b47f62c2) (hts _ m_9f071faf) (hts _ m_e1bb5c84) (xt_sigOf (hts _ m_3a6212d6)) nm_M_manyOf (by rw [hT]; exact ra9) rb9 rc9 (g := F0 m 40 ls [.int y0, .int y1, .ref y2, .int y3]) rfl (argsL := [.int y1, .int y0]) (rest := [.int y3]) rfl rfl (by rw [hb]; exact (xb_d D_M_total 25 rfl))) (ok_M_manyOf l hfl D A σ y2 y1 y0 h _ hw) (hml.trans hl.1.symm) (by rw [hb]; exact (xb_d D_M_total 25 rfl)) (Nat.le_of_ble_eq_true rfl) (Nat.le_of_ble_eq_true rfl) (Nat.le_of_ble_eq_true rfl) (show k ≤ MC by omega) (show n ≤ MS by omega) (xt_w1 hB.1 m_3a6212d6) (xt_cdOf hB.1 m_3a6212d6) (hts _ m_d5ed7bed) hB hR hS hA (fun vv h2 H locs hq hEh2 hR hS => ?_)
  obtain ⟨r3, rfl, hw⟩ := hq
  have hw := hw hEh2
  have hE := hE.tr hEh2
  refine W.eq (g2 := F0 m 43 ls [.int r3, .int y3]) rfl ?_
  refine lv_iadd hx hb (xb_d D_M_total 26 rfl) ?_
  refine lv_i2l hx hb (xb_d D_M_total 27 rfl) rfl ?_
  exact xb_lret 0 0 hx hb hr hlocks (show k + 0 ≤ MC by omega) (show n + 0 ≤ MS by omega) hE hR hS (xb_d D_M_total 28 rfl) hw

set_option maxHeartbeats 4000000 in
set_option maxRecDepth 100000 in
theorem ok_M_total (l : Launch) (hfl : l.flags = pinnedFlags ++ [noTraceFlag]) (D : va_G) (A : Nat → Prop) (σ : Nat) (x0 : Nat) (x1 : Int32) (x2 : Int32) (h : xb_H) (Qr : Int64 → xb_H → Prop) (hw : w_M_total x0 x1 x2 h Qr) : xb_Met l y_M_total [.code y_M_total b_M_total 3 (some .long)] (xb_rm 3 0 0) (xb_Pc D A σ h [.ref x0, .int x1, .int x2]) (xb_Qc D A h 0 0 (fun v h _ _ => ∃ r, v = some (.long r) ∧ Qr r h) (fun _ _ _ _ => False)) A := by
  refine xb_ofAm (cc := b_M_total) (by decide) (Nat.le_of_ble_eq_true rfl) ?_
  unfold w_M_total at hw
  show xb_am l D A σ 3 0 0 h (fun v h _ _ => ∃ r, v = some (.long r) ∧ Qr r h) (fun _ _ _ _ => False) y_M_total.cls y_M_total.name b_M_total 3 ([] : List ExceptionTableEntry) (some .long) 0 [(0, .ref x0), (1, .int x1), (2, .int x2)] [] h 0 0
  obtain ⟨MC, hMC⟩ : ∃ x, x = 0 := ⟨_, rfl⟩
  obtain ⟨MS, hMS⟩ : ∃ x, x = 0 := ⟨_, rfl⟩
  rw [show xb_am l D A σ 3 0 0 = xb_am l D A σ 3 MC MS by rw [hMC, hMS]]
  obtain ⟨h0, hh0⟩ : ∃ x, x = h := ⟨_, rfl⟩
  rw [show xb_am l D A σ 3 MC MS h = xb_am l D A σ 3 MC MS h0 by rw [hh0]]
  intro p e s m args below meth c hC H locs ls k n hE hl hR hS hk hn
  obtain ⟨hx, hb, hown, hlocks, htab, hml, hr, hB, hA, hnm⟩ := id hC
  have hts := hB.1.1.at args
  refine lv_aload_n hx hb (xb_d D_M_total 0 rfl) rfl (lv_at hl 0 rfl) ?_
  obtain ⟨hk1, hw⟩ := hw
  refine xb_getP (C := R_M) (T := F_M) (N := 97) hx hb 8 10 hts fin_M hown hR hk1 (by decide) rfl (by decide) rfl (hts _ m_01d0d957) (fun _ h9 => h9) (xb_d D_M_total 1 rfl) ?_
  obtain ⟨b2, eb2, hw⟩ := hw
  refine xb_some eb2 ?_
  refine lv_iconst (v := 4) hx hb (xb_d D_M_total 2 rfl) (by decide) ?_
  refine lv_iload_n hx hb (xb_d D_M_total 3 rfl) rfl (lv_at hl 1 rfl) ?_
  refine lv_imul hx hb (xb_d D_M_total 4 rfl) ?_
  refine lv_iload_n hx hb (xb_d D_M_total 5 rfl) rfl (lv_at hl 2 rfl) ?_
  refine lv_iadd hx hb (xb_d D_M_total 6 rfl) ?_
  obtain ⟨hk4, hw⟩ := hw
  obtain ⟨hi3, hw⟩ := hw
  refine xb_iald hx hb hR hk4 hi3 (xb_d D_M_total 7 rfl) ?_
  refine lv_aload_n hx hb (xb_d D_M_total 8 rfl) rfl (lv_at hl 0 rfl) ?_
  refine lv_iload_n hx hb (xb_d D_M_total 9 rfl) rfl (lv_at hl 1 rfl) ?_
  refine lv_iload_n hx hb (xb_d D_M_total 10 rfl) rfl (lv_at hl 2 rfl) ?_
  refine lv_if_ne (tgt := 20) hx hb (xb_d D_M_total 11 rfl) rfl (fun hc5 => ?_) (fun hc5 => ?_)
  · have hw := hw.1 hc5
    refine lv_iload_n hx hb (xb_d D_M_total 14 rfl) rfl (lv_at hl 2 rfl) ?_
    refine lv_iconst (v := 1) hx hb (xb_d D_M_total 15 rfl) (by decide) ?_
    refine lv_icmp_ne (tgt := 29) hx hb (xb_d D_M_total 16 rfl) rfl (fun hc6 => ?_) (fun hc6 => ?_)
    · have hw := hw.1 hc6
      refine lv_iload_n hx hb (xb_d D_M_total 19 rfl) rfl (lv_at hl 2 rfl) ?_
      refine lv_iconst (v := 2) hx hb (xb_d D_M_total 20 rfl) (by decide) ?_
      refine lv_icmp_ne (tgt := 38) hx hb (xb_d D_M_total 21 rfl) rfl (fun hc7 => ?_) (fun hc7 => ?_)
      · have hw := hw.1 hc7
        refine lv_bipush (v := 6) hx hb (xb_d D_M_total 24 rfl) (by decide) ?_
        exact am_M_total_L40 l hfl D A σ MC MS h0 Qr 6 x1 x0 (xb_i h b2 (Int32.toNatClampNeg ((4 * x1) + x2))) h hw p e s m args below meth c hC H locs ls k n hE (lv_sub hl [] rfl) hR hS (by omega) (by omega)
      · have hw := hw.2 hc7
        refine lv_iconst (v := 5) hx hb (xb_d D_M_total 22 rfl) (by decide) ?_
        refine lv_goto (tgt := 40) hx hb (xb_d D_M_total 23 rfl) rfl ?_
        exact am_M_total_L40 l hfl D A σ MC MS h0 Qr 5 x1 x0 (xb_i h b2 (Int32.toNatClampNeg ((4 * x1) + x2))) h hw p e s m args below meth c hC H locs ls k n hE (lv_sub hl [] rfl) hR hS (by omega) (by omega)
    · have hw := hw.2 hc6
      refine lv_iconst (v := 4) hx hb (xb_d D_M_total 17 rfl) (by decide) ?_
      refine lv_goto (tgt := 40) hx hb (xb_d D_M_total 18 rfl) rfl ?_
      exact am_M_total_L40 l hfl D A σ MC MS h0 Qr 4 x1 x0 (xb_i h b2 (Int32.toNatClampNeg ((4 * x1) + x2))) h hw p e s m args below meth c hC H locs ls k n hE (lv_sub hl [] rfl) hR hS (by omega) (by omega)
  · have hw := hw.2 hc5
    refine lv_iconst (v := 3) hx hb (xb_d D_M_total 12 rfl) (by decide) ?_
    refine lv_goto (tgt := 40) hx hb (xb_d D_M_total 13 rfl) rfl ?_
    exact am_M_total_L40 l hfl D A σ MC MS h0 Qr 3 x1 x0 (xb_i h b2 (Int32.toNatClampNeg ((4 * x1) + x2))) h hw p e s m args below meth c hC H locs ls k n hE (lv_sub hl [] rfl) hR hS (by omega) (by omega)

theorem m_2cc3108f : (.methodLink "StackHostModel$Exact" 37 y_Exact_reach : Cond) ∈ xt_tbl := xt_in (xt_t13 (List.mem_of_getElem? (i := 23) (by decide +kernel))) (by decide +kernel)
theorem m_0a8e7a27 : (.instanceMethod y_Exact_reach : Cond) ∈ xt_tbl := xt_in (xt_t13 (List.mem_of_getElem? (i := 25) (by decide +kernel))) (by decide +kernel)
theorem m_e255a90f : (.selects "StackHostModel$Exact" y_Exact_reach y_Exact_reach : Cond) ∈ xt_tbl := xt_in (xt_v15 (q := (⟨"StackHostModel$Exact", "reach", "(II)V"⟩, 11)) (List.mem_of_getElem? (i := 15) (by decide +kernel))) (by decide +kernel)
theorem m_adf48eee : (.code y_Exact_reach b_Exact_reach 3 none : Cond) ∈ xt_tbl := xt_in (xt_t13 (List.mem_of_getElem? (i := 26) (by decide +kernel))) (by decide +kernel)
theorem nm_Exact_reach : xt_nm y_Exact_reach 2 := ⟨by decide +kernel, by decide +kernel⟩
set_option maxRecDepth 100000 in
def T_Exact_add : List (Nat × Instr × Nat) := [(0, .iconst 0, 1), (1, .istore 4, 2), (3, .sipush 2200, 3), (6, .iload_n 3, 1), (7, .iadd, 1), (8, .istore 5, 2), (10, .lload_n 1, 1), (11, .lstore 6, 2), (13, .aload_n 0, 1), (14, .iload 5, 2), (16, .iload 5, 2), (18, .invokevirtual 37, 3), (21, .lload 6, 2), (23, .lconst 0, 1), (24, .lcmp, 1), (25, .ifCond .ne 8, 3), (28, .iload 4, 2), (30, .ifCond .le 59, 3), (33, .aload_n 0, 1), (34, .getfield 9, 3), (37, .iload 5, 2), (39, .baload, 1), (40, .lload 6, 2), (42, .lconst 1, 1), (43, .land, 1), (44, .l2i, 1), (45, .iadd, 1), (46, .iload 4, 2), (48, .iadd, 1), (49, .istore 8, 2), (51, .aload_n 0, 1), (52, .getfield 9, 3), (55, .iload 5, 2), (57, .iload 8, 2), (59, .iconst 1, 1), (60, .iand, 1), (61, .i2b, 1), (62, .bastore, 1), (63, .iload 8, 2), (65, .iconst 1, 1), (66, .ishr, 1), (67, .istore 4, 2), (69, .aload_n 0, 1), (70, .iload 5, 2), (72, .iload 5, 2), (74, .invokevirtual 37, 3), (77, .lload 6, 2), (79, .iconst 1, 1), (80, .lushr, 1), (81, .lstore 6, 2), (83, .iinc 5 1, 3), (86, .goto (-65), 3), (89, .return_, 1)]
theorem D_Exact_add : ∀ q ∈ T_Exact_add, decode b_Exact_add q.1 = .ok (q.2.1, q.2.2) := by decide +kernel

set_option maxHeartbeats 4000000 in
set_option maxRecDepth 100000 in
theorem am_Exact_add_L33 (l : Launch) (hfl : l.flags = pinnedFlags ++ [noTraceFlag]) (D : va_G) (A : Nat → Prop) (σ MC MS : Nat) (h0 : xb_H) (Qr : xb_H → Prop) (K21 : Nat → Int32 → Int32 → Int64 → xb_H → Prop) (hK21 : ∀ (x0 : Nat) (x4 : Int32) (x5 : Int32) (x6 : Int64) (h : xb_H), K21 x0 x4 x5 x6 h → xb_am l D A σ 3 MC MS h0 (fun v h _ _ => v = none ∧ Qr h) (fun _ _ _ _ => False) y_Exact_add.cls y_Exact_add.name b_Exact_add 9 ([] : List ExceptionTableEntry) none 21 [(0, .ref x0), (4, .int x4), (5, .int x5), (6, .long x6)] [] h 0 0) (x0 : Nat) (x4 : Int32) (x5 : Int32) (x6 : Int64) (h : xb_H) (hw : w_Exact_add_L33 K21 Qr x0 x4 x5 x6 h) : xb_am l D A σ 3 MC MS h0 (fun v h _ _ => v = none ∧ Qr h) (fun _ _ _ _ => False) y_Exact_add.cls y_Exact_add.name b_Exact_add 9 ([] : List ExceptionTableEntry) none 33 [(0, .ref x0), (4, .int x4), (5, .int x5), (6, .long x6)] [] h 0 0 := by
  unfold w_Exact_add_L33 at hw
  intro p e s m args below meth c hC H locs ls k n hE hl hR hS hk hn
  obtain ⟨hx, hb, hown, hlocks, htab, hml, hr, hB, hA, hnm⟩ := id hC
  have hts := hB.1.1.at args
  refine lv_aload_n hx hb (xb_d D_Exact_add 18 rfl) rfl (lv_at hl 0 rfl) ?_
  obtain ⟨hk1, hw⟩ := hw
  refine xb_getP (C := R_Exact) (T := F_Exact) (N := 11) hx hb 9 1 hts fin_Exact hown hR hk1 (by decide) rfl (by decide) rfl (hts _ m_3ef37fb8) (fun _ h9 => h9) (xb_d D_Exact_add 19 rfl) ?_
  obtain ⟨b2, eb2, hw⟩ := hw
  refine xb_some eb2 ?_
  refine lv_iload hx hb (xb_d D_Exact_add 20 rfl) (lv_at hl 2 rfl) ?_
  obtain ⟨hk4, hw⟩ := hw
  obtain ⟨hi3, hw⟩ := hw
  refine xb_bald hx hb hR hk4 hi3 (xb_d D_Exact_add 21 rfl) ?_
  refine lv_lload hx hb (xb_d D_Exact_add 22 rfl) (lv_at hl 3 rfl) ?_
  refine lv_lconst (v := 1) hx hb (xb_d D_Exact_add 23 rfl) (by decide) ?_
  refine lv_land hx hb (xb_d D_Exact_add 24 rfl) ?_
  refine lv_l2i hx hb (xb_d D_Exact_add 25 rfl) rfl ?_
  refine lv_iadd hx hb (xb_d D_Exact_add 26 rfl) ?_
  refine lv_iload hx hb (xb_d D_Exact_add 27 rfl) (lv_at hl 1 rfl) ?_
  refine lv_iadd hx hb (xb_d D_Exact_add 28 rfl) ?_
  obtain ⟨v5, ev5⟩ : ∃ x : Int32, x = (((xb_i h b2 (Int32.toNatClampNeg x5)) + (Int64.toInt32 (x6 &&& 1))) + x4) := ⟨_, rfl⟩
  have hw := hw v5 ev5
  refine xt_numi (y := v5) ev5.symm ?_
  refine lv_istore hx hb (xb_d D_Exact_add 29 rfl) hl (by decide) rfl (fun ls hl => ?_)
  have hl : lv_has ls 9 [(8, .int v5), (0, .ref x0), (4, .int x4), (5, .int x5), (6, .long x6)] := hl
  refine lv_aload_n hx hb (xb_d D_Exact_add 30 rfl) rfl (lv_at hl 1 rfl) ?_
  refine xb_getP (C := R_Exact) (T := F_Exact) (N := 11) hx hb 9 1 hts fin_Exact hown hR hk1 (by decide) rfl (by decide) rfl (hts _ m_3ef37fb8) (fun _ h9 => h9) (xb_d D_Exact_add 31 rfl) ?_
  obtain ⟨b6, eb6, hw⟩ := hw
  refine xb_some eb6 ?_
  refine lv_iload hx hb (xb_d D_Exact_add 32 rfl) (lv_at hl 3 rfl) ?_
  refine lv_iload hx hb (xb_d D_Exact_add 33 rfl) (lv_at hl 0 rfl) ?_
  refine lv_iconst (v := 1) hx hb (xb_d D_Exact_add 34 rfl) (by decide) ?_
  refine lv_iand hx hb (xb_d D_Exact_add 35 rfl) ?_
  refine lv_i2b hx hb (xb_d D_Exact_add 36 rfl) rfl ?_
  obtain ⟨hk7, hw⟩ := hw
  obtain ⟨hi8, hw⟩ := hw
  refine xb_bast hx hb hR hS hk7 hi8 (xb_d D_Exact_add 37 rfl) (fun H locs hR hS => ?_)
  obtain ⟨h9, eh9⟩ : ∃ x : xb_H, x = xb_I h b6 (Int32.toNatClampNeg x5) (vp_nar .byte ((Int32.toInt8 (v5 &&& 1)).toInt32)) := ⟨_, rfl⟩
  rw [← eh9] at hR
  have hw := hw h9 eh9
  have hE : xb_ext h0 h9 := by rw [eh9]; exact hE
  refine lv_iload hx hb (xb_d D_Exact_add 38 rfl) (lv_at hl 0 rfl) ?_
  refine lv_iconst (v := 1) hx hb (xb_d D_Exact_add 39 rfl) (by decide) ?_
  refine lv_ishr hx hb (xb_d D_Exact_add 40 rfl) ?_
  obtain ⟨v10, ev10⟩ : ∃ x : Int32, x = (v5 >>> (1 &&& 31)) := ⟨_, rfl⟩
  have hw := hw v10 ev10
  refine xt_numi (y := v10) ev10.symm ?_
  refine lv_istore hx hb (xb_d D_Exact_add 41 rfl) hl (by decide) rfl (fun ls hl => ?_)
  have hl : lv_has ls 9 [(4, .int v10), (8, .int v5), (0, .ref x0), (5, .int x5), (6, .long x6)] := hl
  refine lv_aload_n hx hb (xb_d D_Exact_add 42 rfl) rfl (lv_at hl 2 rfl) ?_
  refine lv_iload hx hb (xb_d D_Exact_add 43 rfl) (lv_at hl 3 rfl) ?_
  refine lv_iload hx hb (xb_d D_Exact_add 44 rfl) (lv_at hl 3 rfl) ?_
  have hk1 : xb_k h9 x0 = 10 := by rw [eh9]; exact hk1
  refine xb_call0 (D := D) (A := A) (σ := σ) (h := h9) (d := 2) (maxL := 3) (rest := []) (av := [.ref x0, .int x5, .int x5]) (fun T hT X => by obtain ⟨cb9, ra9, rb9, rc9⟩ := xb_recv (ci := 9) hR rfl hk1 (by decide); exact xt_invV X hx hown (hts _ m_2cc3108f) (hts _ m_0a8e7a27) (hts _ m_e255a90f) (xt_sigOf (hts _ m_adf48eee)) nm_Exact_reach (by rw [hT]; exact ra9) rb9 rc9 (g := F0 m 74 ls [.int x5, .int x5, .ref x0]) rfl (argsL := [.int x5, .int x5]) (rest := []) rfl rfl (by rw [hb]; exact (xb_d D_Exact_add 45 rfl))) (ok_Exact_reach l hfl D A σ x0 x5 x5 h9 _ hw) (hml.trans hl.1.symm) (by rw [hb]; exact (xb_d D_Exact_add 45 rfl)) (Nat.le_of_ble_eq_true rfl) (Nat.le_of_ble_eq_true rfl) (Nat.le_of_ble_eq_true rfl) (show k ≤ MC by omega) (show n ≤ MS by omega) (xt_w1 hB.1 m_adf48eee) (xt_cdOf hB.1 m_adf48eee) (hts _ m_b807310b) hB hR hS hA (fun vv h11 H locs hq hEh11 hR hS => ?_)
  obtain ⟨rfl, hw⟩ := hq
  have hw := hw hEh11
  have hE := hE.tr hEh11
  refine W.eq (g2 := F0 m 77 ls []) rfl ?_
  refine lv_lload hx hb (xb_d D_Exact_add 46 rfl) (lv_at hl 4 rfl) ?_
  refine lv_iconst (v := 1) hx hb (xb_d D_Exact_add 47 rfl) (by decide) ?_
  refine lv_lushr (v := (xb_lushr x6 1)) hx hb (xb_d D_Exact_add 48 rfl) rfl ?_
  obtain ⟨v13, ev13⟩ : ∃ x : Int64, x = (xb_lushr x6 1) := ⟨_, rfl⟩
  have hw := hw v13 ev13
  refine xt_numl (y := v13) ev13.symm ?_
  refine lv_lstore hx hb (xb_d D_Exact_add 49 rfl) hl (by decide) rfl (fun ls hl => ?_)
  have hl : lv_has ls 9 [(6, .long v13), (4, .int v10), (8, .int v5), (0, .ref x0), (5, .int x5)] := hl
  refine lv_iinc (v := (x5 + 1)) (k := 4) hx hb (xb_d D_Exact_add 50 rfl) hl rfl (by first | rfl | decide) (by decide) rfl (fun ls hl => ?_)
  have hl : lv_has ls 9 [(5, .int (x5 + 1)), (6, .long v13), (4, .int v10), (8, .int v5), (0, .ref x0)] := hl
  refine lv_goto (tgt := 21) hx hb (xb_d D_Exact_add 51 rfl) rfl ?_
  exact hK21 x0 v10 (x5 + 1) v13 h11 hw p e s m args below meth c hC H locs ls k n hE (lv_sub hl [4, 2, 0, 1] rfl) hR hS (by omega) (by omega)

set_option maxHeartbeats 4000000 in
set_option maxRecDepth 100000 in
theorem am_Exact_add_L21 (l : Launch) (hfl : l.flags = pinnedFlags ++ [noTraceFlag]) (D : va_G) (A : Nat → Prop) (σ MC MS : Nat) (h0 : xb_H) (Qr : xb_H → Prop) (n9 : Nat) : ∀ (x0 : Nat) (x4 : Int32) (x5 : Int32) (x6 : Int64) (h : xb_H), w_Exact_add_L21 Qr n9 x0 x4 x5 x6 h → xb_am l D A σ 3 MC MS h0 (fun v h _ _ => v = none ∧ Qr h) (fun _ _ _ _ => False) y_Exact_add.cls y_Exact_add.name b_Exact_add 9 ([] : List ExceptionTableEntry) none 21 [(0, .ref x0), (4, .int x4), (5, .int x5), (6, .long x6)] [] h 0 0 := by
  induction n9 with
  | zero => intro x0 x4 x5 x6 h hw; exact False.elim hw
  | succ n9 ih =>
    intro x0 x4 x5 x6 h hw
    unfold w_Exact_add_L21 at hw
    intro p e s m args below meth c hC H locs ls k n hE hl hR hS hk hn
    obtain ⟨hx, hb, hown, hlocks, htab, hml, hr, hB, hA, hnm⟩ := id hC
    have hts := hB.1.1.at args
    refine lv_lload hx hb (xb_d D_Exact_add 12 rfl) (lv_at hl 3 rfl) ?_
    refine lv_lconst (v := 0) hx hb (xb_d D_Exact_add 13 rfl) (by decide) ?_
    refine xb_lc_ne (tgt := 33) hx hb (xb_d D_Exact_add 14 rfl) (xb_d D_Exact_add 15 rfl) rfl (fun hc1 => ?_) (fun hc1 => ?_)
    · have hw := hw.1 hc1
      exact am_Exact_add_L33 l hfl D A σ MC MS h0 Qr (w_Exact_add_L21 Qr n9) ih x0 x4 x5 x6 h hw p e s m args below meth c hC H locs ls k n hE (lv_sub hl [0, 1, 2, 3] rfl) hR hS (by omega) (by omega)
    · have hw := hw.2 hc1
      refine lv_iload hx hb (xb_d D_Exact_add 16 rfl) (lv_at hl 1 rfl) ?_
      refine lv_if_le (tgt := 89) hx hb (xb_d D_Exact_add 17 rfl) rfl (fun hc2 => ?_) (fun hc2 => ?_)
      · have hw := hw.1 hc2
        exact xb_vret 0 0 hx hb hr hlocks (show k + 0 ≤ MC by omega) (show n + 0 ≤ MS by omega) hE hR hS (xb_d D_Exact_add 52 rfl) hw
      · have hw := hw.2 hc2
        exact am_Exact_add_L33 l hfl D A σ MC MS h0 Qr (w_Exact_add_L21 Qr n9) ih x0 x4 x5 x6 h hw p e s m args below meth c hC H locs ls k n hE (lv_sub hl [0, 1, 2, 3] rfl) hR hS (by omega) (by omega)

set_option maxHeartbeats 4000000 in
set_option maxRecDepth 100000 in
theorem ok_Exact_add (l : Launch) (hfl : l.flags = pinnedFlags ++ [noTraceFlag]) (D : va_G) (A : Nat → Prop) (σ : Nat) (x0 : Nat) (x1 : Int64) (x3 : Int32) (h : xb_H) (Qr : xb_H → Prop) (hw : w_Exact_add x0 x1 x3 h Qr) : xb_Met l y_Exact_add [.code y_Exact_add b_Exact_add 9 none] (xb_rm 3 0 0) (xb_Pc D A σ h [.ref x0, .long x1, .int x3]) (xb_Qc D A h 0 0 (fun v h _ _ => v = none ∧ Qr h) (fun _ _ _ _ => False)) A := by
  refine xb_ofAm (cc := b_Exact_add) (by decide) (Nat.le_of_ble_eq_true rfl) ?_
  unfold w_Exact_add at hw
  show xb_am l D A σ 3 0 0 h (fun v h _ _ => v = none ∧ Qr h) (fun _ _ _ _ => False) y_Exact_add.cls y_Exact_add.name b_Exact_add 9 ([] : List ExceptionTableEntry) none 0 [(0, .ref x0), (1, .long x1), (3, .int x3)] [] h 0 0
  obtain ⟨MC, hMC⟩ : ∃ x, x = 0 := ⟨_, rfl⟩
  obtain ⟨MS, hMS⟩ : ∃ x, x = 0 := ⟨_, rfl⟩
  rw [show xb_am l D A σ 3 0 0 = xb_am l D A σ 3 MC MS by rw [hMC, hMS]]
  obtain ⟨h0, hh0⟩ : ∃ x, x = h := ⟨_, rfl⟩
  rw [show xb_am l D A σ 3 MC MS h = xb_am l D A σ 3 MC MS h0 by rw [hh0]]
  intro p e s m args below meth c hC H locs ls k n hE hl hR hS hk hn
  obtain ⟨hx, hb, hown, hlocks, htab, hml, hr, hB, hA, hnm⟩ := id hC
  have hts := hB.1.1.at args
  refine lv_iconst (v := 0) hx hb (xb_d D_Exact_add 0 rfl) (by decide) ?_
  refine lv_istore hx hb (xb_d D_Exact_add 1 rfl) hl (by decide) rfl (fun ls hl => ?_)
  have hl : lv_has ls 9 [(4, .int 0), (0, .ref x0), (1, .long x1), (3, .int x3)] := hl
  refine lv_sipush (v := 2200) hx hb (xb_d D_Exact_add 2 rfl) (by decide) ?_
  refine lv_iload_n hx hb (xb_d D_Exact_add 3 rfl) rfl (lv_at hl 3 rfl) ?_
  refine lv_iadd hx hb (xb_d D_Exact_add 4 rfl) ?_
  obtain ⟨v1, ev1⟩ : ∃ x : Int32, x = (2200 + x3) := ⟨_, rfl⟩
  have hw := hw v1 ev1
  refine xt_numi (y := v1) ev1.symm ?_
  refine lv_istore hx hb (xb_d D_Exact_add 5 rfl) hl (by decide) rfl (fun ls hl => ?_)
  have hl : lv_has ls 9 [(5, .int v1), (4, .int 0), (0, .ref x0), (1, .long x1), (3, .int x3)] := hl
  refine lv_lload_n hx hb (xb_d D_Exact_add 6 rfl) rfl (lv_at hl 3 rfl) ?_
  refine lv_lstore hx hb (xb_d D_Exact_add 7 rfl) hl (by decide) rfl (fun ls hl => ?_)
  have hl : lv_has ls 9 [(6, .long x1), (5, .int v1), (4, .int 0), (0, .ref x0), (1, .long x1), (3, .int x3)] := hl
  refine lv_aload_n hx hb (xb_d D_Exact_add 8 rfl) rfl (lv_at hl 3 rfl) ?_
  refine lv_iload hx hb (xb_d D_Exact_add 9 rfl) (lv_at hl 1 rfl) ?_
  refine lv_iload hx hb (xb_d D_Exact_add 10 rfl) (lv_at hl 1 rfl) ?_
  obtain ⟨hk2, hw⟩ := hw
  refine xb_call0 (D := D) (A := A) (σ := σ) (h := h) (d := 2) (maxL := 3) (rest := []) (av := [.ref x0, .int v1, .int v1]) (fun T hT X => by obtain ⟨cb9, ra9, rb9, rc9⟩ := xb_recv (ci := 9) hR rfl hk2 (by decide); exact xt_invV X hx hown (hts _ m_2cc3108f) (hts _ m_0a8e7a27) (hts _ m_e255a90f) (xt_sigOf (hts _ m_adf48eee)) nm_Exact_reach (by rw [hT]; exact ra9) rb9 rc9 (g := F0 m 18 ls [.int v1, .int v1, .ref x0]) rfl (argsL := [.int v1, .int v1]) (rest := []) rfl rfl (by rw [hb]; exact (xb_d D_Exact_add 11 rfl))) (ok_Exact_reach l hfl D A σ x0 v1 v1 h _ hw) (hml.trans hl.1.symm) (by rw [hb]; exact (xb_d D_Exact_add 11 rfl)) (Nat.le_of_ble_eq_true rfl) (Nat.le_of_ble_eq_true rfl) (Nat.le_of_ble_eq_true rfl) (show k ≤ MC by omega) (show n ≤ MS by omega) (xt_w1 hB.1 m_adf48eee) (xt_cdOf hB.1 m_adf48eee) (hts _ m_b807310b) hB hR hS hA (fun vv h3 H locs hq hEh3 hR hS => ?_)
  obtain ⟨rfl, hw⟩ := hq
  have hw := hw hEh3
  have hE := hE.tr hEh3
  refine W.eq (g2 := F0 m 21 ls []) rfl ?_
  obtain ⟨n8, hw⟩ := hw
  exact am_Exact_add_L21 l hfl D A σ MC MS h0 Qr n8 x0 0 v1 x1 h3 hw p e s m args below meth c hC H locs ls k n hE (lv_sub hl [3, 2, 1, 0] rfl) hR hS (by omega) (by omega)

