theorem m_6889d050 : (.fieldLink "StackHostModel" 46 "StackHostModel" "openKind" "[I" : Cond) ∈ xt_tbl := xt_in (xt_t9 (List.mem_of_getElem? (i := 163) (by decide +kernel))) (by decide +kernel)
theorem m_1024c20b : (.fieldLink "StackHostModel" 396 "StackHostModel" "open" "I" : Cond) ∈ xt_tbl := xt_in (xt_t9 (List.mem_of_getElem? (i := 168) (by decide +kernel))) (by decide +kernel)
theorem m_9d087e33 : (.fieldLink "StackHostModel" 49 "StackHostModel" "openLabel" "[I" : Cond) ∈ xt_tbl := xt_in (xt_t9 (List.mem_of_getElem? (i := 164) (by decide +kernel))) (by decide +kernel)
theorem m_b041879a : (.fieldLink "StackHostModel" 52 "StackHostModel" "openEnd" "[I" : Cond) ∈ xt_tbl := xt_in (xt_t9 (List.mem_of_getElem? (i := 165) (by decide +kernel))) (by decide +kernel)
theorem m_fe4642b7 : (.fieldLink "StackHostModel" 55 "StackHostModel" "openHeight" "[I" : Cond) ∈ xt_tbl := xt_in (xt_t9 (List.mem_of_getElem? (i := 166) (by decide +kernel))) (by decide +kernel)
theorem m_01d0a072 : (.fieldLink "StackHostModel" 390 "StackHostModel" "operandCount" "I" : Cond) ∈ xt_tbl := xt_in (xt_t9 (List.mem_of_getElem? (i := 161) (by decide +kernel))) (by decide +kernel)
theorem m_a58a86b4 : (.fieldLink "StackHostModel" 58 "StackHostModel" "openDead" "[Z" : Cond) ∈ xt_tbl := xt_in (xt_t9 (List.mem_of_getElem? (i := 167) (by decide +kernel))) (by decide +kernel)
set_option maxRecDepth 100000 in
def T_M_begin : List (Nat × Instr × Nat) := [(0, .aload_n 0, 1), (1, .getfield 46, 3), (4, .aload_n 0, 1), (5, .getfield 396, 3), (8, .iload_n 1, 1), (9, .iastore, 1), (10, .aload_n 0, 1), (11, .getfield 49, 3), (14, .aload_n 0, 1), (15, .getfield 396, 3), (18, .iload_n 2, 1), (19, .iastore, 1), (20, .aload_n 0, 1), (21, .getfield 52, 3), (24, .aload_n 0, 1), (25, .getfield 396, 3), (28, .iload_n 3, 1), (29, .iastore, 1), (30, .aload_n 0, 1), (31, .getfield 55, 3), (34, .aload_n 0, 1), (35, .getfield 396, 3), (38, .aload_n 0, 1), (39, .getfield 390, 3), (42, .iastore, 1), (43, .aload_n 0, 1), (44, .getfield 58, 3), (47, .aload_n 0, 1), (48, .getfield 396, 3), (51, .iconst 0, 1), (52, .bastore, 1), (53, .aload_n 0, 1), (54, .dup, 1), (55, .getfield 396, 3), (58, .iconst 1, 1), (59, .iadd, 1), (60, .putfield 396, 3), (63, .return_, 1)]
theorem D_M_begin : ∀ q ∈ T_M_begin, decode b_M_begin q.1 = .ok (q.2.1, q.2.2) := by decide +kernel

set_option maxHeartbeats 4000000 in
set_option maxRecDepth 100000 in
theorem ok_M_begin (l : Launch) (hfl : l.flags = pinnedFlags ++ [noTraceFlag]) (D : va_G) (A : Nat → Prop) (σ : Nat) (x0 : Nat) (x1 : Int32) (x2 : Int32) (x3 : Int32) (h : xb_H) (Qr : xb_H → Prop) (hw : w_M_begin x0 x1 x2 x3 h Qr) : xb_Met l y_M_begin [.code y_M_begin b_M_begin 4 none] (xb_rm 2 0 0) (xb_Pc D A σ h [.ref x0, .int x1, .int x2, .int x3]) (xb_Qc D A h 0 0 (fun v h _ _ => v = none ∧ Qr h) (fun _ _ _ _ => False)) A := by
  refine xb_ofAm (cc := b_M_begin) (by decide) (Nat.le_of_ble_eq_true rfl) ?_
  unfold w_M_begin at hw
  show xb_am l D A σ 2 0 0 h (fun v h _ _ => v = none ∧ Qr h) (fun _ _ _ _ => False) y_M_begin.cls y_M_begin.name b_M_begin 4 ([] : List ExceptionTableEntry) none 0 [(0, .ref x0), (1, .int x1), (2, .int x2), (3, .int x3)] [] h 0 0
  obtain ⟨MC, hMC⟩ : ∃ x, x = 0 := ⟨_, rfl⟩
  obtain ⟨MS, hMS⟩ : ∃ x, x = 0 := ⟨_, rfl⟩
  rw [show xb_am l D A σ 2 0 0 = xb_am l D A σ 2 MC MS by rw [hMC, hMS]]
  obtain ⟨h0, hh0⟩ : ∃ x, x = h := ⟨_, rfl⟩
  rw [show xb_am l D A σ 2 MC MS h = xb_am l D A σ 2 MC MS h0 by rw [hh0]]
  intro p e s m args below meth c hC H locs ls k n hE hl hR hS hk hn
  obtain ⟨hx, hb, hown, hlocks, htab, hml, hr, hB, hA, hnm⟩ := id hC
  have hts := hB.1.1.at args
  refine lv_aload_n hx hb (xb_d D_M_begin 0 rfl) rfl (lv_at hl 0 rfl) ?_
  obtain ⟨hk1, hw⟩ := hw
  refine xb_getP (C := R_M) (T := F_M) (N := 97) hx hb 8 24 hts fin_M hown hR hk1 (by decide) rfl (by decide) rfl (hts _ m_6889d050) (fun _ h9 => h9) (xb_d D_M_begin 1 rfl) ?_
  obtain ⟨b2, eb2, hw⟩ := hw
  refine xb_some eb2 ?_
  refine lv_aload_n hx hb (xb_d D_M_begin 2 rfl) rfl (lv_at hl 0 rfl) ?_
  refine xb_getI (C := R_M) (T := F_M) (N := 97) hx hb 8 29 hts fin_M hown hR hk1 (by decide) rfl (by decide) rfl (hts _ m_1024c20b) (fun _ h9 => h9) (xb_d D_M_begin 3 rfl) ?_
  refine lv_iload_n hx hb (xb_d D_M_begin 4 rfl) rfl (lv_at hl 1 rfl) ?_
  obtain ⟨hk3, hw⟩ := hw
  obtain ⟨hi4, hw⟩ := hw
  refine xb_iast hx hb hR hS hk3 hi4 (xb_d D_M_begin 5 rfl) (fun H locs hR hS => ?_)
  obtain ⟨h5, eh5⟩ : ∃ x : xb_H, x = xb_I h b2 (Int32.toNatClampNeg (xb_i h x0 29)) x1 := ⟨_, rfl⟩
  rw [← eh5] at hR
  have hw := hw h5 eh5
  have hE : xb_ext h0 h5 := by rw [eh5]; exact hE
  refine lv_aload_n hx hb (xb_d D_M_begin 6 rfl) rfl (lv_at hl 0 rfl) ?_
  have hk1 : xb_k h5 x0 = 9 := by rw [eh5]; exact hk1
  refine xb_getP (C := R_M) (T := F_M) (N := 97) hx hb 8 25 hts fin_M hown hR hk1 (by decide) rfl (by decide) rfl (hts _ m_9d087e33) (fun _ h9 => h9) (xb_d D_M_begin 7 rfl) ?_
  obtain ⟨b6, eb6, hw⟩ := hw
  refine xb_some eb6 ?_
  refine lv_aload_n hx hb (xb_d D_M_begin 8 rfl) rfl (lv_at hl 0 rfl) ?_
  refine xb_getI (C := R_M) (T := F_M) (N := 97) hx hb 8 29 hts fin_M hown hR hk1 (by decide) rfl (by decide) rfl (hts _ m_1024c20b) (fun _ h9 => h9) (xb_d D_M_begin 9 rfl) ?_
  refine lv_iload_n hx hb (xb_d D_M_begin 10 rfl) rfl (lv_at hl 2 rfl) ?_
  obtain ⟨hk7, hw⟩ := hw
  obtain ⟨hi8, hw⟩ := hw
  refine xb_iast hx hb hR hS hk7 hi8 (xb_d D_M_begin 11 rfl) (fun H locs hR hS => ?_)
  obtain ⟨h9, eh9⟩ : ∃ x : xb_H, x = xb_I h5 b6 (Int32.toNatClampNeg (xb_i h5 x0 29)) x2 := ⟨_, rfl⟩
  rw [← eh9] at hR
  have hw := hw h9 eh9
  have hE : xb_ext h0 h9 := by rw [eh9]; exact hE
  refine lv_aload_n hx hb (xb_d D_M_begin 12 rfl) rfl (lv_at hl 0 rfl) ?_
  have hk1 : xb_k h9 x0 = 9 := by rw [eh9]; exact hk1
  refine xb_getP (C := R_M) (T := F_M) (N := 97) hx hb 8 26 hts fin_M hown hR hk1 (by decide) rfl (by decide) rfl (hts _ m_b041879a) (fun _ h9 => h9) (xb_d D_M_begin 13 rfl) ?_
  obtain ⟨b10, eb10, hw⟩ := hw
  refine xb_some eb10 ?_
  refine lv_aload_n hx hb (xb_d D_M_begin 14 rfl) rfl (lv_at hl 0 rfl) ?_
  refine xb_getI (C := R_M) (T := F_M) (N := 97) hx hb 8 29 hts fin_M hown hR hk1 (by decide) rfl (by decide) rfl (hts _ m_1024c20b) (fun _ h9 => h9) (xb_d D_M_begin 15 rfl) ?_
  refine lv_iload_n hx hb (xb_d D_M_begin 16 rfl) rfl (lv_at hl 3 rfl) ?_
  obtain ⟨hk11, hw⟩ := hw
  obtain ⟨hi12, hw⟩ := hw
  refine xb_iast hx hb hR hS hk11 hi12 (xb_d D_M_begin 17 rfl) (fun H locs hR hS => ?_)
  obtain ⟨h13, eh13⟩ : ∃ x : xb_H, x = xb_I h9 b10 (Int32.toNatClampNeg (xb_i h9 x0 29)) x3 := ⟨_, rfl⟩
  rw [← eh13] at hR
  have hw := hw h13 eh13
  have hE : xb_ext h0 h13 := by rw [eh13]; exact hE
  refine lv_aload_n hx hb (xb_d D_M_begin 18 rfl) rfl (lv_at hl 0 rfl) ?_
  have hk1 : xb_k h13 x0 = 9 := by rw [eh13]; exact hk1
  refine xb_getP (C := R_M) (T := F_M) (N := 97) hx hb 8 27 hts fin_M hown hR hk1 (by decide) rfl (by decide) rfl (hts _ m_fe4642b7) (fun _ h9 => h9) (xb_d D_M_begin 19 rfl) ?_
  obtain ⟨b14, eb14, hw⟩ := hw
  refine xb_some eb14 ?_
  refine lv_aload_n hx hb (xb_d D_M_begin 20 rfl) rfl (lv_at hl 0 rfl) ?_
  refine xb_getI (C := R_M) (T := F_M) (N := 97) hx hb 8 29 hts fin_M hown hR hk1 (by decide) rfl (by decide) rfl (hts _ m_1024c20b) (fun _ h9 => h9) (xb_d D_M_begin 21 rfl) ?_
  refine lv_aload_n hx hb (xb_d D_M_begin 22 rfl) rfl (lv_at hl 0 rfl) ?_
  refine xb_getI (C := R_M) (T := F_M) (N := 97) hx hb 8 22 hts fin_M hown hR hk1 (by decide) rfl (by decide) rfl (hts _ m_01d0a072) (fun _ h9 => h9) (xb_d D_M_begin 23 rfl) ?_
  obtain ⟨hk15, hw⟩ := hw
  obtain ⟨hi16, hw⟩ := hw
  refine xb_iast hx hb hR hS hk15 hi16 (xb_d D_M_begin 24 rfl) (fun H locs hR hS => ?_)
  obtain ⟨h17, eh17⟩ : ∃ x : xb_H, x = xb_I h13 b14 (Int32.toNatClampNeg (xb_i h13 x0 29)) (xb_i h13 x0 22) := ⟨_, rfl⟩
  rw [← eh17] at hR
  have hw := hw h17 eh17
  have hE : xb_ext h0 h17 := by rw [eh17]; exact hE
  refine lv_aload_n hx hb (xb_d D_M_begin 25 rfl) rfl (lv_at hl 0 rfl) ?_
  have hk1 : xb_k h17 x0 = 9 := by rw [eh17]; exact hk1
  refine xb_getP (C := R_M) (T := F_M) (N := 97) hx hb 8 28 hts fin_M hown hR hk1 (by decide) rfl (by decide) rfl (hts _ m_a58a86b4) (fun _ h9 => h9) (xb_d D_M_begin 26 rfl) ?_
  obtain ⟨b18, eb18, hw⟩ := hw
  refine xb_some eb18 ?_
  refine lv_aload_n hx hb (xb_d D_M_begin 27 rfl) rfl (lv_at hl 0 rfl) ?_
  refine xb_getI (C := R_M) (T := F_M) (N := 97) hx hb 8 29 hts fin_M hown hR hk1 (by decide) rfl (by decide) rfl (hts _ m_1024c20b) (fun _ h9 => h9) (xb_d D_M_begin 28 rfl) ?_
  refine lv_iconst (v := 0) hx hb (xb_d D_M_begin 29 rfl) (by decide) ?_
  obtain ⟨hk19, hw⟩ := hw
  obtain ⟨hi20, hw⟩ := hw
  refine xb_zast hx hb hR hS hk19 hi20 (xb_d D_M_begin 30 rfl) (fun H locs hR hS => ?_)
  obtain ⟨h21, eh21⟩ : ∃ x : xb_H, x = xb_I h17 b18 (Int32.toNatClampNeg (xb_i h17 x0 29)) (vp_nar .boolean 0) := ⟨_, rfl⟩
  rw [← eh21] at hR
  have hw := hw h21 eh21
  have hE : xb_ext h0 h21 := by rw [eh21]; exact hE
  refine lv_aload_n hx hb (xb_d D_M_begin 31 rfl) rfl (lv_at hl 0 rfl) ?_
  refine lv_dup hx hb (xb_d D_M_begin 32 rfl) rfl ?_
  have hk1 : xb_k h21 x0 = 9 := by rw [eh21]; exact hk1
  refine xb_getI (C := R_M) (T := F_M) (N := 97) hx hb 8 29 hts fin_M hown hR hk1 (by decide) rfl (by decide) rfl (hts _ m_1024c20b) (fun _ h9 => h9) (xb_d D_M_begin 33 rfl) ?_
  refine lv_iconst (v := 1) hx hb (xb_d D_M_begin 34 rfl) (by decide) ?_
  refine lv_iadd hx hb (xb_d D_M_begin 35 rfl) ?_
  refine xb_putI (C := R_M) (T := F_M) (N := 97) (ty := .int) (x := ((xb_i h21 x0 29) + 1)) hx hb 8 29 hts fin_M t_M t_M_ok n_M hown hR hS hk1 (by decide) rfl (by decide) rfl (hts _ m_1024c20b) (fun _ h9 => h9) rfl (by decide +kernel) rfl rfl (xb_d D_M_begin 36 rfl) (fun H locs hR hS => ?_)
  obtain ⟨h22, eh22⟩ : ∃ x : xb_H, x = xb_I h21 x0 29 ((xb_i h21 x0 29) + 1) := ⟨_, rfl⟩
  rw [← eh22] at hR
  have hw := hw h22 eh22
  have hE : xb_ext h0 h22 := by rw [eh22]; exact hE
  exact xb_vret 0 0 hx hb hr hlocks (show k + 0 ≤ MC by omega) (show n + 0 ≤ MS by omega) hE hR hS (xb_d D_M_begin 37 rfl) hw

set_option maxRecDepth 100000 in
def T_M_behindLead : List (Nat × Instr × Nat) := [(0, .iload_n 0, 1), (1, .sipush 128, 3), (4, .if_icmp .ge 7, 3), (7, .iconst 0, 1), (8, .goto 58, 3), (11, .iload_n 0, 1), (12, .sipush 194, 3), (15, .if_icmp .lt 14, 3), (18, .iload_n 0, 1), (19, .sipush 224, 3), (22, .if_icmp .ge 7, 3), (25, .iconst 1, 1), (26, .goto 40, 3), (29, .iload_n 0, 1), (30, .sipush 224, 3), (33, .if_icmp .lt 14, 3), (36, .iload_n 0, 1), (37, .sipush 240, 3), (40, .if_icmp .ge 7, 3), (43, .iconst 2, 1), (44, .goto 22, 3), (47, .iload_n 0, 1), (48, .sipush 240, 3), (51, .if_icmp .lt 14, 3), (54, .iload_n 0, 1), (55, .sipush 245, 3), (58, .if_icmp .ge 7, 3), (61, .iconst 3, 1), (62, .goto 4, 3), (65, .iconst (-1), 1), (66, .ireturn, 1)]
theorem D_M_behindLead : ∀ q ∈ T_M_behindLead, decode b_M_behindLead q.1 = .ok (q.2.1, q.2.2) := by decide +kernel

set_option maxHeartbeats 4000000 in
set_option maxRecDepth 100000 in
theorem am_M_behindLead_L66 (l : Launch) (hfl : l.flags = pinnedFlags ++ [noTraceFlag]) (D : va_G) (A : Nat → Prop) (σ MC MS : Nat) (h0 : xb_H) (Qr : Int32 → xb_H → Prop) (y0 : Int32) (h : xb_H) (hw : w_M_behindLead_L66 Qr y0 h) : xb_am l D A σ 2 MC MS h0 (fun v h _ _ => ∃ r, v = some (.int r) ∧ Qr r h) (fun _ _ _ _ => False) y_M_behindLead.cls y_M_behindLead.name b_M_behindLead 1 ([] : List ExceptionTableEntry) (some .int) 66 [] [.int y0] h 0 0 := by
  unfold w_M_behindLead_L66 at hw
  intro p e s m args below meth c hC H locs ls k n hE hl hR hS hk hn
  obtain ⟨hx, hb, hown, hlocks, htab, hml, hr, hB, hA, hnm⟩ := id hC
  have hts := hB.1.1.at args
  exact xb_iret 0 0 hx hb hr hlocks (show k + 0 ≤ MC by omega) (show n + 0 ≤ MS by omega) hE hR hS (xb_d D_M_behindLead 30 rfl) hw

set_option maxHeartbeats 4000000 in
set_option maxRecDepth 100000 in
theorem am_M_behindLead_L65 (l : Launch) (hfl : l.flags = pinnedFlags ++ [noTraceFlag]) (D : va_G) (A : Nat → Prop) (σ MC MS : Nat) (h0 : xb_H) (Qr : Int32 → xb_H → Prop) (h : xb_H) (hw : w_M_behindLead_L65 Qr h) : xb_am l D A σ 2 MC MS h0 (fun v h _ _ => ∃ r, v = some (.int r) ∧ Qr r h) (fun _ _ _ _ => False) y_M_behindLead.cls y_M_behindLead.name b_M_behindLead 1 ([] : List ExceptionTableEntry) (some .int) 65 [] [] h 0 0 := by
  unfold w_M_behindLead_L65 at hw
  intro p e s m args below meth c hC H locs ls k n hE hl hR hS hk hn
  obtain ⟨hx, hb, hown, hlocks, htab, hml, hr, hB, hA, hnm⟩ := id hC
  have hts := hB.1.1.at args
  refine lv_iconst (v := (-1)) hx hb (xb_d D_M_behindLead 29 rfl) (by decide) ?_
  exact am_M_behindLead_L66 l hfl D A σ MC MS h0 Qr (-1) h hw p e s m args below meth c hC H locs ls k n hE (lv_sub hl [] rfl) hR hS (by omega) (by omega)

set_option maxHeartbeats 4000000 in
set_option maxRecDepth 100000 in
theorem am_M_behindLead_L47 (l : Launch) (hfl : l.flags = pinnedFlags ++ [noTraceFlag]) (D : va_G) (A : Nat → Prop) (σ MC MS : Nat) (h0 : xb_H) (Qr : Int32 → xb_H → Prop) (x0 : Int32) (h : xb_H) (hw : w_M_behindLead_L47 Qr x0 h) : xb_am l D A σ 2 MC MS h0 (fun v h _ _ => ∃ r, v = some (.int r) ∧ Qr r h) (fun _ _ _ _ => False) y_M_behindLead.cls y_M_behindLead.name b_M_behindLead 1 ([] : List ExceptionTableEntry) (some .int) 47 [(0, .int x0)] [] h 0 0 := by
  unfold w_M_behindLead_L47 at hw
  intro p e s m args below meth c hC H locs ls k n hE hl hR hS hk hn
  obtain ⟨hx, hb, hown, hlocks, htab, hml, hr, hB, hA, hnm⟩ := id hC
  have hts := hB.1.1.at args
  refine lv_iload_n hx hb (xb_d D_M_behindLead 21 rfl) rfl (lv_at hl 0 rfl) ?_
  refine lv_sipush (v := 240) hx hb (xb_d D_M_behindLead 22 rfl) (by decide) ?_
  refine lv_icmp_lt (tgt := 65) hx hb (xb_d D_M_behindLead 23 rfl) rfl (fun hc1 => ?_) (fun hc1 => ?_)
  · have hw := hw.1 hc1
    exact am_M_behindLead_L65 l hfl D A σ MC MS h0 Qr h hw p e s m args below meth c hC H locs ls k n hE (lv_sub hl [] rfl) hR hS (by omega) (by omega)
  · have hw := hw.2 hc1
    refine lv_iload_n hx hb (xb_d D_M_behindLead 24 rfl) rfl (lv_at hl 0 rfl) ?_
    refine lv_sipush (v := 245) hx hb (xb_d D_M_behindLead 25 rfl) (by decide) ?_
    refine lv_icmp_ge (tgt := 65) hx hb (xb_d D_M_behindLead 26 rfl) rfl (fun hc2 => ?_) (fun hc2 => ?_)
    · have hw := hw.1 hc2
      exact am_M_behindLead_L65 l hfl D A σ MC MS h0 Qr h hw p e s m args below meth c hC H locs ls k n hE (lv_sub hl [] rfl) hR hS (by omega) (by omega)
    · have hw := hw.2 hc2
      refine lv_iconst (v := 3) hx hb (xb_d D_M_behindLead 27 rfl) (by decide) ?_
      refine lv_goto (tgt := 66) hx hb (xb_d D_M_behindLead 28 rfl) rfl ?_
      exact am_M_behindLead_L66 l hfl D A σ MC MS h0 Qr 3 h hw p e s m args below meth c hC H locs ls k n hE (lv_sub hl [] rfl) hR hS (by omega) (by omega)

set_option maxHeartbeats 4000000 in
set_option maxRecDepth 100000 in
theorem am_M_behindLead_L29 (l : Launch) (hfl : l.flags = pinnedFlags ++ [noTraceFlag]) (D : va_G) (A : Nat → Prop) (σ MC MS : Nat) (h0 : xb_H) (Qr : Int32 → xb_H → Prop) (x0 : Int32) (h : xb_H) (hw : w_M_behindLead_L29 Qr x0 h) : xb_am l D A σ 2 MC MS h0 (fun v h _ _ => ∃ r, v = some (.int r) ∧ Qr r h) (fun _ _ _ _ => False) y_M_behindLead.cls y_M_behindLead.name b_M_behindLead 1 ([] : List ExceptionTableEntry) (some .int) 29 [(0, .int x0)] [] h 0 0 := by
  unfold w_M_behindLead_L29 at hw
  intro p e s m args below meth c hC H locs ls k n hE hl hR hS hk hn
  obtain ⟨hx, hb, hown, hlocks, htab, hml, hr, hB, hA, hnm⟩ := id hC
  have hts := hB.1.1.at args
  refine lv_iload_n hx hb (xb_d D_M_behindLead 13 rfl) rfl (lv_at hl 0 rfl) ?_
  refine lv_sipush (v := 224) hx hb (xb_d D_M_behindLead 14 rfl) (by decide) ?_
  refine lv_icmp_lt (tgt := 47) hx hb (xb_d D_M_behindLead 15 rfl) rfl (fun hc1 => ?_) (fun hc1 => ?_)
  · have hw := hw.1 hc1
    exact am_M_behindLead_L47 l hfl D A σ MC MS h0 Qr x0 h hw p e s m args below meth c hC H locs ls k n hE (lv_sub hl [0] rfl) hR hS (by omega) (by omega)
  · have hw := hw.2 hc1
    refine lv_iload_n hx hb (xb_d D_M_behindLead 16 rfl) rfl (lv_at hl 0 rfl) ?_
    refine lv_sipush (v := 240) hx hb (xb_d D_M_behindLead 17 rfl) (by decide) ?_
    refine lv_icmp_ge (tgt := 47) hx hb (xb_d D_M_behindLead 18 rfl) rfl (fun hc2 => ?_) (fun hc2 => ?_)
    · have hw := hw.1 hc2
      exact am_M_behindLead_L47 l hfl D A σ MC MS h0 Qr x0 h hw p e s m args below meth c hC H locs ls k n hE (lv_sub hl [0] rfl) hR hS (by omega) (by omega)
    · have hw := hw.2 hc2
      refine lv_iconst (v := 2) hx hb (xb_d D_M_behindLead 19 rfl) (by decide) ?_
      refine lv_goto (tgt := 66) hx hb (xb_d D_M_behindLead 20 rfl) rfl ?_
      exact am_M_behindLead_L66 l hfl D A σ MC MS h0 Qr 2 h hw p e s m args below meth c hC H locs ls k n hE (lv_sub hl [] rfl) hR hS (by omega) (by omega)

set_option maxHeartbeats 4000000 in
set_option maxRecDepth 100000 in
theorem ok_M_behindLead (l : Launch) (hfl : l.flags = pinnedFlags ++ [noTraceFlag]) (D : va_G) (A : Nat → Prop) (σ : Nat) (x0 : Int32) (h : xb_H) (Qr : Int32 → xb_H → Prop) (hw : w_M_behindLead x0 h Qr) : xb_Met l y_M_behindLead [.code y_M_behindLead b_M_behindLead 1 (some .int)] (xb_rm 2 0 0) (xb_Pc D A σ h [.int x0]) (xb_Qc D A h 0 0 (fun v h _ _ => ∃ r, v = some (.int r) ∧ Qr r h) (fun _ _ _ _ => False)) A := by
  refine xb_ofAm (cc := b_M_behindLead) (by decide) (Nat.le_of_ble_eq_true rfl) ?_
  unfold w_M_behindLead at hw
  show xb_am l D A σ 2 0 0 h (fun v h _ _ => ∃ r, v = some (.int r) ∧ Qr r h) (fun _ _ _ _ => False) y_M_behindLead.cls y_M_behindLead.name b_M_behindLead 1 ([] : List ExceptionTableEntry) (some .int) 0 [(0, .int x0)] [] h 0 0
  obtain ⟨MC, hMC⟩ : ∃ x, x = 0 := ⟨_, rfl⟩
  obtain ⟨MS, hMS⟩ : ∃ x, x = 0 := ⟨_, rfl⟩
  rw [show xb_am l D A σ 2 0 0 = xb_am l D A σ 2 MC MS by rw [hMC, hMS]]
  obtain ⟨h0, hh0⟩ : ∃ x, x = h := ⟨_, rfl⟩
  rw [show xb_am l D A σ 2 MC MS h = xb_am l D A σ 2 MC MS h0 by rw [hh0]]
  intro p e s m args below meth c hC H locs ls k n hE hl hR hS hk hn
  obtain ⟨hx, hb, hown, hlocks, htab, hml, hr, hB, hA, hnm⟩ := id hC
  have hts := hB.1.1.at args
  refine lv_iload_n hx hb (xb_d D_M_behindLead 0 rfl) rfl (lv_at hl 0 rfl) ?_
  refine lv_sipush (v := 128) hx hb (xb_d D_M_behindLead 1 rfl) (by decide) ?_
  refine lv_icmp_ge (tgt := 11) hx hb (xb_d D_M_behindLead 2 rfl) rfl (fun hc1 => ?_) (fun hc1 => ?_)
  · have hw := hw.1 hc1
    refine lv_iload_n hx hb (xb_d D_M_behindLead 5 rfl) rfl (lv_at hl 0 rfl) ?_
    refine lv_sipush (v := 194) hx hb (xb_d D_M_behindLead 6 rfl) (by decide) ?_
    refine lv_icmp_lt (tgt := 29) hx hb (xb_d D_M_behindLead 7 rfl) rfl (fun hc2 => ?_) (fun hc2 => ?_)
    · have hw := hw.1 hc2
      exact am_M_behindLead_L29 l hfl D A σ MC MS h0 Qr x0 h hw p e s m args below meth c hC H locs ls k n hE (lv_sub hl [0] rfl) hR hS (by omega) (by omega)
    · have hw := hw.2 hc2
      refine lv_iload_n hx hb (xb_d D_M_behindLead 8 rfl) rfl (lv_at hl 0 rfl) ?_
      refine lv_sipush (v := 224) hx hb (xb_d D_M_behindLead 9 rfl) (by decide) ?_
      refine lv_icmp_ge (tgt := 29) hx hb (xb_d D_M_behindLead 10 rfl) rfl (fun hc3 => ?_) (fun hc3 => ?_)
      · have hw := hw.1 hc3
        exact am_M_behindLead_L29 l hfl D A σ MC MS h0 Qr x0 h hw p e s m args below meth c hC H locs ls k n hE (lv_sub hl [0] rfl) hR hS (by omega) (by omega)
      · have hw := hw.2 hc3
        refine lv_iconst (v := 1) hx hb (xb_d D_M_behindLead 11 rfl) (by decide) ?_
        refine lv_goto (tgt := 66) hx hb (xb_d D_M_behindLead 12 rfl) rfl ?_
        exact am_M_behindLead_L66 l hfl D A σ MC MS h0 Qr 1 h hw p e s m args below meth c hC H locs ls k n hE (lv_sub hl [] rfl) hR hS (by omega) (by omega)
  · have hw := hw.2 hc1
    refine lv_iconst (v := 0) hx hb (xb_d D_M_behindLead 3 rfl) (by decide) ?_
    refine lv_goto (tgt := 66) hx hb (xb_d D_M_behindLead 4 rfl) rfl ?_
    exact am_M_behindLead_L66 l hfl D A σ MC MS h0 Qr 0 h hw p e s m args below meth c hC H locs ls k n hE (lv_sub hl [] rfl) hR hS (by omega) (by omega)

theorem m_afabd6a0 : (.fieldLink "StackHostModel" 189 "StackHostModel" "thrown" "I" : Cond) ∈ xt_tbl := xt_in (xt_t9 (List.mem_of_getElem? (i := 139) (by decide +kernel))) (by decide +kernel)
theorem m_71a5ca12 : (.fieldLink "StackHostModel" 539 "StackHostModel" "underWay" "Z" : Cond) ∈ xt_tbl := xt_in (xt_t9 (List.mem_of_getElem? (i := 201) (by decide +kernel))) (by decide +kernel)
theorem m_f4296656 : (.fieldLink "StackHostModel" 586 "StackHostModel" "begun" "Z" : Cond) ∈ xt_tbl := xt_in (xt_t9 (List.mem_of_getElem? (i := 202) (by decide +kernel))) (by decide +kernel)
theorem m_11712ae1 : (.fieldLink "StackHostModel" 616 "StackHostModel" "calls" "I" : Cond) ∈ xt_tbl := xt_in (xt_t9 (List.mem_of_getElem? (i := 207) (by decide +kernel))) (by decide +kernel)
set_option maxRecDepth 100000 in
def T_M_calls : List (Nat × Instr × Nat) := [(0, .aload_n 0, 1), (1, .iconst 0, 1), (2, .putfield 189, 3), (5, .aload_n 0, 1), (6, .getfield 539, 3), (9, .ifCond .eq 17, 3), (12, .aload_n 0, 1), (13, .getfield 586, 3), (16, .ifCond .eq 10, 3), (19, .aload_n 0, 1), (20, .getfield 616, 3), (23, .goto 4, 3), (26, .iconst 0, 1), (27, .ireturn, 1)]
theorem D_M_calls : ∀ q ∈ T_M_calls, decode b_M_calls q.1 = .ok (q.2.1, q.2.2) := by decide +kernel

set_option maxHeartbeats 4000000 in
set_option maxRecDepth 100000 in
theorem am_M_calls_L27 (l : Launch) (hfl : l.flags = pinnedFlags ++ [noTraceFlag]) (D : va_G) (A : Nat → Prop) (σ MC MS : Nat) (h0 : xb_H) (Qr : Int32 → xb_H → Prop) (y0 : Int32) (h : xb_H) (hw : w_M_calls_L27 Qr y0 h) : xb_am l D A σ 2 MC MS h0 (fun v h _ _ => ∃ r, v = some (.int r) ∧ Qr r h) (fun _ _ _ _ => False) y_M_calls.cls y_M_calls.name b_M_calls 1 ([] : List ExceptionTableEntry) (some .int) 27 [] [.int y0] h 0 0 := by
  unfold w_M_calls_L27 at hw
  intro p e s m args below meth c hC H locs ls k n hE hl hR hS hk hn
  obtain ⟨hx, hb, hown, hlocks, htab, hml, hr, hB, hA, hnm⟩ := id hC
  have hts := hB.1.1.at args
  exact xb_iret 0 0 hx hb hr hlocks (show k + 0 ≤ MC by omega) (show n + 0 ≤ MS by omega) hE hR hS (xb_d D_M_calls 13 rfl) hw

set_option maxHeartbeats 4000000 in
set_option maxRecDepth 100000 in
theorem am_M_calls_L26 (l : Launch) (hfl : l.flags = pinnedFlags ++ [noTraceFlag]) (D : va_G) (A : Nat → Prop) (σ MC MS : Nat) (h0 : xb_H) (Qr : Int32 → xb_H → Prop) (h : xb_H) (hw : w_M_calls_L26 Qr h) : xb_am l D A σ 2 MC MS h0 (fun v h _ _ => ∃ r, v = some (.int r) ∧ Qr r h) (fun _ _ _ _ => False) y_M_calls.cls y_M_calls.name b_M_calls 1 ([] : List ExceptionTableEntry) (some .int) 26 [] [] h 0 0 := by
  unfold w_M_calls_L26 at hw
  intro p e s m args below meth c hC H locs ls k n hE hl hR hS hk hn
  obtain ⟨hx, hb, hown, hlocks, htab, hml, hr, hB, hA, hnm⟩ := id hC
  have hts := hB.1.1.at args
  refine lv_iconst (v := 0) hx hb (xb_d D_M_calls 12 rfl) (by decide) ?_
  exact am_M_calls_L27 l hfl D A σ MC MS h0 Qr 0 h hw p e s m args below meth c hC H locs ls k n hE (lv_sub hl [] rfl) hR hS (by omega) (by omega)

set_option maxHeartbeats 4000000 in
set_option maxRecDepth 100000 in
theorem ok_M_calls (l : Launch) (hfl : l.flags = pinnedFlags ++ [noTraceFlag]) (D : va_G) (A : Nat → Prop) (σ : Nat) (x0 : Nat) (h : xb_H) (Qr : Int32 → xb_H → Prop) (hw : w_M_calls x0 h Qr) : xb_Met l y_M_calls [.code y_M_calls b_M_calls 1 (some .int)] (xb_rm 2 0 0) (xb_Pc D A σ h [.ref x0]) (xb_Qc D A h 0 0 (fun v h _ _ => ∃ r, v = some (.int r) ∧ Qr r h) (fun _ _ _ _ => False)) A := by
  refine xb_ofAm (cc := b_M_calls) (by decide) (Nat.le_of_ble_eq_true rfl) ?_
  unfold w_M_calls at hw
  show xb_am l D A σ 2 0 0 h (fun v h _ _ => ∃ r, v = some (.int r) ∧ Qr r h) (fun _ _ _ _ => False) y_M_calls.cls y_M_calls.name b_M_calls 1 ([] : List ExceptionTableEntry) (some .int) 0 [(0, .ref x0)] [] h 0 0
  obtain ⟨MC, hMC⟩ : ∃ x, x = 0 := ⟨_, rfl⟩
  obtain ⟨MS, hMS⟩ : ∃ x, x = 0 := ⟨_, rfl⟩
  rw [show xb_am l D A σ 2 0 0 = xb_am l D A σ 2 MC MS by rw [hMC, hMS]]
  obtain ⟨h0, hh0⟩ : ∃ x, x = h := ⟨_, rfl⟩
  rw [show xb_am l D A σ 2 MC MS h = xb_am l D A σ 2 MC MS h0 by rw [hh0]]
  intro p e s m args below meth c hC H locs ls k n hE hl hR hS hk hn
  obtain ⟨hx, hb, hown, hlocks, htab, hml, hr, hB, hA, hnm⟩ := id hC
  have hts := hB.1.1.at args
  refine lv_aload_n hx hb (xb_d D_M_calls 0 rfl) rfl (lv_at hl 0 rfl) ?_
  refine lv_iconst (v := 0) hx hb (xb_d D_M_calls 1 rfl) (by decide) ?_
  obtain ⟨hk1, hw⟩ := hw
  refine xb_putI (C := R_M) (T := F_M) (N := 97) (ty := .int) (x := 0) hx hb 8 0 hts fin_M t_M t_M_ok n_M hown hR hS hk1 (by decide) rfl (by decide) rfl (hts _ m_afabd6a0) (fun _ h9 => h9) rfl (by decide +kernel) rfl rfl (xb_d D_M_calls 2 rfl) (fun H locs hR hS => ?_)
  obtain ⟨h2, eh2⟩ : ∃ x : xb_H, x = xb_I h x0 0 0 := ⟨_, rfl⟩
  rw [← eh2] at hR
  have hw := hw h2 eh2
  have hE : xb_ext h0 h2 := by rw [eh2]; exact hE
  refine lv_aload_n hx hb (xb_d D_M_calls 3 rfl) rfl (lv_at hl 0 rfl) ?_
  have hk1 : xb_k h2 x0 = 9 := by rw [eh2]; exact hk1
  refine xb_getI (C := R_M) (T := F_M) (N := 97) hx hb 8 62 hts fin_M hown hR hk1 (by decide) rfl (by decide) rfl (hts _ m_71a5ca12) (fun _ h9 => h9) (xb_d D_M_calls 4 rfl) ?_
  refine lv_if_eq (tgt := 26) hx hb (xb_d D_M_calls 5 rfl) rfl (fun hc3 => ?_) (fun hc3 => ?_)
  · have hw := hw.1 hc3
    exact am_M_calls_L26 l hfl D A σ MC MS h0 Qr h2 hw p e s m args below meth c hC H locs ls k n hE (lv_sub hl [] rfl) hR hS (by omega) (by omega)
  · have hw := hw.2 hc3
    refine lv_aload_n hx hb (xb_d D_M_calls 6 rfl) rfl (lv_at hl 0 rfl) ?_
    refine xb_getI (C := R_M) (T := F_M) (N := 97) hx hb 8 63 hts fin_M hown hR hk1 (by decide) rfl (by decide) rfl (hts _ m_f4296656) (fun _ h9 => h9) (xb_d D_M_calls 7 rfl) ?_
    refine lv_if_eq (tgt := 26) hx hb (xb_d D_M_calls 8 rfl) rfl (fun hc4 => ?_) (fun hc4 => ?_)
    · have hw := hw.1 hc4
      exact am_M_calls_L26 l hfl D A σ MC MS h0 Qr h2 hw p e s m args below meth c hC H locs ls k n hE (lv_sub hl [] rfl) hR hS (by omega) (by omega)
    · have hw := hw.2 hc4
      refine lv_aload_n hx hb (xb_d D_M_calls 9 rfl) rfl (lv_at hl 0 rfl) ?_
      refine xb_getI (C := R_M) (T := F_M) (N := 97) hx hb 8 68 hts fin_M hown hR hk1 (by decide) rfl (by decide) rfl (hts _ m_11712ae1) (fun _ h9 => h9) (xb_d D_M_calls 10 rfl) ?_
      refine lv_goto (tgt := 27) hx hb (xb_d D_M_calls 11 rfl) rfl ?_
      exact am_M_calls_L27 l hfl D A σ MC MS h0 Qr (xb_i h2 x0 68) h2 hw p e s m args below meth c hC H locs ls k n hE (lv_sub hl [] rfl) hR hS (by omega) (by omega)

theorem m_e2832a78 : (.fieldLink "StackHostModel" 622 "StackHostModel" "outs" "I" : Cond) ∈ xt_tbl := xt_in (xt_t9 (List.mem_of_getElem? (i := 226) (by decide +kernel))) (by decide +kernel)
set_option maxRecDepth 100000 in
def T_M_clear : List (Nat × Instr × Nat) := [(0, .aload_n 0, 1), (1, .iconst 0, 1), (2, .putfield 189, 3), (5, .aload_n 0, 1), (6, .getfield 622, 3), (9, .istore_n 1, 1), (10, .aload_n 0, 1), (11, .iconst 0, 1), (12, .putfield 622, 3), (15, .iload_n 1, 1), (16, .ireturn, 1)]
theorem D_M_clear : ∀ q ∈ T_M_clear, decode b_M_clear q.1 = .ok (q.2.1, q.2.2) := by decide +kernel

set_option maxHeartbeats 4000000 in
set_option maxRecDepth 100000 in
theorem ok_M_clear (l : Launch) (hfl : l.flags = pinnedFlags ++ [noTraceFlag]) (D : va_G) (A : Nat → Prop) (σ : Nat) (x0 : Nat) (h : xb_H) (Qr : Int32 → xb_H → Prop) (hw : w_M_clear x0 h Qr) : xb_Met l y_M_clear [.code y_M_clear b_M_clear 2 (some .int)] (xb_rm 2 0 0) (xb_Pc D A σ h [.ref x0]) (xb_Qc D A h 0 0 (fun v h _ _ => ∃ r, v = some (.int r) ∧ Qr r h) (fun _ _ _ _ => False)) A := by
  refine xb_ofAm (cc := b_M_clear) (by decide) (Nat.le_of_ble_eq_true rfl) ?_
  unfold w_M_clear at hw
  show xb_am l D A σ 2 0 0 h (fun v h _ _ => ∃ r, v = some (.int r) ∧ Qr r h) (fun _ _ _ _ => False) y_M_clear.cls y_M_clear.name b_M_clear 2 ([] : List ExceptionTableEntry) (some .int) 0 [(0, .ref x0)] [] h 0 0
  obtain ⟨MC, hMC⟩ : ∃ x, x = 0 := ⟨_, rfl⟩
  obtain ⟨MS, hMS⟩ : ∃ x, x = 0 := ⟨_, rfl⟩
  rw [show xb_am l D A σ 2 0 0 = xb_am l D A σ 2 MC MS by rw [hMC, hMS]]
  obtain ⟨h0, hh0⟩ : ∃ x, x = h := ⟨_, rfl⟩
  rw [show xb_am l D A σ 2 MC MS h = xb_am l D A σ 2 MC MS h0 by rw [hh0]]
  intro p e s m args below meth c hC H locs ls k n hE hl hR hS hk hn
  obtain ⟨hx, hb, hown, hlocks, htab, hml, hr, hB, hA, hnm⟩ := id hC
  have hts := hB.1.1.at args
  refine lv_aload_n hx hb (xb_d D_M_clear 0 rfl) rfl (lv_at hl 0 rfl) ?_
  refine lv_iconst (v := 0) hx hb (xb_d D_M_clear 1 rfl) (by decide) ?_
  obtain ⟨hk1, hw⟩ := hw
  refine xb_putI (C := R_M) (T := F_M) (N := 97) (ty := .int) (x := 0) hx hb 8 0 hts fin_M t_M t_M_ok n_M hown hR hS hk1 (by decide) rfl (by decide) rfl (hts _ m_afabd6a0) (fun _ h9 => h9) rfl (by decide +kernel) rfl rfl (xb_d D_M_clear 2 rfl) (fun H locs hR hS => ?_)
  obtain ⟨h2, eh2⟩ : ∃ x : xb_H, x = xb_I h x0 0 0 := ⟨_, rfl⟩
  rw [← eh2] at hR
  have hw := hw h2 eh2
  have hE : xb_ext h0 h2 := by rw [eh2]; exact hE
  refine lv_aload_n hx hb (xb_d D_M_clear 3 rfl) rfl (lv_at hl 0 rfl) ?_
  have hk1 : xb_k h2 x0 = 9 := by rw [eh2]; exact hk1
  refine xb_getI (C := R_M) (T := F_M) (N := 97) hx hb 8 88 hts fin_M hown hR hk1 (by decide) rfl (by decide) rfl (hts _ m_e2832a78) (fun _ h9 => h9) (xb_d D_M_clear 4 rfl) ?_
  obtain ⟨v3, ev3⟩ : ∃ x : Int32, x = (xb_i h2 x0 88) := ⟨_, rfl⟩
  have hw := hw v3 ev3
  refine xt_numi (y := v3) ev3.symm ?_
  refine lv_istore_n hx hb (xb_d D_M_clear 5 rfl) rfl hl (by decide) rfl (fun ls hl => ?_)
  have hl : lv_has ls 2 [(1, .int v3), (0, .ref x0)] := hl
  refine lv_aload_n hx hb (xb_d D_M_clear 6 rfl) rfl (lv_at hl 1 rfl) ?_
  refine lv_iconst (v := 0) hx hb (xb_d D_M_clear 7 rfl) (by decide) ?_
  refine xb_putI (C := R_M) (T := F_M) (N := 97) (ty := .int) (x := 0) hx hb 8 88 hts fin_M t_M t_M_ok n_M hown hR hS hk1 (by decide) rfl (by decide) rfl (hts _ m_e2832a78) (fun _ h9 => h9) rfl (by decide +kernel) rfl rfl (xb_d D_M_clear 8 rfl) (fun H locs hR hS => ?_)
  obtain ⟨h4, eh4⟩ : ∃ x : xb_H, x = xb_I h2 x0 88 0 := ⟨_, rfl⟩
  rw [← eh4] at hR
  have hw := hw h4 eh4
  have hE : xb_ext h0 h4 := by rw [eh4]; exact hE
  refine lv_iload_n hx hb (xb_d D_M_clear 9 rfl) rfl (lv_at hl 0 rfl) ?_
  exact xb_iret 0 0 hx hb hr hlocks (show k + 0 ≤ MC by omega) (show n + 0 ≤ MS by omega) hE hR hS (xb_d D_M_clear 10 rfl) hw

set_option maxRecDepth 100000 in
def T_M_dead : List (Nat × Instr × Nat) := [(0, .aload_n 0, 1), (1, .aload_n 0, 1), (2, .getfield 55, 3), (5, .aload_n 0, 1), (6, .getfield 396, 3), (9, .iconst 1, 1), (10, .isub, 1), (11, .iaload, 1), (12, .putfield 390, 3), (15, .aload_n 0, 1), (16, .getfield 58, 3), (19, .aload_n 0, 1), (20, .getfield 396, 3), (23, .iconst 1, 1), (24, .isub, 1), (25, .iconst 1, 1), (26, .bastore, 1), (27, .return_, 1)]
theorem D_M_dead : ∀ q ∈ T_M_dead, decode b_M_dead q.1 = .ok (q.2.1, q.2.2) := by decide +kernel

set_option maxHeartbeats 4000000 in
set_option maxRecDepth 100000 in
theorem ok_M_dead (l : Launch) (hfl : l.flags = pinnedFlags ++ [noTraceFlag]) (D : va_G) (A : Nat → Prop) (σ : Nat) (x0 : Nat) (h : xb_H) (Qr : xb_H → Prop) (hw : w_M_dead x0 h Qr) : xb_Met l y_M_dead [.code y_M_dead b_M_dead 1 none] (xb_rm 2 0 0) (xb_Pc D A σ h [.ref x0]) (xb_Qc D A h 0 0 (fun v h _ _ => v = none ∧ Qr h) (fun _ _ _ _ => False)) A := by
  refine xb_ofAm (cc := b_M_dead) (by decide) (Nat.le_of_ble_eq_true rfl) ?_
  unfold w_M_dead at hw
  show xb_am l D A σ 2 0 0 h (fun v h _ _ => v = none ∧ Qr h) (fun _ _ _ _ => False) y_M_dead.cls y_M_dead.name b_M_dead 1 ([] : List ExceptionTableEntry) none 0 [(0, .ref x0)] [] h 0 0
  obtain ⟨MC, hMC⟩ : ∃ x, x = 0 := ⟨_, rfl⟩
  obtain ⟨MS, hMS⟩ : ∃ x, x = 0 := ⟨_, rfl⟩
  rw [show xb_am l D A σ 2 0 0 = xb_am l D A σ 2 MC MS by rw [hMC, hMS]]
  obtain ⟨h0, hh0⟩ : ∃ x, x = h := ⟨_, rfl⟩
  rw [show xb_am l D A σ 2 MC MS h = xb_am l D A σ 2 MC MS h0 by rw [hh0]]
  intro p e s m args below meth c hC H locs ls k n hE hl hR hS hk hn
  obtain ⟨hx, hb, hown, hlocks, htab, hml, hr, hB, hA, hnm⟩ := id hC
  have hts := hB.1.1.at args
  refine lv_aload_n hx hb (xb_d D_M_dead 0 rfl) rfl (lv_at hl 0 rfl) ?_
  refine lv_aload_n hx hb (xb_d D_M_dead 1 rfl) rfl (lv_at hl 0 rfl) ?_
  obtain ⟨hk1, hw⟩ := hw
  refine xb_getP (C := R_M) (T := F_M) (N := 97) hx hb 8 27 hts fin_M hown hR hk1 (by decide) rfl (by decide) rfl (hts _ m_fe4642b7) (fun _ h9 => h9) (xb_d D_M_dead 2 rfl) ?_
  obtain ⟨b2, eb2, hw⟩ := hw
  refine xb_some eb2 ?_
  refine lv_aload_n hx hb (xb_d D_M_dead 3 rfl) rfl (lv_at hl 0 rfl) ?_
  refine xb_getI (C := R_M) (T := F_M) (N := 97) hx hb 8 29 hts fin_M hown hR hk1 (by decide) rfl (by decide) rfl (hts _ m_1024c20b) (fun _ h9 => h9) (xb_d D_M_dead 4 rfl) ?_
  refine lv_iconst (v := 1) hx hb (xb_d D_M_dead 5 rfl) (by decide) ?_
  refine lv_isub hx hb (xb_d D_M_dead 6 rfl) ?_
  obtain ⟨hk4, hw⟩ := hw
  obtain ⟨hi3, hw⟩ := hw
  refine xb_iald hx hb hR hk4 hi3 (xb_d D_M_dead 7 rfl) ?_
  refine xb_putI (C := R_M) (T := F_M) (N := 97) (ty := .int) (x := (xb_i h b2 (Int32.toNatClampNeg ((xb_i h x0 29) - 1)))) hx hb 8 22 hts fin_M t_M t_M_ok n_M hown hR hS hk1 (by decide) rfl (by decide) rfl (hts _ m_01d0a072) (fun _ h9 => h9) rfl (by decide +kernel) rfl rfl (xb_d D_M_dead 8 rfl) (fun H locs hR hS => ?_)
  obtain ⟨h5, eh5⟩ : ∃ x : xb_H, x = xb_I h x0 22 (xb_i h b2 (Int32.toNatClampNeg ((xb_i h x0 29) - 1))) := ⟨_, rfl⟩
  rw [← eh5] at hR
  have hw := hw h5 eh5
  have hE : xb_ext h0 h5 := by rw [eh5]; exact hE
  refine lv_aload_n hx hb (xb_d D_M_dead 9 rfl) rfl (lv_at hl 0 rfl) ?_
  have hk1 : xb_k h5 x0 = 9 := by rw [eh5]; exact hk1
  refine xb_getP (C := R_M) (T := F_M) (N := 97) hx hb 8 28 hts fin_M hown hR hk1 (by decide) rfl (by decide) rfl (hts _ m_a58a86b4) (fun _ h9 => h9) (xb_d D_M_dead 10 rfl) ?_
  obtain ⟨b6, eb6, hw⟩ := hw
  refine xb_some eb6 ?_
  refine lv_aload_n hx hb (xb_d D_M_dead 11 rfl) rfl (lv_at hl 0 rfl) ?_
  refine xb_getI (C := R_M) (T := F_M) (N := 97) hx hb 8 29 hts fin_M hown hR hk1 (by decide) rfl (by decide) rfl (hts _ m_1024c20b) (fun _ h9 => h9) (xb_d D_M_dead 12 rfl) ?_
  refine lv_iconst (v := 1) hx hb (xb_d D_M_dead 13 rfl) (by decide) ?_
  refine lv_isub hx hb (xb_d D_M_dead 14 rfl) ?_
  refine lv_iconst (v := 1) hx hb (xb_d D_M_dead 15 rfl) (by decide) ?_
  obtain ⟨hk7, hw⟩ := hw
  obtain ⟨hi8, hw⟩ := hw
  refine xb_zast hx hb hR hS hk7 hi8 (xb_d D_M_dead 16 rfl) (fun H locs hR hS => ?_)
  obtain ⟨h9, eh9⟩ : ∃ x : xb_H, x = xb_I h5 b6 (Int32.toNatClampNeg ((xb_i h5 x0 29) - 1)) (vp_nar .boolean 1) := ⟨_, rfl⟩
  rw [← eh9] at hR
  have hw := hw h9 eh9
  have hE : xb_ext h0 h9 := by rw [eh9]; exact hE
  exact xb_vret 0 0 hx hb hr hlocks (show k + 0 ≤ MC by omega) (show n + 0 ≤ MS by omega) hE hR hS (xb_d D_M_dead 17 rfl) hw

theorem m_7895fa0a : (.fieldLink "StackHostModel" 265 "StackHostModel" "tapeSize" "I" : Cond) ∈ xt_tbl := xt_in (xt_t9 (List.mem_of_getElem? (i := 141) (by decide +kernel))) (by decide +kernel)
set_option maxRecDepth 100000 in
def T_M_end : List (Nat × Instr × Nat) := [(0, .aload_n 0, 1), (1, .iload_n 1, 1), (2, .ifCond .lt 11, 3), (5, .iload_n 1, 1), (6, .aload_n 0, 1), (7, .getfield 265, 3), (10, .if_icmp .le 7, 3), (13, .iconst 1, 1), (14, .goto 4, 3), (17, .iconst 0, 1), (18, .putfield 189, 3), (21, .aload_n 0, 1), (22, .aload_n 0, 1), (23, .getfield 189, 3), (26, .ifCond .le 10, 3), (29, .aload_n 0, 1), (30, .getfield 265, 3), (33, .goto 4, 3), (36, .iload_n 1, 1), (37, .putfield 265, 3), (40, .return_, 1)]
theorem D_M_end : ∀ q ∈ T_M_end, decode b_M_end q.1 = .ok (q.2.1, q.2.2) := by decide +kernel

set_option maxHeartbeats 4000000 in
set_option maxRecDepth 100000 in
theorem am_M_end_L37 (l : Launch) (hfl : l.flags = pinnedFlags ++ [noTraceFlag]) (D : va_G) (A : Nat → Prop) (σ MC MS : Nat) (h0 : xb_H) (Qr : xb_H → Prop) (y0 : Int32) (y1 : Nat) (h : xb_H) (hw : w_M_end_L37 Qr y0 y1 h) : xb_am l D A σ 2 MC MS h0 (fun v h _ _ => v = none ∧ Qr h) (fun _ _ _ _ => False) y_M_end.cls y_M_end.name b_M_end 2 ([] : List ExceptionTableEntry) none 37 [] [.int y0, .ref y1] h 0 0 := by
  unfold w_M_end_L37 at hw
  intro p e s m args below meth c hC H locs ls k n hE hl hR hS hk hn
  obtain ⟨hx, hb, hown, hlocks, htab, hml, hr, hB, hA, hnm⟩ := id hC
  have hts := hB.1.1.at args
  obtain ⟨hk1, hw⟩ := hw
  refine xb_putI (C := R_M) (T := F_M) (N := 97) (ty := .int) (x := y0) hx hb 8 2 hts fin_M t_M t_M_ok n_M hown hR hS hk1 (by decide) rfl (by decide) rfl (hts _ m_7895fa0a) (fun _ h9 => h9) rfl (by decide +kernel) rfl rfl (xb_d D_M_end 19 rfl) (fun H locs hR hS => ?_)
  obtain ⟨h2, eh2⟩ : ∃ x : xb_H, x = xb_I h y1 2 y0 := ⟨_, rfl⟩
  rw [← eh2] at hR
  have hw := hw h2 eh2
  have hE : xb_ext h0 h2 := by rw [eh2]; exact hE
  exact xb_vret 0 0 hx hb hr hlocks (show k + 0 ≤ MC by omega) (show n + 0 ≤ MS by omega) hE hR hS (xb_d D_M_end 20 rfl) hw

set_option maxHeartbeats 4000000 in
set_option maxRecDepth 100000 in
theorem am_M_end_L18 (l : Launch) (hfl : l.flags = pinnedFlags ++ [noTraceFlag]) (D : va_G) (A : Nat → Prop) (σ MC MS : Nat) (h0 : xb_H) (Qr : xb_H → Prop) (x0 : Nat) (x1 : Int32) (y0 : Int32) (y1 : Nat) (h : xb_H) (hw : w_M_end_L18 Qr x0 x1 y0 y1 h) : xb_am l D A σ 2 MC MS h0 (fun v h _ _ => v = none ∧ Qr h) (fun _ _ _ _ => False) y_M_end.cls y_M_end.name b_M_end 2 ([] : List ExceptionTableEntry) none 18 [(0, .ref x0), (1, .int x1)] [.int y0, .ref y1] h 0 0 := by
  unfold w_M_end_L18 at hw
  intro p e s m args below meth c hC H locs ls k n hE hl hR hS hk hn
  obtain ⟨hx, hb, hown, hlocks, htab, hml, hr, hB, hA, hnm⟩ := id hC
  have hts := hB.1.1.at args
  obtain ⟨hk1, hw⟩ := hw
  refine xb_putI (C := R_M) (T := F_M) (N := 97) (ty := .int) (x := y0) hx hb 8 0 hts fin_M t_M t_M_ok n_M hown hR hS hk1 (by decide) rfl (by decide) rfl (hts _ m_afabd6a0) (fun _ h9 => h9) rfl (by decide +kernel) rfl rfl (xb_d D_M_end 10 rfl) (fun H locs hR hS => ?_)
  obtain ⟨h2, eh2⟩ : ∃ x : xb_H, x = xb_I h y1 0 y0 := ⟨_, rfl⟩
  rw [← eh2] at hR
  have hw := hw h2 eh2
  have hE : xb_ext h0 h2 := by rw [eh2]; exact hE
  refine lv_aload_n hx hb (xb_d D_M_end 11 rfl) rfl (lv_at hl 0 rfl) ?_
  refine lv_aload_n hx hb (xb_d D_M_end 12 rfl) rfl (lv_at hl 0 rfl) ?_
  obtain ⟨hk3, hw⟩ := hw
  refine xb_getI (C := R_M) (T := F_M) (N := 97) hx hb 8 0 hts fin_M hown hR hk3 (by decide) rfl (by decide) rfl (hts _ m_afabd6a0) (fun _ h9 => h9) (xb_d D_M_end 13 rfl) ?_
  refine lv_if_le (tgt := 36) hx hb (xb_d D_M_end 14 rfl) rfl (fun hc4 => ?_) (fun hc4 => ?_)
  · have hw := hw.1 hc4
    refine lv_iload_n hx hb (xb_d D_M_end 18 rfl) rfl (lv_at hl 1 rfl) ?_
    exact am_M_end_L37 l hfl D A σ MC MS h0 Qr x1 x0 h2 hw p e s m args below meth c hC H locs ls k n hE (lv_sub hl [] rfl) hR hS (by omega) (by omega)
  · have hw := hw.2 hc4
    refine lv_aload_n hx hb (xb_d D_M_end 15 rfl) rfl (lv_at hl 0 rfl) ?_
    refine xb_getI (C := R_M) (T := F_M) (N := 97) hx hb 8 2 hts fin_M hown hR hk3 (by decide) rfl (by decide) rfl (hts _ m_7895fa0a) (fun _ h9 => h9) (xb_d D_M_end 16 rfl) ?_
    refine lv_goto (tgt := 37) hx hb (xb_d D_M_end 17 rfl) rfl ?_
    exact am_M_end_L37 l hfl D A σ MC MS h0 Qr (xb_i h2 x0 2) x0 h2 hw p e s m args below meth c hC H locs ls k n hE (lv_sub hl [] rfl) hR hS (by omega) (by omega)

set_option maxHeartbeats 4000000 in
set_option maxRecDepth 100000 in
theorem am_M_end_L13 (l : Launch) (hfl : l.flags = pinnedFlags ++ [noTraceFlag]) (D : va_G) (A : Nat → Prop) (σ MC MS : Nat) (h0 : xb_H) (Qr : xb_H → Prop) (x0 : Nat) (x1 : Int32) (y0 : Nat) (h : xb_H) (hw : w_M_end_L13 Qr x0 x1 y0 h) : xb_am l D A σ 2 MC MS h0 (fun v h _ _ => v = none ∧ Qr h) (fun _ _ _ _ => False) y_M_end.cls y_M_end.name b_M_end 2 ([] : List ExceptionTableEntry) none 13 [(0, .ref x0), (1, .int x1)] [.ref y0] h 0 0 := by
  unfold w_M_end_L13 at hw
  intro p e s m args below meth c hC H locs ls k n hE hl hR hS hk hn
  obtain ⟨hx, hb, hown, hlocks, htab, hml, hr, hB, hA, hnm⟩ := id hC
  have hts := hB.1.1.at args
  refine lv_iconst (v := 1) hx hb (xb_d D_M_end 7 rfl) (by decide) ?_
  refine lv_goto (tgt := 18) hx hb (xb_d D_M_end 8 rfl) rfl ?_
  exact am_M_end_L18 l hfl D A σ MC MS h0 Qr x0 x1 1 y0 h hw p e s m args below meth c hC H locs ls k n hE (lv_sub hl [0, 1] rfl) hR hS (by omega) (by omega)

set_option maxHeartbeats 4000000 in
set_option maxRecDepth 100000 in
theorem ok_M_end (l : Launch) (hfl : l.flags = pinnedFlags ++ [noTraceFlag]) (D : va_G) (A : Nat → Prop) (σ : Nat) (x0 : Nat) (x1 : Int32) (h : xb_H) (Qr : xb_H → Prop) (hw : w_M_end x0 x1 h Qr) : xb_Met l y_M_end [.code y_M_end b_M_end 2 none] (xb_rm 2 0 0) (xb_Pc D A σ h [.ref x0, .int x1]) (xb_Qc D A h 0 0 (fun v h _ _ => v = none ∧ Qr h) (fun _ _ _ _ => False)) A := by
  refine xb_ofAm (cc := b_M_end) (by decide) (Nat.le_of_ble_eq_true rfl) ?_
  unfold w_M_end at hw
  show xb_am l D A σ 2 0 0 h (fun v h _ _ => v = none ∧ Qr h) (fun _ _ _ _ => False) y_M_end.cls y_M_end.name b_M_end 2 ([] : List ExceptionTableEntry) none 0 [(0, .ref x0), (1, .int x1)] [] h 0 0
  obtain ⟨MC, hMC⟩ : ∃ x, x = 0 := ⟨_, rfl⟩
  obtain ⟨MS, hMS⟩ : ∃ x, x = 0 := ⟨_, rfl⟩
  rw [show xb_am l D A σ 2 0 0 = xb_am l D A σ 2 MC MS by rw [hMC, hMS]]
  obtain ⟨h0, hh0⟩ : ∃ x, x = h := ⟨_, rfl⟩
  rw [show xb_am l D A σ 2 MC MS h = xb_am l D A σ 2 MC MS h0 by rw [hh0]]
  intro p e s m args below meth c hC H locs ls k n hE hl hR hS hk hn
  obtain ⟨hx, hb, hown, hlocks, htab, hml, hr, hB, hA, hnm⟩ := id hC
  have hts := hB.1.1.at args
  refine lv_aload_n hx hb (xb_d D_M_end 0 rfl) rfl (lv_at hl 0 rfl) ?_
  refine lv_iload_n hx hb (xb_d D_M_end 1 rfl) rfl (lv_at hl 1 rfl) ?_
  refine lv_if_lt (tgt := 13) hx hb (xb_d D_M_end 2 rfl) rfl (fun hc1 => ?_) (fun hc1 => ?_)
  · have hw := hw.1 hc1
    exact am_M_end_L13 l hfl D A σ MC MS h0 Qr x0 x1 x0 h hw p e s m args below meth c hC H locs ls k n hE (lv_sub hl [0, 1] rfl) hR hS (by omega) (by omega)
  · have hw := hw.2 hc1
    refine lv_iload_n hx hb (xb_d D_M_end 3 rfl) rfl (lv_at hl 1 rfl) ?_
    refine lv_aload_n hx hb (xb_d D_M_end 4 rfl) rfl (lv_at hl 0 rfl) ?_
    obtain ⟨hk2, hw⟩ := hw
    refine xb_getI (C := R_M) (T := F_M) (N := 97) hx hb 8 2 hts fin_M hown hR hk2 (by decide) rfl (by decide) rfl (hts _ m_7895fa0a) (fun _ h9 => h9) (xb_d D_M_end 5 rfl) ?_
    refine lv_icmp_le (tgt := 17) hx hb (xb_d D_M_end 6 rfl) rfl (fun hc3 => ?_) (fun hc3 => ?_)
    · have hw := hw.1 hc3
      refine lv_iconst (v := 0) hx hb (xb_d D_M_end 9 rfl) (by decide) ?_
      exact am_M_end_L18 l hfl D A σ MC MS h0 Qr x0 x1 0 x0 h hw p e s m args below meth c hC H locs ls k n hE (lv_sub hl [0, 1] rfl) hR hS (by omega) (by omega)
    · have hw := hw.2 hc3
      exact am_M_end_L13 l hfl D A σ MC MS h0 Qr x0 x1 x0 h hw p e s m args below meth c hC H locs ls k n hE (lv_sub hl [0, 1] rfl) hR hS (by omega) (by omega)

theorem m_ff69da61 : (.fieldLink "StackHostModel" 193 "StackHostModel" "code" "I" : Cond) ∈ xt_tbl := xt_in (xt_t9 (List.mem_of_getElem? (i := 156) (by decide +kernel))) (by decide +kernel)
theorem m_a8fce005 : (.fieldLink "StackHostModel" 196 "StackHostModel" "base" "I" : Cond) ∈ xt_tbl := xt_in (xt_t9 (List.mem_of_getElem? (i := 153) (by decide +kernel))) (by decide +kernel)
theorem m_3fd8f0e3 : (.fieldLink "StackHostModel" 199 "StackHostModel" "place" "I" : Cond) ∈ xt_tbl := xt_in (xt_t9 (List.mem_of_getElem? (i := 157) (by decide +kernel))) (by decide +kernel)
set_option maxRecDepth 100000 in
def T_M_fail : List (Nat × Instr × Nat) := [(0, .aload_n 0, 1), (1, .getfield 193, 3), (4, .ifCond .ne 18, 3), (7, .aload_n 0, 1), (8, .iload_n 1, 1), (9, .putfield 193, 3), (12, .aload_n 0, 1), (13, .iload_n 2, 1), (14, .aload_n 0, 1), (15, .getfield 196, 3), (18, .isub, 1), (19, .putfield 199, 3), (22, .return_, 1)]
theorem D_M_fail : ∀ q ∈ T_M_fail, decode b_M_fail q.1 = .ok (q.2.1, q.2.2) := by decide +kernel

set_option maxHeartbeats 4000000 in
set_option maxRecDepth 100000 in
theorem am_M_fail_L22 (l : Launch) (hfl : l.flags = pinnedFlags ++ [noTraceFlag]) (D : va_G) (A : Nat → Prop) (σ MC MS : Nat) (h0 : xb_H) (Qr : xb_H → Prop) (h : xb_H) (hw : w_M_fail_L22 Qr h) : xb_am l D A σ 2 MC MS h0 (fun v h _ _ => v = none ∧ Qr h) (fun _ _ _ _ => False) y_M_fail.cls y_M_fail.name b_M_fail 3 ([] : List ExceptionTableEntry) none 22 [] [] h 0 0 := by
  unfold w_M_fail_L22 at hw
  intro p e s m args below meth c hC H locs ls k n hE hl hR hS hk hn
  obtain ⟨hx, hb, hown, hlocks, htab, hml, hr, hB, hA, hnm⟩ := id hC
  have hts := hB.1.1.at args
  exact xb_vret 0 0 hx hb hr hlocks (show k + 0 ≤ MC by omega) (show n + 0 ≤ MS by omega) hE hR hS (xb_d D_M_fail 12 rfl) hw

set_option maxHeartbeats 4000000 in
set_option maxRecDepth 100000 in
theorem ok_M_fail (l : Launch) (hfl : l.flags = pinnedFlags ++ [noTraceFlag]) (D : va_G) (A : Nat → Prop) (σ : Nat) (x0 : Nat) (x1 : Int32) (x2 : Int32) (h : xb_H) (Qr : xb_H → Prop) (hw : w_M_fail x0 x1 x2 h Qr) : xb_Met l y_M_fail [.code y_M_fail b_M_fail 3 none] (xb_rm 2 0 0) (xb_Pc D A σ h [.ref x0, .int x1, .int x2]) (xb_Qc D A h 0 0 (fun v h _ _ => v = none ∧ Qr h) (fun _ _ _ _ => False)) A := by
  refine xb_ofAm (cc := b_M_fail) (by decide) (Nat.le_of_ble_eq_true rfl) ?_
  unfold w_M_fail at hw
  show xb_am l D A σ 2 0 0 h (fun v h _ _ => v = none ∧ Qr h) (fun _ _ _ _ => False) y_M_fail.cls y_M_fail.name b_M_fail 3 ([] : List ExceptionTableEntry) none 0 [(0, .ref x0), (1, .int x1), (2, .int x2)] [] h 0 0
  obtain ⟨MC, hMC⟩ : ∃ x, x = 0 := ⟨_, rfl⟩
  obtain ⟨MS, hMS⟩ : ∃ x, x = 0 := ⟨_, rfl⟩
  rw [show xb_am l D A σ 2 0 0 = xb_am l D A σ 2 MC MS by rw [hMC, hMS]]
  obtain ⟨h0, hh0⟩ : ∃ x, x = h := ⟨_, rfl⟩
  rw [show xb_am l D A σ 2 MC MS h = xb_am l D A σ 2 MC MS h0 by rw [hh0]]
  intro p e s m args below meth c hC H locs ls k n hE hl hR hS hk hn
  obtain ⟨hx, hb, hown, hlocks, htab, hml, hr, hB, hA, hnm⟩ := id hC
  have hts := hB.1.1.at args
  refine lv_aload_n hx hb (xb_d D_M_fail 0 rfl) rfl (lv_at hl 0 rfl) ?_
  obtain ⟨hk1, hw⟩ := hw
  refine xb_getI (C := R_M) (T := F_M) (N := 97) hx hb 8 17 hts fin_M hown hR hk1 (by decide) rfl (by decide) rfl (hts _ m_ff69da61) (fun _ h9 => h9) (xb_d D_M_fail 1 rfl) ?_
  refine lv_if_ne (tgt := 22) hx hb (xb_d D_M_fail 2 rfl) rfl (fun hc2 => ?_) (fun hc2 => ?_)
  · have hw := hw.1 hc2
    exact am_M_fail_L22 l hfl D A σ MC MS h0 Qr h hw p e s m args below meth c hC H locs ls k n hE (lv_sub hl [] rfl) hR hS (by omega) (by omega)
  · have hw := hw.2 hc2
    refine lv_aload_n hx hb (xb_d D_M_fail 3 rfl) rfl (lv_at hl 0 rfl) ?_
    refine lv_iload_n hx hb (xb_d D_M_fail 4 rfl) rfl (lv_at hl 1 rfl) ?_
    refine xb_putI (C := R_M) (T := F_M) (N := 97) (ty := .int) (x := x1) hx hb 8 17 hts fin_M t_M t_M_ok n_M hown hR hS hk1 (by decide) rfl (by decide) rfl (hts _ m_ff69da61) (fun _ h9 => h9) rfl (by decide +kernel) rfl rfl (xb_d D_M_fail 5 rfl) (fun H locs hR hS => ?_)
    obtain ⟨h3, eh3⟩ : ∃ x : xb_H, x = xb_I h x0 17 x1 := ⟨_, rfl⟩
    rw [← eh3] at hR
    have hw := hw h3 eh3
    have hE : xb_ext h0 h3 := by rw [eh3]; exact hE
    refine lv_aload_n hx hb (xb_d D_M_fail 6 rfl) rfl (lv_at hl 0 rfl) ?_
    refine lv_iload_n hx hb (xb_d D_M_fail 7 rfl) rfl (lv_at hl 2 rfl) ?_
    refine lv_aload_n hx hb (xb_d D_M_fail 8 rfl) rfl (lv_at hl 0 rfl) ?_
    have hk1 : xb_k h3 x0 = 9 := by rw [eh3]; exact hk1
    refine xb_getI (C := R_M) (T := F_M) (N := 97) hx hb 8 14 hts fin_M hown hR hk1 (by decide) rfl (by decide) rfl (hts _ m_a8fce005) (fun _ h9 => h9) (xb_d D_M_fail 9 rfl) ?_
    refine lv_isub hx hb (xb_d D_M_fail 10 rfl) ?_
    refine xb_putI (C := R_M) (T := F_M) (N := 97) (ty := .int) (x := (x2 - (xb_i h3 x0 14))) hx hb 8 18 hts fin_M t_M t_M_ok n_M hown hR hS hk1 (by decide) rfl (by decide) rfl (hts _ m_3fd8f0e3) (fun _ h9 => h9) rfl (by decide +kernel) rfl rfl (xb_d D_M_fail 11 rfl) (fun H locs hR hS => ?_)
    obtain ⟨h4, eh4⟩ : ∃ x : xb_H, x = xb_I h3 x0 18 (x2 - (xb_i h3 x0 14)) := ⟨_, rfl⟩
    rw [← eh4] at hR
    have hw := hw h4 eh4
    have hE : xb_ext h0 h4 := by rw [eh4]; exact hE
    exact am_M_fail_L22 l hfl D A σ MC MS h0 Qr h4 hw p e s m args below meth c hC H locs ls k n hE (lv_sub hl [] rfl) hR hS (by omega) (by omega)

theorem m_8367c681 : (.fieldLink "StackHostModel" 179 "StackHostModel" "fault" "[I" : Cond) ∈ xt_tbl := xt_in (xt_t9 (List.mem_of_getElem? (i := 227) (by decide +kernel))) (by decide +kernel)
set_option maxRecDepth 100000 in
def T_M_fault : List (Nat × Instr × Nat) := [(0, .aload_n 0, 1), (1, .iload_n 1, 1), (2, .ifCond .eq 8, 3), (5, .iload_n 1, 1), (6, .iconst 1, 1), (7, .if_icmp .ne 7, 3), (10, .iconst 0, 1), (11, .goto 4, 3), (14, .iconst 1, 1), (15, .putfield 189, 3), (18, .aload_n 0, 1), (19, .getfield 189, 3), (22, .ifCond .le 7, 3), (25, .iconst 0, 1), (26, .goto 9, 3), (29, .aload_n 0, 1), (30, .getfield 179, 3), (33, .iload_n 1, 1), (34, .iaload, 1), (35, .ireturn, 1)]
theorem D_M_fault : ∀ q ∈ T_M_fault, decode b_M_fault q.1 = .ok (q.2.1, q.2.2) := by decide +kernel

set_option maxHeartbeats 4000000 in
set_option maxRecDepth 100000 in
theorem am_M_fault_L35 (l : Launch) (hfl : l.flags = pinnedFlags ++ [noTraceFlag]) (D : va_G) (A : Nat → Prop) (σ MC MS : Nat) (h0 : xb_H) (Qr : Int32 → xb_H → Prop) (y0 : Int32) (h : xb_H) (hw : w_M_fault_L35 Qr y0 h) : xb_am l D A σ 2 MC MS h0 (fun v h _ _ => ∃ r, v = some (.int r) ∧ Qr r h) (fun _ _ _ _ => False) y_M_fault.cls y_M_fault.name b_M_fault 2 ([] : List ExceptionTableEntry) (some .int) 35 [] [.int y0] h 0 0 := by
  unfold w_M_fault_L35 at hw
  intro p e s m args below meth c hC H locs ls k n hE hl hR hS hk hn
  obtain ⟨hx, hb, hown, hlocks, htab, hml, hr, hB, hA, hnm⟩ := id hC
  have hts := hB.1.1.at args
  exact xb_iret 0 0 hx hb hr hlocks (show k + 0 ≤ MC by omega) (show n + 0 ≤ MS by omega) hE hR hS (xb_d D_M_fault 19 rfl) hw

set_option maxHeartbeats 4000000 in
set_option maxRecDepth 100000 in
theorem am_M_fault_L15 (l : Launch) (hfl : l.flags = pinnedFlags ++ [noTraceFlag]) (D : va_G) (A : Nat → Prop) (σ MC MS : Nat) (h0 : xb_H) (Qr : Int32 → xb_H → Prop) (x0 : Nat) (x1 : Int32) (y0 : Int32) (y1 : Nat) (h : xb_H) (hw : w_M_fault_L15 Qr x0 x1 y0 y1 h) : xb_am l D A σ 2 MC MS h0 (fun v h _ _ => ∃ r, v = some (.int r) ∧ Qr r h) (fun _ _ _ _ => False) y_M_fault.cls y_M_fault.name b_M_fault 2 ([] : List ExceptionTableEntry) (some .int) 15 [(0, .ref x0), (1, .int x1)] [.int y0, .ref y1] h 0 0 := by
  unfold w_M_fault_L15 at hw
  intro p e s m args below meth c hC H locs ls k n hE hl hR hS hk hn
  obtain ⟨hx, hb, hown, hlocks, htab, hml, hr, hB, hA, hnm⟩ := id hC
  have hts := hB.1.1.at args
  obtain ⟨hk1, hw⟩ := hw
  refine xb_putI (C := R_M) (T := F_M) (N := 97) (ty := .int) (x := y0) hx hb 8 0 hts fin_M t_M t_M_ok n_M hown hR hS hk1 (by decide) rfl (by decide) rfl (hts _ m_afabd6a0) (fun _ h9 => h9) rfl (by decide +kernel) rfl rfl (xb_d D_M_fault 9 rfl) (fun H locs hR hS => ?_)
  obtain ⟨h2, eh2⟩ : ∃ x : xb_H, x = xb_I h y1 0 y0 := ⟨_, rfl⟩
  rw [← eh2] at hR
  have hw := hw h2 eh2
  have hE : xb_ext h0 h2 := by rw [eh2]; exact hE
  refine lv_aload_n hx hb (xb_d D_M_fault 10 rfl) rfl (lv_at hl 0 rfl) ?_
  obtain ⟨hk3, hw⟩ := hw
  refine xb_getI (C := R_M) (T := F_M) (N := 97) hx hb 8 0 hts fin_M hown hR hk3 (by decide) rfl (by decide) rfl (hts _ m_afabd6a0) (fun _ h9 => h9) (xb_d D_M_fault 11 rfl) ?_
  refine lv_if_le (tgt := 29) hx hb (xb_d D_M_fault 12 rfl) rfl (fun hc4 => ?_) (fun hc4 => ?_)
  · have hw := hw.1 hc4
    refine lv_aload_n hx hb (xb_d D_M_fault 15 rfl) rfl (lv_at hl 0 rfl) ?_
    refine xb_getP (C := R_M) (T := F_M) (N := 97) hx hb 8 89 hts fin_M hown hR hk3 (by decide) rfl (by decide) rfl (hts _ m_8367c681) (fun _ h9 => h9) (xb_d D_M_fault 16 rfl) ?_
    obtain ⟨b5, eb5, hw⟩ := hw
    refine xb_some eb5 ?_
    refine lv_iload_n hx hb (xb_d D_M_fault 17 rfl) rfl (lv_at hl 1 rfl) ?_
    obtain ⟨hk7, hw⟩ := hw
    obtain ⟨hi6, hw⟩ := hw
    refine xb_iald hx hb hR hk7 hi6 (xb_d D_M_fault 18 rfl) ?_
    exact am_M_fault_L35 l hfl D A σ MC MS h0 Qr (xb_i h2 b5 (Int32.toNatClampNeg x1)) h2 hw p e s m args below meth c hC H locs ls k n hE (lv_sub hl [] rfl) hR hS (by omega) (by omega)
  · have hw := hw.2 hc4
    refine lv_iconst (v := 0) hx hb (xb_d D_M_fault 13 rfl) (by decide) ?_
    refine lv_goto (tgt := 35) hx hb (xb_d D_M_fault 14 rfl) rfl ?_
    exact am_M_fault_L35 l hfl D A σ MC MS h0 Qr 0 h2 hw p e s m args below meth c hC H locs ls k n hE (lv_sub hl [] rfl) hR hS (by omega) (by omega)

set_option maxHeartbeats 4000000 in
set_option maxRecDepth 100000 in
theorem am_M_fault_L10 (l : Launch) (hfl : l.flags = pinnedFlags ++ [noTraceFlag]) (D : va_G) (A : Nat → Prop) (σ MC MS : Nat) (h0 : xb_H) (Qr : Int32 → xb_H → Prop) (x0 : Nat) (x1 : Int32) (y0 : Nat) (h : xb_H) (hw : w_M_fault_L10 Qr x0 x1 y0 h) : xb_am l D A σ 2 MC MS h0 (fun v h _ _ => ∃ r, v = some (.int r) ∧ Qr r h) (fun _ _ _ _ => False) y_M_fault.cls y_M_fault.name b_M_fault 2 ([] : List ExceptionTableEntry) (some .int) 10 [(0, .ref x0), (1, .int x1)] [.ref y0] h 0 0 := by
  unfold w_M_fault_L10 at hw
  intro p e s m args below meth c hC H locs ls k n hE hl hR hS hk hn
  obtain ⟨hx, hb, hown, hlocks, htab, hml, hr, hB, hA, hnm⟩ := id hC
  have hts := hB.1.1.at args
  refine lv_iconst (v := 0) hx hb (xb_d D_M_fault 6 rfl) (by decide) ?_
  refine lv_goto (tgt := 15) hx hb (xb_d D_M_fault 7 rfl) rfl ?_
  exact am_M_fault_L15 l hfl D A σ MC MS h0 Qr x0 x1 0 y0 h hw p e s m args below meth c hC H locs ls k n hE (lv_sub hl [0, 1] rfl) hR hS (by omega) (by omega)

set_option maxHeartbeats 4000000 in
set_option maxRecDepth 100000 in
theorem ok_M_fault (l : Launch) (hfl : l.flags = pinnedFlags ++ [noTraceFlag]) (D : va_G) (A : Nat → Prop) (σ : Nat) (x0 : Nat) (x1 : Int32) (h : xb_H) (Qr : Int32 → xb_H → Prop) (hw : w_M_fault x0 x1 h Qr) : xb_Met l y_M_fault [.code y_M_fault b_M_fault 2 (some .int)] (xb_rm 2 0 0) (xb_Pc D A σ h [.ref x0, .int x1]) (xb_Qc D A h 0 0 (fun v h _ _ => ∃ r, v = some (.int r) ∧ Qr r h) (fun _ _ _ _ => False)) A := by
  refine xb_ofAm (cc := b_M_fault) (by decide) (Nat.le_of_ble_eq_true rfl) ?_
  unfold w_M_fault at hw
  show xb_am l D A σ 2 0 0 h (fun v h _ _ => ∃ r, v = some (.int r) ∧ Qr r h) (fun _ _ _ _ => False) y_M_fault.cls y_M_fault.name b_M_fault 2 ([] : List ExceptionTableEntry) (some .int) 0 [(0, .ref x0), (1, .int x1)] [] h 0 0
  obtain ⟨MC, hMC⟩ : ∃ x, x = 0 := ⟨_, rfl⟩
  obtain ⟨MS, hMS⟩ : ∃ x, x = 0 := ⟨_, rfl⟩
  rw [show xb_am l D A σ 2 0 0 = xb_am l D A σ 2 MC MS by rw [hMC, hMS]]
  obtain ⟨h0, hh0⟩ : ∃ x, x = h := ⟨_, rfl⟩
  rw [show xb_am l D A σ 2 MC MS h = xb_am l D A σ 2 MC MS h0 by rw [hh0]]
  intro p e s m args below meth c hC H locs ls k n hE hl hR hS hk hn
  obtain ⟨hx, hb, hown, hlocks, htab, hml, hr, hB, hA, hnm⟩ := id hC
  have hts := hB.1.1.at args
  refine lv_aload_n hx hb (xb_d D_M_fault 0 rfl) rfl (lv_at hl 0 rfl) ?_
  refine lv_iload_n hx hb (xb_d D_M_fault 1 rfl) rfl (lv_at hl 1 rfl) ?_
  refine lv_if_eq (tgt := 10) hx hb (xb_d D_M_fault 2 rfl) rfl (fun hc1 => ?_) (fun hc1 => ?_)
  · have hw := hw.1 hc1
    exact am_M_fault_L10 l hfl D A σ MC MS h0 Qr x0 x1 x0 h hw p e s m args below meth c hC H locs ls k n hE (lv_sub hl [0, 1] rfl) hR hS (by omega) (by omega)
  · have hw := hw.2 hc1
    refine lv_iload_n hx hb (xb_d D_M_fault 3 rfl) rfl (lv_at hl 1 rfl) ?_
    refine lv_iconst (v := 1) hx hb (xb_d D_M_fault 4 rfl) (by decide) ?_
    refine lv_icmp_ne (tgt := 14) hx hb (xb_d D_M_fault 5 rfl) rfl (fun hc2 => ?_) (fun hc2 => ?_)
    · have hw := hw.1 hc2
      refine lv_iconst (v := 1) hx hb (xb_d D_M_fault 8 rfl) (by decide) ?_
      exact am_M_fault_L15 l hfl D A σ MC MS h0 Qr x0 x1 1 x0 h hw p e s m args below meth c hC H locs ls k n hE (lv_sub hl [0, 1] rfl) hR hS (by omega) (by omega)
    · have hw := hw.2 hc2
      exact am_M_fault_L10 l hfl D A σ MC MS h0 Qr x0 x1 x0 h hw p e s m args below meth c hC H locs ls k n hE (lv_sub hl [0, 1] rfl) hR hS (by omega) (by omega)

theorem m_95b40228 : (.fieldLink "StackHostModel" 8 "StackHostModel" "tape" "[B" : Cond) ∈ xt_tbl := xt_in (xt_t9 (List.mem_of_getElem? (i := 140) (by decide +kernel))) (by decide +kernel)
set_option maxRecDepth 100000 in
def T_M_feed : List (Nat × Instr × Nat) := [(0, .aload_n 0, 1), (1, .aload_n 0, 1), (2, .getfield 265, 3), (5, .bipush 20, 2), (7, .iadd, 1), (8, .aload_n 0, 1), (9, .getfield 8, 3), (12, .arraylength, 1), (13, .if_icmp .le 7, 3), (16, .iconst 1, 1), (17, .goto 4, 3), (20, .iconst 0, 1), (21, .putfield 189, 3), (24, .aload_n 0, 1), (25, .getfield 189, 3), (28, .ifCond .le 5, 3), (31, .iconst 0, 1), (32, .ireturn, 1), (33, .iconst 0, 1), (34, .istore 6, 2), (36, .iload 6, 2), (38, .bipush 20, 2), (40, .if_icmp .ge 83, 3), (43, .iload 6, 2), (45, .iconst 4, 1), (46, .if_icmp .ge 7, 3), (49, .iload_n 1, 1), (50, .goto 39, 3), (53, .iload 6, 2), (55, .bipush 8, 2), (57, .if_icmp .ge 7, 3), (60, .iload_n 2, 1), (61, .goto 28, 3), (64, .iload 6, 2), (66, .bipush 12, 2), (68, .if_icmp .ge 7, 3), (71, .iload_n 3, 1), (72, .goto 17, 3), (75, .iload 6, 2), (77, .bipush 16, 2), (79, .if_icmp .ge 8, 3), (82, .iload 4, 2), (84, .goto 5, 3), (87, .iload 5, 2), (89, .istore 7, 2), (91, .aload_n 0, 1), (92, .getfield 8, 3), (95, .aload_n 0, 1), (96, .getfield 265, 3), (99, .iload 6, 2), (101, .iadd, 1), (102, .iload 7, 2), (104, .bipush 24, 2), (106, .bipush 8, 2), (108, .iload 6, 2), (110, .iconst 4, 1), (111, .irem, 1), (112, .imul, 1), (113, .isub, 1), (114, .ishr, 1), (115, .i2b, 1), (116, .bastore, 1), (117, .iinc 6 1, 3), (120, .goto (-84), 3), (123, .aload_n 0, 1), (124, .aload_n 0, 1), (125, .getfield 265, 3), (128, .bipush 20, 2), (130, .iadd, 1), (131, .putfield 265, 3), (134, .aload_n 0, 1), (135, .getfield 265, 3), (138, .ireturn, 1)]
theorem D_M_feed : ∀ q ∈ T_M_feed, decode b_M_feed q.1 = .ok (q.2.1, q.2.2) := by decide +kernel

set_option maxHeartbeats 4000000 in
set_option maxRecDepth 100000 in
theorem am_M_feed_L89 (l : Launch) (hfl : l.flags = pinnedFlags ++ [noTraceFlag]) (D : va_G) (A : Nat → Prop) (σ MC MS : Nat) (h0 : xb_H) (Qr : Int32 → xb_H → Prop) (K36 : Nat → Int32 → Int32 → Int32 → Int32 → Int32 → Int32 → xb_H → Prop) (hK36 : ∀ (x0 : Nat) (x1 : Int32) (x2 : Int32) (x3 : Int32) (x4 : Int32) (x5 : Int32) (x6 : Int32) (h : xb_H), K36 x0 x1 x2 x3 x4 x5 x6 h → xb_am l D A σ 2 MC MS h0 (fun v h _ _ => ∃ r, v = some (.int r) ∧ Qr r h) (fun _ _ _ _ => False) y_M_feed.cls y_M_feed.name b_M_feed 8 ([] : List ExceptionTableEntry) (some .int) 36 [(0, .ref x0), (1, .int x1), (2, .int x2), (3, .int x3), (4, .int x4), (5, .int x5), (6, .int x6)] [] h 0 0) (x0 : Nat) (x1 : Int32) (x2 : Int32) (x3 : Int32) (x4 : Int32) (x5 : Int32) (x6 : Int32) (y0 : Int32) (h : xb_H) (hw : w_M_feed_L89 K36 Qr x0 x1 x2 x3 x4 x5 x6 y0 h) : xb_am l D A σ 2 MC MS h0 (fun v h _ _ => ∃ r, v = some (.int r) ∧ Qr r h) (fun _ _ _ _ => False) y_M_feed.cls y_M_feed.name b_M_feed 8 ([] : List ExceptionTableEntry) (some .int) 89 [(0, .ref x0), (1, .int x1), (2, .int x2), (3, .int x3), (4, .int x4), (5, .int x5), (6, .int x6)] [.int y0] h 0 0 := by
  unfold w_M_feed_L89 at hw
  intro p e s m args below meth c hC H locs ls k n hE hl hR hS hk hn
  obtain ⟨hx, hb, hown, hlocks, htab, hml, hr, hB, hA, hnm⟩ := id hC
  have hts := hB.1.1.at args
  refine lv_istore hx hb (xb_d D_M_feed 44 rfl) hl (by decide) rfl (fun ls hl => ?_)
  have hl : lv_has ls 8 [(7, .int y0), (0, .ref x0), (1, .int x1), (2, .int x2), (3, .int x3), (4, .int x4), (5, .int x5), (6, .int x6)] := hl
  refine lv_aload_n hx hb (xb_d D_M_feed 45 rfl) rfl (lv_at hl 1 rfl) ?_
  obtain ⟨hk1, hw⟩ := hw
  refine xb_getP (C := R_M) (T := F_M) (N := 97) hx hb 8 1 hts fin_M hown hR hk1 (by decide) rfl (by decide) rfl (hts _ m_95b40228) (fun _ h9 => h9) (xb_d D_M_feed 46 rfl) ?_
  obtain ⟨b2, eb2, hw⟩ := hw
  refine xb_some eb2 ?_
  refine lv_aload_n hx hb (xb_d D_M_feed 47 rfl) rfl (lv_at hl 1 rfl) ?_
  refine xb_getI (C := R_M) (T := F_M) (N := 97) hx hb 8 2 hts fin_M hown hR hk1 (by decide) rfl (by decide) rfl (hts _ m_7895fa0a) (fun _ h9 => h9) (xb_d D_M_feed 48 rfl) ?_
  refine lv_iload hx hb (xb_d D_M_feed 49 rfl) (lv_at hl 7 rfl) ?_
  refine lv_iadd hx hb (xb_d D_M_feed 50 rfl) ?_
  refine lv_iload hx hb (xb_d D_M_feed 51 rfl) (lv_at hl 0 rfl) ?_
  refine lv_bipush (v := 24) hx hb (xb_d D_M_feed 52 rfl) (by decide) ?_
  refine lv_bipush (v := 8) hx hb (xb_d D_M_feed 53 rfl) (by decide) ?_
  refine lv_iload hx hb (xb_d D_M_feed 54 rfl) (lv_at hl 7 rfl) ?_
  refine lv_iconst (v := 4) hx hb (xb_d D_M_feed 55 rfl) (by decide) ?_
  refine lv_irem hx hb (xb_d D_M_feed 56 rfl) (by decide) ?_
  refine lv_imul hx hb (xb_d D_M_feed 57 rfl) ?_
  refine lv_isub hx hb (xb_d D_M_feed 58 rfl) ?_
  refine lv_ishr hx hb (xb_d D_M_feed 59 rfl) ?_
  refine lv_i2b hx hb (xb_d D_M_feed 60 rfl) rfl ?_
  obtain ⟨hk3, hw⟩ := hw
  obtain ⟨hi4, hw⟩ := hw
  refine xb_bast hx hb hR hS hk3 hi4 (xb_d D_M_feed 61 rfl) (fun H locs hR hS => ?_)
  obtain ⟨h5, eh5⟩ : ∃ x : xb_H, x = xb_I h b2 (Int32.toNatClampNeg ((xb_i h x0 2) + x6)) (vp_nar .byte ((Int32.toInt8 (y0 >>> ((24 - (8 * (x6 - x6 / 4 * 4))) &&& 31))).toInt32)) := ⟨_, rfl⟩
  rw [← eh5] at hR
  have hw := hw h5 eh5
  have hE : xb_ext h0 h5 := by rw [eh5]; exact hE
  refine lv_iinc (v := (x6 + 1)) (k := 7) hx hb (xb_d D_M_feed 62 rfl) hl rfl (by first | rfl | decide) (by decide) rfl (fun ls hl => ?_)
  have hl : lv_has ls 8 [(6, .int (x6 + 1)), (7, .int y0), (0, .ref x0), (1, .int x1), (2, .int x2), (3, .int x3), (4, .int x4), (5, .int x5)] := hl
  refine lv_goto (tgt := 36) hx hb (xb_d D_M_feed 63 rfl) rfl ?_
  exact hK36 x0 x1 x2 x3 x4 x5 (x6 + 1) h5 hw p e s m args below meth c hC H locs ls k n hE (lv_sub hl [2, 3, 4, 5, 6, 7, 0] rfl) hR hS (by omega) (by omega)

set_option maxHeartbeats 4000000 in
set_option maxRecDepth 100000 in
theorem am_M_feed_L36 (l : Launch) (hfl : l.flags = pinnedFlags ++ [noTraceFlag]) (D : va_G) (A : Nat → Prop) (σ MC MS : Nat) (h0 : xb_H) (Qr : Int32 → xb_H → Prop) (n9 : Nat) : ∀ (x0 : Nat) (x1 : Int32) (x2 : Int32) (x3 : Int32) (x4 : Int32) (x5 : Int32) (x6 : Int32) (h : xb_H), w_M_feed_L36 Qr n9 x0 x1 x2 x3 x4 x5 x6 h → xb_am l D A σ 2 MC MS h0 (fun v h _ _ => ∃ r, v = some (.int r) ∧ Qr r h) (fun _ _ _ _ => False) y_M_feed.cls y_M_feed.name b_M_feed 8 ([] : List ExceptionTableEntry) (some .int) 36 [(0, .ref x0), (1, .int x1), (2, .int x2), (3, .int x3), (4, .int x4), (5, .int x5), (6, .int x6)] [] h 0 0 := by
  induction n9 with
  | zero => intro x0 x1 x2 x3 x4 x5 x6 h hw; exact False.elim hw
  | succ n9 ih =>
    intro x0 x1 x2 x3 x4 x5 x6 h hw
    unfold w_M_feed_L36 at hw
    intro p e s m args below meth c hC H locs ls k n hE hl hR hS hk hn
    obtain ⟨hx, hb, hown, hlocks, htab, hml, hr, hB, hA, hnm⟩ := id hC
    have hts := hB.1.1.at args
    refine lv_iload hx hb (xb_d D_M_feed 20 rfl) (lv_at hl 6 rfl) ?_
    refine lv_bipush (v := 20) hx hb (xb_d D_M_feed 21 rfl) (by decide) ?_
    refine lv_icmp_ge (tgt := 123) hx hb (xb_d D_M_feed 22 rfl) rfl (fun hc1 => ?_) (fun hc1 => ?_)
    · have hw := hw.1 hc1
      refine lv_aload_n hx hb (xb_d D_M_feed 64 rfl) rfl (lv_at hl 0 rfl) ?_
      refine lv_aload_n hx hb (xb_d D_M_feed 65 rfl) rfl (lv_at hl 0 rfl) ?_
      obtain ⟨hk2, hw⟩ := hw
      refine xb_getI (C := R_M) (T := F_M) (N := 97) hx hb 8 2 hts fin_M hown hR hk2 (by decide) rfl (by decide) rfl (hts _ m_7895fa0a) (fun _ h9 => h9) (xb_d D_M_feed 66 rfl) ?_
      refine lv_bipush (v := 20) hx hb (xb_d D_M_feed 67 rfl) (by decide) ?_
      refine lv_iadd hx hb (xb_d D_M_feed 68 rfl) ?_
      refine xb_putI (C := R_M) (T := F_M) (N := 97) (ty := .int) (x := ((xb_i h x0 2) + 20)) hx hb 8 2 hts fin_M t_M t_M_ok n_M hown hR hS hk2 (by decide) rfl (by decide) rfl (hts _ m_7895fa0a) (fun _ h9 => h9) rfl (by decide +kernel) rfl rfl (xb_d D_M_feed 69 rfl) (fun H locs hR hS => ?_)
      obtain ⟨h3, eh3⟩ : ∃ x : xb_H, x = xb_I h x0 2 ((xb_i h x0 2) + 20) := ⟨_, rfl⟩
      rw [← eh3] at hR
      have hw := hw h3 eh3
      have hE : xb_ext h0 h3 := by rw [eh3]; exact hE
      refine lv_aload_n hx hb (xb_d D_M_feed 70 rfl) rfl (lv_at hl 0 rfl) ?_
      have hk2 : xb_k h3 x0 = 9 := by rw [eh3]; exact hk2
      refine xb_getI (C := R_M) (T := F_M) (N := 97) hx hb 8 2 hts fin_M hown hR hk2 (by decide) rfl (by decide) rfl (hts _ m_7895fa0a) (fun _ h9 => h9) (xb_d D_M_feed 71 rfl) ?_
      exact xb_iret 0 0 hx hb hr hlocks (show k + 0 ≤ MC by omega) (show n + 0 ≤ MS by omega) hE hR hS (xb_d D_M_feed 72 rfl) hw
    · have hw := hw.2 hc1
      refine lv_iload hx hb (xb_d D_M_feed 23 rfl) (lv_at hl 6 rfl) ?_
      refine lv_iconst (v := 4) hx hb (xb_d D_M_feed 24 rfl) (by decide) ?_
      refine lv_icmp_ge (tgt := 53) hx hb (xb_d D_M_feed 25 rfl) rfl (fun hc4 => ?_) (fun hc4 => ?_)
      · have hw := hw.1 hc4
        refine lv_iload hx hb (xb_d D_M_feed 28 rfl) (lv_at hl 6 rfl) ?_
        refine lv_bipush (v := 8) hx hb (xb_d D_M_feed 29 rfl) (by decide) ?_
        refine lv_icmp_ge (tgt := 64) hx hb (xb_d D_M_feed 30 rfl) rfl (fun hc5 => ?_) (fun hc5 => ?_)
        · have hw := hw.1 hc5
          refine lv_iload hx hb (xb_d D_M_feed 33 rfl) (lv_at hl 6 rfl) ?_
          refine lv_bipush (v := 12) hx hb (xb_d D_M_feed 34 rfl) (by decide) ?_
          refine lv_icmp_ge (tgt := 75) hx hb (xb_d D_M_feed 35 rfl) rfl (fun hc6 => ?_) (fun hc6 => ?_)
          · have hw := hw.1 hc6
            refine lv_iload hx hb (xb_d D_M_feed 38 rfl) (lv_at hl 6 rfl) ?_
            refine lv_bipush (v := 16) hx hb (xb_d D_M_feed 39 rfl) (by decide) ?_
            refine lv_icmp_ge (tgt := 87) hx hb (xb_d D_M_feed 40 rfl) rfl (fun hc7 => ?_) (fun hc7 => ?_)
            · have hw := hw.1 hc7
              refine lv_iload hx hb (xb_d D_M_feed 43 rfl) (lv_at hl 5 rfl) ?_
              exact am_M_feed_L89 l hfl D A σ MC MS h0 Qr (w_M_feed_L36 Qr n9) ih x0 x1 x2 x3 x4 x5 x6 x5 h hw p e s m args below meth c hC H locs ls k n hE (lv_sub hl [0, 1, 2, 3, 4, 5, 6] rfl) hR hS (by omega) (by omega)
            · have hw := hw.2 hc7
              refine lv_iload hx hb (xb_d D_M_feed 41 rfl) (lv_at hl 4 rfl) ?_
              refine lv_goto (tgt := 89) hx hb (xb_d D_M_feed 42 rfl) rfl ?_
              exact am_M_feed_L89 l hfl D A σ MC MS h0 Qr (w_M_feed_L36 Qr n9) ih x0 x1 x2 x3 x4 x5 x6 x4 h hw p e s m args below meth c hC H locs ls k n hE (lv_sub hl [0, 1, 2, 3, 4, 5, 6] rfl) hR hS (by omega) (by omega)
          · have hw := hw.2 hc6
            refine lv_iload_n hx hb (xb_d D_M_feed 36 rfl) rfl (lv_at hl 3 rfl) ?_
            refine lv_goto (tgt := 89) hx hb (xb_d D_M_feed 37 rfl) rfl ?_
            exact am_M_feed_L89 l hfl D A σ MC MS h0 Qr (w_M_feed_L36 Qr n9) ih x0 x1 x2 x3 x4 x5 x6 x3 h hw p e s m args below meth c hC H locs ls k n hE (lv_sub hl [0, 1, 2, 3, 4, 5, 6] rfl) hR hS (by omega) (by omega)
        · have hw := hw.2 hc5
          refine lv_iload_n hx hb (xb_d D_M_feed 31 rfl) rfl (lv_at hl 2 rfl) ?_
          refine lv_goto (tgt := 89) hx hb (xb_d D_M_feed 32 rfl) rfl ?_
          exact am_M_feed_L89 l hfl D A σ MC MS h0 Qr (w_M_feed_L36 Qr n9) ih x0 x1 x2 x3 x4 x5 x6 x2 h hw p e s m args below meth c hC H locs ls k n hE (lv_sub hl [0, 1, 2, 3, 4, 5, 6] rfl) hR hS (by omega) (by omega)
      · have hw := hw.2 hc4
        refine lv_iload_n hx hb (xb_d D_M_feed 26 rfl) rfl (lv_at hl 1 rfl) ?_
        refine lv_goto (tgt := 89) hx hb (xb_d D_M_feed 27 rfl) rfl ?_
        exact am_M_feed_L89 l hfl D A σ MC MS h0 Qr (w_M_feed_L36 Qr n9) ih x0 x1 x2 x3 x4 x5 x6 x1 h hw p e s m args below meth c hC H locs ls k n hE (lv_sub hl [0, 1, 2, 3, 4, 5, 6] rfl) hR hS (by omega) (by omega)

set_option maxHeartbeats 4000000 in
set_option maxRecDepth 100000 in
theorem am_M_feed_L21 (l : Launch) (hfl : l.flags = pinnedFlags ++ [noTraceFlag]) (D : va_G) (A : Nat → Prop) (σ MC MS : Nat) (h0 : xb_H) (Qr : Int32 → xb_H → Prop) (x0 : Nat) (x1 : Int32) (x2 : Int32) (x3 : Int32) (x4 : Int32) (x5 : Int32) (y0 : Int32) (y1 : Nat) (h : xb_H) (hw : w_M_feed_L21 Qr x0 x1 x2 x3 x4 x5 y0 y1 h) : xb_am l D A σ 2 MC MS h0 (fun v h _ _ => ∃ r, v = some (.int r) ∧ Qr r h) (fun _ _ _ _ => False) y_M_feed.cls y_M_feed.name b_M_feed 8 ([] : List ExceptionTableEntry) (some .int) 21 [(0, .ref x0), (1, .int x1), (2, .int x2), (3, .int x3), (4, .int x4), (5, .int x5)] [.int y0, .ref y1] h 0 0 := by
  unfold w_M_feed_L21 at hw
  intro p e s m args below meth c hC H locs ls k n hE hl hR hS hk hn
  obtain ⟨hx, hb, hown, hlocks, htab, hml, hr, hB, hA, hnm⟩ := id hC
  have hts := hB.1.1.at args
  obtain ⟨hk1, hw⟩ := hw
  refine xb_putI (C := R_M) (T := F_M) (N := 97) (ty := .int) (x := y0) hx hb 8 0 hts fin_M t_M t_M_ok n_M hown hR hS hk1 (by decide) rfl (by decide) rfl (hts _ m_afabd6a0) (fun _ h9 => h9) rfl (by decide +kernel) rfl rfl (xb_d D_M_feed 12 rfl) (fun H locs hR hS => ?_)
  obtain ⟨h2, eh2⟩ : ∃ x : xb_H, x = xb_I h y1 0 y0 := ⟨_, rfl⟩
  rw [← eh2] at hR
  have hw := hw h2 eh2
  have hE : xb_ext h0 h2 := by rw [eh2]; exact hE
  refine lv_aload_n hx hb (xb_d D_M_feed 13 rfl) rfl (lv_at hl 0 rfl) ?_
  obtain ⟨hk3, hw⟩ := hw
  refine xb_getI (C := R_M) (T := F_M) (N := 97) hx hb 8 0 hts fin_M hown hR hk3 (by decide) rfl (by decide) rfl (hts _ m_afabd6a0) (fun _ h9 => h9) (xb_d D_M_feed 14 rfl) ?_
  refine lv_if_le (tgt := 33) hx hb (xb_d D_M_feed 15 rfl) rfl (fun hc4 => ?_) (fun hc4 => ?_)
  · have hw := hw.1 hc4
    refine lv_iconst (v := 0) hx hb (xb_d D_M_feed 18 rfl) (by decide) ?_
    refine lv_istore hx hb (xb_d D_M_feed 19 rfl) hl (by decide) rfl (fun ls hl => ?_)
    have hl : lv_has ls 8 [(6, .int 0), (0, .ref x0), (1, .int x1), (2, .int x2), (3, .int x3), (4, .int x4), (5, .int x5)] := hl
    obtain ⟨n8, hw⟩ := hw
    exact am_M_feed_L36 l hfl D A σ MC MS h0 Qr n8 x0 x1 x2 x3 x4 x5 0 h2 hw p e s m args below meth c hC H locs ls k n hE (lv_sub hl [1, 2, 3, 4, 5, 6, 0] rfl) hR hS (by omega) (by omega)
  · have hw := hw.2 hc4
    refine lv_iconst (v := 0) hx hb (xb_d D_M_feed 16 rfl) (by decide) ?_
    exact xb_iret 0 0 hx hb hr hlocks (show k + 0 ≤ MC by omega) (show n + 0 ≤ MS by omega) hE hR hS (xb_d D_M_feed 17 rfl) hw

set_option maxHeartbeats 4000000 in
set_option maxRecDepth 100000 in
theorem ok_M_feed (l : Launch) (hfl : l.flags = pinnedFlags ++ [noTraceFlag]) (D : va_G) (A : Nat → Prop) (σ : Nat) (x0 : Nat) (x1 : Int32) (x2 : Int32) (x3 : Int32) (x4 : Int32) (x5 : Int32) (h : xb_H) (Qr : Int32 → xb_H → Prop) (hw : w_M_feed x0 x1 x2 x3 x4 x5 h Qr) : xb_Met l y_M_feed [.code y_M_feed b_M_feed 8 (some .int)] (xb_rm 2 0 0) (xb_Pc D A σ h [.ref x0, .int x1, .int x2, .int x3, .int x4, .int x5]) (xb_Qc D A h 0 0 (fun v h _ _ => ∃ r, v = some (.int r) ∧ Qr r h) (fun _ _ _ _ => False)) A := by
  refine xb_ofAm (cc := b_M_feed) (by decide) (Nat.le_of_ble_eq_true rfl) ?_
  unfold w_M_feed at hw
  show xb_am l D A σ 2 0 0 h (fun v h _ _ => ∃ r, v = some (.int r) ∧ Qr r h) (fun _ _ _ _ => False) y_M_feed.cls y_M_feed.name b_M_feed 8 ([] : List ExceptionTableEntry) (some .int) 0 [(0, .ref x0), (1, .int x1), (2, .int x2), (3, .int x3), (4, .int x4), (5, .int x5)] [] h 0 0
  obtain ⟨MC, hMC⟩ : ∃ x, x = 0 := ⟨_, rfl⟩
  obtain ⟨MS, hMS⟩ : ∃ x, x = 0 := ⟨_, rfl⟩
  rw [show xb_am l D A σ 2 0 0 = xb_am l D A σ 2 MC MS by rw [hMC, hMS]]
  obtain ⟨h0, hh0⟩ : ∃ x, x = h := ⟨_, rfl⟩
  rw [show xb_am l D A σ 2 MC MS h = xb_am l D A σ 2 MC MS h0 by rw [hh0]]
  intro p e s m args below meth c hC H locs ls k n hE hl hR hS hk hn
  obtain ⟨hx, hb, hown, hlocks, htab, hml, hr, hB, hA, hnm⟩ := id hC
  have hts := hB.1.1.at args
  refine lv_aload_n hx hb (xb_d D_M_feed 0 rfl) rfl (lv_at hl 0 rfl) ?_
  refine lv_aload_n hx hb (xb_d D_M_feed 1 rfl) rfl (lv_at hl 0 rfl) ?_
  obtain ⟨hk1, hw⟩ := hw
  refine xb_getI (C := R_M) (T := F_M) (N := 97) hx hb 8 2 hts fin_M hown hR hk1 (by decide) rfl (by decide) rfl (hts _ m_7895fa0a) (fun _ h9 => h9) (xb_d D_M_feed 2 rfl) ?_
  refine lv_bipush (v := 20) hx hb (xb_d D_M_feed 3 rfl) (by decide) ?_
  refine lv_iadd hx hb (xb_d D_M_feed 4 rfl) ?_
  refine lv_aload_n hx hb (xb_d D_M_feed 5 rfl) rfl (lv_at hl 0 rfl) ?_
  refine xb_getP (C := R_M) (T := F_M) (N := 97) hx hb 8 1 hts fin_M hown hR hk1 (by decide) rfl (by decide) rfl (hts _ m_95b40228) (fun _ h9 => h9) (xb_d D_M_feed 6 rfl) ?_
  obtain ⟨b2, eb2, hw⟩ := hw
  refine xb_some eb2 ?_
  obtain ⟨hk3, hw⟩ := hw
  refine xb_alen hx hb hR hk3 (by decide) (xb_d D_M_feed 7 rfl) ?_
  refine lv_icmp_le (tgt := 20) hx hb (xb_d D_M_feed 8 rfl) rfl (fun hc4 => ?_) (fun hc4 => ?_)
  · have hw := hw.1 hc4
    refine lv_iconst (v := 0) hx hb (xb_d D_M_feed 11 rfl) (by decide) ?_
    exact am_M_feed_L21 l hfl D A σ MC MS h0 Qr x0 x1 x2 x3 x4 x5 0 x0 h hw p e s m args below meth c hC H locs ls k n hE (lv_sub hl [0, 1, 2, 3, 4, 5] rfl) hR hS (by omega) (by omega)
  · have hw := hw.2 hc4
    refine lv_iconst (v := 1) hx hb (xb_d D_M_feed 9 rfl) (by decide) ?_
    refine lv_goto (tgt := 21) hx hb (xb_d D_M_feed 10 rfl) rfl ?_
    exact am_M_feed_L21 l hfl D A σ MC MS h0 Qr x0 x1 x2 x3 x4 x5 1 x0 h hw p e s m args below meth c hC H locs ls k n hE (lv_sub hl [0, 1, 2, 3, 4, 5] rfl) hR hS (by omega) (by omega)

theorem m_2efec494 : (.fieldLink "StackHostModel" 17 "StackHostModel" "from" "[I" : Cond) ∈ xt_tbl := xt_in (xt_t9 (List.mem_of_getElem? (i := 145) (by decide +kernel))) (by decide +kernel)
theorem m_6c2d27ad : (.fieldLink "StackHostModel" 202 "StackHostModel" "at" "I" : Cond) ∈ xt_tbl := xt_in (xt_t9 (List.mem_of_getElem? (i := 154) (by decide +kernel))) (by decide +kernel)
theorem m_36d14bfe : (.fieldLink "StackHostModel" 21 "StackHostModel" "size" "[I" : Cond) ∈ xt_tbl := xt_in (xt_t9 (List.mem_of_getElem? (i := 146) (by decide +kernel))) (by decide +kernel)
theorem m_48124c81 : (.fieldLink "StackHostModel" 205 "StackHostModel" "end" "I" : Cond) ∈ xt_tbl := xt_in (xt_t9 (List.mem_of_getElem? (i := 155) (by decide +kernel))) (by decide +kernel)
set_option maxRecDepth 100000 in
def T_M_go : List (Nat × Instr × Nat) := [(0, .aload_n 0, 1), (1, .aload_n 0, 1), (2, .getfield 17, 3), (5, .iload_n 1, 1), (6, .iaload, 1), (7, .putfield 196, 3), (10, .aload_n 0, 1), (11, .iload_n 2, 1), (12, .putfield 202, 3), (15, .aload_n 0, 1), (16, .aload_n 0, 1), (17, .getfield 196, 3), (20, .aload_n 0, 1), (21, .getfield 21, 3), (24, .iload_n 1, 1), (25, .iaload, 1), (26, .iadd, 1), (27, .putfield 205, 3), (30, .return_, 1)]
theorem D_M_go : ∀ q ∈ T_M_go, decode b_M_go q.1 = .ok (q.2.1, q.2.2) := by decide +kernel

set_option maxHeartbeats 4000000 in
set_option maxRecDepth 100000 in
theorem ok_M_go (l : Launch) (hfl : l.flags = pinnedFlags ++ [noTraceFlag]) (D : va_G) (A : Nat → Prop) (σ : Nat) (x0 : Nat) (x1 : Int32) (x2 : Int32) (h : xb_H) (Qr : xb_H → Prop) (hw : w_M_go x0 x1 x2 h Qr) : xb_Met l y_M_go [.code y_M_go b_M_go 3 none] (xb_rm 2 0 0) (xb_Pc D A σ h [.ref x0, .int x1, .int x2]) (xb_Qc D A h 0 0 (fun v h _ _ => v = none ∧ Qr h) (fun _ _ _ _ => False)) A := by
  refine xb_ofAm (cc := b_M_go) (by decide) (Nat.le_of_ble_eq_true rfl) ?_
  unfold w_M_go at hw
  show xb_am l D A σ 2 0 0 h (fun v h _ _ => v = none ∧ Qr h) (fun _ _ _ _ => False) y_M_go.cls y_M_go.name b_M_go 3 ([] : List ExceptionTableEntry) none 0 [(0, .ref x0), (1, .int x1), (2, .int x2)] [] h 0 0
  obtain ⟨MC, hMC⟩ : ∃ x, x = 0 := ⟨_, rfl⟩
  obtain ⟨MS, hMS⟩ : ∃ x, x = 0 := ⟨_, rfl⟩
  rw [show xb_am l D A σ 2 0 0 = xb_am l D A σ 2 MC MS by rw [hMC, hMS]]
  obtain ⟨h0, hh0⟩ : ∃ x, x = h := ⟨_, rfl⟩
  rw [show xb_am l D A σ 2 MC MS h = xb_am l D A σ 2 MC MS h0 by rw [hh0]]
  intro p e s m args below meth c hC H locs ls k n hE hl hR hS hk hn
  obtain ⟨hx, hb, hown, hlocks, htab, hml, hr, hB, hA, hnm⟩ := id hC
  have hts := hB.1.1.at args
  refine lv_aload_n hx hb (xb_d D_M_go 0 rfl) rfl (lv_at hl 0 rfl) ?_
  refine lv_aload_n hx hb (xb_d D_M_go 1 rfl) rfl (lv_at hl 0 rfl) ?_
  obtain ⟨hk1, hw⟩ := hw
  refine xb_getP (C := R_M) (T := F_M) (N := 97) hx hb 8 6 hts fin_M hown hR hk1 (by decide) rfl (by decide) rfl (hts _ m_2efec494) (fun _ h9 => h9) (xb_d D_M_go 2 rfl) ?_
  obtain ⟨b2, eb2, hw⟩ := hw
  refine xb_some eb2 ?_
  refine lv_iload_n hx hb (xb_d D_M_go 3 rfl) rfl (lv_at hl 1 rfl) ?_
  obtain ⟨hk4, hw⟩ := hw
  obtain ⟨hi3, hw⟩ := hw
  refine xb_iald hx hb hR hk4 hi3 (xb_d D_M_go 4 rfl) ?_
  refine xb_putI (C := R_M) (T := F_M) (N := 97) (ty := .int) (x := (xb_i h b2 (Int32.toNatClampNeg x1))) hx hb 8 14 hts fin_M t_M t_M_ok n_M hown hR hS hk1 (by decide) rfl (by decide) rfl (hts _ m_a8fce005) (fun _ h9 => h9) rfl (by decide +kernel) rfl rfl (xb_d D_M_go 5 rfl) (fun H locs hR hS => ?_)
  obtain ⟨h5, eh5⟩ : ∃ x : xb_H, x = xb_I h x0 14 (xb_i h b2 (Int32.toNatClampNeg x1)) := ⟨_, rfl⟩
  rw [← eh5] at hR
  have hw := hw h5 eh5
  have hE : xb_ext h0 h5 := by rw [eh5]; exact hE
  refine lv_aload_n hx hb (xb_d D_M_go 6 rfl) rfl (lv_at hl 0 rfl) ?_
  refine lv_iload_n hx hb (xb_d D_M_go 7 rfl) rfl (lv_at hl 2 rfl) ?_
  have hk1 : xb_k h5 x0 = 9 := by rw [eh5]; exact hk1
  refine xb_putI (C := R_M) (T := F_M) (N := 97) (ty := .int) (x := x2) hx hb 8 15 hts fin_M t_M t_M_ok n_M hown hR hS hk1 (by decide) rfl (by decide) rfl (hts _ m_6c2d27ad) (fun _ h9 => h9) rfl (by decide +kernel) rfl rfl (xb_d D_M_go 8 rfl) (fun H locs hR hS => ?_)
  obtain ⟨h6, eh6⟩ : ∃ x : xb_H, x = xb_I h5 x0 15 x2 := ⟨_, rfl⟩
  rw [← eh6] at hR
  have hw := hw h6 eh6
  have hE : xb_ext h0 h6 := by rw [eh6]; exact hE
  refine lv_aload_n hx hb (xb_d D_M_go 9 rfl) rfl (lv_at hl 0 rfl) ?_
  refine lv_aload_n hx hb (xb_d D_M_go 10 rfl) rfl (lv_at hl 0 rfl) ?_
  have hk1 : xb_k h6 x0 = 9 := by rw [eh6]; exact hk1
  refine xb_getI (C := R_M) (T := F_M) (N := 97) hx hb 8 14 hts fin_M hown hR hk1 (by decide) rfl (by decide) rfl (hts _ m_a8fce005) (fun _ h9 => h9) (xb_d D_M_go 11 rfl) ?_
  refine lv_aload_n hx hb (xb_d D_M_go 12 rfl) rfl (lv_at hl 0 rfl) ?_
  refine xb_getP (C := R_M) (T := F_M) (N := 97) hx hb 8 7 hts fin_M hown hR hk1 (by decide) rfl (by decide) rfl (hts _ m_36d14bfe) (fun _ h9 => h9) (xb_d D_M_go 13 rfl) ?_
  obtain ⟨b7, eb7, hw⟩ := hw
  refine xb_some eb7 ?_
  refine lv_iload_n hx hb (xb_d D_M_go 14 rfl) rfl (lv_at hl 1 rfl) ?_
  obtain ⟨hk9, hw⟩ := hw
  obtain ⟨hi8, hw⟩ := hw
  refine xb_iald hx hb hR hk9 hi8 (xb_d D_M_go 15 rfl) ?_
  refine lv_iadd hx hb (xb_d D_M_go 16 rfl) ?_
  refine xb_putI (C := R_M) (T := F_M) (N := 97) (ty := .int) (x := ((xb_i h6 x0 14) + (xb_i h6 b7 (Int32.toNatClampNeg x1)))) hx hb 8 16 hts fin_M t_M t_M_ok n_M hown hR hS hk1 (by decide) rfl (by decide) rfl (hts _ m_48124c81) (fun _ h9 => h9) rfl (by decide +kernel) rfl rfl (xb_d D_M_go 17 rfl) (fun H locs hR hS => ?_)
  obtain ⟨h10, eh10⟩ : ∃ x : xb_H, x = xb_I h6 x0 16 ((xb_i h6 x0 14) + (xb_i h6 b7 (Int32.toNatClampNeg x1))) := ⟨_, rfl⟩
  rw [← eh10] at hR
  have hw := hw h10 eh10
  have hE : xb_ext h0 h10 := by rw [eh10]; exact hE
  exact xb_vret 0 0 hx hb hr hlocks (show k + 0 ≤ MC by omega) (show n + 0 ≤ MS by omega) hE hR hS (xb_d D_M_go 18 rfl) hw

theorem m_b88bfd37 : (.fieldLink "StackHostModel" 89 "StackHostModel" "nameOf" "[I" : Cond) ∈ xt_tbl := xt_in (xt_t9 (List.mem_of_getElem? (i := 180) (by decide +kernel))) (by decide +kernel)
theorem m_4f0568af : (.fieldLink "StackHostModel" 14 "StackHostModel" "store" "[B" : Cond) ∈ xt_tbl := xt_in (xt_t9 (List.mem_of_getElem? (i := 142) (by decide +kernel))) (by decide +kernel)
theorem m_c7ddbadb : (.fieldLink "StackHostModel" 83 "StackHostModel" "nameFrom" "[I" : Cond) ∈ xt_tbl := xt_in (xt_t9 (List.mem_of_getElem? (i := 178) (by decide +kernel))) (by decide +kernel)
theorem m_48bc85e4 : (.fieldLink "StackHostModel" 86 "StackHostModel" "nameSize" "[I" : Cond) ∈ xt_tbl := xt_in (xt_t9 (List.mem_of_getElem? (i := 179) (by decide +kernel))) (by decide +kernel)
theorem m_9b569c31 : (.fieldLink "StackHostModel" 493 "StackHostModel" "names" "I" : Cond) ∈ xt_tbl := xt_in (xt_t9 (List.mem_of_getElem? (i := 181) (by decide +kernel))) (by decide +kernel)
set_option maxRecDepth 100000 in
def T_M_instanceNamed : List (Nat × Instr × Nat) := [(0, .aload_n 0, 1), (1, .getfield 493, 3), (4, .iconst 1, 1), (5, .isub, 1), (6, .istore_n 3, 1), (7, .iload_n 3, 1), (8, .ifCond .lt 91, 3), (11, .aload_n 0, 1), (12, .getfield 86, 3), (15, .iload_n 3, 1), (16, .iaload, 1), (17, .iload_n 2, 1), (18, .if_icmp .ne 7, 3), (21, .iconst 1, 1), (22, .goto 4, 3), (25, .iconst 0, 1), (26, .istore 4, 2), (28, .iconst 0, 1), (29, .istore 5, 2), (31, .iload 5, 2), (33, .iload_n 2, 1), (34, .if_icmp .ge 47, 3), (37, .iload 4, 2), (39, .ifCond .eq 42, 3), (42, .aload_n 0, 1), (43, .getfield 14, 3), (46, .aload_n 0, 1), (47, .getfield 83, 3), (50, .iload_n 3, 1), (51, .iaload, 1), (52, .iload 5, 2), (54, .iadd, 1), (55, .baload, 1), (56, .aload_n 0, 1), (57, .getfield 14, 3), (60, .iload_n 1, 1), (61, .iload 5, 2), (63, .iadd, 1), (64, .baload, 1), (65, .if_icmp .ne 7, 3), (68, .iconst 1, 1), (69, .goto 4, 3), (72, .iconst 0, 1), (73, .istore 4, 2), (75, .iinc 5 1, 3), (78, .goto (-47), 3), (81, .iload 4, 2), (83, .ifCond .eq 10, 3), (86, .aload_n 0, 1), (87, .getfield 89, 3), (90, .iload_n 3, 1), (91, .iaload, 1), (92, .ireturn, 1), (93, .iinc 3 (-1), 3), (96, .goto (-89), 3), (99, .iconst (-1), 1), (100, .ireturn, 1)]
theorem D_M_instanceNamed : ∀ q ∈ T_M_instanceNamed, decode b_M_instanceNamed q.1 = .ok (q.2.1, q.2.2) := by decide +kernel

set_option maxHeartbeats 4000000 in
set_option maxRecDepth 100000 in
theorem am_M_instanceNamed_L81 (l : Launch) (hfl : l.flags = pinnedFlags ++ [noTraceFlag]) (D : va_G) (A : Nat → Prop) (σ MC MS : Nat) (h0 : xb_H) (Qr : Int32 → xb_H → Prop) (K7 : Nat → Int32 → Int32 → Int32 → xb_H → Prop) (hK7 : ∀ (x0 : Nat) (x1 : Int32) (x2 : Int32) (x3 : Int32) (h : xb_H), K7 x0 x1 x2 x3 h → xb_am l D A σ 2 MC MS h0 (fun v h _ _ => ∃ r, v = some (.int r) ∧ Qr r h) (fun _ _ _ _ => False) y_M_instanceNamed.cls y_M_instanceNamed.name b_M_instanceNamed 6 ([] : List ExceptionTableEntry) (some .int) 7 [(0, .ref x0), (1, .int x1), (2, .int x2), (3, .int x3)] [] h 0 0) (x0 : Nat) (x1 : Int32) (x2 : Int32) (x3 : Int32) (x4 : Int32) (h : xb_H) (hw : w_M_instanceNamed_L81 K7 Qr x0 x1 x2 x3 x4 h) : xb_am l D A σ 2 MC MS h0 (fun v h _ _ => ∃ r, v = some (.int r) ∧ Qr r h) (fun _ _ _ _ => False) y_M_instanceNamed.cls y_M_instanceNamed.name b_M_instanceNamed 6 ([] : List ExceptionTableEntry) (some .int) 81 [(0, .ref x0), (1, .int x1), (2, .int x2), (3, .int x3), (4, .int x4)] [] h 0 0 := by
  unfold w_M_instanceNamed_L81 at hw
  intro p e s m args below meth c hC H locs ls k n hE hl hR hS hk hn
  obtain ⟨hx, hb, hown, hlocks, htab, hml, hr, hB, hA, hnm⟩ := id hC
  have hts := hB.1.1.at args
  refine lv_iload hx hb (xb_d D_M_instanceNamed 46 rfl) (lv_at hl 4 rfl) ?_
  refine lv_if_eq (tgt := 93) hx hb (xb_d D_M_instanceNamed 47 rfl) rfl (fun hc1 => ?_) (fun hc1 => ?_)
  · have hw := hw.1 hc1
    refine lv_iinc (v := (x3 + (-1))) (k := 3) hx hb (xb_d D_M_instanceNamed 53 rfl) hl rfl (by first | rfl | decide) (by decide) rfl (fun ls hl => ?_)
    have hl : lv_has ls 6 [(3, .int (x3 + (-1))), (0, .ref x0), (1, .int x1), (2, .int x2), (4, .int x4)] := hl
    refine lv_goto (tgt := 7) hx hb (xb_d D_M_instanceNamed 54 rfl) rfl ?_
    exact hK7 x0 x1 x2 (x3 + (-1)) h hw p e s m args below meth c hC H locs ls k n hE (lv_sub hl [1, 2, 3, 0] rfl) hR hS (by omega) (by omega)
  · have hw := hw.2 hc1
    refine lv_aload_n hx hb (xb_d D_M_instanceNamed 48 rfl) rfl (lv_at hl 0 rfl) ?_
    obtain ⟨hk2, hw⟩ := hw
    refine xb_getP (C := R_M) (T := F_M) (N := 97) hx hb 8 41 hts fin_M hown hR hk2 (by decide) rfl (by decide) rfl (hts _ m_b88bfd37) (fun _ h9 => h9) (xb_d D_M_instanceNamed 49 rfl) ?_
    obtain ⟨b3, eb3, hw⟩ := hw
    refine xb_some eb3 ?_
    refine lv_iload_n hx hb (xb_d D_M_instanceNamed 50 rfl) rfl (lv_at hl 3 rfl) ?_
    obtain ⟨hk5, hw⟩ := hw
    obtain ⟨hi4, hw⟩ := hw
    refine xb_iald hx hb hR hk5 hi4 (xb_d D_M_instanceNamed 51 rfl) ?_
    exact xb_iret 0 0 hx hb hr hlocks (show k + 0 ≤ MC by omega) (show n + 0 ≤ MS by omega) hE hR hS (xb_d D_M_instanceNamed 52 rfl) hw

set_option maxHeartbeats 4000000 in
set_option maxRecDepth 100000 in
theorem am_M_instanceNamed_L73 (l : Launch) (hfl : l.flags = pinnedFlags ++ [noTraceFlag]) (D : va_G) (A : Nat → Prop) (σ MC MS : Nat) (h0 : xb_H) (Qr : Int32 → xb_H → Prop) (K7 : Nat → Int32 → Int32 → Int32 → xb_H → Prop) (hK7 : ∀ (x0 : Nat) (x1 : Int32) (x2 : Int32) (x3 : Int32) (h : xb_H), K7 x0 x1 x2 x3 h → xb_am l D A σ 2 MC MS h0 (fun v h _ _ => ∃ r, v = some (.int r) ∧ Qr r h) (fun _ _ _ _ => False) y_M_instanceNamed.cls y_M_instanceNamed.name b_M_instanceNamed 6 ([] : List ExceptionTableEntry) (some .int) 7 [(0, .ref x0), (1, .int x1), (2, .int x2), (3, .int x3)] [] h 0 0) (K31 : Nat → Int32 → Int32 → Int32 → Int32 → Int32 → xb_H → Prop) (hK31 : ∀ (x0 : Nat) (x1 : Int32) (x2 : Int32) (x3 : Int32) (x4 : Int32) (x5 : Int32) (h : xb_H), K31 x0 x1 x2 x3 x4 x5 h → xb_am l D A σ 2 MC MS h0 (fun v h _ _ => ∃ r, v = some (.int r) ∧ Qr r h) (fun _ _ _ _ => False) y_M_instanceNamed.cls y_M_instanceNamed.name b_M_instanceNamed 6 ([] : List ExceptionTableEntry) (some .int) 31 [(0, .ref x0), (1, .int x1), (2, .int x2), (3, .int x3), (4, .int x4), (5, .int x5)] [] h 0 0) (x0 : Nat) (x1 : Int32) (x2 : Int32) (x3 : Int32) (x5 : Int32) (y0 : Int32) (h : xb_H) (hw : w_M_instanceNamed_L73 K7 K31 Qr x0 x1 x2 x3 x5 y0 h) : xb_am l D A σ 2 MC MS h0 (fun v h _ _ => ∃ r, v = some (.int r) ∧ Qr r h) (fun _ _ _ _ => False) y_M_instanceNamed.cls y_M_instanceNamed.name b_M_instanceNamed 6 ([] : List ExceptionTableEntry) (some .int) 73 [(0, .ref x0), (1, .int x1), (2, .int x2), (3, .int x3), (5, .int x5)] [.int y0] h 0 0 := by
  unfold w_M_instanceNamed_L73 at hw
  intro p e s m args below meth c hC H locs ls k n hE hl hR hS hk hn
  obtain ⟨hx, hb, hown, hlocks, htab, hml, hr, hB, hA, hnm⟩ := id hC
  have hts := hB.1.1.at args
  refine lv_istore hx hb (xb_d D_M_instanceNamed 43 rfl) hl (by decide) rfl (fun ls hl => ?_)
  have hl : lv_has ls 6 [(4, .int y0), (0, .ref x0), (1, .int x1), (2, .int x2), (3, .int x3), (5, .int x5)] := hl
  refine lv_iinc (v := (x5 + 1)) (k := 5) hx hb (xb_d D_M_instanceNamed 44 rfl) hl rfl (by first | rfl | decide) (by decide) rfl (fun ls hl => ?_)
  have hl : lv_has ls 6 [(5, .int (x5 + 1)), (4, .int y0), (0, .ref x0), (1, .int x1), (2, .int x2), (3, .int x3)] := hl
  refine lv_goto (tgt := 31) hx hb (xb_d D_M_instanceNamed 45 rfl) rfl ?_
  exact hK31 x0 x1 x2 x3 y0 (x5 + 1) h hw p e s m args below meth c hC H locs ls k n hE (lv_sub hl [2, 3, 4, 5, 1, 0] rfl) hR hS (by omega) (by omega)

set_option maxHeartbeats 4000000 in
set_option maxRecDepth 100000 in
theorem am_M_instanceNamed_L31 (l : Launch) (hfl : l.flags = pinnedFlags ++ [noTraceFlag]) (D : va_G) (A : Nat → Prop) (σ MC MS : Nat) (h0 : xb_H) (Qr : Int32 → xb_H → Prop) (K7 : Nat → Int32 → Int32 → Int32 → xb_H → Prop) (hK7 : ∀ (x0 : Nat) (x1 : Int32) (x2 : Int32) (x3 : Int32) (h : xb_H), K7 x0 x1 x2 x3 h → xb_am l D A σ 2 MC MS h0 (fun v h _ _ => ∃ r, v = some (.int r) ∧ Qr r h) (fun _ _ _ _ => False) y_M_instanceNamed.cls y_M_instanceNamed.name b_M_instanceNamed 6 ([] : List ExceptionTableEntry) (some .int) 7 [(0, .ref x0), (1, .int x1), (2, .int x2), (3, .int x3)] [] h 0 0) (n9 : Nat) : ∀ (x0 : Nat) (x1 : Int32) (x2 : Int32) (x3 : Int32) (x4 : Int32) (x5 : Int32) (h : xb_H), w_M_instanceNamed_L31 K7 Qr n9 x0 x1 x2 x3 x4 x5 h → xb_am l D A σ 2 MC MS h0 (fun v h _ _ => ∃ r, v = some (.int r) ∧ Qr r h) (fun _ _ _ _ => False) y_M_instanceNamed.cls y_M_instanceNamed.name b_M_instanceNamed 6 ([] : List ExceptionTableEntry) (some .int) 31 [(0, .ref x0), (1, .int x1), (2, .int x2), (3, .int x3), (4, .int x4), (5, .int x5)] [] h 0 0 := by
  induction n9 with
  | zero => intro x0 x1 x2 x3 x4 x5 h hw; exact False.elim hw
  | succ n9 ih =>
    intro x0 x1 x2 x3 x4 x5 h hw
    unfold w_M_instanceNamed_L31 at hw
    intro p e s m args below meth c hC H locs ls k n hE hl hR hS hk hn
    obtain ⟨hx, hb, hown, hlocks, htab, hml, hr, hB, hA, hnm⟩ := id hC
    have hts := hB.1.1.at args
    refine lv_iload hx hb (xb_d D_M_instanceNamed 19 rfl) (lv_at hl 5 rfl) ?_
    refine lv_iload_n hx hb (xb_d D_M_instanceNamed 20 rfl) rfl (lv_at hl 2 rfl) ?_
    refine lv_icmp_ge (tgt := 81) hx hb (xb_d D_M_instanceNamed 21 rfl) rfl (fun hc1 => ?_) (fun hc1 => ?_)
    · have hw := hw.1 hc1
      exact am_M_instanceNamed_L81 l hfl D A σ MC MS h0 Qr K7 hK7 x0 x1 x2 x3 x4 h hw p e s m args below meth c hC H locs ls k n hE (lv_sub hl [0, 1, 2, 3, 4] rfl) hR hS (by omega) (by omega)
    · have hw := hw.2 hc1
      refine lv_iload hx hb (xb_d D_M_instanceNamed 22 rfl) (lv_at hl 4 rfl) ?_
      refine lv_if_eq (tgt := 81) hx hb (xb_d D_M_instanceNamed 23 rfl) rfl (fun hc2 => ?_) (fun hc2 => ?_)
      · have hw := hw.1 hc2
        exact am_M_instanceNamed_L81 l hfl D A σ MC MS h0 Qr K7 hK7 x0 x1 x2 x3 x4 h hw p e s m args below meth c hC H locs ls k n hE (lv_sub hl [0, 1, 2, 3, 4] rfl) hR hS (by omega) (by omega)
      · have hw := hw.2 hc2
        refine lv_aload_n hx hb (xb_d D_M_instanceNamed 24 rfl) rfl (lv_at hl 0 rfl) ?_
        obtain ⟨hk3, hw⟩ := hw
        refine xb_getP (C := R_M) (T := F_M) (N := 97) hx hb 8 3 hts fin_M hown hR hk3 (by decide) rfl (by decide) rfl (hts _ m_4f0568af) (fun _ h9 => h9) (xb_d D_M_instanceNamed 25 rfl) ?_
        obtain ⟨b4, eb4, hw⟩ := hw
        refine xb_some eb4 ?_
        refine lv_aload_n hx hb (xb_d D_M_instanceNamed 26 rfl) rfl (lv_at hl 0 rfl) ?_
        refine xb_getP (C := R_M) (T := F_M) (N := 97) hx hb 8 39 hts fin_M hown hR hk3 (by decide) rfl (by decide) rfl (hts _ m_c7ddbadb) (fun _ h9 => h9) (xb_d D_M_instanceNamed 27 rfl) ?_
        obtain ⟨b5, eb5, hw⟩ := hw
        refine xb_some eb5 ?_
        refine lv_iload_n hx hb (xb_d D_M_instanceNamed 28 rfl) rfl (lv_at hl 3 rfl) ?_
        obtain ⟨hk7, hw⟩ := hw
        obtain ⟨hi6, hw⟩ := hw
        refine xb_iald hx hb hR hk7 hi6 (xb_d D_M_instanceNamed 29 rfl) ?_
        refine lv_iload hx hb (xb_d D_M_instanceNamed 30 rfl) (lv_at hl 5 rfl) ?_
        refine lv_iadd hx hb (xb_d D_M_instanceNamed 31 rfl) ?_
        obtain ⟨hk9, hw⟩ := hw
        obtain ⟨hi8, hw⟩ := hw
        refine xb_bald hx hb hR hk9 hi8 (xb_d D_M_instanceNamed 32 rfl) ?_
        refine lv_aload_n hx hb (xb_d D_M_instanceNamed 33 rfl) rfl (lv_at hl 0 rfl) ?_
        refine xb_getP (C := R_M) (T := F_M) (N := 97) hx hb 8 3 hts fin_M hown hR hk3 (by decide) rfl (by decide) rfl (hts _ m_4f0568af) (fun _ h9 => h9) (xb_d D_M_instanceNamed 34 rfl) ?_
        obtain ⟨b10, eb10, hw⟩ := hw
        refine xb_some eb10 ?_
        refine lv_iload_n hx hb (xb_d D_M_instanceNamed 35 rfl) rfl (lv_at hl 1 rfl) ?_
        refine lv_iload hx hb (xb_d D_M_instanceNamed 36 rfl) (lv_at hl 5 rfl) ?_
        refine lv_iadd hx hb (xb_d D_M_instanceNamed 37 rfl) ?_
        obtain ⟨hk12, hw⟩ := hw
        obtain ⟨hi11, hw⟩ := hw
        refine xb_bald hx hb hR hk12 hi11 (xb_d D_M_instanceNamed 38 rfl) ?_
        refine lv_icmp_ne (tgt := 72) hx hb (xb_d D_M_instanceNamed 39 rfl) rfl (fun hc13 => ?_) (fun hc13 => ?_)
        · have hw := hw.1 hc13
          refine lv_iconst (v := 0) hx hb (xb_d D_M_instanceNamed 42 rfl) (by decide) ?_
          exact am_M_instanceNamed_L73 l hfl D A σ MC MS h0 Qr K7 hK7 (w_M_instanceNamed_L31 K7 Qr n9) ih x0 x1 x2 x3 x5 0 h hw p e s m args below meth c hC H locs ls k n hE (lv_sub hl [0, 1, 2, 3, 5] rfl) hR hS (by omega) (by omega)
        · have hw := hw.2 hc13
          refine lv_iconst (v := 1) hx hb (xb_d D_M_instanceNamed 40 rfl) (by decide) ?_
          refine lv_goto (tgt := 73) hx hb (xb_d D_M_instanceNamed 41 rfl) rfl ?_
          exact am_M_instanceNamed_L73 l hfl D A σ MC MS h0 Qr K7 hK7 (w_M_instanceNamed_L31 K7 Qr n9) ih x0 x1 x2 x3 x5 1 h hw p e s m args below meth c hC H locs ls k n hE (lv_sub hl [0, 1, 2, 3, 5] rfl) hR hS (by omega) (by omega)

set_option maxHeartbeats 4000000 in
set_option maxRecDepth 100000 in
theorem am_M_instanceNamed_L26 (l : Launch) (hfl : l.flags = pinnedFlags ++ [noTraceFlag]) (D : va_G) (A : Nat → Prop) (σ MC MS : Nat) (h0 : xb_H) (Qr : Int32 → xb_H → Prop) (K7 : Nat → Int32 → Int32 → Int32 → xb_H → Prop) (hK7 : ∀ (x0 : Nat) (x1 : Int32) (x2 : Int32) (x3 : Int32) (h : xb_H), K7 x0 x1 x2 x3 h → xb_am l D A σ 2 MC MS h0 (fun v h _ _ => ∃ r, v = some (.int r) ∧ Qr r h) (fun _ _ _ _ => False) y_M_instanceNamed.cls y_M_instanceNamed.name b_M_instanceNamed 6 ([] : List ExceptionTableEntry) (some .int) 7 [(0, .ref x0), (1, .int x1), (2, .int x2), (3, .int x3)] [] h 0 0) (x0 : Nat) (x1 : Int32) (x2 : Int32) (x3 : Int32) (y0 : Int32) (h : xb_H) (hw : w_M_instanceNamed_L26 K7 Qr x0 x1 x2 x3 y0 h) : xb_am l D A σ 2 MC MS h0 (fun v h _ _ => ∃ r, v = some (.int r) ∧ Qr r h) (fun _ _ _ _ => False) y_M_instanceNamed.cls y_M_instanceNamed.name b_M_instanceNamed 6 ([] : List ExceptionTableEntry) (some .int) 26 [(0, .ref x0), (1, .int x1), (2, .int x2), (3, .int x3)] [.int y0] h 0 0 := by
  unfold w_M_instanceNamed_L26 at hw
  intro p e s m args below meth c hC H locs ls k n hE hl hR hS hk hn
  obtain ⟨hx, hb, hown, hlocks, htab, hml, hr, hB, hA, hnm⟩ := id hC
  have hts := hB.1.1.at args
  refine lv_istore hx hb (xb_d D_M_instanceNamed 16 rfl) hl (by decide) rfl (fun ls hl => ?_)
  have hl : lv_has ls 6 [(4, .int y0), (0, .ref x0), (1, .int x1), (2, .int x2), (3, .int x3)] := hl
  refine lv_iconst (v := 0) hx hb (xb_d D_M_instanceNamed 17 rfl) (by decide) ?_
  refine lv_istore hx hb (xb_d D_M_instanceNamed 18 rfl) hl (by decide) rfl (fun ls hl => ?_)
  have hl : lv_has ls 6 [(5, .int 0), (4, .int y0), (0, .ref x0), (1, .int x1), (2, .int x2), (3, .int x3)] := hl
  obtain ⟨n8, hw⟩ := hw
  exact am_M_instanceNamed_L31 l hfl D A σ MC MS h0 Qr K7 hK7 n8 x0 x1 x2 x3 y0 0 h hw p e s m args below meth c hC H locs ls k n hE (lv_sub hl [2, 3, 4, 5, 1, 0] rfl) hR hS (by omega) (by omega)

set_option maxHeartbeats 4000000 in
set_option maxRecDepth 100000 in
theorem am_M_instanceNamed_L7 (l : Launch) (hfl : l.flags = pinnedFlags ++ [noTraceFlag]) (D : va_G) (A : Nat → Prop) (σ MC MS : Nat) (h0 : xb_H) (Qr : Int32 → xb_H → Prop) (n9 : Nat) : ∀ (x0 : Nat) (x1 : Int32) (x2 : Int32) (x3 : Int32) (h : xb_H), w_M_instanceNamed_L7 Qr n9 x0 x1 x2 x3 h → xb_am l D A σ 2 MC MS h0 (fun v h _ _ => ∃ r, v = some (.int r) ∧ Qr r h) (fun _ _ _ _ => False) y_M_instanceNamed.cls y_M_instanceNamed.name b_M_instanceNamed 6 ([] : List ExceptionTableEntry) (some .int) 7 [(0, .ref x0), (1, .int x1), (2, .int x2), (3, .int x3)] [] h 0 0 := by
  induction n9 with
  | zero => intro x0 x1 x2 x3 h hw; exact False.elim hw
  | succ n9 ih =>
    intro x0 x1 x2 x3 h hw
    unfold w_M_instanceNamed_L7 at hw
    intro p e s m args below meth c hC H locs ls k n hE hl hR hS hk hn
    obtain ⟨hx, hb, hown, hlocks, htab, hml, hr, hB, hA, hnm⟩ := id hC
    have hts := hB.1.1.at args
    refine lv_iload_n hx hb (xb_d D_M_instanceNamed 5 rfl) rfl (lv_at hl 3 rfl) ?_
    refine lv_if_lt (tgt := 99) hx hb (xb_d D_M_instanceNamed 6 rfl) rfl (fun hc1 => ?_) (fun hc1 => ?_)
    · have hw := hw.1 hc1
      refine lv_iconst (v := (-1)) hx hb (xb_d D_M_instanceNamed 55 rfl) (by decide) ?_
      exact xb_iret 0 0 hx hb hr hlocks (show k + 0 ≤ MC by omega) (show n + 0 ≤ MS by omega) hE hR hS (xb_d D_M_instanceNamed 56 rfl) hw
    · have hw := hw.2 hc1
      refine lv_aload_n hx hb (xb_d D_M_instanceNamed 7 rfl) rfl (lv_at hl 0 rfl) ?_
      obtain ⟨hk2, hw⟩ := hw
      refine xb_getP (C := R_M) (T := F_M) (N := 97) hx hb 8 40 hts fin_M hown hR hk2 (by decide) rfl (by decide) rfl (hts _ m_48bc85e4) (fun _ h9 => h9) (xb_d D_M_instanceNamed 8 rfl) ?_
      obtain ⟨b3, eb3, hw⟩ := hw
      refine xb_some eb3 ?_
      refine lv_iload_n hx hb (xb_d D_M_instanceNamed 9 rfl) rfl (lv_at hl 3 rfl) ?_
      obtain ⟨hk5, hw⟩ := hw
      obtain ⟨hi4, hw⟩ := hw
      refine xb_iald hx hb hR hk5 hi4 (xb_d D_M_instanceNamed 10 rfl) ?_
      refine lv_iload_n hx hb (xb_d D_M_instanceNamed 11 rfl) rfl (lv_at hl 2 rfl) ?_
      refine lv_icmp_ne (tgt := 25) hx hb (xb_d D_M_instanceNamed 12 rfl) rfl (fun hc6 => ?_) (fun hc6 => ?_)
      · have hw := hw.1 hc6
        refine lv_iconst (v := 0) hx hb (xb_d D_M_instanceNamed 15 rfl) (by decide) ?_
        exact am_M_instanceNamed_L26 l hfl D A σ MC MS h0 Qr (w_M_instanceNamed_L7 Qr n9) ih x0 x1 x2 x3 0 h hw p e s m args below meth c hC H locs ls k n hE (lv_sub hl [0, 1, 2, 3] rfl) hR hS (by omega) (by omega)
      · have hw := hw.2 hc6
        refine lv_iconst (v := 1) hx hb (xb_d D_M_instanceNamed 13 rfl) (by decide) ?_
        refine lv_goto (tgt := 26) hx hb (xb_d D_M_instanceNamed 14 rfl) rfl ?_
        exact am_M_instanceNamed_L26 l hfl D A σ MC MS h0 Qr (w_M_instanceNamed_L7 Qr n9) ih x0 x1 x2 x3 1 h hw p e s m args below meth c hC H locs ls k n hE (lv_sub hl [0, 1, 2, 3] rfl) hR hS (by omega) (by omega)

set_option maxHeartbeats 4000000 in
set_option maxRecDepth 100000 in
theorem ok_M_instanceNamed (l : Launch) (hfl : l.flags = pinnedFlags ++ [noTraceFlag]) (D : va_G) (A : Nat → Prop) (σ : Nat) (x0 : Nat) (x1 : Int32) (x2 : Int32) (h : xb_H) (Qr : Int32 → xb_H → Prop) (hw : w_M_instanceNamed x0 x1 x2 h Qr) : xb_Met l y_M_instanceNamed [.code y_M_instanceNamed b_M_instanceNamed 6 (some .int)] (xb_rm 2 0 0) (xb_Pc D A σ h [.ref x0, .int x1, .int x2]) (xb_Qc D A h 0 0 (fun v h _ _ => ∃ r, v = some (.int r) ∧ Qr r h) (fun _ _ _ _ => False)) A := by
  refine xb_ofAm (cc := b_M_instanceNamed) (by decide) (Nat.le_of_ble_eq_true rfl) ?_
  unfold w_M_instanceNamed at hw
  show xb_am l D A σ 2 0 0 h (fun v h _ _ => ∃ r, v = some (.int r) ∧ Qr r h) (fun _ _ _ _ => False) y_M_instanceNamed.cls y_M_instanceNamed.name b_M_instanceNamed 6 ([] : List ExceptionTableEntry) (some .int) 0 [(0, .ref x0), (1, .int x1), (2, .int x2)] [] h 0 0
  obtain ⟨MC, hMC⟩ : ∃ x, x = 0 := ⟨_, rfl⟩
  obtain ⟨MS, hMS⟩ : ∃ x, x = 0 := ⟨_, rfl⟩
  rw [show xb_am l D A σ 2 0 0 = xb_am l D A σ 2 MC MS by rw [hMC, hMS]]
  obtain ⟨h0, hh0⟩ : ∃ x, x = h := ⟨_, rfl⟩
  rw [show xb_am l D A σ 2 MC MS h = xb_am l D A σ 2 MC MS h0 by rw [hh0]]
  intro p e s m args below meth c hC H locs ls k n hE hl hR hS hk hn
  obtain ⟨hx, hb, hown, hlocks, htab, hml, hr, hB, hA, hnm⟩ := id hC
  have hts := hB.1.1.at args
  refine lv_aload_n hx hb (xb_d D_M_instanceNamed 0 rfl) rfl (lv_at hl 0 rfl) ?_
  obtain ⟨hk1, hw⟩ := hw
  refine xb_getI (C := R_M) (T := F_M) (N := 97) hx hb 8 42 hts fin_M hown hR hk1 (by decide) rfl (by decide) rfl (hts _ m_9b569c31) (fun _ h9 => h9) (xb_d D_M_instanceNamed 1 rfl) ?_
  refine lv_iconst (v := 1) hx hb (xb_d D_M_instanceNamed 2 rfl) (by decide) ?_
  refine lv_isub hx hb (xb_d D_M_instanceNamed 3 rfl) ?_
  obtain ⟨v2, ev2⟩ : ∃ x : Int32, x = ((xb_i h x0 42) - 1) := ⟨_, rfl⟩
  have hw := hw v2 ev2
  refine xt_numi (y := v2) ev2.symm ?_
  refine lv_istore_n hx hb (xb_d D_M_instanceNamed 4 rfl) rfl hl (by decide) rfl (fun ls hl => ?_)
  have hl : lv_has ls 6 [(3, .int v2), (0, .ref x0), (1, .int x1), (2, .int x2)] := hl
  obtain ⟨n8, hw⟩ := hw
  exact am_M_instanceNamed_L7 l hfl D A σ MC MS h0 Qr n8 x0 x1 x2 v2 h hw p e s m args below meth c hC H locs ls k n hE (lv_sub hl [1, 2, 3, 0] rfl) hR hS (by omega) (by omega)

set_option maxRecDepth 100000 in
def T_M_isGroup : List (Nat × Instr × Nat) := [(0, .iload_n 2, 1), (1, .ifCond .lt 10, 3), (4, .iload_n 1, 1), (5, .iload_n 2, 1), (6, .iadd, 1), (7, .iload_n 3, 1), (8, .if_icmp .lt 5, 3), (11, .iconst 0, 1), (12, .ireturn, 1), (13, .iconst 1, 1), (14, .istore 4, 2), (16, .iconst 1, 1), (17, .istore 5, 2), (19, .iload 5, 2), (21, .iload_n 2, 1), (22, .if_icmp .gt 40, 3), (25, .iload 4, 2), (27, .ifCond .eq 26, 3), (30, .aload_n 0, 1), (31, .getfield 14, 3), (34, .iload_n 1, 1), (35, .iload 5, 2), (37, .iadd, 1), (38, .baload, 1), (39, .sipush 192, 3), (42, .iand, 1), (43, .sipush 128, 3), (46, .if_icmp .ne 7, 3), (49, .iconst 1, 1), (50, .goto 4, 3), (53, .iconst 0, 1), (54, .istore 4, 2), (56, .iinc 5 1, 3), (59, .goto (-40), 3), (62, .aload_n 0, 1), (63, .getfield 14, 3), (66, .iload_n 1, 1), (67, .baload, 1), (68, .sipush 255, 3), (71, .iand, 1), (72, .istore 5, 2), (74, .iload_n 2, 1), (75, .ifCond .le 18, 3), (78, .aload_n 0, 1), (79, .getfield 14, 3), (82, .iload_n 1, 1), (83, .iconst 1, 1), (84, .iadd, 1), (85, .baload, 1), (86, .sipush 255, 3), (89, .iand, 1), (90, .goto 4, 3), (93, .iconst 0, 1), (94, .istore 6, 2), (96, .iload 4, 2), (98, .ifCond .eq 71, 3), (101, .iload 5, 2), (103, .sipush 224, 3), (106, .if_icmp .ne 11, 3), (109, .iload 6, 2), (111, .sipush 160, 3), (114, .if_icmp .lt 55, 3), (117, .iload 5, 2), (119, .sipush 237, 3), (122, .if_icmp .ne 11, 3), (125, .iload 6, 2), (127, .sipush 159, 3), (130, .if_icmp .gt 39, 3), (133, .iload 5, 2), (135, .sipush 240, 3), (138, .if_icmp .ne 11, 3), (141, .iload 6, 2), (143, .sipush 144, 3), (146, .if_icmp .lt 23, 3), (149, .iload 5, 2), (151, .sipush 244, 3), (154, .if_icmp .ne 11, 3), (157, .iload 6, 2), (159, .sipush 143, 3), (162, .if_icmp .gt 7, 3), (165, .iconst 1, 1), (166, .goto 4, 3), (169, .iconst 0, 1), (170, .ireturn, 1)]
theorem D_M_isGroup : ∀ q ∈ T_M_isGroup, decode b_M_isGroup q.1 = .ok (q.2.1, q.2.2) := by decide +kernel

set_option maxHeartbeats 4000000 in
set_option maxRecDepth 100000 in
theorem am_M_isGroup_L170 (l : Launch) (hfl : l.flags = pinnedFlags ++ [noTraceFlag]) (D : va_G) (A : Nat → Prop) (σ MC MS : Nat) (h0 : xb_H) (Qr : Int32 → xb_H → Prop) (y0 : Int32) (h : xb_H) (hw : w_M_isGroup_L170 Qr y0 h) : xb_am l D A σ 2 MC MS h0 (fun v h _ _ => ∃ r, v = some (.int r) ∧ Qr r h) (fun _ _ _ _ => False) y_M_isGroup.cls y_M_isGroup.name b_M_isGroup 7 ([] : List ExceptionTableEntry) (some .boolean) 170 [] [.int y0] h 0 0 := by
  unfold w_M_isGroup_L170 at hw
  intro p e s m args below meth c hC H locs ls k n hE hl hR hS hk hn
  obtain ⟨hx, hb, hown, hlocks, htab, hml, hr, hB, hA, hnm⟩ := id hC
  have hts := hB.1.1.at args
  exact xb_zret 0 0 hx hb hr hlocks (show k + 0 ≤ MC by omega) (show n + 0 ≤ MS by omega) hw.1 hE hR hS (xb_d D_M_isGroup 83 rfl) hw.2

set_option maxHeartbeats 4000000 in
set_option maxRecDepth 100000 in
theorem am_M_isGroup_L169 (l : Launch) (hfl : l.flags = pinnedFlags ++ [noTraceFlag]) (D : va_G) (A : Nat → Prop) (σ MC MS : Nat) (h0 : xb_H) (Qr : Int32 → xb_H → Prop) (h : xb_H) (hw : w_M_isGroup_L169 Qr h) : xb_am l D A σ 2 MC MS h0 (fun v h _ _ => ∃ r, v = some (.int r) ∧ Qr r h) (fun _ _ _ _ => False) y_M_isGroup.cls y_M_isGroup.name b_M_isGroup 7 ([] : List ExceptionTableEntry) (some .boolean) 169 [] [] h 0 0 := by
  unfold w_M_isGroup_L169 at hw
  intro p e s m args below meth c hC H locs ls k n hE hl hR hS hk hn
  obtain ⟨hx, hb, hown, hlocks, htab, hml, hr, hB, hA, hnm⟩ := id hC
  have hts := hB.1.1.at args
  refine lv_iconst (v := 0) hx hb (xb_d D_M_isGroup 82 rfl) (by decide) ?_
  exact am_M_isGroup_L170 l hfl D A σ MC MS h0 Qr 0 h hw p e s m args below meth c hC H locs ls k n hE (lv_sub hl [] rfl) hR hS (by omega) (by omega)

set_option maxHeartbeats 4000000 in
set_option maxRecDepth 100000 in
theorem am_M_isGroup_L165 (l : Launch) (hfl : l.flags = pinnedFlags ++ [noTraceFlag]) (D : va_G) (A : Nat → Prop) (σ MC MS : Nat) (h0 : xb_H) (Qr : Int32 → xb_H → Prop) (h : xb_H) (hw : w_M_isGroup_L165 Qr h) : xb_am l D A σ 2 MC MS h0 (fun v h _ _ => ∃ r, v = some (.int r) ∧ Qr r h) (fun _ _ _ _ => False) y_M_isGroup.cls y_M_isGroup.name b_M_isGroup 7 ([] : List ExceptionTableEntry) (some .boolean) 165 [] [] h 0 0 := by
  unfold w_M_isGroup_L165 at hw
  intro p e s m args below meth c hC H locs ls k n hE hl hR hS hk hn
  obtain ⟨hx, hb, hown, hlocks, htab, hml, hr, hB, hA, hnm⟩ := id hC
  have hts := hB.1.1.at args
  refine lv_iconst (v := 1) hx hb (xb_d D_M_isGroup 80 rfl) (by decide) ?_
  refine lv_goto (tgt := 170) hx hb (xb_d D_M_isGroup 81 rfl) rfl ?_
  exact am_M_isGroup_L170 l hfl D A σ MC MS h0 Qr 1 h hw p e s m args below meth c hC H locs ls k n hE (lv_sub hl [] rfl) hR hS (by omega) (by omega)

set_option maxHeartbeats 4000000 in
set_option maxRecDepth 100000 in
theorem am_M_isGroup_L149 (l : Launch) (hfl : l.flags = pinnedFlags ++ [noTraceFlag]) (D : va_G) (A : Nat → Prop) (σ MC MS : Nat) (h0 : xb_H) (Qr : Int32 → xb_H → Prop) (x5 : Int32) (x6 : Int32) (h : xb_H) (hw : w_M_isGroup_L149 Qr x5 x6 h) : xb_am l D A σ 2 MC MS h0 (fun v h _ _ => ∃ r, v = some (.int r) ∧ Qr r h) (fun _ _ _ _ => False) y_M_isGroup.cls y_M_isGroup.name b_M_isGroup 7 ([] : List ExceptionTableEntry) (some .boolean) 149 [(5, .int x5), (6, .int x6)] [] h 0 0 := by
  unfold w_M_isGroup_L149 at hw
  intro p e s m args below meth c hC H locs ls k n hE hl hR hS hk hn
  obtain ⟨hx, hb, hown, hlocks, htab, hml, hr, hB, hA, hnm⟩ := id hC
  have hts := hB.1.1.at args
  refine lv_iload hx hb (xb_d D_M_isGroup 74 rfl) (lv_at hl 0 rfl) ?_
  refine lv_sipush (v := 244) hx hb (xb_d D_M_isGroup 75 rfl) (by decide) ?_
  refine lv_icmp_ne (tgt := 165) hx hb (xb_d D_M_isGroup 76 rfl) rfl (fun hc1 => ?_) (fun hc1 => ?_)
  · have hw := hw.1 hc1
    exact am_M_isGroup_L165 l hfl D A σ MC MS h0 Qr h hw p e s m args below meth c hC H locs ls k n hE (lv_sub hl [] rfl) hR hS (by omega) (by omega)
  · have hw := hw.2 hc1
    refine lv_iload hx hb (xb_d D_M_isGroup 77 rfl) (lv_at hl 1 rfl) ?_
    refine lv_sipush (v := 143) hx hb (xb_d D_M_isGroup 78 rfl) (by decide) ?_
    refine lv_icmp_gt (tgt := 169) hx hb (xb_d D_M_isGroup 79 rfl) rfl (fun hc2 => ?_) (fun hc2 => ?_)
    · have hw := hw.1 hc2
      exact am_M_isGroup_L169 l hfl D A σ MC MS h0 Qr h hw p e s m args below meth c hC H locs ls k n hE (lv_sub hl [] rfl) hR hS (by omega) (by omega)
    · have hw := hw.2 hc2
      exact am_M_isGroup_L165 l hfl D A σ MC MS h0 Qr h hw p e s m args below meth c hC H locs ls k n hE (lv_sub hl [] rfl) hR hS (by omega) (by omega)

set_option maxHeartbeats 4000000 in
set_option maxRecDepth 100000 in
theorem am_M_isGroup_L133 (l : Launch) (hfl : l.flags = pinnedFlags ++ [noTraceFlag]) (D : va_G) (A : Nat → Prop) (σ MC MS : Nat) (h0 : xb_H) (Qr : Int32 → xb_H → Prop) (x5 : Int32) (x6 : Int32) (h : xb_H) (hw : w_M_isGroup_L133 Qr x5 x6 h) : xb_am l D A σ 2 MC MS h0 (fun v h _ _ => ∃ r, v = some (.int r) ∧ Qr r h) (fun _ _ _ _ => False) y_M_isGroup.cls y_M_isGroup.name b_M_isGroup 7 ([] : List ExceptionTableEntry) (some .boolean) 133 [(5, .int x5), (6, .int x6)] [] h 0 0 := by
  unfold w_M_isGroup_L133 at hw
  intro p e s m args below meth c hC H locs ls k n hE hl hR hS hk hn
  obtain ⟨hx, hb, hown, hlocks, htab, hml, hr, hB, hA, hnm⟩ := id hC
  have hts := hB.1.1.at args
  refine lv_iload hx hb (xb_d D_M_isGroup 68 rfl) (lv_at hl 0 rfl) ?_
  refine lv_sipush (v := 240) hx hb (xb_d D_M_isGroup 69 rfl) (by decide) ?_
  refine lv_icmp_ne (tgt := 149) hx hb (xb_d D_M_isGroup 70 rfl) rfl (fun hc1 => ?_) (fun hc1 => ?_)
  · have hw := hw.1 hc1
    exact am_M_isGroup_L149 l hfl D A σ MC MS h0 Qr x5 x6 h hw p e s m args below meth c hC H locs ls k n hE (lv_sub hl [0, 1] rfl) hR hS (by omega) (by omega)
  · have hw := hw.2 hc1
    refine lv_iload hx hb (xb_d D_M_isGroup 71 rfl) (lv_at hl 1 rfl) ?_
    refine lv_sipush (v := 144) hx hb (xb_d D_M_isGroup 72 rfl) (by decide) ?_
    refine lv_icmp_lt (tgt := 169) hx hb (xb_d D_M_isGroup 73 rfl) rfl (fun hc2 => ?_) (fun hc2 => ?_)
    · have hw := hw.1 hc2
      exact am_M_isGroup_L169 l hfl D A σ MC MS h0 Qr h hw p e s m args below meth c hC H locs ls k n hE (lv_sub hl [] rfl) hR hS (by omega) (by omega)
    · have hw := hw.2 hc2
      exact am_M_isGroup_L149 l hfl D A σ MC MS h0 Qr x5 x6 h hw p e s m args below meth c hC H locs ls k n hE (lv_sub hl [0, 1] rfl) hR hS (by omega) (by omega)

set_option maxHeartbeats 4000000 in
set_option maxRecDepth 100000 in
theorem am_M_isGroup_L117 (l : Launch) (hfl : l.flags = pinnedFlags ++ [noTraceFlag]) (D : va_G) (A : Nat → Prop) (σ MC MS : Nat) (h0 : xb_H) (Qr : Int32 → xb_H → Prop) (x5 : Int32) (x6 : Int32) (h : xb_H) (hw : w_M_isGroup_L117 Qr x5 x6 h) : xb_am l D A σ 2 MC MS h0 (fun v h _ _ => ∃ r, v = some (.int r) ∧ Qr r h) (fun _ _ _ _ => False) y_M_isGroup.cls y_M_isGroup.name b_M_isGroup 7 ([] : List ExceptionTableEntry) (some .boolean) 117 [(5, .int x5), (6, .int x6)] [] h 0 0 := by
  unfold w_M_isGroup_L117 at hw
  intro p e s m args below meth c hC H locs ls k n hE hl hR hS hk hn
  obtain ⟨hx, hb, hown, hlocks, htab, hml, hr, hB, hA, hnm⟩ := id hC
  have hts := hB.1.1.at args
  refine lv_iload hx hb (xb_d D_M_isGroup 62 rfl) (lv_at hl 0 rfl) ?_
  refine lv_sipush (v := 237) hx hb (xb_d D_M_isGroup 63 rfl) (by decide) ?_
  refine lv_icmp_ne (tgt := 133) hx hb (xb_d D_M_isGroup 64 rfl) rfl (fun hc1 => ?_) (fun hc1 => ?_)
  · have hw := hw.1 hc1
    exact am_M_isGroup_L133 l hfl D A σ MC MS h0 Qr x5 x6 h hw p e s m args below meth c hC H locs ls k n hE (lv_sub hl [0, 1] rfl) hR hS (by omega) (by omega)
  · have hw := hw.2 hc1
    refine lv_iload hx hb (xb_d D_M_isGroup 65 rfl) (lv_at hl 1 rfl) ?_
    refine lv_sipush (v := 159) hx hb (xb_d D_M_isGroup 66 rfl) (by decide) ?_
    refine lv_icmp_gt (tgt := 169) hx hb (xb_d D_M_isGroup 67 rfl) rfl (fun hc2 => ?_) (fun hc2 => ?_)
    · have hw := hw.1 hc2
      exact am_M_isGroup_L169 l hfl D A σ MC MS h0 Qr h hw p e s m args below meth c hC H locs ls k n hE (lv_sub hl [] rfl) hR hS (by omega) (by omega)
    · have hw := hw.2 hc2
      exact am_M_isGroup_L133 l hfl D A σ MC MS h0 Qr x5 x6 h hw p e s m args below meth c hC H locs ls k n hE (lv_sub hl [0, 1] rfl) hR hS (by omega) (by omega)

set_option maxHeartbeats 4000000 in
set_option maxRecDepth 100000 in
theorem am_M_isGroup_L94 (l : Launch) (hfl : l.flags = pinnedFlags ++ [noTraceFlag]) (D : va_G) (A : Nat → Prop) (σ MC MS : Nat) (h0 : xb_H) (Qr : Int32 → xb_H → Prop) (x4 : Int32) (x5 : Int32) (y0 : Int32) (h : xb_H) (hw : w_M_isGroup_L94 Qr x4 x5 y0 h) : xb_am l D A σ 2 MC MS h0 (fun v h _ _ => ∃ r, v = some (.int r) ∧ Qr r h) (fun _ _ _ _ => False) y_M_isGroup.cls y_M_isGroup.name b_M_isGroup 7 ([] : List ExceptionTableEntry) (some .boolean) 94 [(4, .int x4), (5, .int x5)] [.int y0] h 0 0 := by
  unfold w_M_isGroup_L94 at hw
  intro p e s m args below meth c hC H locs ls k n hE hl hR hS hk hn
  obtain ⟨hx, hb, hown, hlocks, htab, hml, hr, hB, hA, hnm⟩ := id hC
  have hts := hB.1.1.at args
  refine lv_istore hx hb (xb_d D_M_isGroup 53 rfl) hl (by decide) rfl (fun ls hl => ?_)
  have hl : lv_has ls 7 [(6, .int y0), (4, .int x4), (5, .int x5)] := hl
  refine lv_iload hx hb (xb_d D_M_isGroup 54 rfl) (lv_at hl 1 rfl) ?_
  refine lv_if_eq (tgt := 169) hx hb (xb_d D_M_isGroup 55 rfl) rfl (fun hc1 => ?_) (fun hc1 => ?_)
  · have hw := hw.1 hc1
    exact am_M_isGroup_L169 l hfl D A σ MC MS h0 Qr h hw p e s m args below meth c hC H locs ls k n hE (lv_sub hl [] rfl) hR hS (by omega) (by omega)
  · have hw := hw.2 hc1
    refine lv_iload hx hb (xb_d D_M_isGroup 56 rfl) (lv_at hl 2 rfl) ?_
    refine lv_sipush (v := 224) hx hb (xb_d D_M_isGroup 57 rfl) (by decide) ?_
    refine lv_icmp_ne (tgt := 117) hx hb (xb_d D_M_isGroup 58 rfl) rfl (fun hc2 => ?_) (fun hc2 => ?_)
    · have hw := hw.1 hc2
      exact am_M_isGroup_L117 l hfl D A σ MC MS h0 Qr x5 y0 h hw p e s m args below meth c hC H locs ls k n hE (lv_sub hl [2, 0] rfl) hR hS (by omega) (by omega)
    · have hw := hw.2 hc2
      refine lv_iload hx hb (xb_d D_M_isGroup 59 rfl) (lv_at hl 0 rfl) ?_
      refine lv_sipush (v := 160) hx hb (xb_d D_M_isGroup 60 rfl) (by decide) ?_
      refine lv_icmp_lt (tgt := 169) hx hb (xb_d D_M_isGroup 61 rfl) rfl (fun hc3 => ?_) (fun hc3 => ?_)
      · have hw := hw.1 hc3
        exact am_M_isGroup_L169 l hfl D A σ MC MS h0 Qr h hw p e s m args below meth c hC H locs ls k n hE (lv_sub hl [] rfl) hR hS (by omega) (by omega)
      · have hw := hw.2 hc3
        exact am_M_isGroup_L117 l hfl D A σ MC MS h0 Qr x5 y0 h hw p e s m args below meth c hC H locs ls k n hE (lv_sub hl [2, 0] rfl) hR hS (by omega) (by omega)

set_option maxHeartbeats 4000000 in
set_option maxRecDepth 100000 in
theorem am_M_isGroup_L54 (l : Launch) (hfl : l.flags = pinnedFlags ++ [noTraceFlag]) (D : va_G) (A : Nat → Prop) (σ MC MS : Nat) (h0 : xb_H) (Qr : Int32 → xb_H → Prop) (K19 : Nat → Int32 → Int32 → Int32 → Int32 → xb_H → Prop) (hK19 : ∀ (x0 : Nat) (x1 : Int32) (x2 : Int32) (x4 : Int32) (x5 : Int32) (h : xb_H), K19 x0 x1 x2 x4 x5 h → xb_am l D A σ 2 MC MS h0 (fun v h _ _ => ∃ r, v = some (.int r) ∧ Qr r h) (fun _ _ _ _ => False) y_M_isGroup.cls y_M_isGroup.name b_M_isGroup 7 ([] : List ExceptionTableEntry) (some .boolean) 19 [(0, .ref x0), (1, .int x1), (2, .int x2), (4, .int x4), (5, .int x5)] [] h 0 0) (x0 : Nat) (x1 : Int32) (x2 : Int32) (x5 : Int32) (y0 : Int32) (h : xb_H) (hw : w_M_isGroup_L54 K19 Qr x0 x1 x2 x5 y0 h) : xb_am l D A σ 2 MC MS h0 (fun v h _ _ => ∃ r, v = some (.int r) ∧ Qr r h) (fun _ _ _ _ => False) y_M_isGroup.cls y_M_isGroup.name b_M_isGroup 7 ([] : List ExceptionTableEntry) (some .boolean) 54 [(0, .ref x0), (1, .int x1), (2, .int x2), (5, .int x5)] [.int y0] h 0 0 := by
  unfold w_M_isGroup_L54 at hw
  intro p e s m args below meth c hC H locs ls k n hE hl hR hS hk hn
  obtain ⟨hx, hb, hown, hlocks, htab, hml, hr, hB, hA, hnm⟩ := id hC
  have hts := hB.1.1.at args
  refine lv_istore hx hb (xb_d D_M_isGroup 31 rfl) hl (by decide) rfl (fun ls hl => ?_)
  have hl : lv_has ls 7 [(4, .int y0), (0, .ref x0), (1, .int x1), (2, .int x2), (5, .int x5)] := hl
  refine lv_iinc (v := (x5 + 1)) (k := 4) hx hb (xb_d D_M_isGroup 32 rfl) hl rfl (by first | rfl | decide) (by decide) rfl (fun ls hl => ?_)
  have hl : lv_has ls 7 [(5, .int (x5 + 1)), (4, .int y0), (0, .ref x0), (1, .int x1), (2, .int x2)] := hl
  refine lv_goto (tgt := 19) hx hb (xb_d D_M_isGroup 33 rfl) rfl ?_
  exact hK19 x0 x1 x2 y0 (x5 + 1) h hw p e s m args below meth c hC H locs ls k n hE (lv_sub hl [2, 3, 4, 1, 0] rfl) hR hS (by omega) (by omega)

set_option maxHeartbeats 4000000 in
set_option maxRecDepth 100000 in
theorem am_M_isGroup_L53 (l : Launch) (hfl : l.flags = pinnedFlags ++ [noTraceFlag]) (D : va_G) (A : Nat → Prop) (σ MC MS : Nat) (h0 : xb_H) (Qr : Int32 → xb_H → Prop) (K19 : Nat → Int32 → Int32 → Int32 → Int32 → xb_H → Prop) (hK19 : ∀ (x0 : Nat) (x1 : Int32) (x2 : Int32) (x4 : Int32) (x5 : Int32) (h : xb_H), K19 x0 x1 x2 x4 x5 h → xb_am l D A σ 2 MC MS h0 (fun v h _ _ => ∃ r, v = some (.int r) ∧ Qr r h) (fun _ _ _ _ => False) y_M_isGroup.cls y_M_isGroup.name b_M_isGroup 7 ([] : List ExceptionTableEntry) (some .boolean) 19 [(0, .ref x0), (1, .int x1), (2, .int x2), (4, .int x4), (5, .int x5)] [] h 0 0) (x0 : Nat) (x1 : Int32) (x2 : Int32) (x5 : Int32) (h : xb_H) (hw : w_M_isGroup_L53 K19 Qr x0 x1 x2 x5 h) : xb_am l D A σ 2 MC MS h0 (fun v h _ _ => ∃ r, v = some (.int r) ∧ Qr r h) (fun _ _ _ _ => False) y_M_isGroup.cls y_M_isGroup.name b_M_isGroup 7 ([] : List ExceptionTableEntry) (some .boolean) 53 [(0, .ref x0), (1, .int x1), (2, .int x2), (5, .int x5)] [] h 0 0 := by
  unfold w_M_isGroup_L53 at hw
  intro p e s m args below meth c hC H locs ls k n hE hl hR hS hk hn
  obtain ⟨hx, hb, hown, hlocks, htab, hml, hr, hB, hA, hnm⟩ := id hC
  have hts := hB.1.1.at args
  refine lv_iconst (v := 0) hx hb (xb_d D_M_isGroup 30 rfl) (by decide) ?_
  exact am_M_isGroup_L54 l hfl D A σ MC MS h0 Qr K19 hK19 x0 x1 x2 x5 0 h hw p e s m args below meth c hC H locs ls k n hE (lv_sub hl [0, 1, 2, 3] rfl) hR hS (by omega) (by omega)

set_option maxHeartbeats 4000000 in
set_option maxRecDepth 100000 in
theorem am_M_isGroup_L19 (l : Launch) (hfl : l.flags = pinnedFlags ++ [noTraceFlag]) (D : va_G) (A : Nat → Prop) (σ MC MS : Nat) (h0 : xb_H) (Qr : Int32 → xb_H → Prop) (n9 : Nat) : ∀ (x0 : Nat) (x1 : Int32) (x2 : Int32) (x4 : Int32) (x5 : Int32) (h : xb_H), w_M_isGroup_L19 Qr n9 x0 x1 x2 x4 x5 h → xb_am l D A σ 2 MC MS h0 (fun v h _ _ => ∃ r, v = some (.int r) ∧ Qr r h) (fun _ _ _ _ => False) y_M_isGroup.cls y_M_isGroup.name b_M_isGroup 7 ([] : List ExceptionTableEntry) (some .boolean) 19 [(0, .ref x0), (1, .int x1), (2, .int x2), (4, .int x4), (5, .int x5)] [] h 0 0 := by
  induction n9 with
  | zero => intro x0 x1 x2 x4 x5 h hw; exact False.elim hw
  | succ n9 ih =>
    intro x0 x1 x2 x4 x5 h hw
    unfold w_M_isGroup_L19 at hw
    intro p e s m args below meth c hC H locs ls k n hE hl hR hS hk hn
    obtain ⟨hx, hb, hown, hlocks, htab, hml, hr, hB, hA, hnm⟩ := id hC
    have hts := hB.1.1.at args
    refine lv_iload hx hb (xb_d D_M_isGroup 13 rfl) (lv_at hl 4 rfl) ?_
    refine lv_iload_n hx hb (xb_d D_M_isGroup 14 rfl) rfl (lv_at hl 2 rfl) ?_
    refine lv_icmp_gt (tgt := 62) hx hb (xb_d D_M_isGroup 15 rfl) rfl (fun hc1 => ?_) (fun hc1 => ?_)
    · have hw := hw.1 hc1
      refine lv_aload_n hx hb (xb_d D_M_isGroup 34 rfl) rfl (lv_at hl 0 rfl) ?_
      obtain ⟨hk2, hw⟩ := hw
      refine xb_getP (C := R_M) (T := F_M) (N := 97) hx hb 8 3 hts fin_M hown hR hk2 (by decide) rfl (by decide) rfl (hts _ m_4f0568af) (fun _ h9 => h9) (xb_d D_M_isGroup 35 rfl) ?_
      obtain ⟨b3, eb3, hw⟩ := hw
      refine xb_some eb3 ?_
      refine lv_iload_n hx hb (xb_d D_M_isGroup 36 rfl) rfl (lv_at hl 1 rfl) ?_
      obtain ⟨hk5, hw⟩ := hw
      obtain ⟨hi4, hw⟩ := hw
      refine xb_bald hx hb hR hk5 hi4 (xb_d D_M_isGroup 37 rfl) ?_
      refine lv_sipush (v := 255) hx hb (xb_d D_M_isGroup 38 rfl) (by decide) ?_
      refine lv_iand hx hb (xb_d D_M_isGroup 39 rfl) ?_
      obtain ⟨v6, ev6⟩ : ∃ x : Int32, x = ((xb_i h b3 (Int32.toNatClampNeg x1)) &&& 255) := ⟨_, rfl⟩
      have hw := hw v6 ev6
      refine xt_numi (y := v6) ev6.symm ?_
      refine lv_istore hx hb (xb_d D_M_isGroup 40 rfl) hl (by decide) rfl (fun ls hl => ?_)
      have hl : lv_has ls 7 [(5, .int v6), (0, .ref x0), (1, .int x1), (2, .int x2), (4, .int x4)] := hl
      refine lv_iload_n hx hb (xb_d D_M_isGroup 41 rfl) rfl (lv_at hl 3 rfl) ?_
      refine lv_if_le (tgt := 93) hx hb (xb_d D_M_isGroup 42 rfl) rfl (fun hc7 => ?_) (fun hc7 => ?_)
      · have hw := hw.1 hc7
        refine lv_iconst (v := 0) hx hb (xb_d D_M_isGroup 52 rfl) (by decide) ?_
        exact am_M_isGroup_L94 l hfl D A σ MC MS h0 Qr x4 v6 0 h hw p e s m args below meth c hC H locs ls k n hE (lv_sub hl [4, 0] rfl) hR hS (by omega) (by omega)
      · have hw := hw.2 hc7
        refine lv_aload_n hx hb (xb_d D_M_isGroup 43 rfl) rfl (lv_at hl 1 rfl) ?_
        refine xb_getP (C := R_M) (T := F_M) (N := 97) hx hb 8 3 hts fin_M hown hR hk2 (by decide) rfl (by decide) rfl (hts _ m_4f0568af) (fun _ h9 => h9) (xb_d D_M_isGroup 44 rfl) ?_
        obtain ⟨b8, eb8, hw⟩ := hw
        refine xb_some eb8 ?_
        refine lv_iload_n hx hb (xb_d D_M_isGroup 45 rfl) rfl (lv_at hl 2 rfl) ?_
        refine lv_iconst (v := 1) hx hb (xb_d D_M_isGroup 46 rfl) (by decide) ?_
        refine lv_iadd hx hb (xb_d D_M_isGroup 47 rfl) ?_
        obtain ⟨hk10, hw⟩ := hw
        obtain ⟨hi9, hw⟩ := hw
        refine xb_bald hx hb hR hk10 hi9 (xb_d D_M_isGroup 48 rfl) ?_
        refine lv_sipush (v := 255) hx hb (xb_d D_M_isGroup 49 rfl) (by decide) ?_
        refine lv_iand hx hb (xb_d D_M_isGroup 50 rfl) ?_
        refine lv_goto (tgt := 94) hx hb (xb_d D_M_isGroup 51 rfl) rfl ?_
        exact am_M_isGroup_L94 l hfl D A σ MC MS h0 Qr x4 v6 ((xb_i h b8 (Int32.toNatClampNeg (x1 + 1))) &&& 255) h hw p e s m args below meth c hC H locs ls k n hE (lv_sub hl [4, 0] rfl) hR hS (by omega) (by omega)
    · have hw := hw.2 hc1
      refine lv_iload hx hb (xb_d D_M_isGroup 16 rfl) (lv_at hl 3 rfl) ?_
      refine lv_if_eq (tgt := 53) hx hb (xb_d D_M_isGroup 17 rfl) rfl (fun hc11 => ?_) (fun hc11 => ?_)
      · have hw := hw.1 hc11
        exact am_M_isGroup_L53 l hfl D A σ MC MS h0 Qr (w_M_isGroup_L19 Qr n9) ih x0 x1 x2 x5 h hw p e s m args below meth c hC H locs ls k n hE (lv_sub hl [0, 1, 2, 4] rfl) hR hS (by omega) (by omega)
      · have hw := hw.2 hc11
        refine lv_aload_n hx hb (xb_d D_M_isGroup 18 rfl) rfl (lv_at hl 0 rfl) ?_
        obtain ⟨hk12, hw⟩ := hw
        refine xb_getP (C := R_M) (T := F_M) (N := 97) hx hb 8 3 hts fin_M hown hR hk12 (by decide) rfl (by decide) rfl (hts _ m_4f0568af) (fun _ h9 => h9) (xb_d D_M_isGroup 19 rfl) ?_
        obtain ⟨b13, eb13, hw⟩ := hw
        refine xb_some eb13 ?_
        refine lv_iload_n hx hb (xb_d D_M_isGroup 20 rfl) rfl (lv_at hl 1 rfl) ?_
        refine lv_iload hx hb (xb_d D_M_isGroup 21 rfl) (lv_at hl 4 rfl) ?_
        refine lv_iadd hx hb (xb_d D_M_isGroup 22 rfl) ?_
        obtain ⟨hk15, hw⟩ := hw
        obtain ⟨hi14, hw⟩ := hw
        refine xb_bald hx hb hR hk15 hi14 (xb_d D_M_isGroup 23 rfl) ?_
        refine lv_sipush (v := 192) hx hb (xb_d D_M_isGroup 24 rfl) (by decide) ?_
        refine lv_iand hx hb (xb_d D_M_isGroup 25 rfl) ?_
        refine lv_sipush (v := 128) hx hb (xb_d D_M_isGroup 26 rfl) (by decide) ?_
        refine lv_icmp_ne (tgt := 53) hx hb (xb_d D_M_isGroup 27 rfl) rfl (fun hc16 => ?_) (fun hc16 => ?_)
        · have hw := hw.1 hc16
          exact am_M_isGroup_L53 l hfl D A σ MC MS h0 Qr (w_M_isGroup_L19 Qr n9) ih x0 x1 x2 x5 h hw p e s m args below meth c hC H locs ls k n hE (lv_sub hl [0, 1, 2, 4] rfl) hR hS (by omega) (by omega)
        · have hw := hw.2 hc16
          refine lv_iconst (v := 1) hx hb (xb_d D_M_isGroup 28 rfl) (by decide) ?_
          refine lv_goto (tgt := 54) hx hb (xb_d D_M_isGroup 29 rfl) rfl ?_
          exact am_M_isGroup_L54 l hfl D A σ MC MS h0 Qr (w_M_isGroup_L19 Qr n9) ih x0 x1 x2 x5 1 h hw p e s m args below meth c hC H locs ls k n hE (lv_sub hl [0, 1, 2, 4] rfl) hR hS (by omega) (by omega)

set_option maxHeartbeats 4000000 in
set_option maxRecDepth 100000 in
theorem am_M_isGroup_L11 (l : Launch) (hfl : l.flags = pinnedFlags ++ [noTraceFlag]) (D : va_G) (A : Nat → Prop) (σ MC MS : Nat) (h0 : xb_H) (Qr : Int32 → xb_H → Prop) (h : xb_H) (hw : w_M_isGroup_L11 Qr h) : xb_am l D A σ 2 MC MS h0 (fun v h _ _ => ∃ r, v = some (.int r) ∧ Qr r h) (fun _ _ _ _ => False) y_M_isGroup.cls y_M_isGroup.name b_M_isGroup 7 ([] : List ExceptionTableEntry) (some .boolean) 11 [] [] h 0 0 := by
  unfold w_M_isGroup_L11 at hw
  intro p e s m args below meth c hC H locs ls k n hE hl hR hS hk hn
  obtain ⟨hx, hb, hown, hlocks, htab, hml, hr, hB, hA, hnm⟩ := id hC
  have hts := hB.1.1.at args
  refine lv_iconst (v := 0) hx hb (xb_d D_M_isGroup 7 rfl) (by decide) ?_
  exact xb_zret 0 0 hx hb hr hlocks (show k + 0 ≤ MC by omega) (show n + 0 ≤ MS by omega) (by decide) hE hR hS (xb_d D_M_isGroup 8 rfl) hw

set_option maxHeartbeats 4000000 in
set_option maxRecDepth 100000 in
theorem ok_M_isGroup (l : Launch) (hfl : l.flags = pinnedFlags ++ [noTraceFlag]) (D : va_G) (A : Nat → Prop) (σ : Nat) (x0 : Nat) (x1 : Int32) (x2 : Int32) (x3 : Int32) (h : xb_H) (Qr : Int32 → xb_H → Prop) (hw : w_M_isGroup x0 x1 x2 x3 h Qr) : xb_Met l y_M_isGroup [.code y_M_isGroup b_M_isGroup 7 (some .boolean)] (xb_rm 2 0 0) (xb_Pc D A σ h [.ref x0, .int x1, .int x2, .int x3]) (xb_Qc D A h 0 0 (fun v h _ _ => ∃ r, v = some (.int r) ∧ Qr r h) (fun _ _ _ _ => False)) A := by
  refine xb_ofAm (cc := b_M_isGroup) (by decide) (Nat.le_of_ble_eq_true rfl) ?_
  unfold w_M_isGroup at hw
  show xb_am l D A σ 2 0 0 h (fun v h _ _ => ∃ r, v = some (.int r) ∧ Qr r h) (fun _ _ _ _ => False) y_M_isGroup.cls y_M_isGroup.name b_M_isGroup 7 ([] : List ExceptionTableEntry) (some .boolean) 0 [(0, .ref x0), (1, .int x1), (2, .int x2), (3, .int x3)] [] h 0 0
  obtain ⟨MC, hMC⟩ : ∃ x, x = 0 := ⟨_, rfl⟩
  obtain ⟨MS, hMS⟩ : ∃ x, x = 0 := ⟨_, rfl⟩
  rw [show xb_am l D A σ 2 0 0 = xb_am l D A σ 2 MC MS by rw [hMC, hMS]]
  obtain ⟨h0, hh0⟩ : ∃ x, x = h := ⟨_, rfl⟩
  rw [show xb_am l D A σ 2 MC MS h = xb_am l D A σ 2 MC MS h0 by rw [hh0]]
  intro p e s m args below meth c hC H locs ls k n hE hl hR hS hk hn
  obtain ⟨hx, hb, hown, hlocks, htab, hml, hr, hB, hA, hnm⟩ := id hC
  have hts := hB.1.1.at args
  refine lv_iload_n hx hb (xb_d D_M_isGroup 0 rfl) rfl (lv_at hl 2 rfl) ?_
  refine lv_if_lt (tgt := 11) hx hb (xb_d D_M_isGroup 1 rfl) rfl (fun hc1 => ?_) (fun hc1 => ?_)
  · have hw := hw.1 hc1
    exact am_M_isGroup_L11 l hfl D A σ MC MS h0 Qr h hw p e s m args below meth c hC H locs ls k n hE (lv_sub hl [] rfl) hR hS (by omega) (by omega)
  · have hw := hw.2 hc1
    refine lv_iload_n hx hb (xb_d D_M_isGroup 2 rfl) rfl (lv_at hl 1 rfl) ?_
    refine lv_iload_n hx hb (xb_d D_M_isGroup 3 rfl) rfl (lv_at hl 2 rfl) ?_
    refine lv_iadd hx hb (xb_d D_M_isGroup 4 rfl) ?_
    refine lv_iload_n hx hb (xb_d D_M_isGroup 5 rfl) rfl (lv_at hl 3 rfl) ?_
    refine lv_icmp_lt (tgt := 13) hx hb (xb_d D_M_isGroup 6 rfl) rfl (fun hc2 => ?_) (fun hc2 => ?_)
    · have hw := hw.1 hc2
      refine lv_iconst (v := 1) hx hb (xb_d D_M_isGroup 9 rfl) (by decide) ?_
      refine lv_istore hx hb (xb_d D_M_isGroup 10 rfl) hl (by decide) rfl (fun ls hl => ?_)
      have hl : lv_has ls 7 [(4, .int 1), (0, .ref x0), (1, .int x1), (2, .int x2), (3, .int x3)] := hl
      refine lv_iconst (v := 1) hx hb (xb_d D_M_isGroup 11 rfl) (by decide) ?_
      refine lv_istore hx hb (xb_d D_M_isGroup 12 rfl) hl (by decide) rfl (fun ls hl => ?_)
      have hl : lv_has ls 7 [(5, .int 1), (4, .int 1), (0, .ref x0), (1, .int x1), (2, .int x2), (3, .int x3)] := hl
      obtain ⟨n8, hw⟩ := hw
      exact am_M_isGroup_L19 l hfl D A σ MC MS h0 Qr n8 x0 x1 x2 1 1 h hw p e s m args below meth c hC H locs ls k n hE (lv_sub hl [2, 3, 4, 1, 0] rfl) hR hS (by omega) (by omega)
    · have hw := hw.2 hc2
      exact am_M_isGroup_L11 l hfl D A σ MC MS h0 Qr h hw p e s m args below meth c hC H locs ls k n hE (lv_sub hl [] rfl) hR hS (by omega) (by omega)

set_option maxRecDepth 100000 in
def T_M_isHost : List (Nat × Instr × Nat) := [(0, .iload_n 2, 1), (1, .iconst 4, 1), (2, .if_icmp .ne 57, 3), (5, .aload_n 0, 1), (6, .getfield 14, 3), (9, .iload_n 1, 1), (10, .baload, 1), (11, .bipush 104, 2), (13, .if_icmp .ne 46, 3), (16, .aload_n 0, 1), (17, .getfield 14, 3), (20, .iload_n 1, 1), (21, .iconst 1, 1), (22, .iadd, 1), (23, .baload, 1), (24, .bipush 111, 2), (26, .if_icmp .ne 33, 3), (29, .aload_n 0, 1), (30, .getfield 14, 3), (33, .iload_n 1, 1), (34, .iconst 2, 1), (35, .iadd, 1), (36, .baload, 1), (37, .bipush 115, 2), (39, .if_icmp .ne 20, 3), (42, .aload_n 0, 1), (43, .getfield 14, 3), (46, .iload_n 1, 1), (47, .iconst 3, 1), (48, .iadd, 1), (49, .baload, 1), (50, .bipush 116, 2), (52, .if_icmp .ne 7, 3), (55, .iconst 1, 1), (56, .goto 4, 3), (59, .iconst 0, 1), (60, .ireturn, 1)]
theorem D_M_isHost : ∀ q ∈ T_M_isHost, decode b_M_isHost q.1 = .ok (q.2.1, q.2.2) := by decide +kernel

set_option maxHeartbeats 4000000 in
set_option maxRecDepth 100000 in
theorem am_M_isHost_L60 (l : Launch) (hfl : l.flags = pinnedFlags ++ [noTraceFlag]) (D : va_G) (A : Nat → Prop) (σ MC MS : Nat) (h0 : xb_H) (Qr : Int32 → xb_H → Prop) (y0 : Int32) (h : xb_H) (hw : w_M_isHost_L60 Qr y0 h) : xb_am l D A σ 2 MC MS h0 (fun v h _ _ => ∃ r, v = some (.int r) ∧ Qr r h) (fun _ _ _ _ => False) y_M_isHost.cls y_M_isHost.name b_M_isHost 3 ([] : List ExceptionTableEntry) (some .boolean) 60 [] [.int y0] h 0 0 := by
  unfold w_M_isHost_L60 at hw
  intro p e s m args below meth c hC H locs ls k n hE hl hR hS hk hn
  obtain ⟨hx, hb, hown, hlocks, htab, hml, hr, hB, hA, hnm⟩ := id hC
  have hts := hB.1.1.at args
  exact xb_zret 0 0 hx hb hr hlocks (show k + 0 ≤ MC by omega) (show n + 0 ≤ MS by omega) hw.1 hE hR hS (xb_d D_M_isHost 36 rfl) hw.2

set_option maxHeartbeats 4000000 in
set_option maxRecDepth 100000 in
theorem am_M_isHost_L59 (l : Launch) (hfl : l.flags = pinnedFlags ++ [noTraceFlag]) (D : va_G) (A : Nat → Prop) (σ MC MS : Nat) (h0 : xb_H) (Qr : Int32 → xb_H → Prop) (h : xb_H) (hw : w_M_isHost_L59 Qr h) : xb_am l D A σ 2 MC MS h0 (fun v h _ _ => ∃ r, v = some (.int r) ∧ Qr r h) (fun _ _ _ _ => False) y_M_isHost.cls y_M_isHost.name b_M_isHost 3 ([] : List ExceptionTableEntry) (some .boolean) 59 [] [] h 0 0 := by
  unfold w_M_isHost_L59 at hw
  intro p e s m args below meth c hC H locs ls k n hE hl hR hS hk hn
  obtain ⟨hx, hb, hown, hlocks, htab, hml, hr, hB, hA, hnm⟩ := id hC
  have hts := hB.1.1.at args
  refine lv_iconst (v := 0) hx hb (xb_d D_M_isHost 35 rfl) (by decide) ?_
  exact am_M_isHost_L60 l hfl D A σ MC MS h0 Qr 0 h hw p e s m args below meth c hC H locs ls k n hE (lv_sub hl [] rfl) hR hS (by omega) (by omega)

set_option maxHeartbeats 4000000 in
set_option maxRecDepth 100000 in
theorem ok_M_isHost (l : Launch) (hfl : l.flags = pinnedFlags ++ [noTraceFlag]) (D : va_G) (A : Nat → Prop) (σ : Nat) (x0 : Nat) (x1 : Int32) (x2 : Int32) (h : xb_H) (Qr : Int32 → xb_H → Prop) (hw : w_M_isHost x0 x1 x2 h Qr) : xb_Met l y_M_isHost [.code y_M_isHost b_M_isHost 3 (some .boolean)] (xb_rm 2 0 0) (xb_Pc D A σ h [.ref x0, .int x1, .int x2]) (xb_Qc D A h 0 0 (fun v h _ _ => ∃ r, v = some (.int r) ∧ Qr r h) (fun _ _ _ _ => False)) A := by
  refine xb_ofAm (cc := b_M_isHost) (by decide) (Nat.le_of_ble_eq_true rfl) ?_
  unfold w_M_isHost at hw
  show xb_am l D A σ 2 0 0 h (fun v h _ _ => ∃ r, v = some (.int r) ∧ Qr r h) (fun _ _ _ _ => False) y_M_isHost.cls y_M_isHost.name b_M_isHost 3 ([] : List ExceptionTableEntry) (some .boolean) 0 [(0, .ref x0), (1, .int x1), (2, .int x2)] [] h 0 0
  obtain ⟨MC, hMC⟩ : ∃ x, x = 0 := ⟨_, rfl⟩
  obtain ⟨MS, hMS⟩ : ∃ x, x = 0 := ⟨_, rfl⟩
  rw [show xb_am l D A σ 2 0 0 = xb_am l D A σ 2 MC MS by rw [hMC, hMS]]
  obtain ⟨h0, hh0⟩ : ∃ x, x = h := ⟨_, rfl⟩
  rw [show xb_am l D A σ 2 MC MS h = xb_am l D A σ 2 MC MS h0 by rw [hh0]]
  intro p e s m args below meth c hC H locs ls k n hE hl hR hS hk hn
  obtain ⟨hx, hb, hown, hlocks, htab, hml, hr, hB, hA, hnm⟩ := id hC
  have hts := hB.1.1.at args
  refine lv_iload_n hx hb (xb_d D_M_isHost 0 rfl) rfl (lv_at hl 2 rfl) ?_
  refine lv_iconst (v := 4) hx hb (xb_d D_M_isHost 1 rfl) (by decide) ?_
  refine lv_icmp_ne (tgt := 59) hx hb (xb_d D_M_isHost 2 rfl) rfl (fun hc1 => ?_) (fun hc1 => ?_)
  · have hw := hw.1 hc1
    exact am_M_isHost_L59 l hfl D A σ MC MS h0 Qr h hw p e s m args below meth c hC H locs ls k n hE (lv_sub hl [] rfl) hR hS (by omega) (by omega)
  · have hw := hw.2 hc1
    refine lv_aload_n hx hb (xb_d D_M_isHost 3 rfl) rfl (lv_at hl 0 rfl) ?_
    obtain ⟨hk2, hw⟩ := hw
    refine xb_getP (C := R_M) (T := F_M) (N := 97) hx hb 8 3 hts fin_M hown hR hk2 (by decide) rfl (by decide) rfl (hts _ m_4f0568af) (fun _ h9 => h9) (xb_d D_M_isHost 4 rfl) ?_
    obtain ⟨b3, eb3, hw⟩ := hw
    refine xb_some eb3 ?_
    refine lv_iload_n hx hb (xb_d D_M_isHost 5 rfl) rfl (lv_at hl 1 rfl) ?_
    obtain ⟨hk5, hw⟩ := hw
    obtain ⟨hi4, hw⟩ := hw
    refine xb_bald hx hb hR hk5 hi4 (xb_d D_M_isHost 6 rfl) ?_
    refine lv_bipush (v := 104) hx hb (xb_d D_M_isHost 7 rfl) (by decide) ?_
    refine lv_icmp_ne (tgt := 59) hx hb (xb_d D_M_isHost 8 rfl) rfl (fun hc6 => ?_) (fun hc6 => ?_)
    · have hw := hw.1 hc6
      exact am_M_isHost_L59 l hfl D A σ MC MS h0 Qr h hw p e s m args below meth c hC H locs ls k n hE (lv_sub hl [] rfl) hR hS (by omega) (by omega)
    · have hw := hw.2 hc6
      refine lv_aload_n hx hb (xb_d D_M_isHost 9 rfl) rfl (lv_at hl 0 rfl) ?_
      refine xb_getP (C := R_M) (T := F_M) (N := 97) hx hb 8 3 hts fin_M hown hR hk2 (by decide) rfl (by decide) rfl (hts _ m_4f0568af) (fun _ h9 => h9) (xb_d D_M_isHost 10 rfl) ?_
      obtain ⟨b7, eb7, hw⟩ := hw
      refine xb_some eb7 ?_
      refine lv_iload_n hx hb (xb_d D_M_isHost 11 rfl) rfl (lv_at hl 1 rfl) ?_
      refine lv_iconst (v := 1) hx hb (xb_d D_M_isHost 12 rfl) (by decide) ?_
      refine lv_iadd hx hb (xb_d D_M_isHost 13 rfl) ?_
      obtain ⟨hk9, hw⟩ := hw
      obtain ⟨hi8, hw⟩ := hw
      refine xb_bald hx hb hR hk9 hi8 (xb_d D_M_isHost 14 rfl) ?_
      refine lv_bipush (v := 111) hx hb (xb_d D_M_isHost 15 rfl) (by decide) ?_
      refine lv_icmp_ne (tgt := 59) hx hb (xb_d D_M_isHost 16 rfl) rfl (fun hc10 => ?_) (fun hc10 => ?_)
      · have hw := hw.1 hc10
        exact am_M_isHost_L59 l hfl D A σ MC MS h0 Qr h hw p e s m args below meth c hC H locs ls k n hE (lv_sub hl [] rfl) hR hS (by omega) (by omega)
      · have hw := hw.2 hc10
        refine lv_aload_n hx hb (xb_d D_M_isHost 17 rfl) rfl (lv_at hl 0 rfl) ?_
        refine xb_getP (C := R_M) (T := F_M) (N := 97) hx hb 8 3 hts fin_M hown hR hk2 (by decide) rfl (by decide) rfl (hts _ m_4f0568af) (fun _ h9 => h9) (xb_d D_M_isHost 18 rfl) ?_
        obtain ⟨b11, eb11, hw⟩ := hw
        refine xb_some eb11 ?_
        refine lv_iload_n hx hb (xb_d D_M_isHost 19 rfl) rfl (lv_at hl 1 rfl) ?_
        refine lv_iconst (v := 2) hx hb (xb_d D_M_isHost 20 rfl) (by decide) ?_
        refine lv_iadd hx hb (xb_d D_M_isHost 21 rfl) ?_
        obtain ⟨hk13, hw⟩ := hw
        obtain ⟨hi12, hw⟩ := hw
        refine xb_bald hx hb hR hk13 hi12 (xb_d D_M_isHost 22 rfl) ?_
        refine lv_bipush (v := 115) hx hb (xb_d D_M_isHost 23 rfl) (by decide) ?_
        refine lv_icmp_ne (tgt := 59) hx hb (xb_d D_M_isHost 24 rfl) rfl (fun hc14 => ?_) (fun hc14 => ?_)
        · have hw := hw.1 hc14
          exact am_M_isHost_L59 l hfl D A σ MC MS h0 Qr h hw p e s m args below meth c hC H locs ls k n hE (lv_sub hl [] rfl) hR hS (by omega) (by omega)
        · have hw := hw.2 hc14
          refine lv_aload_n hx hb (xb_d D_M_isHost 25 rfl) rfl (lv_at hl 0 rfl) ?_
          refine xb_getP (C := R_M) (T := F_M) (N := 97) hx hb 8 3 hts fin_M hown hR hk2 (by decide) rfl (by decide) rfl (hts _ m_4f0568af) (fun _ h9 => h9) (xb_d D_M_isHost 26 rfl) ?_
          obtain ⟨b15, eb15, hw⟩ := hw
          refine xb_some eb15 ?_
          refine lv_iload_n hx hb (xb_d D_M_isHost 27 rfl) rfl (lv_at hl 1 rfl) ?_
          refine lv_iconst (v := 3) hx hb (xb_d D_M_isHost 28 rfl) (by decide) ?_
          refine lv_iadd hx hb (xb_d D_M_isHost 29 rfl) ?_
          obtain ⟨hk17, hw⟩ := hw
          obtain ⟨hi16, hw⟩ := hw
          refine xb_bald hx hb hR hk17 hi16 (xb_d D_M_isHost 30 rfl) ?_
          refine lv_bipush (v := 116) hx hb (xb_d D_M_isHost 31 rfl) (by decide) ?_
          refine lv_icmp_ne (tgt := 59) hx hb (xb_d D_M_isHost 32 rfl) rfl (fun hc18 => ?_) (fun hc18 => ?_)
          · have hw := hw.1 hc18
            exact am_M_isHost_L59 l hfl D A σ MC MS h0 Qr h hw p e s m args below meth c hC H locs ls k n hE (lv_sub hl [] rfl) hR hS (by omega) (by omega)
          · have hw := hw.2 hc18
            refine lv_iconst (v := 1) hx hb (xb_d D_M_isHost 33 rfl) (by decide) ?_
            refine lv_goto (tgt := 60) hx hb (xb_d D_M_isHost 34 rfl) rfl ?_
            exact am_M_isHost_L60 l hfl D A σ MC MS h0 Qr 1 h hw p e s m args below meth c hC H locs ls k n hE (lv_sub hl [] rfl) hR hS (by omega) (by omega)

theorem m_1c72c4e0 : (.fieldLink "StackHostModel" 476 "StackHostModel" "instances" "I" : Cond) ∈ xt_tbl := xt_in (xt_t9 (List.mem_of_getElem? (i := 169) (by decide +kernel))) (by decide +kernel)
set_option maxRecDepth 100000 in
def T_M_isInstance : List (Nat × Instr × Nat) := [(0, .iload_n 1, 1), (1, .ifCond .lt 15, 3), (4, .iload_n 1, 1), (5, .aload_n 0, 1), (6, .getfield 476, 3), (9, .if_icmp .ge 7, 3), (12, .iconst 1, 1), (13, .goto 4, 3), (16, .iconst 0, 1), (17, .ireturn, 1)]
theorem D_M_isInstance : ∀ q ∈ T_M_isInstance, decode b_M_isInstance q.1 = .ok (q.2.1, q.2.2) := by decide +kernel

set_option maxHeartbeats 4000000 in
set_option maxRecDepth 100000 in
theorem am_M_isInstance_L17 (l : Launch) (hfl : l.flags = pinnedFlags ++ [noTraceFlag]) (D : va_G) (A : Nat → Prop) (σ MC MS : Nat) (h0 : xb_H) (Qr : Int32 → xb_H → Prop) (y0 : Int32) (h : xb_H) (hw : w_M_isInstance_L17 Qr y0 h) : xb_am l D A σ 2 MC MS h0 (fun v h _ _ => ∃ r, v = some (.int r) ∧ Qr r h) (fun _ _ _ _ => False) y_M_isInstance.cls y_M_isInstance.name b_M_isInstance 2 ([] : List ExceptionTableEntry) (some .boolean) 17 [] [.int y0] h 0 0 := by
  unfold w_M_isInstance_L17 at hw
  intro p e s m args below meth c hC H locs ls k n hE hl hR hS hk hn
  obtain ⟨hx, hb, hown, hlocks, htab, hml, hr, hB, hA, hnm⟩ := id hC
  have hts := hB.1.1.at args
  exact xb_zret 0 0 hx hb hr hlocks (show k + 0 ≤ MC by omega) (show n + 0 ≤ MS by omega) hw.1 hE hR hS (xb_d D_M_isInstance 9 rfl) hw.2

set_option maxHeartbeats 4000000 in
set_option maxRecDepth 100000 in
theorem am_M_isInstance_L16 (l : Launch) (hfl : l.flags = pinnedFlags ++ [noTraceFlag]) (D : va_G) (A : Nat → Prop) (σ MC MS : Nat) (h0 : xb_H) (Qr : Int32 → xb_H → Prop) (h : xb_H) (hw : w_M_isInstance_L16 Qr h) : xb_am l D A σ 2 MC MS h0 (fun v h _ _ => ∃ r, v = some (.int r) ∧ Qr r h) (fun _ _ _ _ => False) y_M_isInstance.cls y_M_isInstance.name b_M_isInstance 2 ([] : List ExceptionTableEntry) (some .boolean) 16 [] [] h 0 0 := by
  unfold w_M_isInstance_L16 at hw
  intro p e s m args below meth c hC H locs ls k n hE hl hR hS hk hn
  obtain ⟨hx, hb, hown, hlocks, htab, hml, hr, hB, hA, hnm⟩ := id hC
  have hts := hB.1.1.at args
  refine lv_iconst (v := 0) hx hb (xb_d D_M_isInstance 8 rfl) (by decide) ?_
  exact am_M_isInstance_L17 l hfl D A σ MC MS h0 Qr 0 h hw p e s m args below meth c hC H locs ls k n hE (lv_sub hl [] rfl) hR hS (by omega) (by omega)

set_option maxHeartbeats 4000000 in
set_option maxRecDepth 100000 in
theorem ok_M_isInstance (l : Launch) (hfl : l.flags = pinnedFlags ++ [noTraceFlag]) (D : va_G) (A : Nat → Prop) (σ : Nat) (x0 : Nat) (x1 : Int32) (h : xb_H) (Qr : Int32 → xb_H → Prop) (hw : w_M_isInstance x0 x1 h Qr) : xb_Met l y_M_isInstance [.code y_M_isInstance b_M_isInstance 2 (some .boolean)] (xb_rm 2 0 0) (xb_Pc D A σ h [.ref x0, .int x1]) (xb_Qc D A h 0 0 (fun v h _ _ => ∃ r, v = some (.int r) ∧ Qr r h) (fun _ _ _ _ => False)) A := by
  refine xb_ofAm (cc := b_M_isInstance) (by decide) (Nat.le_of_ble_eq_true rfl) ?_
  unfold w_M_isInstance at hw
  show xb_am l D A σ 2 0 0 h (fun v h _ _ => ∃ r, v = some (.int r) ∧ Qr r h) (fun _ _ _ _ => False) y_M_isInstance.cls y_M_isInstance.name b_M_isInstance 2 ([] : List ExceptionTableEntry) (some .boolean) 0 [(0, .ref x0), (1, .int x1)] [] h 0 0
  obtain ⟨MC, hMC⟩ : ∃ x, x = 0 := ⟨_, rfl⟩
  obtain ⟨MS, hMS⟩ : ∃ x, x = 0 := ⟨_, rfl⟩
  rw [show xb_am l D A σ 2 0 0 = xb_am l D A σ 2 MC MS by rw [hMC, hMS]]
  obtain ⟨h0, hh0⟩ : ∃ x, x = h := ⟨_, rfl⟩
  rw [show xb_am l D A σ 2 MC MS h = xb_am l D A σ 2 MC MS h0 by rw [hh0]]
  intro p e s m args below meth c hC H locs ls k n hE hl hR hS hk hn
  obtain ⟨hx, hb, hown, hlocks, htab, hml, hr, hB, hA, hnm⟩ := id hC
  have hts := hB.1.1.at args
  refine lv_iload_n hx hb (xb_d D_M_isInstance 0 rfl) rfl (lv_at hl 1 rfl) ?_
  refine lv_if_lt (tgt := 16) hx hb (xb_d D_M_isInstance 1 rfl) rfl (fun hc1 => ?_) (fun hc1 => ?_)
  · have hw := hw.1 hc1
    exact am_M_isInstance_L16 l hfl D A σ MC MS h0 Qr h hw p e s m args below meth c hC H locs ls k n hE (lv_sub hl [] rfl) hR hS (by omega) (by omega)
  · have hw := hw.2 hc1
    refine lv_iload_n hx hb (xb_d D_M_isInstance 2 rfl) rfl (lv_at hl 1 rfl) ?_
    refine lv_aload_n hx hb (xb_d D_M_isInstance 3 rfl) rfl (lv_at hl 0 rfl) ?_
    obtain ⟨hk2, hw⟩ := hw
    refine xb_getI (C := R_M) (T := F_M) (N := 97) hx hb 8 30 hts fin_M hown hR hk2 (by decide) rfl (by decide) rfl (hts _ m_1c72c4e0) (fun _ h9 => h9) (xb_d D_M_isInstance 4 rfl) ?_
    refine lv_icmp_ge (tgt := 16) hx hb (xb_d D_M_isInstance 5 rfl) rfl (fun hc3 => ?_) (fun hc3 => ?_)
    · have hw := hw.1 hc3
      exact am_M_isInstance_L16 l hfl D A σ MC MS h0 Qr h hw p e s m args below meth c hC H locs ls k n hE (lv_sub hl [] rfl) hR hS (by omega) (by omega)
    · have hw := hw.2 hc3
      refine lv_iconst (v := 1) hx hb (xb_d D_M_isInstance 6 rfl) (by decide) ?_
      refine lv_goto (tgt := 17) hx hb (xb_d D_M_isInstance 7 rfl) rfl ?_
      exact am_M_isInstance_L17 l hfl D A σ MC MS h0 Qr 1 h hw p e s m args below meth c hC H locs ls k n hE (lv_sub hl [] rfl) hR hS (by omega) (by omega)

theorem m_b0f42f6b : (.fieldLink "StackHostModel" 275 "StackHostModel" "modules" "I" : Cond) ∈ xt_tbl := xt_in (xt_t9 (List.mem_of_getElem? (i := 144) (by decide +kernel))) (by decide +kernel)
set_option maxRecDepth 100000 in
def T_M_isModule : List (Nat × Instr × Nat) := [(0, .iload_n 1, 1), (1, .ifCond .lt 15, 3), (4, .iload_n 1, 1), (5, .aload_n 0, 1), (6, .getfield 275, 3), (9, .if_icmp .ge 7, 3), (12, .iconst 1, 1), (13, .goto 4, 3), (16, .iconst 0, 1), (17, .ireturn, 1)]
theorem D_M_isModule : ∀ q ∈ T_M_isModule, decode b_M_isModule q.1 = .ok (q.2.1, q.2.2) := by decide +kernel

set_option maxHeartbeats 4000000 in
set_option maxRecDepth 100000 in
theorem am_M_isModule_L17 (l : Launch) (hfl : l.flags = pinnedFlags ++ [noTraceFlag]) (D : va_G) (A : Nat → Prop) (σ MC MS : Nat) (h0 : xb_H) (Qr : Int32 → xb_H → Prop) (y0 : Int32) (h : xb_H) (hw : w_M_isModule_L17 Qr y0 h) : xb_am l D A σ 2 MC MS h0 (fun v h _ _ => ∃ r, v = some (.int r) ∧ Qr r h) (fun _ _ _ _ => False) y_M_isModule.cls y_M_isModule.name b_M_isModule 2 ([] : List ExceptionTableEntry) (some .boolean) 17 [] [.int y0] h 0 0 := by
  unfold w_M_isModule_L17 at hw
  intro p e s m args below meth c hC H locs ls k n hE hl hR hS hk hn
  obtain ⟨hx, hb, hown, hlocks, htab, hml, hr, hB, hA, hnm⟩ := id hC
  have hts := hB.1.1.at args
  exact xb_zret 0 0 hx hb hr hlocks (show k + 0 ≤ MC by omega) (show n + 0 ≤ MS by omega) hw.1 hE hR hS (xb_d D_M_isModule 9 rfl) hw.2

set_option maxHeartbeats 4000000 in
set_option maxRecDepth 100000 in
theorem am_M_isModule_L16 (l : Launch) (hfl : l.flags = pinnedFlags ++ [noTraceFlag]) (D : va_G) (A : Nat → Prop) (σ MC MS : Nat) (h0 : xb_H) (Qr : Int32 → xb_H → Prop) (h : xb_H) (hw : w_M_isModule_L16 Qr h) : xb_am l D A σ 2 MC MS h0 (fun v h _ _ => ∃ r, v = some (.int r) ∧ Qr r h) (fun _ _ _ _ => False) y_M_isModule.cls y_M_isModule.name b_M_isModule 2 ([] : List ExceptionTableEntry) (some .boolean) 16 [] [] h 0 0 := by
  unfold w_M_isModule_L16 at hw
  intro p e s m args below meth c hC H locs ls k n hE hl hR hS hk hn
  obtain ⟨hx, hb, hown, hlocks, htab, hml, hr, hB, hA, hnm⟩ := id hC
  have hts := hB.1.1.at args
  refine lv_iconst (v := 0) hx hb (xb_d D_M_isModule 8 rfl) (by decide) ?_
  exact am_M_isModule_L17 l hfl D A σ MC MS h0 Qr 0 h hw p e s m args below meth c hC H locs ls k n hE (lv_sub hl [] rfl) hR hS (by omega) (by omega)

set_option maxHeartbeats 4000000 in
set_option maxRecDepth 100000 in
theorem ok_M_isModule (l : Launch) (hfl : l.flags = pinnedFlags ++ [noTraceFlag]) (D : va_G) (A : Nat → Prop) (σ : Nat) (x0 : Nat) (x1 : Int32) (h : xb_H) (Qr : Int32 → xb_H → Prop) (hw : w_M_isModule x0 x1 h Qr) : xb_Met l y_M_isModule [.code y_M_isModule b_M_isModule 2 (some .boolean)] (xb_rm 2 0 0) (xb_Pc D A σ h [.ref x0, .int x1]) (xb_Qc D A h 0 0 (fun v h _ _ => ∃ r, v = some (.int r) ∧ Qr r h) (fun _ _ _ _ => False)) A := by
  refine xb_ofAm (cc := b_M_isModule) (by decide) (Nat.le_of_ble_eq_true rfl) ?_
  unfold w_M_isModule at hw
  show xb_am l D A σ 2 0 0 h (fun v h _ _ => ∃ r, v = some (.int r) ∧ Qr r h) (fun _ _ _ _ => False) y_M_isModule.cls y_M_isModule.name b_M_isModule 2 ([] : List ExceptionTableEntry) (some .boolean) 0 [(0, .ref x0), (1, .int x1)] [] h 0 0
  obtain ⟨MC, hMC⟩ : ∃ x, x = 0 := ⟨_, rfl⟩
  obtain ⟨MS, hMS⟩ : ∃ x, x = 0 := ⟨_, rfl⟩
  rw [show xb_am l D A σ 2 0 0 = xb_am l D A σ 2 MC MS by rw [hMC, hMS]]
  obtain ⟨h0, hh0⟩ : ∃ x, x = h := ⟨_, rfl⟩
  rw [show xb_am l D A σ 2 MC MS h = xb_am l D A σ 2 MC MS h0 by rw [hh0]]
  intro p e s m args below meth c hC H locs ls k n hE hl hR hS hk hn
  obtain ⟨hx, hb, hown, hlocks, htab, hml, hr, hB, hA, hnm⟩ := id hC
  have hts := hB.1.1.at args
  refine lv_iload_n hx hb (xb_d D_M_isModule 0 rfl) rfl (lv_at hl 1 rfl) ?_
  refine lv_if_lt (tgt := 16) hx hb (xb_d D_M_isModule 1 rfl) rfl (fun hc1 => ?_) (fun hc1 => ?_)
  · have hw := hw.1 hc1
    exact am_M_isModule_L16 l hfl D A σ MC MS h0 Qr h hw p e s m args below meth c hC H locs ls k n hE (lv_sub hl [] rfl) hR hS (by omega) (by omega)
  · have hw := hw.2 hc1
    refine lv_iload_n hx hb (xb_d D_M_isModule 2 rfl) rfl (lv_at hl 1 rfl) ?_
    refine lv_aload_n hx hb (xb_d D_M_isModule 3 rfl) rfl (lv_at hl 0 rfl) ?_
    obtain ⟨hk2, hw⟩ := hw
    refine xb_getI (C := R_M) (T := F_M) (N := 97) hx hb 8 5 hts fin_M hown hR hk2 (by decide) rfl (by decide) rfl (hts _ m_b0f42f6b) (fun _ h9 => h9) (xb_d D_M_isModule 4 rfl) ?_
    refine lv_icmp_ge (tgt := 16) hx hb (xb_d D_M_isModule 5 rfl) rfl (fun hc3 => ?_) (fun hc3 => ?_)
    · have hw := hw.1 hc3
      exact am_M_isModule_L16 l hfl D A σ MC MS h0 Qr h hw p e s m args below meth c hC H locs ls k n hE (lv_sub hl [] rfl) hR hS (by omega) (by omega)
    · have hw := hw.2 hc3
      refine lv_iconst (v := 1) hx hb (xb_d D_M_isModule 6 rfl) (by decide) ?_
      refine lv_goto (tgt := 17) hx hb (xb_d D_M_isModule 7 rfl) rfl ?_
      exact am_M_isModule_L17 l hfl D A σ MC MS h0 Qr 1 h hw p e s m args below meth c hC H locs ls k n hE (lv_sub hl [] rfl) hR hS (by omega) (by omega)

set_option maxRecDepth 100000 in
def T_M_isStep : List (Nat × Instr × Nat) := [(0, .iload_n 0, 1), (1, .iconst 5, 1), (2, .if_icmp .le 9, 3), (5, .iload_n 0, 1), (6, .bipush 11, 2), (8, .if_icmp .ne 12, 3), (11, .iload_n 0, 1), (12, .ifCond .eq 8, 3), (15, .iload_n 0, 1), (16, .iconst 4, 1), (17, .if_icmp .ne 7, 3), (20, .iconst 1, 1), (21, .goto 4, 3), (24, .iconst 0, 1), (25, .ireturn, 1)]
theorem D_M_isStep : ∀ q ∈ T_M_isStep, decode b_M_isStep q.1 = .ok (q.2.1, q.2.2) := by decide +kernel

set_option maxHeartbeats 4000000 in
set_option maxRecDepth 100000 in
theorem am_M_isStep_L25 (l : Launch) (hfl : l.flags = pinnedFlags ++ [noTraceFlag]) (D : va_G) (A : Nat → Prop) (σ MC MS : Nat) (h0 : xb_H) (Qr : Int32 → xb_H → Prop) (y0 : Int32) (h : xb_H) (hw : w_M_isStep_L25 Qr y0 h) : xb_am l D A σ 2 MC MS h0 (fun v h _ _ => ∃ r, v = some (.int r) ∧ Qr r h) (fun _ _ _ _ => False) y_M_isStep.cls y_M_isStep.name b_M_isStep 1 ([] : List ExceptionTableEntry) (some .boolean) 25 [] [.int y0] h 0 0 := by
  unfold w_M_isStep_L25 at hw
  intro p e s m args below meth c hC H locs ls k n hE hl hR hS hk hn
  obtain ⟨hx, hb, hown, hlocks, htab, hml, hr, hB, hA, hnm⟩ := id hC
  have hts := hB.1.1.at args
  exact xb_zret 0 0 hx hb hr hlocks (show k + 0 ≤ MC by omega) (show n + 0 ≤ MS by omega) hw.1 hE hR hS (xb_d D_M_isStep 14 rfl) hw.2

set_option maxHeartbeats 4000000 in
set_option maxRecDepth 100000 in
theorem am_M_isStep_L20 (l : Launch) (hfl : l.flags = pinnedFlags ++ [noTraceFlag]) (D : va_G) (A : Nat → Prop) (σ MC MS : Nat) (h0 : xb_H) (Qr : Int32 → xb_H → Prop) (h : xb_H) (hw : w_M_isStep_L20 Qr h) : xb_am l D A σ 2 MC MS h0 (fun v h _ _ => ∃ r, v = some (.int r) ∧ Qr r h) (fun _ _ _ _ => False) y_M_isStep.cls y_M_isStep.name b_M_isStep 1 ([] : List ExceptionTableEntry) (some .boolean) 20 [] [] h 0 0 := by
  unfold w_M_isStep_L20 at hw
  intro p e s m args below meth c hC H locs ls k n hE hl hR hS hk hn
  obtain ⟨hx, hb, hown, hlocks, htab, hml, hr, hB, hA, hnm⟩ := id hC
  have hts := hB.1.1.at args
  refine lv_iconst (v := 1) hx hb (xb_d D_M_isStep 11 rfl) (by decide) ?_
  refine lv_goto (tgt := 25) hx hb (xb_d D_M_isStep 12 rfl) rfl ?_
  exact am_M_isStep_L25 l hfl D A σ MC MS h0 Qr 1 h hw p e s m args below meth c hC H locs ls k n hE (lv_sub hl [] rfl) hR hS (by omega) (by omega)

set_option maxHeartbeats 4000000 in
set_option maxRecDepth 100000 in
theorem am_M_isStep_L11 (l : Launch) (hfl : l.flags = pinnedFlags ++ [noTraceFlag]) (D : va_G) (A : Nat → Prop) (σ MC MS : Nat) (h0 : xb_H) (Qr : Int32 → xb_H → Prop) (x0 : Int32) (h : xb_H) (hw : w_M_isStep_L11 Qr x0 h) : xb_am l D A σ 2 MC MS h0 (fun v h _ _ => ∃ r, v = some (.int r) ∧ Qr r h) (fun _ _ _ _ => False) y_M_isStep.cls y_M_isStep.name b_M_isStep 1 ([] : List ExceptionTableEntry) (some .boolean) 11 [(0, .int x0)] [] h 0 0 := by
  unfold w_M_isStep_L11 at hw
  intro p e s m args below meth c hC H locs ls k n hE hl hR hS hk hn
  obtain ⟨hx, hb, hown, hlocks, htab, hml, hr, hB, hA, hnm⟩ := id hC
  have hts := hB.1.1.at args
  refine lv_iload_n hx hb (xb_d D_M_isStep 6 rfl) rfl (lv_at hl 0 rfl) ?_
  refine lv_if_eq (tgt := 20) hx hb (xb_d D_M_isStep 7 rfl) rfl (fun hc1 => ?_) (fun hc1 => ?_)
  · have hw := hw.1 hc1
    exact am_M_isStep_L20 l hfl D A σ MC MS h0 Qr h hw p e s m args below meth c hC H locs ls k n hE (lv_sub hl [] rfl) hR hS (by omega) (by omega)
  · have hw := hw.2 hc1
    refine lv_iload_n hx hb (xb_d D_M_isStep 8 rfl) rfl (lv_at hl 0 rfl) ?_
    refine lv_iconst (v := 4) hx hb (xb_d D_M_isStep 9 rfl) (by decide) ?_
    refine lv_icmp_ne (tgt := 24) hx hb (xb_d D_M_isStep 10 rfl) rfl (fun hc2 => ?_) (fun hc2 => ?_)
    · have hw := hw.1 hc2
      refine lv_iconst (v := 0) hx hb (xb_d D_M_isStep 13 rfl) (by decide) ?_
      exact am_M_isStep_L25 l hfl D A σ MC MS h0 Qr 0 h hw p e s m args below meth c hC H locs ls k n hE (lv_sub hl [] rfl) hR hS (by omega) (by omega)
    · have hw := hw.2 hc2
      exact am_M_isStep_L20 l hfl D A σ MC MS h0 Qr h hw p e s m args below meth c hC H locs ls k n hE (lv_sub hl [] rfl) hR hS (by omega) (by omega)

set_option maxHeartbeats 4000000 in
set_option maxRecDepth 100000 in
theorem ok_M_isStep (l : Launch) (hfl : l.flags = pinnedFlags ++ [noTraceFlag]) (D : va_G) (A : Nat → Prop) (σ : Nat) (x0 : Int32) (h : xb_H) (Qr : Int32 → xb_H → Prop) (hw : w_M_isStep x0 h Qr) : xb_Met l y_M_isStep [.code y_M_isStep b_M_isStep 1 (some .boolean)] (xb_rm 2 0 0) (xb_Pc D A σ h [.int x0]) (xb_Qc D A h 0 0 (fun v h _ _ => ∃ r, v = some (.int r) ∧ Qr r h) (fun _ _ _ _ => False)) A := by
  refine xb_ofAm (cc := b_M_isStep) (by decide) (Nat.le_of_ble_eq_true rfl) ?_
  unfold w_M_isStep at hw
  show xb_am l D A σ 2 0 0 h (fun v h _ _ => ∃ r, v = some (.int r) ∧ Qr r h) (fun _ _ _ _ => False) y_M_isStep.cls y_M_isStep.name b_M_isStep 1 ([] : List ExceptionTableEntry) (some .boolean) 0 [(0, .int x0)] [] h 0 0
  obtain ⟨MC, hMC⟩ : ∃ x, x = 0 := ⟨_, rfl⟩
  obtain ⟨MS, hMS⟩ : ∃ x, x = 0 := ⟨_, rfl⟩
  rw [show xb_am l D A σ 2 0 0 = xb_am l D A σ 2 MC MS by rw [hMC, hMS]]
  obtain ⟨h0, hh0⟩ : ∃ x, x = h := ⟨_, rfl⟩
  rw [show xb_am l D A σ 2 MC MS h = xb_am l D A σ 2 MC MS h0 by rw [hh0]]
  intro p e s m args below meth c hC H locs ls k n hE hl hR hS hk hn
  obtain ⟨hx, hb, hown, hlocks, htab, hml, hr, hB, hA, hnm⟩ := id hC
  have hts := hB.1.1.at args
  refine lv_iload_n hx hb (xb_d D_M_isStep 0 rfl) rfl (lv_at hl 0 rfl) ?_
  refine lv_iconst (v := 5) hx hb (xb_d D_M_isStep 1 rfl) (by decide) ?_
  refine lv_icmp_le (tgt := 11) hx hb (xb_d D_M_isStep 2 rfl) rfl (fun hc1 => ?_) (fun hc1 => ?_)
  · have hw := hw.1 hc1
    exact am_M_isStep_L11 l hfl D A σ MC MS h0 Qr x0 h hw p e s m args below meth c hC H locs ls k n hE (lv_sub hl [0] rfl) hR hS (by omega) (by omega)
  · have hw := hw.2 hc1
    refine lv_iload_n hx hb (xb_d D_M_isStep 3 rfl) rfl (lv_at hl 0 rfl) ?_
    refine lv_bipush (v := 11) hx hb (xb_d D_M_isStep 4 rfl) (by decide) ?_
    refine lv_icmp_ne (tgt := 20) hx hb (xb_d D_M_isStep 5 rfl) rfl (fun hc2 => ?_) (fun hc2 => ?_)
    · have hw := hw.1 hc2
      exact am_M_isStep_L20 l hfl D A σ MC MS h0 Qr h hw p e s m args below meth c hC H locs ls k n hE (lv_sub hl [] rfl) hR hS (by omega) (by omega)
    · have hw := hw.2 hc2
      exact am_M_isStep_L11 l hfl D A σ MC MS h0 Qr x0 h hw p e s m args below meth c hC H locs ls k n hE (lv_sub hl [0] rfl) hR hS (by omega) (by omega)

set_option maxRecDepth 100000 in
def T_M_isType : List (Nat × Instr × Nat) := [(0, .iload_n 0, 1), (1, .bipush 124, 2), (3, .if_icmp .lt 13, 3), (6, .iload_n 0, 1), (7, .bipush 127, 2), (9, .if_icmp .gt 7, 3), (12, .iconst 1, 1), (13, .goto 4, 3), (16, .iconst 0, 1), (17, .ireturn, 1)]
theorem D_M_isType : ∀ q ∈ T_M_isType, decode b_M_isType q.1 = .ok (q.2.1, q.2.2) := by decide +kernel

set_option maxHeartbeats 4000000 in
set_option maxRecDepth 100000 in
theorem am_M_isType_L17 (l : Launch) (hfl : l.flags = pinnedFlags ++ [noTraceFlag]) (D : va_G) (A : Nat → Prop) (σ MC MS : Nat) (h0 : xb_H) (Qr : Int32 → xb_H → Prop) (y0 : Int32) (h : xb_H) (hw : w_M_isType_L17 Qr y0 h) : xb_am l D A σ 2 MC MS h0 (fun v h _ _ => ∃ r, v = some (.int r) ∧ Qr r h) (fun _ _ _ _ => False) y_M_isType.cls y_M_isType.name b_M_isType 1 ([] : List ExceptionTableEntry) (some .boolean) 17 [] [.int y0] h 0 0 := by
  unfold w_M_isType_L17 at hw
  intro p e s m args below meth c hC H locs ls k n hE hl hR hS hk hn
  obtain ⟨hx, hb, hown, hlocks, htab, hml, hr, hB, hA, hnm⟩ := id hC
  have hts := hB.1.1.at args
  exact xb_zret 0 0 hx hb hr hlocks (show k + 0 ≤ MC by omega) (show n + 0 ≤ MS by omega) hw.1 hE hR hS (xb_d D_M_isType 9 rfl) hw.2

set_option maxHeartbeats 4000000 in
set_option maxRecDepth 100000 in
theorem am_M_isType_L16 (l : Launch) (hfl : l.flags = pinnedFlags ++ [noTraceFlag]) (D : va_G) (A : Nat → Prop) (σ MC MS : Nat) (h0 : xb_H) (Qr : Int32 → xb_H → Prop) (h : xb_H) (hw : w_M_isType_L16 Qr h) : xb_am l D A σ 2 MC MS h0 (fun v h _ _ => ∃ r, v = some (.int r) ∧ Qr r h) (fun _ _ _ _ => False) y_M_isType.cls y_M_isType.name b_M_isType 1 ([] : List ExceptionTableEntry) (some .boolean) 16 [] [] h 0 0 := by
  unfold w_M_isType_L16 at hw
  intro p e s m args below meth c hC H locs ls k n hE hl hR hS hk hn
  obtain ⟨hx, hb, hown, hlocks, htab, hml, hr, hB, hA, hnm⟩ := id hC
  have hts := hB.1.1.at args
  refine lv_iconst (v := 0) hx hb (xb_d D_M_isType 8 rfl) (by decide) ?_
  exact am_M_isType_L17 l hfl D A σ MC MS h0 Qr 0 h hw p e s m args below meth c hC H locs ls k n hE (lv_sub hl [] rfl) hR hS (by omega) (by omega)

set_option maxHeartbeats 4000000 in
set_option maxRecDepth 100000 in
theorem ok_M_isType (l : Launch) (hfl : l.flags = pinnedFlags ++ [noTraceFlag]) (D : va_G) (A : Nat → Prop) (σ : Nat) (x0 : Int32) (h : xb_H) (Qr : Int32 → xb_H → Prop) (hw : w_M_isType x0 h Qr) : xb_Met l y_M_isType [.code y_M_isType b_M_isType 1 (some .boolean)] (xb_rm 2 0 0) (xb_Pc D A σ h [.int x0]) (xb_Qc D A h 0 0 (fun v h _ _ => ∃ r, v = some (.int r) ∧ Qr r h) (fun _ _ _ _ => False)) A := by
  refine xb_ofAm (cc := b_M_isType) (by decide) (Nat.le_of_ble_eq_true rfl) ?_
  unfold w_M_isType at hw
  show xb_am l D A σ 2 0 0 h (fun v h _ _ => ∃ r, v = some (.int r) ∧ Qr r h) (fun _ _ _ _ => False) y_M_isType.cls y_M_isType.name b_M_isType 1 ([] : List ExceptionTableEntry) (some .boolean) 0 [(0, .int x0)] [] h 0 0
  obtain ⟨MC, hMC⟩ : ∃ x, x = 0 := ⟨_, rfl⟩
  obtain ⟨MS, hMS⟩ : ∃ x, x = 0 := ⟨_, rfl⟩
  rw [show xb_am l D A σ 2 0 0 = xb_am l D A σ 2 MC MS by rw [hMC, hMS]]
  obtain ⟨h0, hh0⟩ : ∃ x, x = h := ⟨_, rfl⟩
  rw [show xb_am l D A σ 2 MC MS h = xb_am l D A σ 2 MC MS h0 by rw [hh0]]
  intro p e s m args below meth c hC H locs ls k n hE hl hR hS hk hn
  obtain ⟨hx, hb, hown, hlocks, htab, hml, hr, hB, hA, hnm⟩ := id hC
  have hts := hB.1.1.at args
  refine lv_iload_n hx hb (xb_d D_M_isType 0 rfl) rfl (lv_at hl 0 rfl) ?_
  refine lv_bipush (v := 124) hx hb (xb_d D_M_isType 1 rfl) (by decide) ?_
  refine lv_icmp_lt (tgt := 16) hx hb (xb_d D_M_isType 2 rfl) rfl (fun hc1 => ?_) (fun hc1 => ?_)
  · have hw := hw.1 hc1
    exact am_M_isType_L16 l hfl D A σ MC MS h0 Qr h hw p e s m args below meth c hC H locs ls k n hE (lv_sub hl [] rfl) hR hS (by omega) (by omega)
  · have hw := hw.2 hc1
    refine lv_iload_n hx hb (xb_d D_M_isType 3 rfl) rfl (lv_at hl 0 rfl) ?_
    refine lv_bipush (v := 127) hx hb (xb_d D_M_isType 4 rfl) (by decide) ?_
    refine lv_icmp_gt (tgt := 16) hx hb (xb_d D_M_isType 5 rfl) rfl (fun hc2 => ?_) (fun hc2 => ?_)
    · have hw := hw.1 hc2
      exact am_M_isType_L16 l hfl D A σ MC MS h0 Qr h hw p e s m args below meth c hC H locs ls k n hE (lv_sub hl [] rfl) hR hS (by omega) (by omega)
    · have hw := hw.2 hc2
      refine lv_iconst (v := 1) hx hb (xb_d D_M_isType 6 rfl) (by decide) ?_
      refine lv_goto (tgt := 17) hx hb (xb_d D_M_isType 7 rfl) rfl ?_
      exact am_M_isType_L17 l hfl D A σ MC MS h0 Qr 1 h hw p e s m args below meth c hC H locs ls k n hE (lv_sub hl [] rfl) hR hS (by omega) (by omega)

theorem m_fea26463 : (.fieldLink "StackHostModel" 27 "StackHostModel" "many" "[I" : Cond) ∈ xt_tbl := xt_in (xt_t9 (List.mem_of_getElem? (i := 148) (by decide +kernel))) (by decide +kernel)
set_option maxRecDepth 100000 in
def T_M_manyOf : List (Nat × Instr × Nat) := [(0, .aload_n 0, 1), (1, .getfield 27, 3), (4, .bipush 12, 2), (6, .iload_n 1, 1), (7, .imul, 1), (8, .iload_n 2, 1), (9, .iadd, 1), (10, .iaload, 1), (11, .ireturn, 1)]
theorem D_M_manyOf : ∀ q ∈ T_M_manyOf, decode b_M_manyOf q.1 = .ok (q.2.1, q.2.2) := by decide +kernel

set_option maxHeartbeats 4000000 in
set_option maxRecDepth 100000 in
theorem ok_M_manyOf (l : Launch) (hfl : l.flags = pinnedFlags ++ [noTraceFlag]) (D : va_G) (A : Nat → Prop) (σ : Nat) (x0 : Nat) (x1 : Int32) (x2 : Int32) (h : xb_H) (Qr : Int32 → xb_H → Prop) (hw : w_M_manyOf x0 x1 x2 h Qr) : xb_Met l y_M_manyOf [.code y_M_manyOf b_M_manyOf 3 (some .int)] (xb_rm 2 0 0) (xb_Pc D A σ h [.ref x0, .int x1, .int x2]) (xb_Qc D A h 0 0 (fun v h _ _ => ∃ r, v = some (.int r) ∧ Qr r h) (fun _ _ _ _ => False)) A := by
  refine xb_ofAm (cc := b_M_manyOf) (by decide) (Nat.le_of_ble_eq_true rfl) ?_
  unfold w_M_manyOf at hw
  show xb_am l D A σ 2 0 0 h (fun v h _ _ => ∃ r, v = some (.int r) ∧ Qr r h) (fun _ _ _ _ => False) y_M_manyOf.cls y_M_manyOf.name b_M_manyOf 3 ([] : List ExceptionTableEntry) (some .int) 0 [(0, .ref x0), (1, .int x1), (2, .int x2)] [] h 0 0
  obtain ⟨MC, hMC⟩ : ∃ x, x = 0 := ⟨_, rfl⟩
  obtain ⟨MS, hMS⟩ : ∃ x, x = 0 := ⟨_, rfl⟩
  rw [show xb_am l D A σ 2 0 0 = xb_am l D A σ 2 MC MS by rw [hMC, hMS]]
  obtain ⟨h0, hh0⟩ : ∃ x, x = h := ⟨_, rfl⟩
  rw [show xb_am l D A σ 2 MC MS h = xb_am l D A σ 2 MC MS h0 by rw [hh0]]
  intro p e s m args below meth c hC H locs ls k n hE hl hR hS hk hn
  obtain ⟨hx, hb, hown, hlocks, htab, hml, hr, hB, hA, hnm⟩ := id hC
  have hts := hB.1.1.at args
  refine lv_aload_n hx hb (xb_d D_M_manyOf 0 rfl) rfl (lv_at hl 0 rfl) ?_
  obtain ⟨hk1, hw⟩ := hw
  refine xb_getP (C := R_M) (T := F_M) (N := 97) hx hb 8 9 hts fin_M hown hR hk1 (by decide) rfl (by decide) rfl (hts _ m_fea26463) (fun _ h9 => h9) (xb_d D_M_manyOf 1 rfl) ?_
  obtain ⟨b2, eb2, hw⟩ := hw
  refine xb_some eb2 ?_
  refine lv_bipush (v := 12) hx hb (xb_d D_M_manyOf 2 rfl) (by decide) ?_
  refine lv_iload_n hx hb (xb_d D_M_manyOf 3 rfl) rfl (lv_at hl 1 rfl) ?_
  refine lv_imul hx hb (xb_d D_M_manyOf 4 rfl) ?_
  refine lv_iload_n hx hb (xb_d D_M_manyOf 5 rfl) rfl (lv_at hl 2 rfl) ?_
  refine lv_iadd hx hb (xb_d D_M_manyOf 6 rfl) ?_
  obtain ⟨hk4, hw⟩ := hw
  obtain ⟨hi3, hw⟩ := hw
  refine xb_iald hx hb hR hk4 hi3 (xb_d D_M_manyOf 7 rfl) ?_
  exact xb_iret 0 0 hx hb hr hlocks (show k + 0 ≤ MC by omega) (show n + 0 ≤ MS by omega) hE hR hS (xb_d D_M_manyOf 8 rfl) hw

