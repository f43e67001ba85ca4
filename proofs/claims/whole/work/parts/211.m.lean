theorem m_86aae10b : (.fieldLink "StackHost$World" 238 "StackHost$StackModule" "variables" "LStackHost$Row;" : Cond) ∈ xt_tbl := xt_in (xt_t3 (List.mem_of_getElem? (i := 83) (by decide +kernel))) (by decide +kernel)
set_option maxRecDepth 100000 in
def T_World_sameVariable : List (Nat × Instr × Nat) := [(0, .aload_n 0, 1), (1, .getfield 238, 3), (4, .iload_n 1, 1), (5, .iconst 1, 1), (6, .invokevirtual 51, 3), (9, .aload_n 2, 1), (10, .getfield 238, 3), (13, .iload_n 3, 1), (14, .iconst 1, 1), (15, .invokevirtual 51, 3), (18, .if_icmp .ne 28, 3), (21, .aload_n 0, 1), (22, .getfield 238, 3), (25, .iload_n 1, 1), (26, .iconst 2, 1), (27, .invokevirtual 51, 3), (30, .aload_n 2, 1), (31, .getfield 238, 3), (34, .iload_n 3, 1), (35, .iconst 2, 1), (36, .invokevirtual 51, 3), (39, .if_icmp .ne 7, 3), (42, .iconst 1, 1), (43, .goto 4, 3), (46, .iconst 0, 1), (47, .ireturn, 1)]
theorem D_World_sameVariable : ∀ q ∈ T_World_sameVariable, decode b_World_sameVariable q.1 = .ok (q.2.1, q.2.2) := by decide +kernel

set_option maxHeartbeats 4000000 in
set_option maxRecDepth 100000 in
theorem am_World_sameVariable_L47 (l : Launch) (hfl : l.flags = pinnedFlags ++ [noTraceFlag]) (D : va_G) (A : Nat → Prop) (σ MC MS : Nat) (h0 : xb_H) (Qr : Int32 → xb_H → Prop) (y0 : Int32) (h : xb_H) (hw : w_World_sameVariable_L47 Qr y0 h) : xb_am l D A σ 3 MC MS h0 (fun v h _ _ => ∃ r, v = some (.int r) ∧ Qr r h) (fun _ _ _ _ => False) y_World_sameVariable.cls y_World_sameVariable.name b_World_sameVariable 4 ([] : List ExceptionTableEntry) (some .boolean) 47 [] [.int y0] h 0 0 := by
  unfold w_World_sameVariable_L47 at hw
  intro p e s m args below meth c hC H locs ls k n hE hl hR hS hk hn
  obtain ⟨hx, hb, hown, hlocks, htab, hml, hr, hB, hA, hnm⟩ := id hC
  have hts := hB.1.1.at args
  exact xb_zret 0 0 hx hb hr hlocks (show k + 0 ≤ MC by omega) (show n + 0 ≤ MS by omega) hw.1 hE hR hS (xb_d D_World_sameVariable 25 rfl) hw.2

set_option maxHeartbeats 4000000 in
set_option maxRecDepth 100000 in
theorem am_World_sameVariable_L46 (l : Launch) (hfl : l.flags = pinnedFlags ++ [noTraceFlag]) (D : va_G) (A : Nat → Prop) (σ MC MS : Nat) (h0 : xb_H) (Qr : Int32 → xb_H → Prop) (h : xb_H) (hw : w_World_sameVariable_L46 Qr h) : xb_am l D A σ 3 MC MS h0 (fun v h _ _ => ∃ r, v = some (.int r) ∧ Qr r h) (fun _ _ _ _ => False) y_World_sameVariable.cls y_World_sameVariable.name b_World_sameVariable 4 ([] : List ExceptionTableEntry) (some .boolean) 46 [] [] h 0 0 := by
  unfold w_World_sameVariable_L46 at hw
  intro p e s m args below meth c hC H locs ls k n hE hl hR hS hk hn
  obtain ⟨hx, hb, hown, hlocks, htab, hml, hr, hB, hA, hnm⟩ := id hC
  have hts := hB.1.1.at args
  refine lv_iconst (v := 0) hx hb (xb_d D_World_sameVariable 24 rfl) (by decide) ?_
  exact am_World_sameVariable_L47 l hfl D A σ MC MS h0 Qr 0 h hw p e s m args below meth c hC H locs ls k n hE (lv_sub hl [] rfl) hR hS (by omega) (by omega)

set_option maxHeartbeats 4000000 in
set_option maxRecDepth 100000 in
theorem ok_World_sameVariable (l : Launch) (hfl : l.flags = pinnedFlags ++ [noTraceFlag]) (D : va_G) (A : Nat → Prop) (σ : Nat) (x0 : Nat) (x1 : Int32) (x2 : Nat) (x3 : Int32) (h : xb_H) (Qr : Int32 → xb_H → Prop) (hw : w_World_sameVariable x0 x1 x2 x3 h Qr) : xb_Met l y_World_sameVariable [.code y_World_sameVariable b_World_sameVariable 4 (some .boolean)] (xb_rm 3 0 0) (xb_Pc D A σ h [.ref x0, .int x1, .ref x2, .int x3]) (xb_Qc D A h 0 0 (fun v h _ _ => ∃ r, v = some (.int r) ∧ Qr r h) (fun _ _ _ _ => False)) A := by
  refine xb_ofAm (cc := b_World_sameVariable) (by decide) (Nat.le_of_ble_eq_true rfl) ?_
  unfold w_World_sameVariable at hw
  show xb_am l D A σ 3 0 0 h (fun v h _ _ => ∃ r, v = some (.int r) ∧ Qr r h) (fun _ _ _ _ => False) y_World_sameVariable.cls y_World_sameVariable.name b_World_sameVariable 4 ([] : List ExceptionTableEntry) (some .boolean) 0 [(0, .ref x0), (1, .int x1), (2, .ref x2), (3, .int x3)] [] h 0 0
  obtain ⟨MC, hMC⟩ : ∃ x, x = 0 := ⟨_, rfl⟩
  obtain ⟨MS, hMS⟩ : ∃ x, x = 0 := ⟨_, rfl⟩
  rw [show xb_am l D A σ 3 0 0 = xb_am l D A σ 3 MC MS by rw [hMC, hMS]]
  obtain ⟨h0, hh0⟩ : ∃ x, x = h := ⟨_, rfl⟩
  rw [show xb_am l D A σ 3 MC MS h = xb_am l D A σ 3 MC MS h0 by rw [hh0]]
  intro p e s m args below meth c hC H locs ls k n hE hl hR hS hk hn
  obtain ⟨hx, hb, hown, hlocks, htab, hml, hr, hB, hA, hnm⟩ := id hC
  have hts := hB.1.1.at args
  refine lv_aload_n hx hb (xb_d D_World_sameVariable 0 rfl) rfl (lv_at hl 0 rfl) ?_
  obtain ⟨hk1, hw⟩ := hw
  refine xb_getP (C := R_StackModule) (T := F_StackModule) (N := 19) hx hb 2 7 hts fin_StackModule hown hR hk1 (by decide) rfl (by decide) rfl (hts _ m_86aae10b) (fun _ h9 => h9) (xb_d D_World_sameVariable 1 rfl) ?_
  obtain ⟨b2, eb2, hw⟩ := hw
  refine xb_some eb2 ?_
  refine lv_iload_n hx hb (xb_d D_World_sameVariable 2 rfl) rfl (lv_at hl 1 rfl) ?_
  refine lv_iconst (v := 1) hx hb (xb_d D_World_sameVariable 3 rfl) (by decide) ?_
  obtain ⟨hk3, hw⟩ := hw
  refine xb_call0 (D := D) (A := A) (σ := σ) (h := h) (d := 2) (maxL := 3) (rest := []) (av := [.ref b2, .int x1, .int 1]) (fun T hT X => by obtain ⟨cb9, ra9, rb9, rc9⟩ := xb_recv (ci := 1) hR rfl hk3 (by decide); exact xt_invV X hx hown (hts _ m_ad29ee25) (hts _ m_8e233096) (hts _ m_27eed10c) (xt_sigOf (hts _ m_ff1c70ae)) nm_Row_at (by rw [hT]; exact ra9) rb9 rc9 (g := F0 m 6 ls [.int 1, .int x1, .ref b2]) rfl (argsL := [.int x1, .int 1]) (rest := []) rfl rfl (by rw [hb]; exact (xb_d D_World_sameVariable 4 rfl))) (ok_Row_at l hfl D A σ b2 x1 1 h _ hw) (hml.trans hl.1.symm) (by rw [hb]; exact (xb_d D_World_sameVariable 4 rfl)) (Nat.le_of_ble_eq_true rfl) (Nat.le_of_ble_eq_true rfl) (Nat.le_of_ble_eq_true rfl) (show k ≤ MC by omega) (show n ≤ MS by omega) (xt_w1 hB.1 m_ff1c70ae) (xt_cdOf hB.1 m_ff1c70ae) (hts _ m_c1bef504) hB hR hS hA (fun vv h4 H locs hq hEh4 hR hS => ?_)
  obtain ⟨r5, rfl, hw⟩ := hq
  have hw := hw hEh4
  have hE := hE.tr hEh4
  refine W.eq (g2 := F0 m 9 ls [.int r5]) rfl ?_
  refine lv_aload_n hx hb (xb_d D_World_sameVariable 5 rfl) rfl (lv_at hl 2 rfl) ?_
  obtain ⟨hk6, hw⟩ := hw
  refine xb_getP (C := R_StackModule) (T := F_StackModule) (N := 19) hx hb 2 7 hts fin_StackModule hown hR hk6 (by decide) rfl (by decide) rfl (hts _ m_86aae10b) (fun _ h9 => h9) (xb_d D_World_sameVariable 6 rfl) ?_
  obtain ⟨b7, eb7, hw⟩ := hw
  refine xb_some eb7 ?_
  refine lv_iload_n hx hb (xb_d D_World_sameVariable 7 rfl) rfl (lv_at hl 3 rfl) ?_
  refine lv_iconst (v := 1) hx hb (xb_d D_World_sameVariable 8 rfl) (by decide) ?_
  obtain ⟨hk8, hw⟩ := hw
  refine xb_call0 (D := D) (A := A) (σ := σ) (h := h4) (d := 2) (maxL := 3) (rest := [.int r5]) (av := [.ref b7, .int x3, .int 1]) (fun T hT X => by obtain ⟨cb9, ra9, rb9, rc9⟩ := xb_recv (ci := 1) hR rfl hk8 (by decide); exact xt_invV X hx hown (hts _ m_ad29ee25) (hts _ m_8e233096) (hts _ m_27eed10c) (xt_sigOf (hts _ m_ff1c70ae)) nm_Row_at (by rw [hT]; exact ra9) rb9 rc9 (g := F0 m 15 ls [.int 1, .int x3, .ref b7, .int r5]) rfl (argsL := [.int x3, .int 1]) (rest := [.int r5]) rfl rfl (by rw [hb]; exact (xb_d D_World_sameVariable 9 rfl))) (ok_Row_at l hfl D A σ b7 x3 1 h4 _ hw) (hml.trans hl.1.symm) (by rw [hb]; exact (xb_d D_World_sameVariable 9 rfl)) (Nat.le_of_ble_eq_true rfl) (Nat.le_of_ble_eq_true rfl) (Nat.le_of_ble_eq_true rfl) (show k ≤ MC by omega) (show n ≤ MS by omega) (xt_w1 hB.1 m_ff1c70ae) (xt_cdOf hB.1 m_ff1c70ae) (hts _ m_c1bef504) hB hR hS hA (fun vv h9 H locs hq hEh9 hR hS => ?_)
  obtain ⟨r10, rfl, hw⟩ := hq
  have hw := hw hEh9
  have hE := hE.tr hEh9
  refine W.eq (g2 := F0 m 18 ls [.int r10, .int r5]) rfl ?_
  refine lv_icmp_ne (tgt := 46) hx hb (xb_d D_World_sameVariable 10 rfl) rfl (fun hc11 => ?_) (fun hc11 => ?_)
  · have hw := hw.1 hc11
    exact am_World_sameVariable_L46 l hfl D A σ MC MS h0 Qr h9 hw p e s m args below meth c hC H locs ls k n hE (lv_sub hl [] rfl) hR hS (by omega) (by omega)
  · have hw := hw.2 hc11
    refine lv_aload_n hx hb (xb_d D_World_sameVariable 11 rfl) rfl (lv_at hl 0 rfl) ?_
    have hk1 : xb_k h4 x0 = 3 := hEh4.k hk1
    have hk1 : xb_k h9 x0 = 3 := hEh9.k hk1
    refine xb_getP (C := R_StackModule) (T := F_StackModule) (N := 19) hx hb 2 7 hts fin_StackModule hown hR hk1 (by decide) rfl (by decide) rfl (hts _ m_86aae10b) (fun _ h9 => h9) (xb_d D_World_sameVariable 12 rfl) ?_
    obtain ⟨b12, eb12, hw⟩ := hw
    refine xb_some eb12 ?_
    refine lv_iload_n hx hb (xb_d D_World_sameVariable 13 rfl) rfl (lv_at hl 1 rfl) ?_
    refine lv_iconst (v := 2) hx hb (xb_d D_World_sameVariable 14 rfl) (by decide) ?_
    obtain ⟨hk13, hw⟩ := hw
    refine xb_call0 (D := D) (A := A) (σ := σ) (h := h9) (d := 2) (maxL := 3) (rest := []) (av := [.ref b12, .int x1, .int 2]) (fun T hT X => by obtain ⟨cb9, ra9, rb9, rc9⟩ := xb_recv (ci := 1) hR rfl hk13 (by decide); exact xt_invV X hx hown (hts _ m_ad29ee25) (hts _ m_8e233096) (hts _ m_27eed10c) (xt_sigOf (hts _ m_ff1c70ae)) nm_Row_at (by rw [hT]; exact ra9) rb9 rc9 (g := F0 m 27 ls [.int 2, .int x1, .ref b12]) rfl (argsL := [.int x1, .int 2]) (rest := []) rfl rfl (by rw [hb]; exact (xb_d D_World_sameVariable 15 rfl))) (ok_Row_at l hfl D A σ b12 x1 2 h9 _ hw) (hml.trans hl.1.symm) (by rw [hb]; exact (xb_d D_World_sameVariable 15 rfl)) (Nat.le_of_ble_eq_true rfl) (Nat.le_of_ble_eq_true rfl) (Nat.le_of_ble_eq_true rfl) (show k ≤ MC by omega) (show n ≤ MS by omega) (xt_w1 hB.1 m_ff1c70ae) (xt_cdOf hB.1 m_ff1c70ae) (hts _ m_c1bef504) hB hR hS hA (fun vv h14 H locs hq hEh14 hR hS => ?_)
    obtain ⟨r15, rfl, hw⟩ := hq
    have hw := hw hEh14
    have hE := hE.tr hEh14
    refine W.eq (g2 := F0 m 30 ls [.int r15]) rfl ?_
    refine lv_aload_n hx hb (xb_d D_World_sameVariable 16 rfl) rfl (lv_at hl 2 rfl) ?_
    have hk6 : xb_k h9 x2 = 3 := hEh9.k hk6
    have hk6 : xb_k h14 x2 = 3 := hEh14.k hk6
    refine xb_getP (C := R_StackModule) (T := F_StackModule) (N := 19) hx hb 2 7 hts fin_StackModule hown hR hk6 (by decide) rfl (by decide) rfl (hts _ m_86aae10b) (fun _ h9 => h9) (xb_d D_World_sameVariable 17 rfl) ?_
    obtain ⟨b16, eb16, hw⟩ := hw
    refine xb_some eb16 ?_
    refine lv_iload_n hx hb (xb_d D_World_sameVariable 18 rfl) rfl (lv_at hl 3 rfl) ?_
    refine lv_iconst (v := 2) hx hb (xb_d D_World_sameVariable 19 rfl) (by decide) ?_
    obtain ⟨hk17, hw⟩ := hw
    refine xb_call0 (D := D) (A := A) (σ := σ) (h := h14) (d := 2) (maxL := 3) (rest := [.int r15]) (av := [.ref b16, .int x3, .int 2]) (fun T hT X => by obtain ⟨cb9, ra9, rb9, rc9⟩ := xb_recv (ci := 1) hR rfl hk17 (by decide); exact xt_invV X hx hown (hts _ m_ad29ee25) (hts _ m_8e233096) (hts _ m_27eed10c) (xt_sigOf (hts _ m_ff1c70ae)) nm_Row_at (by rw [hT]; exact ra9) rb9 rc9 (g := F0 m 36 ls [.int 2, .int x3, .ref b16, .int r15]) rfl (argsL := [.int x3, .int 2]) (rest := [.int r15]) rfl rfl (by rw [hb]; exact (xb_d D_World_sameVariable 20 rfl))) (ok_Row_at l hfl D A σ b16 x3 2 h14 _ hw) (hml.trans hl.1.symm) (by rw [hb]; exact (xb_d D_World_sameVariable 20 rfl)) (Nat.le_of_ble_eq_true rfl) (Nat.le_of_ble_eq_true rfl) (Nat.le_of_ble_eq_true rfl) (show k ≤ MC by omega) (show n ≤ MS by omega) (xt_w1 hB.1 m_ff1c70ae) (xt_cdOf hB.1 m_ff1c70ae) (hts _ m_c1bef504) hB hR hS hA (fun vv h18 H locs hq hEh18 hR hS => ?_)
    obtain ⟨r19, rfl, hw⟩ := hq
    have hw := hw hEh18
    have hE := hE.tr hEh18
    refine W.eq (g2 := F0 m 39 ls [.int r19, .int r15]) rfl ?_
    refine lv_icmp_ne (tgt := 46) hx hb (xb_d D_World_sameVariable 21 rfl) rfl (fun hc20 => ?_) (fun hc20 => ?_)
    · have hw := hw.1 hc20
      exact am_World_sameVariable_L46 l hfl D A σ MC MS h0 Qr h18 hw p e s m args below meth c hC H locs ls k n hE (lv_sub hl [] rfl) hR hS (by omega) (by omega)
    · have hw := hw.2 hc20
      refine lv_iconst (v := 1) hx hb (xb_d D_World_sameVariable 22 rfl) (by decide) ?_
      refine lv_goto (tgt := 47) hx hb (xb_d D_World_sameVariable 23 rfl) rfl ?_
      exact am_World_sameVariable_L47 l hfl D A σ MC MS h0 Qr 1 h18 hw p e s m args below meth c hC H locs ls k n hE (lv_sub hl [] rfl) hR hS (by omega) (by omega)

theorem m_7aa5c58a : (.fieldLink "StackHost$World" 138 "StackHost$StackModule" "code" "[B" : Cond) ∈ xt_tbl := xt_in (xt_t3 (List.mem_of_getElem? (i := 49) (by decide +kernel))) (by decide +kernel)
theorem m_72e9f633 : (.methodLink "StackHost$World" 279 y_StackModule_constantAt : Cond) ∈ xt_tbl := xt_in (xt_t6 (List.mem_of_getElem? (i := 215) (by decide +kernel))) (by decide +kernel)
theorem m_dc97d6c5 : (.instanceMethod y_StackModule_constantAt : Cond) ∈ xt_tbl := xt_in (xt_t6 (List.mem_of_getElem? (i := 216) (by decide +kernel))) (by decide +kernel)
theorem m_351140f1 : (.selects "StackHost$StackModule" y_StackModule_constantAt y_StackModule_constantAt : Cond) ∈ xt_tbl := xt_in (xt_t6 (List.mem_of_getElem? (i := 217) (by decide +kernel))) (by decide +kernel)
theorem m_7a46ed9e : (.code y_StackModule_constantAt b_StackModule_constantAt 3 (some .long) : Cond) ∈ xt_tbl := xt_in (xt_t6 (List.mem_of_getElem? (i := 218) (by decide +kernel))) (by decide +kernel)
theorem m_e12aacbe : (.fieldLink "StackHost$World" 272 "StackHost$Row" "items" "[J" : Cond) ∈ xt_tbl := xt_in (xt_t1 (List.mem_of_getElem? (i := 148) (by decide +kernel))) (by decide +kernel)
theorem m_50e2d678 : (.fieldLink "StackHost$World" 276 "StackHost$StackModule" "notes" "[I" : Cond) ∈ xt_tbl := xt_in (xt_t3 (List.mem_of_getElem? (i := 55) (by decide +kernel))) (by decide +kernel)
theorem nm_StackModule_constantAt : xt_nm y_StackModule_constantAt 1 := ⟨by decide +kernel, by decide +kernel⟩
set_option maxRecDepth 100000 in
def T_World_valueOf : List (Nat × Instr × Nat) := [(0, .aload_n 1, 1), (1, .getfield 138, 3), (4, .iload_n 2, 1), (5, .baload, 1), (6, .bipush 35, 2), (8, .if_icmp .ne 28, 3), (11, .aload_n 0, 1), (12, .getfield 26, 3), (15, .getfield 272, 3), (18, .aload_n 0, 1), (19, .getfield 48, 3), (22, .aload_n 1, 1), (23, .getfield 276, 3), (26, .iload_n 2, 1), (27, .iconst 1, 1), (28, .iadd, 1), (29, .iaload, 1), (30, .iconst 0, 1), (31, .invokevirtual 51, 3), (34, .laload, 1), (35, .lreturn, 1), (36, .aload_n 1, 1), (37, .iload_n 2, 1), (38, .invokevirtual 279, 3), (41, .lreturn, 1)]
theorem D_World_valueOf : ∀ q ∈ T_World_valueOf, decode b_World_valueOf q.1 = .ok (q.2.1, q.2.2) := by decide +kernel

set_option maxHeartbeats 4000000 in
set_option maxRecDepth 100000 in
theorem ok_World_valueOf (l : Launch) (hfl : l.flags = pinnedFlags ++ [noTraceFlag]) (D : va_G) (A : Nat → Prop) (σ : Nat) (x0 : Nat) (x1 : Nat) (x2 : Int32) (h : xb_H) (Qr : Int64 → xb_H → Prop) (hw : w_World_valueOf x0 x1 x2 h Qr) : xb_Met l y_World_valueOf [.code y_World_valueOf b_World_valueOf 3 (some .long)] (xb_rm 3 0 0) (xb_Pc D A σ h [.ref x0, .ref x1, .int x2]) (xb_Qc D A h 0 0 (fun v h _ _ => ∃ r, v = some (.long r) ∧ Qr r h) (fun _ _ _ _ => False)) A := by
  refine xb_ofAm (cc := b_World_valueOf) (by decide) (Nat.le_of_ble_eq_true rfl) ?_
  unfold w_World_valueOf at hw
  show xb_am l D A σ 3 0 0 h (fun v h _ _ => ∃ r, v = some (.long r) ∧ Qr r h) (fun _ _ _ _ => False) y_World_valueOf.cls y_World_valueOf.name b_World_valueOf 3 ([] : List ExceptionTableEntry) (some .long) 0 [(0, .ref x0), (1, .ref x1), (2, .int x2)] [] h 0 0
  obtain ⟨MC, hMC⟩ : ∃ x, x = 0 := ⟨_, rfl⟩
  obtain ⟨MS, hMS⟩ : ∃ x, x = 0 := ⟨_, rfl⟩
  rw [show xb_am l D A σ 3 0 0 = xb_am l D A σ 3 MC MS by rw [hMC, hMS]]
  obtain ⟨h0, hh0⟩ : ∃ x, x = h := ⟨_, rfl⟩
  rw [show xb_am l D A σ 3 MC MS h = xb_am l D A σ 3 MC MS h0 by rw [hh0]]
  intro p e s m args below meth c hC H locs ls k n hE hl hR hS hk hn
  obtain ⟨hx, hb, hown, hlocks, htab, hml, hr, hB, hA, hnm⟩ := id hC
  have hts := hB.1.1.at args
  refine lv_aload_n hx hb (xb_d D_World_valueOf 0 rfl) rfl (lv_at hl 1 rfl) ?_
  obtain ⟨hk1, hw⟩ := hw
  refine xb_getP (C := R_StackModule) (T := F_StackModule) (N := 19) hx hb 2 0 hts fin_StackModule hown hR hk1 (by decide) rfl (by decide) rfl (hts _ m_7aa5c58a) (fun _ h9 => h9) (xb_d D_World_valueOf 1 rfl) ?_
  obtain ⟨b2, eb2, hw⟩ := hw
  refine xb_some eb2 ?_
  refine lv_iload_n hx hb (xb_d D_World_valueOf 2 rfl) rfl (lv_at hl 2 rfl) ?_
  obtain ⟨hk4, hw⟩ := hw
  obtain ⟨hi3, hw⟩ := hw
  refine xb_bald hx hb hR hk4 hi3 (xb_d D_World_valueOf 3 rfl) ?_
  refine lv_bipush (v := 35) hx hb (xb_d D_World_valueOf 4 rfl) (by decide) ?_
  refine lv_icmp_ne (tgt := 36) hx hb (xb_d D_World_valueOf 5 rfl) rfl (fun hc5 => ?_) (fun hc5 => ?_)
  · have hw := hw.1 hc5
    refine lv_aload_n hx hb (xb_d D_World_valueOf 21 rfl) rfl (lv_at hl 1 rfl) ?_
    refine lv_iload_n hx hb (xb_d D_World_valueOf 22 rfl) rfl (lv_at hl 2 rfl) ?_
    refine xb_call0 (D := D) (A := A) (σ := σ) (h := h) (d := 2) (maxL := 3) (rest := []) (av := [.ref x1, .int x2]) (fun T hT X => by obtain ⟨cb9, ra9, rb9, rc9⟩ := xb_recv (ci := 2) hR rfl hk1 (by decide); exact xt_invV X hx hown (hts _ m_72e9f633) (hts _ m_dc97d6c5) (hts _ m_351140f1) (xt_sigOf (hts _ m_7a46ed9e)) nm_StackModule_constantAt (by rw [hT]; exact ra9) rb9 rc9 (g := F0 m 38 ls [.int x2, .ref x1]) rfl (argsL := [.int x2]) (rest := []) rfl rfl (by rw [hb]; exact (xb_d D_World_valueOf 23 rfl))) (ok_StackModule_constantAt l hfl D A σ x1 x2 h _ hw) (hml.trans hl.1.symm) (by rw [hb]; exact (xb_d D_World_valueOf 23 rfl)) (Nat.le_of_ble_eq_true rfl) (Nat.le_of_ble_eq_true rfl) (Nat.le_of_ble_eq_true rfl) (show k ≤ MC by omega) (show n ≤ MS by omega) (xt_w1 hB.1 m_7a46ed9e) (xt_cdOf hB.1 m_7a46ed9e) (hts _ m_9c375545) hB hR hS hA (fun vv h6 H locs hq hEh6 hR hS => ?_)
    obtain ⟨r7, rfl, hw⟩ := hq
    have hw := hw hEh6
    have hE := hE.tr hEh6
    refine W.eq (g2 := F0 m 41 ls [.long r7]) rfl ?_
    exact xb_lret 0 0 hx hb hr hlocks (show k + 0 ≤ MC by omega) (show n + 0 ≤ MS by omega) hE hR hS (xb_d D_World_valueOf 24 rfl) hw
  · have hw := hw.2 hc5
    refine lv_aload_n hx hb (xb_d D_World_valueOf 6 rfl) rfl (lv_at hl 0 rfl) ?_
    obtain ⟨hk8, hw⟩ := hw
    refine xb_getP (C := R_World) (T := F_World) (N := 16) hx hb 6 3 hts fin_World hown hR hk8 (by decide) rfl (by decide) rfl (hts _ m_61bedde9) (fun _ h9 => h9) (xb_d D_World_valueOf 7 rfl) ?_
    obtain ⟨b9, eb9, hw⟩ := hw
    refine xb_some eb9 ?_
    obtain ⟨hk10, hw⟩ := hw
    refine xb_getP (C := R_Row) (T := F_Row) (N := 3) hx hb 1 0 hts fin_Row hown hR hk10 (by decide) rfl (by decide) rfl (hts _ m_e12aacbe) (fun _ h9 => h9) (xb_d D_World_valueOf 8 rfl) ?_
    obtain ⟨b11, eb11, hw⟩ := hw
    refine xb_some eb11 ?_
    refine lv_aload_n hx hb (xb_d D_World_valueOf 9 rfl) rfl (lv_at hl 0 rfl) ?_
    refine xb_getP (C := R_World) (T := F_World) (N := 16) hx hb 6 13 hts fin_World hown hR hk8 (by decide) rfl (by decide) rfl (hts _ m_808dc970) (fun _ h9 => h9) (xb_d D_World_valueOf 10 rfl) ?_
    obtain ⟨b12, eb12, hw⟩ := hw
    refine xb_some eb12 ?_
    refine lv_aload_n hx hb (xb_d D_World_valueOf 11 rfl) rfl (lv_at hl 1 rfl) ?_
    refine xb_getP (C := R_StackModule) (T := F_StackModule) (N := 19) hx hb 2 1 hts fin_StackModule hown hR hk1 (by decide) rfl (by decide) rfl (hts _ m_50e2d678) (fun _ h9 => h9) (xb_d D_World_valueOf 12 rfl) ?_
    obtain ⟨b13, eb13, hw⟩ := hw
    refine xb_some eb13 ?_
    refine lv_iload_n hx hb (xb_d D_World_valueOf 13 rfl) rfl (lv_at hl 2 rfl) ?_
    refine lv_iconst (v := 1) hx hb (xb_d D_World_valueOf 14 rfl) (by decide) ?_
    refine lv_iadd hx hb (xb_d D_World_valueOf 15 rfl) ?_
    obtain ⟨hk15, hw⟩ := hw
    obtain ⟨hi14, hw⟩ := hw
    refine xb_iald hx hb hR hk15 hi14 (xb_d D_World_valueOf 16 rfl) ?_
    refine lv_iconst (v := 0) hx hb (xb_d D_World_valueOf 17 rfl) (by decide) ?_
    obtain ⟨hk16, hw⟩ := hw
    refine xb_call0 (D := D) (A := A) (σ := σ) (h := h) (d := 2) (maxL := 3) (rest := [.ref b11]) (av := [.ref b12, .int (xb_i h b13 (Int32.toNatClampNeg (x2 + 1))), .int 0]) (fun T hT X => by obtain ⟨cb9, ra9, rb9, rc9⟩ := xb_recv (ci := 1) hR rfl hk16 (by decide); exact xt_invV X hx hown (hts _ m_ad29ee25) (hts _ m_8e233096) (hts _ m_27eed10c) (xt_sigOf (hts _ m_ff1c70ae)) nm_Row_at (by rw [hT]; exact ra9) rb9 rc9 (g := F0 m 31 ls [.int 0, .int (xb_i h b13 (Int32.toNatClampNeg (x2 + 1))), .ref b12, .ref b11]) rfl (argsL := [.int (xb_i h b13 (Int32.toNatClampNeg (x2 + 1))), .int 0]) (rest := [.ref b11]) rfl rfl (by rw [hb]; exact (xb_d D_World_valueOf 18 rfl))) (ok_Row_at l hfl D A σ b12 (xb_i h b13 (Int32.toNatClampNeg (x2 + 1))) 0 h _ hw) (hml.trans hl.1.symm) (by rw [hb]; exact (xb_d D_World_valueOf 18 rfl)) (Nat.le_of_ble_eq_true rfl) (Nat.le_of_ble_eq_true rfl) (Nat.le_of_ble_eq_true rfl) (show k ≤ MC by omega) (show n ≤ MS by omega) (xt_w1 hB.1 m_ff1c70ae) (xt_cdOf hB.1 m_ff1c70ae) (hts _ m_c1bef504) hB hR hS hA (fun vv h17 H locs hq hEh17 hR hS => ?_)
    obtain ⟨r18, rfl, hw⟩ := hq
    have hw := hw hEh17
    have hE := hE.tr hEh17
    refine W.eq (g2 := F0 m 34 ls [.int r18, .ref b11]) rfl ?_
    obtain ⟨hk20, hw⟩ := hw
    obtain ⟨hi19, hw⟩ := hw
    refine xb_lald hx hb hR hk20 hi19 (xb_d D_World_valueOf 19 rfl) ?_
    exact xb_lret 0 0 hx hb hr hlocks (show k + 0 ≤ MC by omega) (show n + 0 ≤ MS by omega) hE hR hS (xb_d D_World_valueOf 20 rfl) hw

theorem m_72ab532e : (.methodLink "StackHostLaw" 15 y_H_end : Cond) ∈ xt_tbl := xt_in (xt_t3 (List.mem_of_getElem? (i := 7) (by decide +kernel))) (by decide +kernel)
theorem m_ca508916 : (.instanceMethod y_H_end : Cond) ∈ xt_tbl := xt_in (xt_t3 (List.mem_of_getElem? (i := 8) (by decide +kernel))) (by decide +kernel)
theorem m_a7242f4f : (.selects "StackHost" y_H_end y_H_end : Cond) ∈ xt_tbl := xt_in (xt_t3 (List.mem_of_getElem? (i := 9) (by decide +kernel))) (by decide +kernel)
theorem m_d2420a72 : (.code y_H_end b_H_end 2 none : Cond) ∈ xt_tbl := xt_in (xt_t3 (List.mem_of_getElem? (i := 10) (by decide +kernel))) (by decide +kernel)
theorem m_3beed69a : (.classLink "StackHostLaw" 19 "java/lang/IllegalArgumentException" : Cond) ∈ xt_tbl := xt_in (xt_t3 (List.mem_of_getElem? (i := 6) (by decide +kernel))) (by decide +kernel)
theorem m_b3980edb : (.castable "java/lang/IllegalArgumentException" "java/lang/IllegalArgumentException" : Cond) ∈ xt_tbl := xt_in (xt_t3 (List.mem_of_getElem? (i := 13) (by decide +kernel))) (by decide +kernel)
theorem nm_H_end : xt_nm y_H_end 1 := ⟨by decide +kernel, by decide +kernel⟩
set_option maxRecDepth 100000 in
def T_Law_end : List (Nat × Instr × Nat) := [(0, .aload_n 0, 1), (1, .iload_n 1, 1), (2, .invokevirtual 15, 3), (5, .goto 6, 3), (8, .astore_n 2, 1), (9, .iconst 1, 1), (10, .ireturn, 1), (11, .iconst 0, 1), (12, .ireturn, 1)]
theorem D_Law_end : ∀ q ∈ T_Law_end, decode b_Law_end q.1 = .ok (q.2.1, q.2.2) := by decide +kernel

set_option maxHeartbeats 4000000 in
set_option maxRecDepth 100000 in
theorem ok_Law_end (l : Launch) (hfl : l.flags = pinnedFlags ++ [noTraceFlag]) (D : va_G) (A : Nat → Prop) (σ : Nat) (x0 : Nat) (x1 : Int32) (h : xb_H) (bc : Nat) (bs : Nat) (Qr : Int32 → xb_H → Nat → Nat → Prop) (hw : w_Law_end x0 x1 h bc bs Qr) : xb_Met l y_Law_end [.codeWith y_Law_end b_Law_end 3 (some .int) [(0, 5, 8, 19)]] (xb_rm 3 bc bs) (xb_Pc D A σ h [.ref x0, .int x1]) (xb_Qc D A h bc bs (fun v h bc bs => ∃ r, v = some (.int r) ∧ Qr r h bc bs) (fun _ _ _ _ => False)) A := by
  refine xb_ofAmH (cc := b_Law_end) (by decide) (Nat.le_of_ble_eq_true rfl) ?_
  unfold w_Law_end at hw
  show xb_am l D A σ 3 bc bs h (fun v h bc bs => ∃ r, v = some (.int r) ∧ Qr r h bc bs) (fun _ _ _ _ => False) y_Law_end.cls y_Law_end.name b_Law_end 3 (tableOf [(0, 5, 8, 19)]) (some .int) 0 [(0, .ref x0), (1, .int x1)] [] h bc bs
  obtain ⟨MC, hMC⟩ : ∃ x, x = bc := ⟨_, rfl⟩
  obtain ⟨MS, hMS⟩ : ∃ x, x = bs := ⟨_, rfl⟩
  rw [show xb_am l D A σ 3 bc bs = xb_am l D A σ 3 MC MS by rw [hMC, hMS]]
  obtain ⟨h0, hh0⟩ : ∃ x, x = h := ⟨_, rfl⟩
  rw [show xb_am l D A σ 3 MC MS h = xb_am l D A σ 3 MC MS h0 by rw [hh0]]
  intro p e s m args below meth c hC H locs ls k n hE hl hR hS hk hn
  obtain ⟨hx, hb, hown, hlocks, htab, hml, hr, hB, hA, hnm⟩ := id hC
  have hts := hB.1.1.at args
  refine lv_aload_n hx hb (xb_d D_Law_end 0 rfl) rfl (lv_at hl 0 rfl) ?_
  refine lv_iload_n hx hb (xb_d D_Law_end 1 rfl) rfl (lv_at hl 1 rfl) ?_
  obtain ⟨hk1, hw⟩ := hw
  refine xb_call (D := D) (A := A) (σ := σ) (h := h) (d := 2) (mc := bc) (ms := bs) (maxL := 2) (rest := []) (av := [.ref x0, .int x1]) (fun T hT X => by obtain ⟨cb9, ra9, rb9, rc9⟩ := xb_recv (ci := 0) hR rfl hk1 (by decide); exact xt_invV X hx hown (hts _ m_72ab532e) (hts _ m_ca508916) (hts _ m_a7242f4f) (xt_sigOf (hts _ m_d2420a72)) nm_H_end (by rw [hT]; exact ra9) rb9 rc9 (g := F0 m 2 ls [.int x1, .ref x0]) rfl (argsL := [.int x1]) (rest := []) rfl rfl (by rw [hb]; exact (xb_d D_Law_end 2 rfl))) (ok_H_end l hfl D A σ x0 x1 h bc bs _ _ hw) (hml.trans hl.1.symm) (by rw [hb]; exact (xb_d D_Law_end 2 rfl)) (Nat.le_of_ble_eq_true rfl) (Nat.le_of_ble_eq_true rfl) (Nat.le_of_ble_eq_true rfl) (show k + bc ≤ MC by omega) (show n + bs ≤ MS by omega) (xt_w1 hB.1 m_d2420a72) (xt_cdOf hB.1 m_d2420a72) (hts _ m_ba0734f5) hB hR hS hA (fun vv h2 bc3 bs3 kk3 nn3 H locs hk3 hn3 hq hEh2 hR hS => ?_) (fun XX ax h2 bc3 bs3 kk3 nn3 H locs hk3 hn3 hq hEh2 hex hR hS => ?_)
  · obtain ⟨rfl, hw⟩ := hq
    have hw := hw hEh2
    have hE := hE.tr hEh2
    refine W.eq (g2 := F0 m 5 ls []) rfl ?_
    refine lv_goto (tgt := 11) hx hb (xb_d D_Law_end 3 rfl) rfl ?_
    refine lv_iconst (v := 0) hx hb (xb_d D_Law_end 7 rfl) (by decide) ?_
    exact xb_iret bc3 bs3 hx hb hr hlocks (show (k + kk3) + bc3 ≤ MC by omega) (show (n + nn3) + bs3 ≤ MS by omega) hE hR hS (xb_d D_Law_end 8 rfl) hw
  · have hw := hq hEh2 ax
    have hE := hE.tr hEh2
    obtain ⟨rfl, hw⟩ := hw
    refine xt_catch (own := "StackHostLaw") (name := "java/lang/IllegalArgumentException") (Xn := "java/lang/IllegalArgumentException") hown ⟨0, 5, 8, 19⟩ [] htab (by decide) (by decide) (hts _ m_3beed69a) (hts _ m_b3980edb) hex ?_
    refine W.eq (g2 := F0 m 8 ls [.ref ax]) rfl ?_
    refine lv_astore_n hx hb (xb_d D_Law_end 4 rfl) rfl hl (by decide) rfl (fun ls hl => ?_)
    have hl : lv_has ls 3 [(2, .ref ax), (0, .ref x0), (1, .int x1)] := hl
    refine lv_iconst (v := 1) hx hb (xb_d D_Law_end 5 rfl) (by decide) ?_
    exact xb_iret bc3 bs3 hx hb hr hlocks (show (k + kk3) + bc3 ≤ MC by omega) (show (n + nn3) + bs3 ≤ MS by omega) hE hR hS (xb_d D_Law_end 6 rfl) hw

theorem m_738a85eb : (.methodLink "StackHostLaw" 25 y_H_fault : Cond) ∈ xt_tbl := xt_in (xt_t6 (List.mem_of_getElem? (i := 60) (by decide +kernel))) (by decide +kernel)
theorem m_f43b4a5f : (.instanceMethod y_H_fault : Cond) ∈ xt_tbl := xt_in (xt_t6 (List.mem_of_getElem? (i := 61) (by decide +kernel))) (by decide +kernel)
theorem m_f971e4f9 : (.selects "StackHost" y_H_fault y_H_fault : Cond) ∈ xt_tbl := xt_in (xt_t6 (List.mem_of_getElem? (i := 62) (by decide +kernel))) (by decide +kernel)
theorem m_f9b47110 : (.code y_H_fault b_H_fault 2 (some .int) : Cond) ∈ xt_tbl := xt_in (xt_t6 (List.mem_of_getElem? (i := 63) (by decide +kernel))) (by decide +kernel)
theorem m_17a0b3c6 : (.classLink "StackHostLaw" 29 "java/lang/IndexOutOfBoundsException" : Cond) ∈ xt_tbl := xt_in (xt_t6 (List.mem_of_getElem? (i := 59) (by decide +kernel))) (by decide +kernel)
theorem m_b0d3d118 : (.castable "java/lang/IndexOutOfBoundsException" "java/lang/IndexOutOfBoundsException" : Cond) ∈ xt_tbl := xt_in (xt_t6 (List.mem_of_getElem? (i := 66) (by decide +kernel))) (by decide +kernel)
theorem nm_H_fault : xt_nm y_H_fault 1 := ⟨by decide +kernel, by decide +kernel⟩
set_option maxRecDepth 100000 in
def T_Law_fault : List (Nat × Instr × Nat) := [(0, .aload_n 2, 1), (1, .iconst 0, 1), (2, .aload_n 0, 1), (3, .iload_n 1, 1), (4, .invokevirtual 25, 3), (7, .i2l, 1), (8, .lastore, 1), (9, .goto 6, 3), (12, .astore_n 3, 1), (13, .iconst 1, 1), (14, .ireturn, 1), (15, .iconst 0, 1), (16, .ireturn, 1)]
theorem D_Law_fault : ∀ q ∈ T_Law_fault, decode b_Law_fault q.1 = .ok (q.2.1, q.2.2) := by decide +kernel

set_option maxHeartbeats 4000000 in
set_option maxRecDepth 100000 in
theorem ok_Law_fault (l : Launch) (hfl : l.flags = pinnedFlags ++ [noTraceFlag]) (D : va_G) (A : Nat → Prop) (σ : Nat) (x0 : Nat) (x1 : Int32) (x2 : Nat) (h : xb_H) (bc : Nat) (bs : Nat) (Qr : Int32 → xb_H → Nat → Nat → Prop) (hw : w_Law_fault x0 x1 x2 h bc bs Qr) : xb_Met l y_Law_fault [.codeWith y_Law_fault b_Law_fault 4 (some .int) [(0, 9, 12, 29)]] (xb_rm 3 bc bs) (xb_Pc D A σ h [.ref x0, .int x1, .ref x2]) (xb_Qc D A h bc bs (fun v h bc bs => ∃ r, v = some (.int r) ∧ Qr r h bc bs) (fun _ _ _ _ => False)) A := by
  refine xb_ofAmH (cc := b_Law_fault) (by decide) (Nat.le_of_ble_eq_true rfl) ?_
  unfold w_Law_fault at hw
  show xb_am l D A σ 3 bc bs h (fun v h bc bs => ∃ r, v = some (.int r) ∧ Qr r h bc bs) (fun _ _ _ _ => False) y_Law_fault.cls y_Law_fault.name b_Law_fault 4 (tableOf [(0, 9, 12, 29)]) (some .int) 0 [(0, .ref x0), (1, .int x1), (2, .ref x2)] [] h bc bs
  obtain ⟨MC, hMC⟩ : ∃ x, x = bc := ⟨_, rfl⟩
  obtain ⟨MS, hMS⟩ : ∃ x, x = bs := ⟨_, rfl⟩
  rw [show xb_am l D A σ 3 bc bs = xb_am l D A σ 3 MC MS by rw [hMC, hMS]]
  obtain ⟨h0, hh0⟩ : ∃ x, x = h := ⟨_, rfl⟩
  rw [show xb_am l D A σ 3 MC MS h = xb_am l D A σ 3 MC MS h0 by rw [hh0]]
  intro p e s m args below meth c hC H locs ls k n hE hl hR hS hk hn
  obtain ⟨hx, hb, hown, hlocks, htab, hml, hr, hB, hA, hnm⟩ := id hC
  have hts := hB.1.1.at args
  refine lv_aload_n hx hb (xb_d D_Law_fault 0 rfl) rfl (lv_at hl 2 rfl) ?_
  refine lv_iconst (v := 0) hx hb (xb_d D_Law_fault 1 rfl) (by decide) ?_
  refine lv_aload_n hx hb (xb_d D_Law_fault 2 rfl) rfl (lv_at hl 0 rfl) ?_
  refine lv_iload_n hx hb (xb_d D_Law_fault 3 rfl) rfl (lv_at hl 1 rfl) ?_
  obtain ⟨hk1, hw⟩ := hw
  refine xb_call (D := D) (A := A) (σ := σ) (h := h) (d := 2) (mc := bc) (ms := bs) (maxL := 2) (rest := [.int 0, .ref x2]) (av := [.ref x0, .int x1]) (fun T hT X => by obtain ⟨cb9, ra9, rb9, rc9⟩ := xb_recv (ci := 0) hR rfl hk1 (by decide); exact xt_invV X hx hown (hts _ m_738a85eb) (hts _ m_f43b4a5f) (hts _ m_f971e4f9) (xt_sigOf (hts _ m_f9b47110)) nm_H_fault (by rw [hT]; exact ra9) rb9 rc9 (g := F0 m 4 ls [.int x1, .ref x0, .int 0, .ref x2]) rfl (argsL := [.int x1]) (rest := [.int 0, .ref x2]) rfl rfl (by rw [hb]; exact (xb_d D_Law_fault 4 rfl))) (ok_H_fault l hfl D A σ x0 x1 h bc bs _ _ hw) (hml.trans hl.1.symm) (by rw [hb]; exact (xb_d D_Law_fault 4 rfl)) (Nat.le_of_ble_eq_true rfl) (Nat.le_of_ble_eq_true rfl) (Nat.le_of_ble_eq_true rfl) (show k + bc ≤ MC by omega) (show n + bs ≤ MS by omega) (xt_w1 hB.1 m_f9b47110) (xt_cdOf hB.1 m_f9b47110) (hts _ m_ba0734f5) hB hR hS hA (fun vv h2 bc3 bs3 kk3 nn3 H locs hk3 hn3 hq hEh2 hR hS => ?_) (fun XX ax h2 bc3 bs3 kk3 nn3 H locs hk3 hn3 hq hEh2 hex hR hS => ?_)
  · obtain ⟨r3, rfl, hw⟩ := hq
    have hw := hw hEh2
    have hE := hE.tr hEh2
    refine W.eq (g2 := F0 m 7 ls [.int r3, .int 0, .ref x2]) rfl ?_
    refine lv_i2l hx hb (xb_d D_Law_fault 5 rfl) rfl ?_
    obtain ⟨hk4, hw⟩ := hw
    obtain ⟨hi5, hw⟩ := hw
    refine xb_last hx hb hR hS hk4 hi5 (xb_d D_Law_fault 6 rfl) (fun H locs hR hS => ?_)
    obtain ⟨h6, eh6⟩ : ∃ x : xb_H, x = xb_L h2 x2 (Int32.toNatClampNeg 0) (Int32.toInt64 r3) := ⟨_, rfl⟩
    rw [← eh6] at hR
    have hw := hw h6 eh6
    have hE : xb_ext h0 h6 := by rw [eh6]; exact hE
    refine lv_goto (tgt := 15) hx hb (xb_d D_Law_fault 7 rfl) rfl ?_
    refine lv_iconst (v := 0) hx hb (xb_d D_Law_fault 11 rfl) (by decide) ?_
    exact xb_iret bc3 bs3 hx hb hr hlocks (show (k + kk3) + bc3 ≤ MC by omega) (show (n + nn3) + bs3 ≤ MS by omega) hE hR hS (xb_d D_Law_fault 12 rfl) hw
  · have hw := hq hEh2 ax
    have hE := hE.tr hEh2
    obtain ⟨rfl, hw⟩ := hw
    refine xt_catch (own := "StackHostLaw") (name := "java/lang/IndexOutOfBoundsException") (Xn := "java/lang/IndexOutOfBoundsException") hown ⟨0, 9, 12, 29⟩ [] htab (by decide) (by decide) (hts _ m_17a0b3c6) (hts _ m_b0d3d118) hex ?_
    refine W.eq (g2 := F0 m 12 ls [.ref ax]) rfl ?_
    refine lv_astore_n hx hb (xb_d D_Law_fault 8 rfl) rfl hl (by decide) rfl (fun ls hl => ?_)
    have hl : lv_has ls 4 [(3, .ref ax), (0, .ref x0), (1, .int x1), (2, .ref x2)] := hl
    refine lv_iconst (v := 1) hx hb (xb_d D_Law_fault 9 rfl) (by decide) ?_
    exact xb_iret bc3 bs3 hx hb hr hlocks (show (k + kk3) + bc3 ≤ MC by omega) (show (n + nn3) + bs3 ≤ MS by omega) hE hR hS (xb_d D_Law_fault 10 rfl) hw

theorem m_42d7cc7d : (.methodLink "StackHostLaw" 82 y_H_out : Cond) ∈ xt_tbl := xt_in (xt_t9 (List.mem_of_getElem? (i := 83) (by decide +kernel))) (by decide +kernel)
theorem m_688360bf : (.instanceMethod y_H_out : Cond) ∈ xt_tbl := xt_in (xt_t9 (List.mem_of_getElem? (i := 84) (by decide +kernel))) (by decide +kernel)
theorem m_992ab59d : (.selects "StackHost" y_H_out y_H_out : Cond) ∈ xt_tbl := xt_in (xt_t9 (List.mem_of_getElem? (i := 85) (by decide +kernel))) (by decide +kernel)
theorem m_0151fcf5 : (.code y_H_out b_H_out 2 (some .long) : Cond) ∈ xt_tbl := xt_in (xt_t9 (List.mem_of_getElem? (i := 86) (by decide +kernel))) (by decide +kernel)
theorem nm_H_out : xt_nm y_H_out 1 := ⟨by decide +kernel, by decide +kernel⟩
set_option maxRecDepth 100000 in
def T_Law_out : List (Nat × Instr × Nat) := [(0, .aload_n 2, 1), (1, .iconst 0, 1), (2, .aload_n 0, 1), (3, .iload_n 1, 1), (4, .invokevirtual 82, 3), (7, .lastore, 1), (8, .goto 6, 3), (11, .astore_n 3, 1), (12, .iconst 1, 1), (13, .ireturn, 1), (14, .iconst 0, 1), (15, .ireturn, 1)]
theorem D_Law_out : ∀ q ∈ T_Law_out, decode b_Law_out q.1 = .ok (q.2.1, q.2.2) := by decide +kernel

set_option maxHeartbeats 4000000 in
set_option maxRecDepth 100000 in
theorem ok_Law_out (l : Launch) (hfl : l.flags = pinnedFlags ++ [noTraceFlag]) (D : va_G) (A : Nat → Prop) (σ : Nat) (x0 : Nat) (x1 : Int32) (x2 : Nat) (h : xb_H) (bc : Nat) (bs : Nat) (Qr : Int32 → xb_H → Nat → Nat → Prop) (hw : w_Law_out x0 x1 x2 h bc bs Qr) : xb_Met l y_Law_out [.codeWith y_Law_out b_Law_out 4 (some .int) [(0, 8, 11, 29)]] (xb_rm 3 bc bs) (xb_Pc D A σ h [.ref x0, .int x1, .ref x2]) (xb_Qc D A h bc bs (fun v h bc bs => ∃ r, v = some (.int r) ∧ Qr r h bc bs) (fun _ _ _ _ => False)) A := by
  refine xb_ofAmH (cc := b_Law_out) (by decide) (Nat.le_of_ble_eq_true rfl) ?_
  unfold w_Law_out at hw
  show xb_am l D A σ 3 bc bs h (fun v h bc bs => ∃ r, v = some (.int r) ∧ Qr r h bc bs) (fun _ _ _ _ => False) y_Law_out.cls y_Law_out.name b_Law_out 4 (tableOf [(0, 8, 11, 29)]) (some .int) 0 [(0, .ref x0), (1, .int x1), (2, .ref x2)] [] h bc bs
  obtain ⟨MC, hMC⟩ : ∃ x, x = bc := ⟨_, rfl⟩
  obtain ⟨MS, hMS⟩ : ∃ x, x = bs := ⟨_, rfl⟩
  rw [show xb_am l D A σ 3 bc bs = xb_am l D A σ 3 MC MS by rw [hMC, hMS]]
  obtain ⟨h0, hh0⟩ : ∃ x, x = h := ⟨_, rfl⟩
  rw [show xb_am l D A σ 3 MC MS h = xb_am l D A σ 3 MC MS h0 by rw [hh0]]
  intro p e s m args below meth c hC H locs ls k n hE hl hR hS hk hn
  obtain ⟨hx, hb, hown, hlocks, htab, hml, hr, hB, hA, hnm⟩ := id hC
  have hts := hB.1.1.at args
  refine lv_aload_n hx hb (xb_d D_Law_out 0 rfl) rfl (lv_at hl 2 rfl) ?_
  refine lv_iconst (v := 0) hx hb (xb_d D_Law_out 1 rfl) (by decide) ?_
  refine lv_aload_n hx hb (xb_d D_Law_out 2 rfl) rfl (lv_at hl 0 rfl) ?_
  refine lv_iload_n hx hb (xb_d D_Law_out 3 rfl) rfl (lv_at hl 1 rfl) ?_
  obtain ⟨hk1, hw⟩ := hw
  refine xb_call (D := D) (A := A) (σ := σ) (h := h) (d := 2) (mc := bc) (ms := bs) (maxL := 2) (rest := [.int 0, .ref x2]) (av := [.ref x0, .int x1]) (fun T hT X => by obtain ⟨cb9, ra9, rb9, rc9⟩ := xb_recv (ci := 0) hR rfl hk1 (by decide); exact xt_invV X hx hown (hts _ m_42d7cc7d) (hts _ m_688360bf) (hts _ m_992ab59d) (xt_sigOf (hts _ m_0151fcf5)) nm_H_out (by rw [hT]; exact ra9) rb9 rc9 (g := F0 m 4 ls [.int x1, .ref x0, .int 0, .ref x2]) rfl (argsL := [.int x1]) (rest := [.int 0, .ref x2]) rfl rfl (by rw [hb]; exact (xb_d D_Law_out 4 rfl))) (ok_H_out l hfl D A σ x0 x1 h bc bs _ _ hw) (hml.trans hl.1.symm) (by rw [hb]; exact (xb_d D_Law_out 4 rfl)) (Nat.le_of_ble_eq_true rfl) (Nat.le_of_ble_eq_true rfl) (Nat.le_of_ble_eq_true rfl) (show k + bc ≤ MC by omega) (show n + bs ≤ MS by omega) (xt_w1 hB.1 m_0151fcf5) (xt_cdOf hB.1 m_0151fcf5) (hts _ m_ba0734f5) hB hR hS hA (fun vv h2 bc3 bs3 kk3 nn3 H locs hk3 hn3 hq hEh2 hR hS => ?_) (fun XX ax h2 bc3 bs3 kk3 nn3 H locs hk3 hn3 hq hEh2 hex hR hS => ?_)
  · obtain ⟨r3, rfl, hw⟩ := hq
    have hw := hw hEh2
    have hE := hE.tr hEh2
    refine W.eq (g2 := F0 m 7 ls [.long r3, .int 0, .ref x2]) rfl ?_
    obtain ⟨hk4, hw⟩ := hw
    obtain ⟨hi5, hw⟩ := hw
    refine xb_last hx hb hR hS hk4 hi5 (xb_d D_Law_out 5 rfl) (fun H locs hR hS => ?_)
    obtain ⟨h6, eh6⟩ : ∃ x : xb_H, x = xb_L h2 x2 (Int32.toNatClampNeg 0) r3 := ⟨_, rfl⟩
    rw [← eh6] at hR
    have hw := hw h6 eh6
    have hE : xb_ext h0 h6 := by rw [eh6]; exact hE
    refine lv_goto (tgt := 14) hx hb (xb_d D_Law_out 6 rfl) rfl ?_
    refine lv_iconst (v := 0) hx hb (xb_d D_Law_out 10 rfl) (by decide) ?_
    exact xb_iret bc3 bs3 hx hb hr hlocks (show (k + kk3) + bc3 ≤ MC by omega) (show (n + nn3) + bs3 ≤ MS by omega) hE hR hS (xb_d D_Law_out 11 rfl) hw
  · have hw := hq hEh2 ax
    have hE := hE.tr hEh2
    obtain ⟨rfl, hw⟩ := hw
    refine xt_catch (own := "StackHostLaw") (name := "java/lang/IndexOutOfBoundsException") (Xn := "java/lang/IndexOutOfBoundsException") hown ⟨0, 8, 11, 29⟩ [] htab (by decide) (by decide) (hts _ m_17a0b3c6) (hts _ m_b0d3d118) hex ?_
    refine W.eq (g2 := F0 m 11 ls [.ref ax]) rfl ?_
    refine lv_astore_n hx hb (xb_d D_Law_out 7 rfl) rfl hl (by decide) rfl (fun ls hl => ?_)
    have hl : lv_has ls 4 [(3, .ref ax), (0, .ref x0), (1, .int x1), (2, .ref x2)] := hl
    refine lv_iconst (v := 1) hx hb (xb_d D_Law_out 8 rfl) (by decide) ?_
    exact xb_iret bc3 bs3 hx hb hr hlocks (show (k + kk3) + bc3 ≤ MC by omega) (show (n + nn3) + bs3 ≤ MS by omega) hE hR hS (xb_d D_Law_out 9 rfl) hw

theorem m_c91e45e3 : (.methodLink "StackHostLaw" 62 y_H_trap : Cond) ∈ xt_tbl := xt_in (xt_t9 (List.mem_of_getElem? (i := 26) (by decide +kernel))) (by decide +kernel)
theorem m_59e9042a : (.instanceMethod y_H_trap : Cond) ∈ xt_tbl := xt_in (xt_t9 (List.mem_of_getElem? (i := 27) (by decide +kernel))) (by decide +kernel)
theorem m_07731f9f : (.selects "StackHost" y_H_trap y_H_trap : Cond) ∈ xt_tbl := xt_in (xt_t9 (List.mem_of_getElem? (i := 28) (by decide +kernel))) (by decide +kernel)
theorem m_c02db3ff : (.code y_H_trap b_H_trap 2 (some .int) : Cond) ∈ xt_tbl := xt_in (xt_t9 (List.mem_of_getElem? (i := 29) (by decide +kernel))) (by decide +kernel)
theorem nm_H_trap : xt_nm y_H_trap 1 := ⟨by decide +kernel, by decide +kernel⟩
set_option maxRecDepth 100000 in
def T_Law_trap : List (Nat × Instr × Nat) := [(0, .aload_n 2, 1), (1, .iconst 0, 1), (2, .aload_n 0, 1), (3, .iload_n 1, 1), (4, .invokevirtual 62, 3), (7, .i2l, 1), (8, .lastore, 1), (9, .goto 6, 3), (12, .astore_n 3, 1), (13, .iconst 1, 1), (14, .ireturn, 1), (15, .iconst 0, 1), (16, .ireturn, 1)]
theorem D_Law_trap : ∀ q ∈ T_Law_trap, decode b_Law_trap q.1 = .ok (q.2.1, q.2.2) := by decide +kernel

set_option maxHeartbeats 4000000 in
set_option maxRecDepth 100000 in
theorem ok_Law_trap (l : Launch) (hfl : l.flags = pinnedFlags ++ [noTraceFlag]) (D : va_G) (A : Nat → Prop) (σ : Nat) (x0 : Nat) (x1 : Int32) (x2 : Nat) (h : xb_H) (bc : Nat) (bs : Nat) (Qr : Int32 → xb_H → Nat → Nat → Prop) (hw : w_Law_trap x0 x1 x2 h bc bs Qr) : xb_Met l y_Law_trap [.codeWith y_Law_trap b_Law_trap 4 (some .int) [(0, 9, 12, 29)]] (xb_rm 3 bc bs) (xb_Pc D A σ h [.ref x0, .int x1, .ref x2]) (xb_Qc D A h bc bs (fun v h bc bs => ∃ r, v = some (.int r) ∧ Qr r h bc bs) (fun _ _ _ _ => False)) A := by
  refine xb_ofAmH (cc := b_Law_trap) (by decide) (Nat.le_of_ble_eq_true rfl) ?_
  unfold w_Law_trap at hw
  show xb_am l D A σ 3 bc bs h (fun v h bc bs => ∃ r, v = some (.int r) ∧ Qr r h bc bs) (fun _ _ _ _ => False) y_Law_trap.cls y_Law_trap.name b_Law_trap 4 (tableOf [(0, 9, 12, 29)]) (some .int) 0 [(0, .ref x0), (1, .int x1), (2, .ref x2)] [] h bc bs
  obtain ⟨MC, hMC⟩ : ∃ x, x = bc := ⟨_, rfl⟩
  obtain ⟨MS, hMS⟩ : ∃ x, x = bs := ⟨_, rfl⟩
  rw [show xb_am l D A σ 3 bc bs = xb_am l D A σ 3 MC MS by rw [hMC, hMS]]
  obtain ⟨h0, hh0⟩ : ∃ x, x = h := ⟨_, rfl⟩
  rw [show xb_am l D A σ 3 MC MS h = xb_am l D A σ 3 MC MS h0 by rw [hh0]]
  intro p e s m args below meth c hC H locs ls k n hE hl hR hS hk hn
  obtain ⟨hx, hb, hown, hlocks, htab, hml, hr, hB, hA, hnm⟩ := id hC
  have hts := hB.1.1.at args
  refine lv_aload_n hx hb (xb_d D_Law_trap 0 rfl) rfl (lv_at hl 2 rfl) ?_
  refine lv_iconst (v := 0) hx hb (xb_d D_Law_trap 1 rfl) (by decide) ?_
  refine lv_aload_n hx hb (xb_d D_Law_trap 2 rfl) rfl (lv_at hl 0 rfl) ?_
  refine lv_iload_n hx hb (xb_d D_Law_trap 3 rfl) rfl (lv_at hl 1 rfl) ?_
  obtain ⟨hk1, hw⟩ := hw
  refine xb_call (D := D) (A := A) (σ := σ) (h := h) (d := 2) (mc := bc) (ms := bs) (maxL := 2) (rest := [.int 0, .ref x2]) (av := [.ref x0, .int x1]) (fun T hT X => by obtain ⟨cb9, ra9, rb9, rc9⟩ := xb_recv (ci := 0) hR rfl hk1 (by decide); exact xt_invV X hx hown (hts _ m_c91e45e3) (hts _ m_59e9042a) (hts _ m_07731f9f) (xt_sigOf (hts _ m_c02db3ff)) nm_H_trap (by rw [hT]; exact ra9) rb9 rc9 (g := F0 m 4 ls [.int x1, .ref x0, .int 0, .ref x2]) rfl (argsL := [.int x1]) (rest := [.int 0, .ref x2]) rfl rfl (by rw [hb]; exact (xb_d D_Law_trap 4 rfl))) (ok_H_trap l hfl D A σ x0 x1 h bc bs _ _ hw) (hml.trans hl.1.symm) (by rw [hb]; exact (xb_d D_Law_trap 4 rfl)) (Nat.le_of_ble_eq_true rfl) (Nat.le_of_ble_eq_true rfl) (Nat.le_of_ble_eq_true rfl) (show k + bc ≤ MC by omega) (show n + bs ≤ MS by omega) (xt_w1 hB.1 m_c02db3ff) (xt_cdOf hB.1 m_c02db3ff) (hts _ m_ba0734f5) hB hR hS hA (fun vv h2 bc3 bs3 kk3 nn3 H locs hk3 hn3 hq hEh2 hR hS => ?_) (fun XX ax h2 bc3 bs3 kk3 nn3 H locs hk3 hn3 hq hEh2 hex hR hS => ?_)
  · obtain ⟨r3, rfl, hw⟩ := hq
    have hw := hw hEh2
    have hE := hE.tr hEh2
    refine W.eq (g2 := F0 m 7 ls [.int r3, .int 0, .ref x2]) rfl ?_
    refine lv_i2l hx hb (xb_d D_Law_trap 5 rfl) rfl ?_
    obtain ⟨hk4, hw⟩ := hw
    obtain ⟨hi5, hw⟩ := hw
    refine xb_last hx hb hR hS hk4 hi5 (xb_d D_Law_trap 6 rfl) (fun H locs hR hS => ?_)
    obtain ⟨h6, eh6⟩ : ∃ x : xb_H, x = xb_L h2 x2 (Int32.toNatClampNeg 0) (Int32.toInt64 r3) := ⟨_, rfl⟩
    rw [← eh6] at hR
    have hw := hw h6 eh6
    have hE : xb_ext h0 h6 := by rw [eh6]; exact hE
    refine lv_goto (tgt := 15) hx hb (xb_d D_Law_trap 7 rfl) rfl ?_
    refine lv_iconst (v := 0) hx hb (xb_d D_Law_trap 11 rfl) (by decide) ?_
    exact xb_iret bc3 bs3 hx hb hr hlocks (show (k + kk3) + bc3 ≤ MC by omega) (show (n + nn3) + bs3 ≤ MS by omega) hE hR hS (xb_d D_Law_trap 12 rfl) hw
  · have hw := hq hEh2 ax
    have hE := hE.tr hEh2
    obtain ⟨rfl, hw⟩ := hw
    refine xt_catch (own := "StackHostLaw") (name := "java/lang/IndexOutOfBoundsException") (Xn := "java/lang/IndexOutOfBoundsException") hown ⟨0, 9, 12, 29⟩ [] htab (by decide) (by decide) (hts _ m_17a0b3c6) (hts _ m_b0d3d118) hex ?_
    refine W.eq (g2 := F0 m 12 ls [.ref ax]) rfl ?_
    refine lv_astore_n hx hb (xb_d D_Law_trap 8 rfl) rfl hl (by decide) rfl (fun ls hl => ?_)
    have hl : lv_has ls 4 [(3, .ref ax), (0, .ref x0), (1, .int x1), (2, .ref x2)] := hl
    refine lv_iconst (v := 1) hx hb (xb_d D_Law_trap 9 rfl) (by decide) ?_
    exact xb_iret bc3 bs3 hx hb hr hlocks (show (k + kk3) + bc3 ≤ MC by omega) (show (n + nn3) + bs3 ≤ MS by omega) hE hR hS (xb_d D_Law_trap 10 rfl) hw

